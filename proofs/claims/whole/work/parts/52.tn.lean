/-! the class: going around, the clock, what is done -/
section
variable {l : Launch} {G : GT}
set_option maxHeartbeats 800000 in
theorem k_turn {d : Nat} {H : AH} {b f : Int} {M : Row} (hX : SX H b M) (hf : fl M f) (h9 : 0 ≤ ofM M f 9 ∧ ofM M f 9 ≤ 1000000000) :
    CL l G mX6_turn d 0 0 [vR b, vI f] H (fun v H' => v = vV ∧ only H H' (pSu b) ∧ SX H' b (arM M f)) := by
  obtain ⟨hS, hT, hF⟩ := id hX
  have hM := hS.2.1
  have h5 := okM_5 hM
  have hn := okM_n hM
  have h0 := hM.1.1
  have h3 := hM.1.2.2.2.1
  obtain ⟨-, -, -, -, -, -, h6, -⟩ := hM.2 f hf.1 hf.2
  obtain ⟨c0, c1, c2, c3, c4, c5, c6, c7, c9⟩ := hS.2.2.2.2.2.2.1 f hf
  have tail : ∀ H2, only H H2 (fun c i => (c = b + 10 ∨ c = b + 11 ∨ c = b + 12) ∧ i = f) → hg H2 (b + 10) f = M 0 + M 3 → hg H2 (b + 11) f = max (ofM M f 3) (M 0 + M 3) → hg H2 (b + 12) f = max (ofM M f 4) (max (ofM M f 3) (M 0 + M 3)) →
      ∀ H3, H3 = hs H2 (b + 15) f 0 → (-2147483648 ≤ hg H3 (b + 17) f + 1 ∧ hg H3 (b + 17) f + 1 ≤ 2147483647) ∧ ∀ H4, H4 = hs H3 (b + 17) f (hg H3 (b + 17) f + 1) → (0 ≤ hg H4 (b + 14) f ∧ hg H4 (b + 14) f < 3) ∧ ∀ H5, H5 = hs H4 (b + 21) (hg H4 (b + 14) f) 0 → (fun v H' => v = vV ∧ only H H' (pSu b) ∧ SX H' b (arM M f)) vV H5 := by
    intro H2 o2 v10 v11 v12 H3 e3
    have g17 : hg H3 (b + 17) f = ofM M f 9 := by rw [e3, hg_ne _ (by omega), o2.2.2 _ _ (by omega)]; exact c9
    refine ⟨by rw [g17]; omega, fun H4 e4 => ?_⟩
    have g14 : hg H4 (b + 14) f = ofM M f 6 := by rw [e4, hg_ne _ (by omega), e3, hg_ne _ (by omega), o2.2.2 _ _ (by omega)]; exact c6
    refine ⟨by rw [g14]; omega, fun H5 e5 => ?_⟩
    rw [g14] at e5
    rw [g17] at e4
    have oo : only H H5 (pSu b) := by
      rw [e5, e4, e3]
      exact (((o2.mono fun c i h => pSu_hi (by omega)).then (pSu_hi (by omega))).then (pSu_hi (by omega))).then (pSu_hi (by omega))
    have ev : ∀ c i, ¬ ((c = b + 10 ∨ c = b + 11 ∨ c = b + 12 ∨ c = b + 15 ∨ c = b + 17) ∧ i = f) → ¬ (c = b + 21 ∧ i = ofM M f 6) → hg H5 c i = hg H c i := fun c i q1 q2 => by
      rw [e5, hg_ne _ (by omega), e4, hg_ne _ (by omega), e3, hg_ne _ (by omega), o2.2.2 _ _ (by omega)]
    have w10 : hg H5 (b + 10) f = M 0 + M 3 := by rw [e5, hg_ne _ (by omega), e4, hg_ne _ (by omega), e3, hg_ne _ (by omega)]; exact v10
    have w11 : hg H5 (b + 11) f = max (ofM M f 3) (M 0 + M 3) := by rw [e5, hg_ne _ (by omega), e4, hg_ne _ (by omega), e3, hg_ne _ (by omega)]; exact v11
    have w12 : hg H5 (b + 12) f = max (ofM M f 4) (max (ofM M f 3) (M 0 + M 3)) := by rw [e5, hg_ne _ (by omega), e4, hg_ne _ (by omega), e3, hg_ne _ (by omega)]; exact v12
    have w15 : hg H5 (b + 15) f = 0 := by rw [e5, hg_ne _ (by omega), e4, hg_ne _ (by omega), e3, hg_same]
    have w17 : hg H5 (b + 17) f = ofM M f 9 + 1 := by rw [e5, hg_ne _ (by omega), e4, hg_same]
    have lo : ∀ k, 0 ≤ k → k < 56 → arM M f k = M k := fun k _ q => arM_lo hf.1 q
    have ne : ∀ g w, 0 ≤ w → w < 16 → (g ≠ f ∨ (w ≠ 2 ∧ w ≠ 3 ∧ w ≠ 4 ∧ w ≠ 7 ∧ w ≠ 9)) → ofM (arM M f) g w = ofM M g w := fun g w w1 w2 q => arM_ne ⟨w1, w2⟩ q
    refine ⟨rfl, oo, ⟨hS.1.only ok_Sta oo (fun c i q => pSt_nrf hS.1 c i q.1), okM_ar hM hf, ?_⟩, ⟨fun i i1 i2 => ?_, fun g hg0 h7 => ?_⟩, ?_⟩
    · refine SS_one (f := f) hS.2.2 (fun o i o1 o2 o3 o4 o5 o6 => ev _ _ (by omega) (by omega)) lo (fun g w _ q1 q2 q3 => ne g w q2 (by omega) (Or.inl q1)) ?_ (okM_7 hM).2
      rw [ne f 0 (by omega) (by omega) (by omega), ne f 1 (by omega) (by omega) (by omega), arM_2, arM_3, arM_4, ne f 5 (by omega) (by omega) (by omega), ne f 6 (by omega) (by omega) (by omega), arM_7, arM_9,
        ev (b + 8) f (by omega) (by omega), ev (b + 9) f (by omega) (by omega), w10, w11, w12, ev (b + 13) f (by omega) (by omega), ev (b + 14) f (by omega) (by omega), w15, w17]
      exact ⟨c0, c1, rfl, rfl, rfl, c5, c6, rfl, rfl⟩
    · rw [ev _ _ (by omega) (by omega)]; exact hT.1 i i1 i2
    · have hg1 : fl M g := by unfold fl at hg0 ⊢; rw [lo 6 (by omega) (by omega)] at hg0; exact hg0
      by_cases e : g = f
      · rw [e, arM_7] at h7; omega
      · rw [ne g 7 (by omega) (by omega) (by omega)] at h7
        rw [ev _ _ (by omega) (by omega), ne g 8 (by omega) (by omega) (by omega)]
        exact hT.2 g hg1 h7
    · refine FR_step hM hF (fun i => ev _ _ (by omega) (by omega)) (fun i => ev _ _ (by omega) (by omega)) (fun i => ev _ _ (by omega) (by omega)) (fun i => ev _ _ (by omega) (by omega)) (fun q hq => ?_)
      by_cases c : q = ofM M f 6
      · refine Or.inl ?_
        rw [e5, c, hg_same]
      · refine Or.inr ⟨ev _ _ (by omega) (by omega), fun _ => ?_⟩
        exact sim_off (g := f) hM lo (fun g w q1 _ q2 q3 => ne g w q2 (by omega) (Or.inl q1)) (fun z => c z.symm) (by rw [ne f 6 (by omega) (by omega) (by omega)]; exact fun z => c z.symm)
  refine CL.of (by decide) rfl (Nat.le_of_ble_eq_true rfl) (s_X6_turn_0 hS ⟨by omega, by omega, fun H1 e1 => ?_⟩)
  have o1 : only H H1 (fun c i => (c = b + 10 ∨ c = b + 11 ∨ c = b + 12) ∧ i = f) := by rw [e1]; exact only.wr ⟨Or.inl rfl, rfl⟩
  have a10 : hg H1 (b + 10) f = M 0 + M 3 := by rw [e1, hg_same]
  have a11 : hg H1 (b + 11) f = ofM M f 3 := by rw [e1, hg_ne _ (by omega)]; exact c3
  have a12 : hg H1 (b + 12) f = ofM M f 4 := by rw [e1, hg_ne _ (by omega)]; exact c4
  refine ⟨fun q1 => ⟨fun q2 => ?_, fun q2 H2 e2 => ?_⟩, fun q1 H2 e2 => ⟨fun q2 => ?_, fun q2 H3 e3 => ?_⟩⟩
  · rw [a11] at q1 q2
    rw [a12] at q2
    exact tail H1 o1 a10 (by rw [a11]; omega) (by rw [a12]; omega)
  · rw [a11] at q1 q2 e2
    rw [a12] at q2
    exact tail H2 (by rw [e2]; exact o1.then ⟨Or.inr (Or.inr rfl), rfl⟩) (by rw [e2, hg_ne _ (by omega)]; exact a10) (by rw [e2, hg_ne _ (by omega), a11]; omega) (by rw [e2, hg_same]; omega)
  · have b11 : hg H2 (b + 11) f = M 0 + M 3 := by rw [e2, hg_same]
    have b12 : hg H2 (b + 12) f = ofM M f 4 := by rw [e2, hg_ne _ (by omega)]; exact a12
    rw [a11] at q1
    rw [b11, b12] at q2
    exact tail H2 (by rw [e2]; exact o1.then ⟨Or.inr (Or.inl rfl), rfl⟩) (by rw [e2, hg_ne _ (by omega)]; exact a10) (by rw [b11]; omega) (by rw [b12]; omega)
  · have b11 : hg H2 (b + 11) f = M 0 + M 3 := by rw [e2, hg_same]
    have b12 : hg H2 (b + 12) f = ofM M f 4 := by rw [e2, hg_ne _ (by omega)]; exact a12
    rw [a11] at q1
    rw [b11, b12] at q2
    rw [b11] at e3
    exact tail H3 (by rw [e3, e2]; exact (o1.then ⟨Or.inr (Or.inl rfl), rfl⟩).then ⟨Or.inr (Or.inr rfl), rfl⟩) (by rw [e3, hg_ne _ (by omega), e2, hg_ne _ (by omega)]; exact a10) (by rw [e3, hg_ne _ (by omega), b11]; omega) (by rw [e3, hg_same]; omega)
/-- the clock alone -/
theorem SS_clock {H H' : AH} {b t : Int} {M : Row} (h : SS H b M) (e : ∀ o i, 0 ≤ o → o ≤ 18 → o ≠ 6 → o ≠ 7 → o ≠ 16 → (o ≠ 0 ∨ i ≠ 2) → hg H' (b + o) i = hg H (b + o) i) (v : hg H' b 2 = t) : SS H' b (upM M 0 t) := by
  obtain ⟨⟨a1, a2⟩, ⟨a3, a4, a5, a6, a7⟩, ⟨a8, a9, a10⟩, a11, a12, a13⟩ := h
  have u : ∀ k, k ≠ 0 → upM M 0 t k = M k := fun k hk => upM_ne _ hk
  have E : ∀ o i, 1 ≤ o → o ≤ 18 → o ≠ 6 → o ≠ 7 → o ≠ 16 → hg H' (b + o) i = hg H (b + o) i := fun o i h1 h2 h3 h4 h5 => e o i (by omega) h2 h3 h4 h5 (by omega)
  refine ⟨⟨?_, ?_⟩, ⟨?_, ?_, ?_, ?_, ?_⟩, ⟨fun k hk => ?_, fun k hk => ?_, fun k hk => ?_⟩, ?_, fun g hg' => ?_, fun k hk => ?_⟩
  · rw [v, upM_same]
  · have := e 0 8 (by omega) (by omega) (by omega) (by omega) (by omega) (by omega)
    rw [Int.add_zero] at this
    rw [this, u 7 (by omega)]; exact a2
  · rw [E 1 _ (by omega) (by omega) (by omega) (by omega) (by omega), u 5 (by omega)]; exact a3
  · rw [E 1 _ (by omega) (by omega) (by omega) (by omega) (by omega), u 4 (by omega)]; exact a4
  · rw [E 1 _ (by omega) (by omega) (by omega) (by omega) (by omega), u 1 (by omega)]; exact a5
  · rw [E 1 _ (by omega) (by omega) (by omega) (by omega) (by omega), u 2 (by omega)]; exact a6
  · rw [E 1 _ (by omega) (by omega) (by omega) (by omega) (by omega), u 3 (by omega)]; exact a7
  · rw [E 2 _ (by omega) (by omega) (by omega) (by omega) (by omega), u _ (by omega)]; exact a8 k hk
  · rw [E 3 _ (by omega) (by omega) (by omega) (by omega) (by omega), u _ (by omega)]; exact a9 k hk
  · rw [E 4 _ (by omega) (by omega) (by omega) (by omega) (by omega), u _ (by omega)]; exact a10 k hk
  · rw [E 5 _ (by omega) (by omega) (by omega) (by omega) (by omega), u 6 (by omega)]; exact a11
  · have hg0 : fl M g := by unfold fl at hg' ⊢; rw [u 6 (by omega)] at hg'; exact hg'
    have z : ∀ w, 0 ≤ w → ofM (upM M 0 t) g w = ofM M g w := fun w w1 => of_lo (by omega) hg0.1 w1
    rw [E 8 _ (by omega) (by omega) (by omega) (by omega) (by omega), E 9 _ (by omega) (by omega) (by omega) (by omega) (by omega), E 10 _ (by omega) (by omega) (by omega) (by omega) (by omega), E 11 _ (by omega) (by omega) (by omega) (by omega) (by omega), E 12 _ (by omega) (by omega) (by omega) (by omega) (by omega), E 13 _ (by omega) (by omega) (by omega) (by omega) (by omega), E 14 _ (by omega) (by omega) (by omega) (by omega) (by omega), E 15 _ (by omega) (by omega) (by omega) (by omega) (by omega), E 17 _ (by omega) (by omega) (by omega) (by omega) (by omega),
      z 0 (by omega), z 1 (by omega), z 2 (by omega), z 3 (by omega), z 4 (by omega), z 5 (by omega), z 6 (by omega), z 7 (by omega), z 9 (by omega)]
    exact a12 g hg0
  · rw [u 7 (by omega)] at hk
    rw [E 18 _ (by omega) (by omega) (by omega) (by omega) (by omega), u _ (by omega)]; exact a13 k hk
theorem apart_mv {M : Row} {t f g : Int} (hM : okM M) (hf : fl M f) (hg0 : fl M g) : apartM (upM M 0 t) f g = apartM M f g := by
  have c1 := (okF_123 hM hf).1
  have c2 := (okF_123 hM hg0).1
  have z : ∀ x w, 0 ≤ x → 0 ≤ w → ofM (upM M 0 t) x w = ofM M x w := fun x w x1 w1 => of_lo (by omega) x1 w1
  unfold apartM
  rw [z f 0 hf.1 (by omega), z g 0 hg0.1 (by omega), z f 1 hf.1 (by omega), z g 1 hg0.1 (by omega), upM_ne _ (by omega), upM_ne _ (by omega)]
theorem baseN_mv {M : Row} {t r f : Int} (hM : okM M) (hf : fl M f) (ht : M 0 ≤ t) : ∀ {n : Nat}, (n : Int) ≤ M 6 → baseN (upM M 0 t) r f n = max t (baseN M r f n)
  | 0, _ => by
    unfold baseN
    rw [upM_same, of_lo (by omega) hf.1 (by omega)]
    omega
  | n + 1, hn => by
    have ih := baseN_mv hM hf ht (r := r) (n := n) (by omega)
    have hk : fl M n := ⟨by omega, by omega⟩
    unfold baseN
    rw [ih, of_lo (by omega) hk.1 (by omega), of_lo (by omega) hk.1 (by omega), of_lo (by omega) hk.1 (by omega), apart_mv hM hk hf]
    split
    · omega
    · rfl
theorem sim_mv {M : Row} {t r : Int} (hM : okM M) (ht : M 0 ≤ t) (hb : ∀ f ∈ comeL M r, t ≤ baseM M r f) : sim M (upM M 0 t) r := by
  have hn := okM_n hM
  refine ⟨⟨upM_ne _ (by omega), upM_ne _ (by omega), upM_ne _ (by omega), fun k q1 q2 => upM_ne _ (by omega)⟩, fun f hf => ?_, fun f hf h7 h6 => ⟨⟨?_, ?_, ?_, ?_⟩, ?_⟩⟩
  · rw [of_lo (by omega) hf.1 (by omega), of_lo (by omega) hf.1 (by omega)]
  · exact of_lo (by omega) hf.1 (by omega)
  · exact of_lo (by omega) hf.1 (by omega)
  · exact of_lo (by omega) hf.1 (by omega)
  · exact of_lo (by omega) hf.1 (by omega)
  · have := hb f ((comeL_mem hM).mpr ⟨hf, h7, h6⟩)
    unfold baseM at this ⊢
    rw [upM_ne _ (by omega), baseN_mv hM hf ht (by omega)]
    omega
theorem k_moveClock {d : Nat} {H : AH} {b t : Int} {M : Row} (hX : SX H b M) (ht : M 0 ≤ t ∧ t ≤ 207200) :
    CL l G mX6_moveClock d 0 0 [vR b, vI t] H (fun v H' => v = vV ∧ only H H' (pSu b) ∧ SX H' b (upM M 0 t)) := by
  obtain ⟨hS, hT, hF⟩ := id hX
  have hM := hS.2.1
  have h0 := hM.1.1
  have hM' : okM (upM M 0 t) := okM_mv hM (by omega)
  have env : ∀ H1, only H H1 (fun c i => (c = b ∧ i = 2) ∨ c = b + 21) → hg H1 b 2 = t → SK H1 b (upM M 0 t) ∧ only H H1 (pSu b) := by
    intro H1 o1 v1
    have oo : only H H1 (pSu b) := o1.mono fun c i h => by
      rcases h with h | h
      · exact ⟨Or.inl ⟨h.1, Or.inl h.2⟩, by omega, by omega⟩
      · exact pSu_hi (by omega)
    exact ⟨⟨hS.1.only ok_Sta oo (fun c i q => pSt_nrf hS.1 c i q.1), hM', SS_clock hS.2.2 (fun o i q1 q2 q3 q4 q5 q6 => o1.2.2 _ _ (by omega)) v1⟩, oo⟩
  have key : ∀ j : Nat, j ≤ 3 → ∀ H1, only H H1 (fun c i => (c = b ∧ i = 2) ∨ c = b + 21) → hg H1 b 2 = t → (∀ q : Int, 0 ≤ q ∧ q < 3 → hg H1 (b + 21) q = 0 ∨ (hg H1 (b + 21) q = hg H (b + 21) q ∧ (q < j → t ≤ hg H (b + 22) q))) → AW l G mX6_moveClock d 0 0 (fun v H' => v = vV ∧ only H H' (pSu b) ∧ SX H' b (upM M 0 t)) 7 [vR b, vI t, vI (j : Nat)] [] 0 0 H1 := by
    refine upN 3 ?_ ?_
    · intro j hj ih H1 o1 v1 f1
      obtain ⟨S1, -⟩ := env H1 o1 v1
      refine s_X6_moveClock_7 S1 ⟨fun c => absurd c (by omega), fun _ => ⟨by omega, fun c => ⟨by omega, ih H1 o1 v1 (fun q hq => ?_)⟩, fun c H2 e2 => ⟨by omega, ih H2 (by rw [e2]; exact o1.then (Or.inr rfl)) (by rw [e2, hg_ne _ (by omega)]; exact v1) (fun q hq => ?_)⟩⟩⟩
      · rw [o1.2.2 _ _ (by omega)] at c
        rcases f1 q hq with z | ⟨z1, z2⟩
        · exact Or.inl z
        · refine Or.inr ⟨z1, fun q9 => ?_⟩
          by_cases e : q = j
          · rw [e]; exact c
          · exact z2 (by omega)
      · by_cases e : q = j
        · exact Or.inl (by rw [e2, e, hg_same])
        · rw [e2, hg_ne _ (by omega)]
          rcases f1 q hq with z | ⟨z1, z2⟩
          · exact Or.inl z
          · exact Or.inr ⟨z1, fun q9 => z2 (by omega)⟩
    · intro H1 o1 v1 f1
      obtain ⟨S1, oo⟩ := env H1 o1 v1
      refine s_X6_moveClock_7 S1 ⟨fun _ => ⟨rfl, oo, S1, ⟨fun i i1 i2 => ?_, fun g hg0 h7 => ?_⟩, ?_⟩, fun c => absurd c (by decide)⟩
      · rw [o1.2.2 _ _ (by omega)]; exact hT.1 i i1 i2
      · have hg1 : fl M g := by unfold fl at hg0 ⊢; rw [upM_ne _ (by omega)] at hg0; exact hg0
        rw [of_lo (by omega) hg1.1 (by omega)] at h7
        rw [o1.2.2 _ _ (by omega), of_lo (by omega) hg1.1 (by omega)]
        exact hT.2 g hg1 h7
      · refine FR_step hM hF (fun i => o1.2.2 _ _ (by omega)) (fun i => o1.2.2 _ _ (by omega)) (fun i => o1.2.2 _ _ (by omega)) (fun i => o1.2.2 _ _ (by omega)) (fun q hq => ?_)
        rcases f1 q hq with z | ⟨z1, z2⟩
        · exact Or.inl z
        · refine Or.inr ⟨z1, fun fr => sim_mv hM ht.1 fun f hf => ?_⟩
          have := fr.2.2.2 f hf
          have := z2 (by omega)
          omega
  refine CL.of (by decide) rfl (Nat.le_of_ble_eq_true rfl) (s_X6_moveClock_0 hS fun H1 e1 => key 0 (Nat.zero_le _) H1 (by rw [e1]; exact only.wr (Or.inl ⟨rfl, rfl⟩)) (by rw [e1, hg_same]) (fun q hq => Or.inr ⟨by rw [e1, hg_ne _ (by omega)], fun z => absurd z (by omega)⟩))
end
