/-! the class: time passes -/
section
variable {l : Launch} {G : GT}
theorem SS_fin {H H' : AH} {b f : Int} {M : Row} (h : SS H b M) (hf : fl M f) (h7 : 0 ≤ M 7 ∧ M 7 < 24) (hn : M 6 ≤ 24)
    (e : ∀ o i, 0 ≤ o → o ≤ 18 → o ≠ 6 → o ≠ 7 → o ≠ 16 → ¬ (o = 0 ∧ i = 8) → ¬ (o = 15 ∧ i = f) → ¬ (o = 18 ∧ i = M 7) → hg H' (b + o) i = hg H (b + o) i) (v0 : hg H' b 8 = M 7 + 1) (v15 : hg H' (b + 15) f = 2) (v18 : hg H' (b + 18) (M 7) = f) : SS H' b (fin1 M f) := by
  obtain ⟨⟨a1, a2⟩, ⟨a3, a4, a5, a6, a7⟩, ⟨a8, a9, a10⟩, a11, a12, a13⟩ := h
  have u : ∀ k, k < 32 → k ≠ 7 → fin1 M f k = M k := fun k q1 q2 => fin1_lo hf.1 (by omega) q2 (by omega)
  have E : ∀ o i, 1 ≤ o → o ≤ 14 → o ≠ 6 → o ≠ 7 → hg H' (b + o) i = hg H (b + o) i := fun o i h1 h2 h3 h4 => e o i (by omega) (by omega) h3 h4 (by omega) (by omega) (by omega) (by omega)
  refine ⟨⟨?_, ?_⟩, ⟨?_, ?_, ?_, ?_, ?_⟩, ⟨fun k hk => ?_, fun k hk => ?_, fun k hk => ?_⟩, ?_, fun g hg' => ?_, fun k hk => ?_⟩
  · have := e 0 2 (by omega) (by omega) (by omega) (by omega) (by omega) (by omega) (by omega) (by omega)
    rw [Int.add_zero] at this
    rw [this, u 0 (by omega) (by omega)]; exact a1
  · rw [v0, fin1_7]
  · rw [E 1 _ (by omega) (by omega) (by omega) (by omega), u 5 (by omega) (by omega)]; exact a3
  · rw [E 1 _ (by omega) (by omega) (by omega) (by omega), u 4 (by omega) (by omega)]; exact a4
  · rw [E 1 _ (by omega) (by omega) (by omega) (by omega), u 1 (by omega) (by omega)]; exact a5
  · rw [E 1 _ (by omega) (by omega) (by omega) (by omega), u 2 (by omega) (by omega)]; exact a6
  · rw [E 1 _ (by omega) (by omega) (by omega) (by omega), u 3 (by omega) (by omega)]; exact a7
  · rw [E 2 _ (by omega) (by omega) (by omega) (by omega), u _ (by omega) (by omega)]; exact a8 k hk
  · rw [E 3 _ (by omega) (by omega) (by omega) (by omega), u _ (by omega) (by omega)]; exact a9 k hk
  · rw [E 4 _ (by omega) (by omega) (by omega) (by omega), u _ (by omega) (by omega)]; exact a10 k hk
  · rw [E 5 _ (by omega) (by omega) (by omega) (by omega), u 6 (by omega) (by omega)]; exact a11
  · have hg0 : fl M g := by unfold fl at hg' ⊢; rw [u 6 (by omega) (by omega)] at hg'; exact hg'
    obtain ⟨c0, c1, c2, c3, c4, c5, c6, c7, c9⟩ := a12 g hg0
    have z : ∀ w, 0 ≤ w → w < 16 → (g ≠ f ∨ w ≠ 7) → ofM (fin1 M f) g w = ofM M g w := fun w w1 w2 w3 => fin1_of h7 hg0.1 ⟨w1, w2⟩ w3
    rw [E 8 _ (by omega) (by omega) (by omega) (by omega), E 9 _ (by omega) (by omega) (by omega) (by omega), E 10 _ (by omega) (by omega) (by omega) (by omega), E 11 _ (by omega) (by omega) (by omega) (by omega), E 12 _ (by omega) (by omega) (by omega) (by omega), E 13 _ (by omega) (by omega) (by omega) (by omega), E 14 _ (by omega) (by omega) (by omega) (by omega), e 17 g (by omega) (by omega) (by omega) (by omega) (by omega) (by omega) (by omega) (by omega),
      z 0 (by omega) (by omega) (by omega), z 1 (by omega) (by omega) (by omega), z 2 (by omega) (by omega) (by omega), z 3 (by omega) (by omega) (by omega), z 4 (by omega) (by omega) (by omega), z 5 (by omega) (by omega) (by omega), z 6 (by omega) (by omega) (by omega), z 9 (by omega) (by omega) (by omega)]
    refine ⟨c0, c1, c2, c3, c4, c5, c6, ?_, c9⟩
    by_cases c : g = f
    · rw [c, v15, fin1_st h7 hf.1]
    · rw [e 15 g (by omega) (by omega) (by omega) (by omega) (by omega) (by omega) (by omega) (by omega), z 7 (by omega) (by omega) (Or.inl c)]; exact c7
  · rw [fin1_7] at hk
    by_cases c : k = M 7
    · rw [c, v18, fin1_d h7.1]
    · rw [e 18 k (by omega) (by omega) (by omega) (by omega) (by omega) (by omega) (by omega) (by omega), fin1_lo hf.1 (by omega) (by omega) (by omega)]
      exact a13 k (by omega)
theorem sim_fin {M : Row} {f q : Int} (hM : okM M) (hf : fl M f) (h7 : 0 ≤ M 7 ∧ M 7 < 24) (h1 : ofM M f 7 = 1) : sim M (fin1 M f) q := by
  have u : ∀ k, k < 32 → k ≠ 7 → fin1 M f k = M k := fun k q1 q2 => fin1_lo hf.1 (by omega) q2 (by omega)
  refine sim_alike hM ⟨u 1 (by omega) (by omega), u 4 (by omega) (by omega), u 6 (by omega) (by omega), fun k q1 q2 => u k q2 (by omega)⟩ (u 0 (by omega) (by omega)) (fun k hk => Or.inr ⟨fun w w1 w2 => fin1_of h7 hk.1 (by omega) (by omega), fin1_of h7 hk.1 (by omega) (by omega), ?_⟩)
  by_cases e : k = f
  · rw [e, fin1_st h7 hf.1, h1]
    omega
  · rw [fin1_of h7 hk.1 (by omega) (Or.inl e)]
    exact ⟨Iff.rfl, Iff.rfl⟩
theorem SX_fin {H H1 H2 H3 : AH} {b f : Int} {M : Row} (hX : SX H b M) (hD : okD M) (hf : fl M f) (h1 : ofM M f 7 = 1) (e1 : H1 = hs H (b + 15) f 2) (e2 : H2 = hs H1 (b + 18) (M 7) f) (e3 : H3 = hs H2 b 8 (M 7 + 1)) : SX H3 b (fin1 M f) ∧ only H H3 (pSu b) := by
  obtain ⟨hS, hT, hF⟩ := hX
  have hM := hS.2.1
  have hn := okM_n hM
  have hlt := okD_lt hM hD hf h1
  have g7 := okM_7 hM
  have oo : only H H3 (pSu b) := by
    rw [e3, e2, e1]
    exact ((only.wr (pSu_hi (by omega))).then (pSu_hi (by omega))).then ⟨Or.inl ⟨rfl, Or.inr rfl⟩, by omega, by omega⟩
  have ev : ∀ c i, ¬ (c = b ∧ i = 8) → ¬ (c = b + 15 ∧ i = f) → ¬ (c = b + 18 ∧ i = M 7) → hg H3 c i = hg H c i := fun c i q1 q2 q3 => by rw [e3, hg_ne _ (by omega), e2, hg_ne _ (by omega), e1, hg_ne _ (by omega)]
  refine ⟨⟨⟨hS.1.only ok_Sta oo (fun c i q => pSt_nrf hS.1 c i q.1), okM_fin1 hM hD hf h1, SS_fin hS.2.2 hf (by omega) hn.2 (fun o i q1 q2 q3 q4 q5 q6 q7 q8 => ev _ _ (by omega) (by omega) (by omega)) (by rw [e3, hg_same]) (by rw [e3, hg_ne _ (by omega), e2, hg_ne _ (by omega), e1, hg_same]) (by rw [e3, hg_ne _ (by omega), e2, hg_same])⟩, ⟨fun i i1 i2 => ?_, fun g hg0 h7 => ?_⟩, ?_⟩, oo⟩
  · rw [ev _ _ (by omega) (by omega) (by omega)]; exact hT.1 i i1 i2
  · have hg1 : fl M g := by unfold fl at hg0 ⊢; rw [fin1_lo hf.1 (by omega) (by omega) (by omega)] at hg0; exact hg0
    rw [ev _ _ (by omega) (by omega) (by omega), fin1_of (by omega) hg1.1 (by omega) (by omega)]
    refine hT.2 g hg1 ?_
    by_cases e : g = f
    · rw [e]; exact Or.inl h1
    · rw [fin1_of (by omega) hg1.1 (by omega) (Or.inl e)] at h7; exact h7
  · exact FR_step hM hF (fun i => ev _ _ (by omega) (by omega) (by omega)) (fun i => ev _ _ (by omega) (by omega) (by omega)) (fun i => ev _ _ (by omega) (by omega) (by omega)) (fun i => ev _ _ (by omega) (by omega) (by omega)) (fun q hq => Or.inr ⟨ev _ _ (by omega) (by omega) (by omega), fun _ => sim_fin hM hf (by omega) h1⟩)
theorem fin_none {M : Row} (h : ndM M = -1) : ∀ n, finN n M = M
  | 0 => rfl
  | n + 1 => by unfold finN; rw [if_pos h]
theorem frzC_le {M : Row} (hM : okM M) : frzC M ≤ M 6 := by
  have hn := okM_n hM
  have := sm_in (f := fun k => bi (decide (ofM M k 7 = 1))) (lo := 0) (hi := 1) (n := (M 6).toNat) (fun k _ => bi_in _)
  unfold frzC
  omega
theorem frzC_nn {M : Row} (hM : okM M) : 0 ≤ frzC M := by
  have := sm_in (f := fun k => bi (decide (ofM M k 7 = 1))) (lo := 0) (hi := 1) (n := (M 6).toNat) (fun k _ => bi_in _)
  unfold frzC
  omega
theorem k_finishDue {d : Nat} {H : AH} {b : Int} {M : Row} (hX : SX H b M) (hD : okD M) :
    CL l G mX6_finishDue d 0 0 [vR b] H (fun v H' => v = vV ∧ only H H' (pSu b) ∧ SX H' b (finM M)) := by
  have hM := hX.1.2.1
  have hn := okM_n hM
  have key : ∀ j, j ≤ (M 6).toNat → ∀ H1 M1, only H H1 (pSu b) → SX H1 b M1 → okD M1 → finN (24 - j) M1 = finM M → M1 6 = M 6 → frzC M1 ≤ M 6 - j → AW l G mX6_finishDue d 0 0 (fun v H' => v = vV ∧ only H H' (pSu b) ∧ SX H' b (finM M)) 2 [vR b, vI j, vU, vU] [] 0 0 H1 := by
    refine upN _ ?_ ?_
    · intro j hj ih H1 M1 o1 X1 D1 ef e6 ec
      have hM1 := X1.1.2.1
      obtain ⟨m, hm⟩ : ∃ m, 24 - j = m + 1 := ⟨24 - j - 1, by omega⟩
      rw [hm] at ef
      refine s_X6_finishDue_2 X1.1 ⟨fun c => absurd c (by omega), fun _ => ?_⟩
      have inner : ∀ k, k ≤ (M 6).toNat → AW l G mX6_finishDue d 0 0 (fun v H' => v = vV ∧ only H H' (pSu b) ∧ SX H' b (finM M)) 17 [vR b, vI j, vI (ndN M1 k), vI k] [] 0 0 H1 := by
        refine upN _ ?_ ?_
        · intro k hk ihk
          have hkf : fl M1 k := ⟨by omega, by omega⟩
          have hx := ndN_in (M := M1) (n := k)
          have go : ∀ x, ndN M1 (k + 1) = x → AW l G mX6_finishDue d 0 0 (fun v H' => v = vV ∧ only H H' (pSu b) ∧ SX H' b (finM M)) 17 [vR b, vI j, vI x, vI (k + 1)] [] 0 0 H1 := fun x hx => by rw [← hx]; exact ihk
          refine s_X6_finishDue_17 X1.1 ⟨fun c => absurd c (by omega), fun _ => ⟨hkf, fun c => ⟨by omega, go _ ?_⟩, fun c => ⟨by omega, ?_⟩⟩⟩
          · rw [ndN, if_neg (fun q => c q.1.1)]
          · rw [X1.2.1.2 k hkf (Or.inl c)]
            refine ⟨fun c3 => ⟨by omega, go _ ?_⟩, fun c3 => ⟨fun c4 => ⟨by omega, go _ ?_⟩, fun c4 => ?_⟩⟩
            · rw [ndN, if_neg (fun q => by have := q.1.2; omega)]
            · rw [ndN, if_pos ⟨⟨c, c3⟩, Or.inl c4⟩]
            · rcases hx with z | ⟨z1, z2, z3, z4⟩
              · exact absurd z c4
              · rw [X1.2.1.2 (ndN M1 k) ⟨z1, by omega⟩ (Or.inl z3)]
                refine ⟨by omega, fun c5 => ⟨by omega, go _ ?_⟩, fun c5 => ⟨by omega, go _ ?_⟩⟩
                · rw [ndN, if_neg (fun q => by rcases q.2 with q | q; exact c4 q; omega)]
                · rw [ndN, if_pos ⟨⟨c, c3⟩, Or.inr c5⟩]
        · have en : ndN M1 (M 6).toNat = ndM M1 := by show _ = ndN M1 (M1 6).toNat; rw [e6]
          rw [en]
          refine s_X6_finishDue_17 X1.1 ⟨fun _ => ⟨fun c => ⟨rfl, o1, ?_⟩, fun c => ?_⟩, fun c => absurd c (by omega)⟩
          · rw [← ef, fin_none c]; exact X1
          · obtain ⟨f1, f2, f3⟩ := nd_fl hM1 c
            have hlt := okD_lt hM1 D1 f1 f2
            have g7 := okM_7 hM1
            have h8 : hg H1 b 8 = M1 7 := X1.1.2.2.1.2
            refine ⟨fun _ => ⟨by have := f1.2; have := f1.1; omega, fun H2 e2 => ?_⟩, fun c2 => absurd c2 (by omega)⟩
            have q2 : hg H2 b 8 = M1 7 := by rw [e2, hg_ne _ (by omega)]; exact h8
            refine ⟨by rw [q2]; omega, fun H3 e3 => ?_⟩
            rw [q2] at e3
            have q3 : hg H3 b 8 = M1 7 := by rw [e3, hg_ne _ (by omega)]; exact q2
            refine ⟨by rw [q3]; omega, fun H4 e4 => ⟨by omega, ?_⟩⟩
            rw [q3] at e4
            obtain ⟨X4, o4⟩ := SX_fin X1 D1 f1 f2 e2 e3 e4
            unfold finN at ef
            rw [if_neg c] at ef
            have hc := fin1_C hM1 D1 f1 f2
            exact ih H4 _ (o1.trans o4) X4 (fin1_D hM1 D1 f1 f2) (by rw [show 24 - (j + 1) = m by omega]; exact ef) (by rw [fin1_lo f1.1 (by omega) (by omega) (by omega)]; exact e6) (by rw [hc]; omega)
      exact inner 0 (Nat.zero_le _)
    · intro H1 M1 o1 X1 D1 ef e6 ec
      have hM1 := X1.1.2.1
      have := frzC_nn hM1
      rw [fin_none (nd_none hM1 (by omega))] at ef
      exact s_X6_finishDue_2 X1.1 ⟨fun _ => ⟨rfl, o1, by rw [← ef]; exact X1⟩, fun c => absurd c (by omega)⟩
  exact CL.of (by decide) rfl (Nat.le_of_ble_eq_true rfl) (s_X6_finishDue_0 hX.1 (key 0 (Nat.zero_le _) H M only.rf hX hD rfl rfl (by have := frzC_le hM; omega)))
theorem SX_frz {H H1 H2 : AH} {b f t r : Int} {M : Row} (hX : SX H b M) (hf : fl M f) (h7 : ofM M f 7 = 0) (h6 : ofM M f 6 = r) (ht : hg H (b + 16) f = t) (tb : 0 ≤ t ∧ t ≤ 210000) (e1 : H1 = hs H (b + 15) f 1) (e2 : H2 = hs H1 (b + 21) r 0) : SX H2 b (frz1 M f t) ∧ only H H2 (pSu b) := by
  obtain ⟨hS, hT, hF⟩ := hX
  have hM := hS.2.1
  have hn := okM_n hM
  have oo : only H H2 (pSu b) := by
    rw [e2, e1]
    exact (only.wr (pSu_hi (by omega))).then (pSu_hi (by omega))
  have ev : ∀ c i, ¬ (c = b + 15 ∧ i = f) → ¬ (c = b + 21 ∧ i = r) → hg H2 c i = hg H c i := fun c i q1 q2 => by rw [e2, hg_ne _ (by omega), e1, hg_ne _ (by omega)]
  have lo : ∀ k, 0 ≤ k → k < 56 → frz1 M f t k = M k := fun k _ q => frz1_lo hf.1 q
  have ne : ∀ g w, 0 ≤ w → w < 16 → (g ≠ f ∨ (w ≠ 7 ∧ w ≠ 8)) → ofM (frz1 M f t) g w = ofM M g w := fun g w w1 w2 q => frz1_ne ⟨w1, w2⟩ q
  obtain ⟨c0, c1, c2, c3, c4, c5, c6, c7, c9⟩ := hS.2.2.2.2.2.2.1 f hf
  refine ⟨⟨⟨hS.1.only ok_Sta oo (fun c i q => pSt_nrf hS.1 c i q.1), okM_frz1 hM hf tb, ?_⟩, ⟨fun i i1 i2 => ?_, fun g hg0 h9 => ?_⟩, ?_⟩, oo⟩
  · refine SS_one (f := f) hS.2.2 (fun o i o1 o2 o3 o4 o5 o6 => ev _ _ (by omega) (by omega)) lo (fun g w _ q1 q2 q3 => ne g w q2 (by omega) (Or.inl q1)) ?_ (okM_7 hM).2
    rw [ne f 0 (by omega) (by omega) (by omega), ne f 1 (by omega) (by omega) (by omega), ne f 2 (by omega) (by omega) (by omega), ne f 3 (by omega) (by omega) (by omega), ne f 4 (by omega) (by omega) (by omega), ne f 5 (by omega) (by omega) (by omega), ne f 6 (by omega) (by omega) (by omega), frz1_7, ne f 9 (by omega) (by omega) (by omega),
      ev (b + 8) f (by omega) (by omega), ev (b + 9) f (by omega) (by omega), ev (b + 10) f (by omega) (by omega), ev (b + 11) f (by omega) (by omega), ev (b + 12) f (by omega) (by omega), ev (b + 13) f (by omega) (by omega), ev (b + 14) f (by omega) (by omega), ev (b + 17) f (by omega) (by omega)]
    exact ⟨c0, c1, c2, c3, c4, c5, c6, by rw [e2, hg_ne _ (by omega), e1, hg_same], c9⟩
  · rw [ev _ _ (by omega) (by omega)]; exact hT.1 i i1 i2
  · have hg1 : fl M g := by unfold fl at hg0 ⊢; rw [lo 6 (by omega) (by omega)] at hg0; exact hg0
    rw [ev _ _ (by omega) (by omega)]
    by_cases e : g = f
    · rw [e, frz1_8]; exact ht
    · rw [ne g 7 (by omega) (by omega) (Or.inl e)] at h9
      rw [ne g 8 (by omega) (by omega) (Or.inl e)]
      exact hT.2 g hg1 h9
  · refine FR_step hM hF (fun i => ev _ _ (by omega) (by omega)) (fun i => ev _ _ (by omega) (by omega)) (fun i => ev _ _ (by omega) (by omega)) (fun i => ev _ _ (by omega) (by omega)) (fun q hq => ?_)
    by_cases c : q = r
    · exact Or.inl (by rw [e2, c, hg_same])
    · exact Or.inr ⟨ev _ _ (by omega) (by omega), fun _ => sim_frz1 hM hf (by rw [h6]; exact fun z => c z.symm)⟩
end
