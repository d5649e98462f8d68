/-! the class's planner: plans kept and made -/
section
variable {l : Launch} {G : GT}
/-- plans that are fresh hold -/
def FR (H : AH) (b : Int) (M : Row) : Prop := ∀ r, 0 ≤ r ∧ r < 3 → (0 ≤ hg H (b + 20) r ∧ hg H (b + 20) r ≤ 24) ∧ (hg H (b + 21) r = 0 ∨ (hg H (b + 21) r = 1 ∧ Frs H b M r))
def SX (H : AH) (b : Int) (M : Row) : Prop := SK H b M ∧ ST H b M ∧ FR H b M
/-- where the making of plans writes -/
def pRf (p b : Int) : Int → Int → Prop := fun c i => pPla p c i ∨ c = b + 16 ∨ (b + 19 ≤ c ∧ c ≤ b + 22)
theorem pRf_nrf {H : AH} {p b : Int} (hS : Lay LSta H b) (hP : Lay LPla H p) : ∀ c i, pRf p b c i → nrf H c i := by
  rintro c i (h | rfl | ⟨h1, h2⟩)
  · exact pPla_nrf hP c i h
  · exact nrf_arr (kSta_16 hS) (by decide) (by decide)
  · have : c = b + 19 ∨ c = b + 20 ∨ c = b + 21 ∨ c = b + 22 := by omega
    rcases this with rfl | rfl | rfl | rfl
    · exact nrf_arr (kSta_19 hS) (by decide) (by decide)
    · exact nrf_arr (kSta_20 hS) (by decide) (by decide)
    · exact nrf_arr (kSta_21 hS) (by decide) (by decide)
    · exact nrf_arr (kSta_22 hS) (by decide) (by decide)
theorem pRf_off {p b : Int} (hsep : b + 23 ≤ p ∨ p + 17 ≤ b) : ∀ c i, pRf p b c i → offS b c := by
  rintro c i (h | h | h)
  · exact pPla_off hsep c i h
  · unfold offS; omega
  · unfold offS; omega
theorem pPla_rf {p b : Int} : ∀ c i, pPla p c i → pRf p b c i := fun _ _ h => Or.inl h
/-- a plan stays where nothing of it is written -/
theorem Frs.keep {H H' : AH} {b q : Int} {M : Row} (hM : okM M) (h : Frs H b M q) (e20 : hg H' (b + 20) q = hg H (b + 20) q) (e19 : ∀ i, 24 * q ≤ i → i < 24 * q + 24 → hg H' (b + 19) i = hg H (b + 19) i) (e16 : ∀ f ∈ comeL M q, hg H' (b + 16) f = hg H (b + 16) f) (e22 : hg H' (b + 22) q = hg H (b + 22) q) : Frs H' b M q := by
  obtain ⟨p1, p2, p3⟩ := planL_perm hM (r := q)
  have hl := comeL_len hM (r := q)
  refine ⟨by rw [e20]; exact h.1, fun k x hx => ?_, fun t ht => ?_, fun f hf => by rw [e22]; exact h.2.2.2 f hf⟩
  · have hk := (List.getElem?_eq_some_iff.mp hx).1
    rw [e19 _ (by omega) (by omega)]
    exact h.2.1 k x hx
  · have : t.1 ∈ planL M q := by rw [← plan_fst]; exact List.mem_map.mpr ⟨t, ht, rfl⟩
    rw [e16 _ ((p3 _).mp this)]
    exact h.2.2.1 t ht
/-- the same plan by another row -/
theorem Frs.sim {H : AH} {b q : Int} {M M' : Row} (hM : okM M) (h : Frs H b M q) (hs : sim M M' q) : Frs H b M' q := by
  refine ⟨by rw [comeL_sim hM hs]; exact h.1, by rw [planL_sim hM hs]; exact h.2.1, by rw [plan_sim hM hs]; exact h.2.2.1, fun f hf => ?_⟩
  rw [comeL_sim hM hs] at hf
  rw [hs.ba hM hf]
  exact h.2.2.2 f hf
theorem pt_in {M : Row} (hM : okM M) {r : Int} {t : Int × Int} (ht : t ∈ tmS M r [] (planL M r)) : 0 ≤ t.2 ∧ t.2 ≤ 400000 := by
  obtain ⟨p1, p2, p3⟩ := planL_perm hM (r := r)
  have hl := comeL_len hM (r := r)
  have := (tmS_ok hM (r := r) (planL M r) [] (fun x hx => ((comeL_mem hM).mp ((p3 x).mp hx)).1) (fun p hp => by cases hp) t ht).2
  simp only [List.length_nil, Nat.zero_add] at this
  omega
set_option maxHeartbeats 1000000 in
theorem k_refresh {d : Nat} {H : AH} {p b r : Int} {M : Row} (hX : SX H b M) (hP : Lay LPla H p) (hsep : b + 23 ≤ p ∨ p + 17 ≤ b) (hr : rl M r) (hd : 11 ≤ d := by omega) :
    CL l G mX2_refresh d 0 0 [vR p, vR b, vI r] H (fun v H' => v = vV ∧ only H H' (pRf p b) ∧ SX H' b M ∧ Lay LPla H' p ∧ hg H' (b + 21) r = 1 ∧ ∀ q, 0 ≤ q ∧ q < 3 → hg H (b + 21) q = 1 → hg H' (b + 21) q = 1) := by
  obtain ⟨d, rfl⟩ : ∃ k, d = k + 1 := ⟨d - 1, by omega⟩
  obtain ⟨hS, hT, hF⟩ := id hX
  have hM := hS.2.1
  have h5 := okM_5 hM
  have hr3 : 0 ≤ r ∧ r < 3 := by have := hr.1; have := hr.2; omega
  have hn := pRf_nrf hS.1 hP
  have env : ∀ H1, only H H1 (pRf p b) → SK H1 b M ∧ Lay LPla H1 p := fun H1 ho => ⟨skO hS ho hn (pRf_off hsep), hP.only ok_Pla ho hn⟩
  refine CL.of (by decide) rfl (Nat.le_of_ble_eq_true rfl) (s_X2_refresh_0 hS hP hsep ⟨hr3, fun c => ?_, fun c => ⟨rfl, only.rf, hX, hP, ?_, fun q _ h => h⟩⟩)
  rotate_left
  · rcases (hF r hr3).2 with q | q
    · exact absurd q c
    · exact q.1
  have hCf : ∀ x ∈ comeL M r, fl M x := fun x hx => ((comeL_mem hM).mp hx).1
  have hCn := comeL_len hM (r := r)
  have hCd : (comeL M r).Nodup := comeN_nodup
  obtain ⟨pp1, pp2, pp3⟩ := planL_perm hM (r := r)
  have w1 : ∀ {A B : AH} {P : Int → Int → Prop}, only A B P → (∀ c i, P c i → pRf p b c i) → only H A (pRf p b) → only H B (pRf p b) := fun o h1 h2 => h2.trans (o.mono h1)
  -- what is written but times
  obtain ⟨R1, hR1⟩ : ∃ R1 : Int → Int → Prop, R1 = fun c i => pPla p c i ∨ (c = b + 19 ∧ r * 24 ≤ i ∧ i < r * 24 + 24) ∨ ((c = b + 20 ∨ c = b + 21 ∨ c = b + 22) ∧ i = r) := ⟨_, rfl⟩
  have R1p : ∀ c i, pPla p c i → R1 c i := fun c i h => by rw [hR1]; exact Or.inl h
  have R1r : ∀ c i, R1 c i → pRf p b c i := fun c i h => by
    rw [hR1] at h
    rcases h with h | h | h
    · exact Or.inl h
    · exact Or.inr (Or.inr (by omega))
    · exact Or.inr (Or.inr (by omega))
  refine CL.mono (k_lineUp hS hP hsep) ?_
  rintro v H1 ⟨rfl, o1, l1⟩
  have q1 : only H H1 R1 := o1.mono fun c i h => R1p c i (Or.inr (by omega))
  obtain ⟨S1, L1⟩ := env H1 (q1.mono R1r)
  have T1 : ST H1 b M := by
    have e : ∀ i, hg H1 (b + 16) i = hg H (b + 16) i := fun i => o1.2.2 _ _ (by omega)
    exact ⟨fun i a1 a2 => by rw [e]; exact hT.1 i a1 a2, fun f a1 a2 => by rw [e]; exact hT.2 f a1 a2⟩
  refine ⟨L1, S1.1, S1, _, rfl, CL.mono (k_setBases (r := r) S1 T1 L1 hsep l1 hCf hCn) ?_⟩
  rintro v H2 ⟨⟨y, rfl, hy, hyb⟩, o2, b2⟩
  have q2 : only H H2 R1 := q1.trans (o2.mono fun c i h => R1p c i (Or.inr (by omega)))
  obtain ⟨S2, L2⟩ := env H2 (q2.mono R1r)
  refine ⟨L2, S2.1, S2, y, rfl, fun H3 e3 => ?_⟩
  have q3 : only H H3 R1 := by rw [e3]; exact q2.then (by rw [hR1]; exact Or.inr (Or.inr ⟨Or.inr (Or.inr rfl), rfl⟩))
  obtain ⟨S3, L3⟩ := env H3 (q3.mono R1r)
  have l3 : lst H3 (p + 12) 0 (comeL M r) := by
    intro k x hx
    rw [e3, hg_ne _ (by omega), o2.2.2 _ _ (by omega)]
    exact l1 k x hx
  have b3 : ∀ x ∈ comeL M r, hg H3 (p + 14) x = baseM M r x := fun x hx => by rw [e3, hg_ne _ (by omega)]; exact b2 x hx
  refine CL.mono (k_prepare (r := r) S3 (s_Pla_Sea_1 L3) (sA_Pla_12 L3) (sA_Pla_14 L3) (by omega) (by omega) (by omega) l3 hCf hCn b3) ?_
  rintro v H4 ⟨rfl, o4, E4, R4, z4⟩
  have q4 : only H H4 R1 := q3.trans (o4.mono fun c i h => R1p c i (Or.inl h))
  obtain ⟨S4, L4⟩ := env H4 (q4.mono R1r)
  refine ⟨L4, S4.1, S4, rfl, ?_⟩
  obtain ⟨W, hW⟩ : ∃ W, W = (comeL M r).take 7 := ⟨_, rfl⟩
  rw [← hW] at E4 R4
  have hWl : W.length = min 7 (comeL M r).length := by rw [hW, List.length_take]
  have hWf : ∀ x ∈ W, fl M x := fun x hx => hCf x (by rw [hW] at hx; exact List.mem_of_mem_take hx)
  have hWd : W.Nodup := by rw [hW]; exact hCd.sublist (List.take_sublist _ _)
  refine CL.mono (k_findBest (r := r) E4 hM hWf hWd (by omega) R4 z4) ?_
  rintro v H5 ⟨rfl, o5, -, hbest⟩
  have q5 : only H H5 R1 := q4.trans (o5.mono fun c i h => R1p c i (Or.inl (pFB_sea c i h)))
  obtain ⟨S5, L5⟩ := env H5 (q5.mono R1r)
  refine ⟨L5, S5.1, S5, rfl, by omega, ?_⟩
  have l5 : lst H5 (p + 12) 0 (comeL M r) := by
    intro k x hx
    have f1 : ¬ pFB (p + 1) (p + 12) (0 + (k : Int)) := by rintro (⟨z, -⟩ | ⟨z, -⟩ | ⟨z, -⟩ | z | z) <;> omega
    have f2 : ¬ pSea (p + 1) (p + 12) (0 + (k : Int)) := by rintro (⟨z, -⟩ | ⟨z1, z2⟩) <;> omega
    rw [o5.2.2 _ _ f1, o4.2.2 _ _ f2]
    exact l3 k x hx
  have g50 : hg H5 (p + 1) 0 = W.length := by
    have f1 : ¬ pFB (p + 1) (p + 1) 0 := by rintro (⟨-, z⟩ | ⟨z, -⟩ | ⟨z, -⟩ | z | z) <;> omega
    rw [o5.2.2 _ _ f1]
    exact E4.2.1.1
  have hbw : (rdL H5 (p + 11) 0 W.length).map (wB W) = (bestW M r).2 := by
    rw [show p + 11 = p + 1 + 10 by omega, hbest, hW]
    rfl
  have hbl : (bestW M r).2.length = W.length := by rw [← hbw, List.length_map, rdL_len]
  have pat : ∀ k : Nat, k < W.length → ∀ hk : k < (planL M r).length, (0 ≤ hg H5 (p + 11) k ∧ hg H5 (p + 11) k < W.length) ∧ hg H5 (p + 12) (hg H5 (p + 11) k) = (planL M r)[k] := by
    intro k hk hk2
    have h1 : ((rdL H5 (p + 11) 0 W.length).map (wB W))[k]? = some (wB W (hg H5 (p + 11) k)) := by
      rw [List.getElem?_map, rdL_at hk, Int.zero_add]
      rfl
    rw [hbw] at h1
    have h2 : (planL M r)[k]? = some (wB W (hg H5 (p + 11) k)) := by
      unfold planL
      rw [List.getElem?_append_left (by omega)]
      exact h1
    have h3 : (planL M r)[k] = wB W (hg H5 (p + 11) k) := by rw [List.getElem?_eq_getElem hk2] at h2; exact Option.some.inj h2
    have h4 : 0 ≤ (planL M r)[k] := (hCf _ ((pp3 _).mp (List.getElem_mem hk2))).1
    have h5 : 0 ≤ hg H5 (p + 11) k ∧ hg H5 (p + 11) k < W.length := by
      refine Decidable.byContradiction fun z => ?_
      rw [h3, wB, if_neg z] at h4
      omega
    refine ⟨h5, ?_⟩
    rw [h3, wB, if_pos h5]
    obtain ⟨m, hm⟩ := Int.eq_ofNat_of_zero_le h5.1
    rw [hm] at h5 ⊢
    have hmC : m < (comeL M r).length := by omega
    have := l5.at hmC
    rw [Int.zero_add] at this
    rw [this, wAt_eq (by omega)]
    simp only [hW, Int.toNat_natCast, List.getElem_take]
  have pbt : ∀ k : Nat, W.length ≤ k → ∀ hk : k < (planL M r).length, hg H5 (p + 12) k = (planL M r)[k] := by
    intro k hk hk2
    have hkC : k < (comeL M r).length := by omega
    have := l5.at hkC
    rw [Int.zero_add] at this
    rw [this]
    have h7 : W.length = 7 := by omega
    have h2 : (planL M r)[k]? = (comeL M r)[k]? := by
      unfold planL
      rw [List.getElem?_append_right (by omega), List.getElem?_drop, hbl, h7]
      congr 1
      omega
    rw [List.getElem?_eq_getElem hk2, List.getElem?_eq_getElem hkC] at h2
    exact (Option.some.inj h2).symm
  have keep5 : ∀ H6, only H5 H6 (fun c i => c = b + 19 ∧ r * 24 ≤ i ∧ i < r * 24 + 24) → only H H6 R1 := fun H6 o6 => q5.trans (o6.mono fun c i h => by rw [hR1]; exact Or.inr (Or.inl h))
  have key : ∀ j, j ≤ (comeL M r).length → ∀ H6, only H5 H6 (fun c i => c = b + 19 ∧ r * 24 ≤ i ∧ i < r * 24 + 24) → lst H6 (b + 19) (r * 24) ((planL M r).take j) → AW l G mX2_refresh (d + 1) 0 0 (fun v H' => v = vV ∧ only H H' (pRf p b) ∧ SX H' b M ∧ Lay LPla H' p ∧ hg H' (b + 21) r = 1 ∧ ∀ q, 0 ≤ q ∧ q < 3 → hg H (b + 21) q = 1 → hg H' (b + 21) q = 1) 63 [vR p, vR b, vI r, vI (comeL M r).length, vI (r * 24), vI j] [] 0 0 H6 := by
    refine upN _ ?_ ?_
    · intro j hj ih H6 o6 l6
      obtain ⟨S6, L6⟩ := env H6 ((keep5 H6 o6).mono R1r)
      have hjp : j < (planL M r).length := by omega
      have v12 : ∀ i, hg H6 (p + 12) i = hg H5 (p + 12) i := fun i => o6.2.2 _ _ (by omega)
      have v11 : ∀ i, hg H6 (p + 11) i = hg H5 (p + 11) i := fun i => o6.2.2 _ _ (by omega)
      have v1 : hg H6 (p + 1) 0 = W.length := (o6.2.2 _ _ (by omega)).trans g50
      have step : ∀ x, x = (planL M r)[j] → ∀ H7, H7 = hs H6 (b + 19) (r * 24 + j) x → (-2147483648 ≤ (j : Int) + 1 ∧ (j : Int) + 1 ≤ 2147483647) ∧ AW l G mX2_refresh (d + 1) 0 0 (fun v H' => v = vV ∧ only H H' (pRf p b) ∧ SX H' b M ∧ Lay LPla H' p ∧ hg H' (b + 21) r = 1 ∧ ∀ q, 0 ≤ q ∧ q < 3 → hg H (b + 21) q = 1 → hg H' (b + 21) q = 1) 63 [vR p, vR b, vI r, vI (comeL M r).length, vI (r * 24), vI (j + 1)] [] 0 0 H7 := by
        intro x hx H7 e7
        refine ⟨by omega, ih H7 (by rw [e7]; exact o6.then ⟨rfl, by omega, by omega⟩) ?_⟩
        rw [List.take_succ_eq_append_getElem hjp]
        have hlen : ((planL M r).take j).length = j := by rw [List.length_take]; omega
        refine lst.snoc ?_ ?_
        · intro i y hy9
          have hi := (List.getElem?_eq_some_iff.mp hy9).1
          rw [e7, hg_ne _ (by omega)]
          exact l6 i y hy9
        · rw [hlen, e7, hg_same, hx]
      refine s_X2_refresh_63 S6 L6 hsep ?_
      rw [v1]
      refine ⟨fun c => absurd c (by omega), fun _ => ⟨by omega, fun c => ⟨by omega, by omega, ?_⟩, fun c => ?_⟩⟩
      · rw [v12]
        exact step _ (pbt j (by omega) hjp)
      · obtain ⟨h1, h2⟩ := pat j (by omega) hjp
        rw [v12, v11]
        exact ⟨by omega, by omega, by omega, step _ h2⟩
    · intro H6 o6 l6
      have q6 := keep5 H6 o6
      obtain ⟨S6, L6⟩ := env H6 (q6.mono R1r)
      rw [List.take_of_length_le (by omega)] at l6
      refine s_X2_refresh_63 S6 L6 hsep ⟨fun _ => ⟨hr3, fun H7 e7 => ?_⟩, fun c => absurd c (by omega)⟩
      have q7 : only H H7 R1 := by rw [e7]; exact q6.then (by rw [hR1]; exact Or.inr (Or.inr ⟨Or.inl rfl, rfl⟩))
      obtain ⟨S7, L7⟩ := env H7 (q7.mono R1r)
      have l7 : lst H7 (b + 19) (r * 24) (planL M r) := fun i x hx => by rw [e7, hg_ne _ (by omega)]; exact l6 i x hx
      have b7 : ∀ x ∈ planL M r, hg H7 (p + 14) x = baseM M r x := fun x hx => by
        have f1 : ¬ pFB (p + 1) (p + 14) x := by rintro (⟨z, -⟩ | ⟨z, -⟩ | ⟨z, -⟩ | z | z) <;> omega
        have f2 : ¬ pSea (p + 1) (p + 14) x := by rintro (⟨z, -⟩ | ⟨z1, z2⟩) <;> omega
        rw [e7, hg_ne _ (by omega), o6.2.2 _ _ (by omega), o5.2.2 _ _ f1, o4.2.2 _ _ f2]
        exact b3 x ((pp3 x).mp hx)
      have st := k_setTimes (l := l) (G := G) (d := d) (r := r) (o := r * 24) S7 L7 (sA_Sta_19 S7.1) (sA_Sta_16 S7.1) ⟨hsep, Or.inr (Or.inr rfl)⟩ ⟨by omega, by omega⟩ ⟨by omega, by omega, by omega⟩ l7 (fun x hx => hCf x ((pp3 x).mp hx)) pp1 (by omega) b7
      rw [pp2] at st
      refine CL.mono st ?_
      rintro v H8 ⟨rfl, o8, t8⟩
      have w8 : only H H8 (pRf p b) := (q7.mono R1r).trans (o8.mono fun c i h => Or.inr (Or.inl h.1))
      obtain ⟨S8, L8⟩ := env H8 w8
      refine ⟨L8, S8.1, S8, rfl, fun H9 e9 => ?_⟩
      have w9 : only H H9 (pRf p b) := by rw [e9]; exact w8.then (Or.inr (Or.inr (by omega)))
      obtain ⟨S9, L9⟩ := env H9 w9
      have nR : ∀ i, ¬ R1 (b + 16) i := fun i z => by
        rw [hR1] at z
        rcases z with z | z | z
        · have := pPla_in z; omega
        · omega
        · omega
      have t9 : ∀ i, i ∉ planL M r → hg H9 (b + 16) i = hg H (b + 16) i := fun i hi => by rw [e9, hg_ne _ (by omega), o8.2.2 _ _ (fun z => hi z.2), q7.2.2 _ _ (nR i)]
      have tp : ∀ t ∈ tmS M r [] (planL M r), hg H9 (b + 16) t.1 = t.2 := fun t ht => by rw [e9, hg_ne _ (by omega)]; exact t8 t ht
      have a20 : hg H9 (b + 20) r = (comeL M r).length := by rw [e9, hg_ne _ (by omega), o8.2.2 _ _ (by omega), e7, hg_same]
      have oth : ∀ c i, (b + 19 ≤ c ∧ c ≤ b + 22) → ¬ R1 c i → hg H9 c i = hg H c i := fun c i h1 h2 => by
        have : ¬ (c = b + 21 ∧ i = r) := fun z => h2 (by rw [hR1]; exact Or.inr (Or.inr ⟨Or.inr (Or.inl z.1), z.2⟩))
        rw [e9, hg_ne _ (by omega), o8.2.2 _ _ (by omega), q7.2.2 _ _ h2]
      have nR2 : ∀ c i, (b + 19 ≤ c ∧ c ≤ b + 22) → ¬ (c = b + 19 ∧ r * 24 ≤ i ∧ i < r * 24 + 24) → (c = b + 19 ∨ i ≠ r) → ¬ R1 c i := fun c i h1 h2 h3 z => by
        rw [hR1] at z
        rcases z with z | z | z
        · have := pPla_in z; omega
        · exact h2 z
        · omega
      refine ⟨rfl, w9, ⟨S9, ⟨fun i i1 i2 => ?_, fun f hf h7 => ?_⟩, fun q hq => ?_⟩, L9, by rw [e9, hg_same], fun q hq h => ?_⟩
      · by_cases hi : i ∈ planL M r
        · rw [← plan_fst M r] at hi
          obtain ⟨t, ht, rfl⟩ := List.mem_map.mp hi
          rw [tp t ht]
          exact pt_in hM ht
        · rw [t9 i hi]; exact hT.1 i i1 i2
      · have : f ∉ planL M r := fun z => by have := ((comeL_mem hM).mp ((pp3 f).mp z)).2.1; omega
        rw [t9 f this]
        exact hT.2 f hf h7
      · by_cases e : q = r
        · subst e
          refine ⟨by rw [a20]; omega, Or.inr ⟨by rw [e9, hg_same], a20, ?_, tp, fun f hf => ?_⟩⟩
          · intro k x hx
            rw [e9, hg_ne _ (by omega), o8.2.2 _ _ (by omega), Int.mul_comm]
            exact l7 k x hx
          · have f1 : ¬ pFB (p + 1) (b + 22) q := by rintro (⟨z, -⟩ | ⟨z, -⟩ | ⟨z, -⟩ | z | z) <;> omega
            have f2 : ¬ pSea (p + 1) (b + 22) q := by rintro (⟨z, -⟩ | ⟨z1, z2⟩) <;> omega
            have : hg H9 (b + 22) q = y := by rw [e9, hg_ne _ (by omega), o8.2.2 _ _ (by omega), e7, hg_ne _ (by omega), o6.2.2 _ _ (by omega), o5.2.2 _ _ f1, o4.2.2 _ _ f2, e3, hg_same]
            rw [this]
            exact hyb f hf
        · obtain ⟨h1, h2⟩ := hF q hq
          have c20 := oth (b + 20) q (by omega) (nR2 _ _ (by omega) (by omega) (Or.inr e))
          have c21 := oth (b + 21) q (by omega) (nR2 _ _ (by omega) (by omega) (Or.inr e))
          refine ⟨by rw [c20]; exact h1, ?_⟩
          rw [c21]
          rcases h2 with h2 | ⟨h2, h3⟩
          · exact Or.inl h2
          · refine Or.inr ⟨h2, h3.keep hM c20 (fun i i1 i2 => oth (b + 19) i (by omega) (nR2 _ _ (by omega) (by omega) (Or.inl rfl))) (fun f hf => t9 f fun z => ?_) (oth (b + 22) q (by omega) (nR2 _ _ (by omega) (by omega) (Or.inr e)))⟩
            have z1 := ((comeL_mem hM).mp ((pp3 f).mp z)).2.2
            have z2 := ((comeL_mem hM).mp hf).2.2
            exact e (by rw [← z1, ← z2])
      · by_cases e : q = r
        · rw [e, e9, hg_same]
        · rw [oth (b + 21) q (by omega) (nR2 _ _ (by omega) (by omega) (Or.inr e))]; exact h
  exact key 0 (Nat.zero_le _) H5 only.rf (fun k x hx => by simp at hx)
end
