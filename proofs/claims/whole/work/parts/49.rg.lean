/-! the class's planner: what rests on plans -/
section
variable {l : Launch} {G : GT}
theorem FR.at {H : AH} {b r : Int} {M : Row} (h : FR H b M) (hM : okM M) (hr : rl M r) (h1 : hg H (b + 21) r = 1) : Frs H b M r := by
  have h5 := okM_5 hM
  rcases (h r ⟨hr.1, by have := hr.2; omega⟩).2 with q | q
  · omega
  · exact q.2
/-- plans made, the row as it was -/
abbrev rfQ (p b : Int) (M : Row) (H H' : AH) : Prop := only H H' (pRf p b) ∧ SX H' b M ∧ Lay LPla H' p
theorem rfQ.rf {p b : Int} {M : Row} {H : AH} (h : SX H b M) (hP : Lay LPla H p) : rfQ p b M H H := ⟨only.rf, h, hP⟩
theorem k_refreshAll {d : Nat} {H : AH} {p b : Int} {M : Row} (hX : SX H b M) (hP : Lay LPla H p) (hsep : b + 23 ≤ p ∨ p + 17 ≤ b) (hd : 12 ≤ d := by omega) :
    CL l G mX2_refreshAll d 0 0 [vR p, vR b] H (fun v H' => v = vV ∧ rfQ p b M H H' ∧ FrA H' b M) := by
  obtain ⟨d, rfl⟩ : ∃ k, d = k + 1 := ⟨d - 1, by omega⟩
  have hM := hX.1.2.1
  have h5 := okM_5 hM
  refine CL.of (by decide) rfl (Nat.le_of_ble_eq_true rfl) (s_X2_refreshAll_0 hX.1 hP hsep ?_)
  have key : ∀ j, j ≤ (M 5).toNat → ∀ H1, rfQ p b M H H1 → (∀ q : Int, 0 ≤ q → q < j → hg H1 (b + 21) q = 1) → AW l G mX2_refreshAll (d + 1) 0 0 (fun v H' => v = vV ∧ rfQ p b M H H' ∧ FrA H' b M) 2 [vR p, vR b, vI j] [] 0 0 H1 := by
    refine upN _ ?_ ?_
    · intro j hj ih H1 w1 f1
      obtain ⟨o1, X1, L1⟩ := w1
      refine s_X2_refreshAll_2 X1.1 L1 hsep ⟨fun c => absurd c (by omega), fun _ => CL.mono (k_refresh X1 L1 hsep ⟨by omega, by omega⟩) ?_⟩
      rintro v H2 ⟨rfl, o2, X2, L2, g2, k2⟩
      refine ⟨L2, X2.1.1, X2.1, rfl, by omega, ih H2 ⟨o1.trans o2, X2, L2⟩ (fun q q1 q2 => ?_)⟩
      by_cases e : q = j
      · rw [e]; exact g2
      · exact k2 q (by omega) (f1 q q1 (by omega))
    · intro H1 w1 f1
      obtain ⟨o1, X1, L1⟩ := id w1
      exact s_X2_refreshAll_2 X1.1 L1 hsep ⟨fun _ => ⟨rfl, w1, fun r r1 r2 => X1.2.2.at hM ⟨r1, r2⟩ (f1 r r1 (by omega))⟩, fun c => absurd c (by omega)⟩
  exact key 0 (Nat.zero_le _) H (rfQ.rf hX hP) (fun q q1 q2 => by omega)
theorem k_timeIn {d : Nat} {H : AH} {p b f : Int} {M : Row} (hX : SX H b M) (hP : Lay LPla H p) (hsep : b + 23 ≤ p ∨ p + 17 ≤ b) (hf : fl M f) (h3 : ¬ ofM M f 7 = 3) (hd : 12 ≤ d := by omega) :
    CL l G mX2_timeIn d 0 0 [vR p, vR b, vI f] H (fun v H' => v = vI (tmNow M f) ∧ rfQ p b M H H') := by
  obtain ⟨d, rfl⟩ : ∃ k, d = k + 1 := ⟨d - 1, by omega⟩
  have hM := hX.1.2.1
  have hn := okM_n hM
  obtain ⟨-, -, -, -, -, -, h6, h7, -⟩ := hM.2 f hf.1 hf.2
  refine CL.of (by decide) rfl (Nat.le_of_ble_eq_true rfl) (s_X2_timeIn_0 hX.1 hP hsep ⟨hf, fun c => ⟨by omega, ?_, rfQ.rf hX hP⟩, fun c => CL.mono (k_refresh hX hP hsep h6) ?_⟩)
  · rw [hX.2.1.2 f hf (by omega), tmNow, if_neg c]
  · rintro v H1 ⟨rfl, o1, X1, L1, g1, -⟩
    refine ⟨L1, X1.1.1, X1.1, rfl, by omega, ?_, o1, X1, L1⟩
    rw [(X1.2.2.at hM h6 g1).time hM hf c, tmNow, if_pos c]
theorem k_wholeCost {d : Nat} {H : AH} {p b : Int} {M : Row} (hX : SX H b M) (hP : Lay LPla H p) (hsep : b + 23 ≤ p ∨ p + 17 ≤ b) (hd : 12 ≤ d := by omega) :
    CL l G mX2_wholeCost d 0 0 [vR p, vR b] H (fun v H' => v = vJ (totM M) ∧ rfQ p b M H H') := by
  obtain ⟨d, rfl⟩ : ∃ k, d = k + 1 := ⟨d - 1, by omega⟩
  have hM := hX.1.2.1
  have h5 := okM_5 hM
  have hn := okM_n hM
  refine CL.of (by decide) rfl (Nat.le_of_ble_eq_true rfl) (s_X2_wholeCost_0 hX.1 hP hsep ?_)
  have sec : ∀ H1, rfQ p b M H H1 → FrA H1 b M → ∀ j, j ≤ (M 6).toNat → AW l G mX2_wholeCost (d + 1) 0 0 (fun v H' => v = vJ (totM M) ∧ rfQ p b M H H') 30 [vR p, vR b, vJ (sm (fun k => cNow M k) j), vU, vI j] [] 0 0 H1 := by
    intro H1 w1 fA
    obtain ⟨o1, X1, L1⟩ := id w1
    refine upN _ ?_ ?_
    · intro j hj ih
      have hjf : fl M j := ⟨by omega, by omega⟩
      have cn := cNow_in hM hjf
      have h9 := sm_in (f := fun k => cNow M k) (lo := 0) (hi := 5000000000) (n := j) (fun k hk => cNow_in hM ⟨by omega, by omega⟩)
      refine s_X2_wholeCost_30 X1.1 L1 hsep ⟨fun c => absurd c (by omega), fun _ => ⟨hjf, fun c => ⟨by omega, ?_⟩, fun c => ?_⟩⟩
      · have e : cNow M j = 0 := by unfold cNow; rw [if_pos c]
        rw [sm, e, Int.add_zero] at ih
        exact ih
      · have e : cNow M j = costM M j (tmNow M j) := by unfold cNow; rw [if_neg c]
        have t := tmNow_in hM hjf c
        rw [fA.now hM X1.2.1 hjf c, ← e]
        exact ⟨by omega, hjf, by omega, by omega, by omega, ih⟩
    · exact s_X2_wholeCost_30 X1.1 L1 hsep ⟨fun _ => ⟨rfl, w1⟩, fun c => absurd c (by omega)⟩
  have key : ∀ j, j ≤ (M 5).toNat → ∀ H1, rfQ p b M H H1 → (∀ q : Int, 0 ≤ q → q < j → hg H1 (b + 21) q = 1) → AW l G mX2_wholeCost (d + 1) 0 0 (fun v H' => v = vJ (totM M) ∧ rfQ p b M H H') 2 [vR p, vR b, vI j, vU, vU] [] 0 0 H1 := by
    refine upN _ ?_ ?_
    · intro j hj ih H1 w1 f1
      obtain ⟨o1, X1, L1⟩ := w1
      refine s_X2_wholeCost_2 X1.1 L1 hsep ⟨fun c => absurd c (by omega), fun _ => CL.mono (k_refresh X1 L1 hsep ⟨by omega, by omega⟩) ?_⟩
      rintro v H2 ⟨rfl, o2, X2, L2, g2, k2⟩
      refine ⟨L2, X2.1.1, X2.1, rfl, by omega, ih H2 ⟨o1.trans o2, X2, L2⟩ (fun q q1 q2 => ?_)⟩
      by_cases e : q = j
      · rw [e]; exact g2
      · exact k2 q (by omega) (f1 q q1 (by omega))
    · intro H1 w1 f1
      obtain ⟨o1, X1, L1⟩ := id w1
      exact s_X2_wholeCost_2 X1.1 L1 hsep ⟨fun _ => sec H1 w1 (fun r r1 r2 => X1.2.2.at hM ⟨r1, r2⟩ (f1 r r1 (by omega))) 0 (Nat.zero_le _), fun c => absurd c (by omega)⟩
  exact key 0 (Nat.zero_le _) H (rfQ.rf hX hP) (fun q q1 q2 => by omega)
theorem ixOf_come {M : Row} (hM : okM M) {f : Int} (hf : fl M f) (hp : ofM M f 7 = 0) : (comeL M (ofM M f 6)).idxOf f < (comeL M (ofM M f 6)).length := List.idxOf_lt_length_of_mem ((comeL_mem hM).mpr ⟨hf, hp, rfl⟩)
theorem k_placeInLine {d : Nat} {H : AH} {p b f : Int} {M : Row} (hS : SK H b M) (hP : Lay LPla H p) (hsep : b + 23 ≤ p ∨ p + 17 ≤ b) (hf : fl M f) (h0 : ofM M f 7 = 0) (hd : 2 ≤ d := by omega) :
    CL l G mX2_placeInLine d 0 0 [vR p, vR b, vI f] H (fun v H' => v = vI (ixOf (comeL M (ofM M f 6)) f) ∧ only H H' (pPla p)) := by
  obtain ⟨d, rfl⟩ : ∃ k, d = k + 1 := ⟨d - 1, by omega⟩
  have hM := hS.2.1
  have hC := comeL_len hM (r := ofM M f 6)
  have hx := ixOf_come hM hf h0
  refine CL.of (by decide) rfl (Nat.le_of_ble_eq_true rfl) (s_X2_placeInLine_0 hS hP hsep ⟨hf, CL.mono (k_lineUp hS hP hsep) ?_⟩)
  rintro v H1 ⟨rfl, o1, l1⟩
  have w1 : only H H1 (pPla p) := o1.mono fun c i h => Or.inr (by omega)
  have S1 := skO hS w1 (pPla_nrf hP) (pPla_off hsep)
  have L1 := hP.only ok_Pla w1 (pPla_nrf hP)
  refine ⟨L1, S1.1, S1, _, rfl, ?_⟩
  have key : ∀ j, j ≤ (comeL M (ofM M f 6)).idxOf f → AW l G mX2_placeInLine (d + 1) 0 0 (fun v H' => v = vI (ixOf (comeL M (ofM M f 6)) f) ∧ only H H' (pPla p)) 15 [vR p, vR b, vI f, vI (comeL M (ofM M f 6)).length, vI j] [] 0 0 H1 := by
    refine upN _ ?_ ?_
    · intro j hj ih
      have hv : hg H1 (p + 12) j = (comeL M (ofM M f 6))[j] := by have := l1.at (k := j) (by omega); rwa [Int.zero_add] at this
      refine s_X2_placeInLine_15 S1 L1 hsep ?_
      rw [hv]
      refine ⟨fun c => absurd c (by omega), fun _ => ⟨by omega, fun c => ⟨by omega, ih⟩, fun c => ?_⟩⟩
      have := List.not_of_lt_findIdx (p := (· == f)) (xs := comeL M (ofM M f 6)) hj
      simp [c] at this
    · have hv : hg H1 (p + 12) ((comeL M (ofM M f 6)).idxOf f : Nat) = (comeL M (ofM M f 6))[(comeL M (ofM M f 6)).idxOf f] := by have := l1.at (k := (comeL M (ofM M f 6)).idxOf f) hx; rwa [Int.zero_add] at this
      rw [List.getElem_idxOf] at hv
      refine s_X2_placeInLine_15 S1 L1 hsep ?_
      rw [hv]
      exact ⟨fun c => absurd c (by omega), fun _ => ⟨by omega, fun c => absurd rfl c, fun _ => ⟨rfl, w1⟩⟩⟩
  exact key 0 (Nat.zero_le _)
theorem ST.only {H H' : AH} {b : Int} {M : Row} {P : Int → Int → Prop} (h : ST H b M) (ho : only H H' P) (hP : ∀ i, ¬ P (b + 16) i) : ST H' b M :=
  ⟨fun i a1 a2 => by rw [ho.2.2 _ _ (hP i)]; exact h.1 i a1 a2, fun f a1 a2 => by rw [ho.2.2 _ _ (hP f)]; exact h.2 f a1 a2⟩
theorem k_costInLine {d : Nat} {H : AH} {p b r : Int} {M : Row} (hS : SK H b M) (hT : ST H b M) (hP : Lay LPla H p) (hsep : b + 23 ≤ p ∨ p + 17 ≤ b) (hd : 2 ≤ d := by omega) :
    CL l G mX2_costInLine d 0 0 [vR p, vR b, vI r] H (fun v H' => v = vJ (csum M (tmS M r [] (comeL M r))) ∧ only H H' (pPla p)) := by
  obtain ⟨d, rfl⟩ : ∃ k, d = k + 1 := ⟨d - 1, by omega⟩
  have hM := hS.2.1
  have hC := comeL_len hM (r := r)
  have hCf : ∀ x ∈ comeL M r, fl M x := fun x hx => ((comeL_mem hM).mp hx).1
  have hCd : (comeL M r).Nodup := comeN_nodup
  have env : ∀ H1, only H H1 (pPla p) → SK H1 b M ∧ Lay LPla H1 p := fun H1 ho => ⟨skO hS ho (pPla_nrf hP) (pPla_off hsep), hP.only ok_Pla ho (pPla_nrf hP)⟩
  refine CL.of (by decide) rfl (Nat.le_of_ble_eq_true rfl) (s_X2_costInLine_0 hS hP hsep (CL.mono (k_lineUp hS hP hsep) ?_))
  rintro v H1 ⟨rfl, o1, l1⟩
  have w1 : only H H1 (pPla p) := o1.mono fun c i h => Or.inr (by omega)
  obtain ⟨S1, L1⟩ := env H1 w1
  refine ⟨L1, S1.1, S1, _, rfl, CL.mono (k_setBases (r := r) S1 (hT.only o1 (fun i => by omega)) L1 hsep l1 hCf hC) ?_⟩
  rintro v H2 ⟨⟨y, rfl, hy, hyb⟩, o2, b2⟩
  have w2 : only H H2 (pPla p) := w1.trans (o2.mono fun c i h => Or.inr (by omega))
  obtain ⟨S2, L2⟩ := env H2 w2
  have l2 : lst H2 (p + 12) 0 (comeL M r) := fun k x hx => by rw [o2.2.2 _ _ (by omega)]; exact l1 k x hx
  refine ⟨L2, S2.1, S2, y, rfl, CL.mono (k_setTimes (r := r) (o := 0) S2 L2 (sA_Pla_12 L2) (sA_Pla_15 L2) ⟨hsep, by omega⟩ (by omega) (by omega) l2 hCf hCd hC b2) ?_⟩
  rintro v H3 ⟨rfl, o3, t3⟩
  have w3 : only H H3 (pPla p) := w2.trans (o3.mono fun c i h => Or.inr (by omega))
  obtain ⟨S3, L3⟩ := env H3 w3
  refine ⟨L3, S3.1, S3, rfl, ?_⟩
  have tl : (tmS M r [] (comeL M r)).length = (comeL M r).length := by rw [tmS_len]; simp
  have tf : (tmS M r [] (comeL M r)).map Prod.fst = comeL M r := by rw [tmS_fst]; rfl
  have tok := tmS_ok hM (r := r) (comeL M r) [] hCf (fun p hp => by cases hp)
  have ca := k_costAlong (l := l) (G := G) (d := d) (o := 0) (T := tmS M r [] (comeL M r)) S3 (sA_Pla_12 L3) (sA_Pla_15 L3) (by omega) (by rw [tf]; exact fun k x hx => by rw [o3.2.2 _ _ (by omega)]; exact l2 k x hx) (fun t ht => by have := tok t ht; simp only [List.length_nil, Nat.zero_add] at this; exact ⟨this.1, by omega, by omega⟩) (by omega) t3
  rw [tl] at ca
  refine CL.mono ca ?_
  rintro v H4 ⟨rfl, rfl⟩
  exact ⟨L3, S3.1, S3, _, rfl, rfl, w3⟩
theorem k_countEqual {d : Nat} {H : AH} {p b r : Int} {M : Row} (hS : SK H b M) (hT : ST H b M) (hP : Lay LPla H p) (hsep : b + 23 ≤ p ∨ p + 17 ≤ b) (hd : 11 ≤ d := by omega) :
    CL l G mX2_countEqual d 0 0 [vR p, vR b, vI r] H (fun v H' => v = vI (phi (pE (bestW M r).1) (lvW M r)) ∧ only H H' (pPla p)) := by
  obtain ⟨d, rfl⟩ : ∃ k, d = k + 1 := ⟨d - 1, by omega⟩
  have hM := hS.2.1
  have hC := comeL_len hM (r := r)
  have hCf : ∀ x ∈ comeL M r, fl M x := fun x hx => ((comeL_mem hM).mp hx).1
  have hCd : (comeL M r).Nodup := comeN_nodup
  have env : ∀ H1, only H H1 (pPla p) → SK H1 b M ∧ Lay LPla H1 p := fun H1 ho => ⟨skO hS ho (pPla_nrf hP) (pPla_off hsep), hP.only ok_Pla ho (pPla_nrf hP)⟩
  refine CL.of (by decide) rfl (Nat.le_of_ble_eq_true rfl) (s_X2_countEqual_0 hS hP hsep (CL.mono (k_lineUp hS hP hsep) ?_))
  rintro v H1 ⟨rfl, o1, l1⟩
  have w1 : only H H1 (pPla p) := o1.mono fun c i h => Or.inr (by omega)
  obtain ⟨S1, L1⟩ := env H1 w1
  refine ⟨L1, S1.1, S1, _, rfl, CL.mono (k_setBases (r := r) S1 (hT.only o1 (fun i => by omega)) L1 hsep l1 hCf hC) ?_⟩
  rintro v H2 ⟨⟨y, rfl, hy, hyb⟩, o2, b2⟩
  have w2 : only H H2 (pPla p) := w1.trans (o2.mono fun c i h => Or.inr (by omega))
  obtain ⟨S2, L2⟩ := env H2 w2
  have l2 : lst H2 (p + 12) 0 (comeL M r) := fun k x hx => by rw [o2.2.2 _ _ (by omega)]; exact l1 k x hx
  refine ⟨L2, S2.1, S2, y, rfl, CL.mono (k_prepare (r := r) S2 (s_Pla_Sea_1 L2) (sA_Pla_12 L2) (sA_Pla_14 L2) (by omega) (by omega) (by omega) l2 hCf hC b2) ?_⟩
  rintro v H3 ⟨rfl, o3, E3, R3, z3⟩
  have w3 : only H H3 (pPla p) := w2.trans (o3.mono fun c i h => Or.inl h)
  obtain ⟨S3, L3⟩ := env H3 w3
  have hWl : ((comeL M r).take 7).length ≤ 7 := by rw [List.length_take]; omega
  have hWf : ∀ x ∈ (comeL M r).take 7, fl M x := fun x hx => hCf x (List.mem_of_mem_take hx)
  have hWd : ((comeL M r).take 7).Nodup := hCd.sublist (List.take_sublist _ _)
  refine ⟨L3, S3.1, S3, rfl, CL.mono (k_findBest (r := r) E3 hM hWf hWd hWl R3 z3) ?_⟩
  rintro v H4 ⟨rfl, o4, hb4, -⟩
  have w4 : only H H4 (pPla p) := w3.trans (o4.mono fun c i h => Or.inl (pFB_sea c i h))
  obtain ⟨S4, L4⟩ := env H4 w4
  have E4 := seO E3 o4 (pFB_nrf E3.1) pFB_off
  have R4 : RT H4 (p + 1) M r ((comeL M r).take 7) 0 [] 0 := fun m hm q => by
    rw [o4.2.2 _ _ (by rintro (⟨z, -⟩ | ⟨-, z⟩ | ⟨z, -⟩ | z | z) <;> omega)]
    exact R3 m hm q
  have z4 : hg H4 (p + 1 + 8) 0 = 0 := by
    rw [o4.2.2 _ _ (by rintro (⟨z, -⟩ | ⟨z, -⟩ | ⟨-, z⟩ | z | z) <;> omega)]
    exact z3
  refine ⟨L4, S4.1, S4, rfl, CL.mono (k_countAsGood (r := r) E4 hM hWf hWd hWl R4 z4 hb4) ?_⟩
  rintro v H5 ⟨rfl, o5⟩
  have w5 : only H H5 (pPla p) := w4.trans (o5.mono fun c i h => Or.inl (pFB_sea c i h))
  obtain ⟨S5, L5⟩ := env H5 w5
  exact ⟨L5, S5.1, S5, _, rfl, rfl, w5⟩
end
