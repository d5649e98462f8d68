/-! the class: what is changed, what would be -/
theorem upM_id (M : Row) (k : Int) : upM M k (M k) = M := by
  funext j
  unfold upM
  split
  · rename_i h; rw [h]
  · rfl
theorem upM_upM (M : Row) (k x y : Int) : upM (upM M k x) k y = upM M k y := by
  funext j
  unfold upM
  split <;> rfl
/-- settings alone -/
theorem SS_set {H H' : AH} {b k x : Int} {M : Row} (h : SS H b M) (hk : k = 1 ∨ (8 ≤ k ∧ k < 24)) (h7 : M 7 ≤ 24)
    (e : ∀ o i, 0 ≤ o → o ≤ 18 → o ≠ 6 → o ≠ 7 → o ≠ 16 → ¬ (k = 1 ∧ o = 1 ∧ i = 2) → ¬ (8 ≤ k ∧ o = 2 ∧ i = k - 8) → hg H' (b + o) i = hg H (b + o) i) (v1 : k = 1 → hg H' (b + 1) 2 = x) (v2 : 8 ≤ k → hg H' (b + 2) (k - 8) = x) : SS H' b (upM M k x) := by
  obtain ⟨⟨a1, a2⟩, ⟨a3, a4, a5, a6, a7⟩, ⟨a8, a9, a10⟩, a11, a12, a13⟩ := h
  have u : ∀ j, j ≠ k → upM M k x j = M j := fun j hj => upM_ne _ hj
  have E : ∀ o i, 3 ≤ o → o ≤ 18 → o ≠ 6 → o ≠ 7 → o ≠ 16 → hg H' (b + o) i = hg H (b + o) i := fun o i h1 h2 h3 h4 h5 => e o i (by omega) h2 h3 h4 h5 (by omega) (by omega)
  have E0 : ∀ i, hg H' b i = hg H b i := fun i => by have := e 0 i (by omega) (by omega) (by omega) (by omega) (by omega) (by omega) (by omega); rwa [Int.add_zero] at this
  refine ⟨⟨?_, ?_⟩, ⟨?_, ?_, ?_, ?_, ?_⟩, ⟨fun j hj => ?_, fun j hj => ?_, fun j hj => ?_⟩, ?_, fun g hg' => ?_, fun j hj => ?_⟩
  · rw [E0, u 0 (by omega)]; exact a1
  · rw [E0, u 7 (by omega)]; exact a2
  · rw [e 1 _ (by omega) (by omega) (by omega) (by omega) (by omega) (by omega) (by omega), u 5 (by omega)]; exact a3
  · rw [e 1 _ (by omega) (by omega) (by omega) (by omega) (by omega) (by omega) (by omega), u 4 (by omega)]; exact a4
  · by_cases c : k = 1
    · rw [v1 c, c, upM_same]
    · rw [e 1 _ (by omega) (by omega) (by omega) (by omega) (by omega) (by omega) (by omega), u 1 (by omega)]; exact a5
  · rw [e 1 _ (by omega) (by omega) (by omega) (by omega) (by omega) (by omega) (by omega), u 2 (by omega)]; exact a6
  · rw [e 1 _ (by omega) (by omega) (by omega) (by omega) (by omega) (by omega) (by omega), u 3 (by omega)]; exact a7
  · by_cases c : 8 + j = k
    · have := v2 (by omega)
      rw [show k - 8 = j by omega] at this
      rw [this, c, upM_same]
    · rw [e 2 _ (by omega) (by omega) (by omega) (by omega) (by omega) (by omega) (by omega), u _ c]; exact a8 j hj
  · rw [E 3 _ (by omega) (by omega) (by omega) (by omega) (by omega), u _ (by omega)]; exact a9 j hj
  · rw [E 4 _ (by omega) (by omega) (by omega) (by omega) (by omega), u _ (by omega)]; exact a10 j hj
  · rw [E 5 _ (by omega) (by omega) (by omega) (by omega) (by omega), u 6 (by omega)]; exact a11
  · have hg0 : fl M g := by unfold fl at hg' ⊢; rw [u 6 (by omega)] at hg'; exact hg'
    have z : ∀ w, 0 ≤ w → ofM (upM M k x) g w = ofM M g w := fun w w1 => of_lo (by omega) hg0.1 w1
    rw [E 8 _ (by omega) (by omega) (by omega) (by omega) (by omega), E 9 _ (by omega) (by omega) (by omega) (by omega) (by omega), E 10 _ (by omega) (by omega) (by omega) (by omega) (by omega), E 11 _ (by omega) (by omega) (by omega) (by omega) (by omega), E 12 _ (by omega) (by omega) (by omega) (by omega) (by omega), E 13 _ (by omega) (by omega) (by omega) (by omega) (by omega), E 14 _ (by omega) (by omega) (by omega) (by omega) (by omega), E 15 _ (by omega) (by omega) (by omega) (by omega) (by omega), E 17 _ (by omega) (by omega) (by omega) (by omega) (by omega),
      z 0 (by omega), z 1 (by omega), z 2 (by omega), z 3 (by omega), z 4 (by omega), z 5 (by omega), z 6 (by omega), z 7 (by omega), z 9 (by omega)]
    exact a12 g hg0
  · rw [u 7 (by omega)] at hj
    rw [E 18 _ (by omega) (by omega) (by omega) (by omega) (by omega), u _ (by omega)]; exact a13 j hj
/-- a State with another setting, its plans to be forgotten -/
theorem SX_set {H H1 : AH} {b k x o i : Int} {M : Row} (hX : SX H b M) (hk : (k = 1 ∧ o = 1 ∧ i = 2) ∨ (8 ≤ k ∧ k < 24 ∧ o = 2 ∧ i = k - 8)) (hM' : okM (upM M k x)) (e1 : H1 = hs H (b + o) i x) : (SK H1 b (upM M k x) ∧ ST H1 b (upM M k x)) ∧ only H H1 (pSu b) := by
  obtain ⟨hS, hT, hF⟩ := hX
  have oo : only H H1 (pSu b) := by
    rw [e1]
    rcases hk with h | h
    · refine only.wr ⟨Or.inr (Or.inl ⟨?_, ?_⟩), ?_, ?_⟩ <;> omega
    · refine only.wr ⟨Or.inr (Or.inr (Or.inl ?_)), ?_, ?_⟩ <;> omega
  have ev : ∀ c j, ¬ (c = b + o ∧ j = i) → hg H1 c j = hg H c j := fun c j q => by rw [e1, hg_ne _ (by omega)]
  refine ⟨⟨⟨hS.1.only ok_Sta oo (fun c i q => pSt_nrf hS.1 c i q.1), hM', SS_set hS.2.2 (by omega) (okM_7 hS.2.1).2 (fun o' i' q1 q2 q3 q4 q5 q6 q7 => ev _ _ (by omega)) (fun q => ?_) (fun q => ?_)⟩, ⟨fun j j1 j2 => ?_, fun f hf h7 => ?_⟩⟩, oo⟩
  · rcases hk with h | h
    · rw [e1, h.2.1, h.2.2, hg_same]
    · omega
  · rcases hk with h | h
    · omega
    · rw [e1, h.2.2.1, h.2.2.2, hg_same]
  · rw [ev _ _ (by omega)]; exact hT.1 j j1 j2
  · have hf0 : fl M f := by unfold fl at hf ⊢; rw [upM_ne _ (by omega)] at hf; exact hf
    rw [of_lo (by omega) hf0.1 (by omega)] at h7
    rw [ev _ _ (by omega), of_lo (by omega) hf0.1 (by omega)]
    exact hT.2 f hf0 h7
section
variable {l : Launch} {G : GT} {H : AH} {x : Int} {M : Row} {d : Nat}
theorem su_tm {p b : Int} {A B : AH} (h : only A B (pSu b)) : only A B (pTm p b) := h.mono fun c i q => Or.inr q
theorem fg_su {b : Int} {A B : AH} (h : only A B (fun c _ => c = b + 20 ∨ c = b + 21)) : only A B (pSu b) := h.mono fun c i q => pSu_hi (by omega)
theorem fg_sx {A B : AH} {b : Int} (hS : SK A b M) (hT : ST A b M) (ho : only A B (fun c _ => c = b + 20 ∨ c = b + 21)) (hz : ∀ q, 0 ≤ q ∧ q < 3 → hg B (b + 20) q = 0 ∧ hg B (b + 21) q = 0) : SX B b M :=
  ⟨skO hS ho (fun c i h => pSt_nrf hS.1 c i (Or.inr (Or.inr (Or.inr (Or.inr (by omega)))))) (fun c i h => by unfold offS; omega), hT.only ho (fun i => by omega), FR_none hz⟩
theorem k_setShift {y : Int} (hG : GX l G) (hR : RX H x M) (hd : 7 ≤ d := by omega) : CL l G mX7_setShift d 4 24 [vR x, vI y] H (xP x (if 0 ≤ y ∧ y ≤ 4 then upM M 1 y else M) (1 - bi (decide (0 ≤ y ∧ y ≤ 4))) 0 (vI (if 0 ≤ y ∧ y ≤ 4 then M 1 else 0)) H) := by
  obtain ⟨d, rfl⟩ : ∃ k, d = k + 1 := ⟨d - 1, by omega⟩
  refine CL.of (by decide) rfl (Nat.le_of_ble_eq_true rfl) (s_X7_setShift_0 hG hR.sk hR.la ⟨fun c => ?_, fun c H1 e1 => ?_⟩)
  · rw [if_neg c]; exact xP.id hR (ans_f c).symm
  · rw [if_pos c, if_pos c]
    rw [show x + 21 = x + 20 + 1 by omega] at e1
    obtain ⟨⟨S1, T1⟩, o1⟩ := SX_set hR.sx (k := 1) (o := 1) (i := 2) (Or.inl ⟨rfl, rfl, rfl⟩) (okM_shift hR.ok c) e1
    refine CL.mono (k_forgetPlans S1) ?_
    rintro v H2 ⟨rfl, o2, z2⟩
    obtain ⟨R2, w2⟩ := hR.go (su_tm (o1.trans (fg_su o2))) (fg_sx S1 T1 o2 z2) (upM_ne _ (by omega)) (fun f w hf w1 _ => of_lo (by omega) hf.1 (by omega))
    exact ⟨_, R2.la, R2.sk, rfl, (ans_t c).symm, w2, R2⟩
theorem okM_wk9 {k z : Int} (h : okM M) (hk : 0 ≤ k ∧ k < 16) (hz : 0 ≤ z ∧ z ≤ 600) : okM (upM M (8 + k) z) := by
  obtain ⟨⟨h0, h1, h2, h3, h4, h5, h6, h7, h8, h9, h10⟩, hF⟩ := h
  have e : ∀ j, j ≠ 8 + k → upM M (8 + k) z j = M j := fun j hj => upM_ne _ hj
  refine ⟨?_, fun f q1 q2 => ?_⟩
  · unfold okS
    rw [e 0 (by omega), e 1 (by omega), e 2 (by omega), e 3 (by omega), e 4 (by omega), e 5 (by omega), e 6 (by omega), e 7 (by omega)]
    refine ⟨h0, h1, h2, h3, h4, h5, h6, h7, fun j q1 q2 => ?_, fun j q1 q2 => ?_, fun j q1 q2 => ?_⟩
    · by_cases c : j = k
      · rw [c, upM_same]; exact hz
      · rw [e _ (by omega)]; exact h8 j q1 q2
    · rw [e _ (by omega)]; exact h9 j q1 q2
    · rw [e _ (by omega)]; exact h10 j q1 q2
  · rw [e 6 (by omega)] at q2
    exact okF_same (hF f q1 q2) (e 5 (by omega)) (fun w w1 w2 => e _ (by omega))
theorem k_setWake {a b z : Int} (hG : GX l G) (hR : RX H x M) (hd : 7 ≤ d := by omega) : CL l G mX7_setWake d 4 24 [vR x, vI a, vI b, vI z] H (xP x (if okWk a b z then upM M (8 + 4 * a + b) z else M) (1 - bi (decide (okWk a b z))) 0 (vI (if okWk a b z then M (8 + 4 * a + b) else 0)) H) := by
  obtain ⟨d, rfl⟩ : ∃ k, d = k + 1 := ⟨d - 1, by omega⟩
  have no : ¬ okWk a b z → xP x (if okWk a b z then upM M (8 + 4 * a + b) z else M) (1 - bi (decide (okWk a b z))) 0 (vI (if okWk a b z then M (8 + 4 * a + b) else 0)) H (vT 0) H := fun c => by
    rw [if_neg c]; exact xP.id hR (ans_f c).symm
  refine CL.of (by decide) rfl (Nat.le_of_ble_eq_true rfl) (s_X7_setWake_0 hG hR.sk hR.la ⟨fun c => no (fun z => c z.1), fun c => ⟨fun c2 => no (fun z => c2 z.2.1), fun c2 => ⟨fun c3 => no (fun z => by have := z.2.2.1; omega), fun c3 => ⟨fun c4 => ⟨by omega, by omega, by omega, fun H1 e1 => ?_⟩, fun c4 => no (fun z => by have := z.2.2.2; omega)⟩⟩⟩⟩)
  have ok : okWk a b z := ⟨c, c2, c3, c4⟩
  rw [if_pos ok, if_pos ok, show 8 + 4 * a + b = 8 + (a * 4 + b) by omega]
  rw [show x + 22 = x + 20 + 2 by omega] at e1
  obtain ⟨⟨S1, T1⟩, o1⟩ := SX_set hR.sx (k := 8 + (a * 4 + b)) (o := 2) (i := a * 4 + b) (Or.inr ⟨by omega, by omega, rfl, by omega⟩) (okM_wk9 hR.ok (by omega) ⟨c3, c4⟩) e1
  refine CL.mono (k_forgetPlans S1) ?_
  rintro v H2 ⟨rfl, o2, z2⟩
  obtain ⟨R2, w2⟩ := hR.go (su_tm (o1.trans (fg_su o2))) (fg_sx S1 T1 o2 z2) (upM_ne _ (by omega)) (fun f w hf w1 _ => of_lo (by omega) hf.1 (by omega))
  exact ⟨_, R2.la, R2.sk, rfl, (ans_t ok).symm, w2, R2⟩
theorem k_advance {y : Int} (hG : GX l G) (hR : RX H x M) (hD : okD M) (hd : 14 ≤ d := by omega) : CL l G mX7_advance d 4 24 [vR x, vI y] H (xP x (advM M y) (1 - bi (decide (okSec y))) 0 (vI (vAdv M y)) H) := by
  obtain ⟨d, rfl⟩ : ∃ k, d = k + 1 := ⟨d - 1, by omega⟩
  have h0 := hR.ok.1.1
  refine CL.of (by decide) rfl (Nat.le_of_ble_eq_true rfl) (s_X7_advance_0 hG hR.sk hR.la ⟨fun c => ?_, fun c => ⟨by omega, fun c2 => ⟨by omega, ?_⟩, fun c2 => ?_⟩⟩)
  · rw [advM, if_neg (fun z => c z.1)]; exact xP.id hR (ans_f c).symm
  · have ht : M 0 ≤ M 0 + y ∧ M 0 + y ≤ 207200 := by omega
    have c' : okSec y ∧ M 0 + y ≤ 200000 := ⟨c, by omega⟩
    refine CL.mono (k_pass hR.sx hD hR.pl (by omega) ht (by omega)) ?_
    rintro v H1 ⟨rfl, q1, q2, q3⟩
    obtain ⟨p1, p2, p3, p4⟩ := pasM_ok hR.ok hD ht
    obtain ⟨R2, w2⟩ := hR.go q1 q2 (p3.1 6 (by omega) (by omega) (by omega)) (fun f w hf w1 w2 => p3.2 f w hf.1 (by omega) w2 (by omega) (by omega))
    rw [advM, if_pos c']
    exact ⟨_, R2.la, R2.sk, _, rfl, by rw [ans_t c, vAdv, if_pos c, if_pos c'.2], w2, R2⟩
  · rw [advM, if_neg (fun z => by have := z.2; omega)]
    exact xP.id hR (by rw [ans_t c, vAdv, if_pos c, if_neg (by omega)])
theorem nm_one {f w : Int} (hw : 0 ≤ w ∧ w < 10) {v : Int} : ∀ g u, fl M g → 10 ≤ u → u < 16 → ofM (upM M (56 + 16 * f + w) v) g u = ofM M g u := fun g u _ u1 u2 => of_ne (by omega) (by omega) (Or.inr (by omega))
theorem k_assign {f r : Int} (hG : GX l G) (hR : RX H x M) (hd : 7 ≤ d := by omega) : CL l G mX7_assign d 4 24 [vR x, vI f, vI r] H (xP x (if okAs M f r then asgM M f r else M) (1 - bi (decide (fl M f ∧ rl M r))) 1 (vI (vAsg M f r)) H) := by
  obtain ⟨d, rfl⟩ : ∃ k, d = k + 1 := ⟨d - 1, by omega⟩
  have h5 := okM_5 hR.ok
  have no : ¬ (fl M f ∧ rl M r) → xP x (if okAs M f r then asgM M f r else M) (1 - bi (decide (fl M f ∧ rl M r))) 1 (vI (vAsg M f r)) H (vT 1) H := fun c => by
    rw [if_neg (fun z => c z.1)]; exact xP.id hR (ans_f c).symm
  refine CL.of (by decide) rfl (Nat.le_of_ble_eq_true rfl) (s_X7_assign_0 hG hR.sk hR.la ⟨fun c => no (fun z => c z.1), fun c => ⟨fun c2 => no (fun z => c2 z.2), fun c2 => ⟨c, by have := c2.1; have := c2.2; omega, fun c3 => ⟨c, CL.mono (k_moveTo hR.sx ⟨⟨c, c2⟩, c3⟩) ?_⟩, fun c3 => ?_⟩⟩⟩)
  · have ok : okAs M f r := ⟨⟨c, c2⟩, c3⟩
    rintro v H1 ⟨rfl, o1, X1⟩
    obtain ⟨R2, w2⟩ := hR.go (su_tm o1) X1 (lo_up (by omega) c.1 (by omega)) (nm_one (by omega))
    rw [if_pos ok]
    exact ⟨_, R2.la, R2.sk, rfl, by rw [ans_t ⟨c, c2⟩, vAsg, if_pos ⟨c, c2⟩, if_pos c3], w2, R2⟩
  · rw [if_neg (fun z => c3 z.2)]
    exact xP.id hR (by rw [ans_t ⟨c, c2⟩, vAsg, if_pos ⟨c, c2⟩, if_neg c3])
theorem k_goAround {f : Int} (hG : GX l G) (hR : RX H x M) (hB : arB M 1000000000) (hd : 7 ≤ d := by omega) : CL l G mX7_goAround d 4 24 [vR x, vI f] H (xP x (if okGo M f then arM M f else M) (1 - bi (decide (fl M f))) 1 (vI (vGo M f)) H) := by
  obtain ⟨d, rfl⟩ : ∃ k, d = k + 1 := ⟨d - 1, by omega⟩
  refine CL.of (by decide) rfl (Nat.le_of_ble_eq_true rfl) (s_X7_goAround_0 hG hR.sk hR.la ⟨fun c => ?_, fun c => ⟨c, fun c2 => CL.mono (k_turn hR.sx c (hB f c)) ?_, fun c2 => ?_⟩⟩)
  · rw [if_neg (fun z => c z.1)]; exact xP.id hR (ans_f c).symm
  · rintro v H1 ⟨rfl, o1, X1⟩
    have l6 : arM M f 6 = M 6 := arM_lo c.1 (by omega)
    obtain ⟨R2, w2⟩ := hR.go (su_tm o1) X1 l6 (fun g w _ w1 w2 => arM_ne (by omega) (Or.inr (by omega)))
    rw [if_pos ⟨c, c2⟩]
    exact ⟨_, R2.la, R2.sk, rfl, by rw [l6]; exact c, by rw [ans_t c, vGo, if_pos c, if_pos c2, arM_2], w2, R2⟩
  · rw [if_neg (fun z => c2 z.2)]
    exact xP.id hR (by rw [ans_t c, vGo, if_pos c, if_neg c2])
theorem okM_cn9 {f : Int} (hM : okM M) (hf : fl M f) : okM (cncM M f) := by
  refine okM_one (g := f) hM (fun k _ q => lo_up q hf.1 (by omega)) (fun g w q1 _ q2 q3 => of_ne (by omega) (by omega) (Or.inl q1)) ?_
  obtain ⟨h0, h1, h2, h3, h4, h5, h6, h7, h8, h9⟩ := hM.2 f hf.1 hf.2
  unfold okF cncM
  rw [of_ne (by omega) (by omega) (by omega), of_ne (by omega) (by omega) (by omega), of_ne (by omega) (by omega) (by omega), of_ne (by omega) (by omega) (by omega), of_ne (by omega) (by omega) (by omega), of_ne (by omega) (by omega) (by omega), of_ne (by omega) (by omega) (by omega), of_same (by omega), of_ne (by omega) (by omega) (by omega), lo_up (by omega) hf.1 (by omega)]
  exact ⟨h0, h1, h2, h3, h4, h5, h6, by omega, fun q => by omega, h9⟩
/-- one number of one flight is changed, its runway's plan forgotten -/
theorem SX_one {H1 H2 : AH} {b f w v r : Int} (hX : SX H b M) (hf : fl M f) (hr : ofM M f 6 = r) (hw : (w = 2 ∨ w = 7)) (h8 : w = 7 → v = 3) (hM' : okM (upM M (56 + 16 * f + w) v)) (e1 : H1 = hs H (b + (8 + w)) f v) (e2 : H2 = hs H1 (b + 21) r 0) : SX H2 b (upM M (56 + 16 * f + w) v) ∧ only H H2 (pSu b) := by
  obtain ⟨hS, hT, hF⟩ := hX
  have hM := hS.2.1
  have hn := okM_n hM
  have oo : only H H2 (pSu b) := by
    rw [e2, e1]
    exact (only.wr (pSu_hi (by omega))).then (pSu_hi (by omega))
  have ev : ∀ c i, ¬ (c = b + (8 + w) ∧ i = f) → ¬ (c = b + 21 ∧ i = r) → hg H2 c i = hg H c i := fun c i q1 q2 => by rw [e2, hg_ne _ (by omega), e1, hg_ne _ (by omega)]
  have lo : ∀ k, 0 ≤ k → k < 56 → upM M (56 + 16 * f + w) v k = M k := fun k _ q => lo_up q hf.1 (by omega)
  have ne : ∀ g u, 0 ≤ u → u < 16 → (g ≠ f ∨ u ≠ w) → ofM (upM M (56 + 16 * f + w) v) g u = ofM M g u := fun g u w1 w2 q => of_ne ⟨w1, w2⟩ (by omega) q
  have sa : ofM (upM M (56 + 16 * f + w) v) f w = v := of_same (by omega)
  obtain ⟨c0, c1, c2, c3, c4, c5, c6, c7, c9⟩ := hS.2.2.2.2.2.2.1 f hf
  have vw : hg H2 (b + (8 + w)) f = v := by rw [e2, hg_ne _ (by omega), e1, hg_same]
  refine ⟨⟨⟨hS.1.only ok_Sta oo (fun c i q => pSt_nrf hS.1 c i q.1), hM', ?_⟩, ⟨fun i i1 i2 => ?_, fun g hg0 h9 => ?_⟩, ?_⟩, oo⟩
  · refine SS_one (f := f) hS.2.2 (fun o i o1 o2 o3 o4 o5 o6 => ev _ _ (by omega) (by omega)) lo (fun g u _ q1 q2 q3 => ne g u q2 (by omega) (Or.inl q1)) ?_ (okM_7 hM).2
    rcases hw with rfl | rfl
    · rw [ne f 0 (by omega) (by omega) (by omega), ne f 1 (by omega) (by omega) (by omega), sa, ne f 3 (by omega) (by omega) (by omega), ne f 4 (by omega) (by omega) (by omega), ne f 5 (by omega) (by omega) (by omega), ne f 6 (by omega) (by omega) (by omega), ne f 7 (by omega) (by omega) (by omega), ne f 9 (by omega) (by omega) (by omega),
        ev (b + 8) f (by omega) (by omega), ev (b + 9) f (by omega) (by omega), ev (b + 11) f (by omega) (by omega), ev (b + 12) f (by omega) (by omega), ev (b + 13) f (by omega) (by omega), ev (b + 14) f (by omega) (by omega), ev (b + 15) f (by omega) (by omega), ev (b + 17) f (by omega) (by omega)]
      exact ⟨c0, c1, vw, c3, c4, c5, c6, c7, c9⟩
    · rw [ne f 0 (by omega) (by omega) (by omega), ne f 1 (by omega) (by omega) (by omega), ne f 2 (by omega) (by omega) (by omega), ne f 3 (by omega) (by omega) (by omega), ne f 4 (by omega) (by omega) (by omega), ne f 5 (by omega) (by omega) (by omega), ne f 6 (by omega) (by omega) (by omega), sa, ne f 9 (by omega) (by omega) (by omega),
        ev (b + 8) f (by omega) (by omega), ev (b + 9) f (by omega) (by omega), ev (b + 10) f (by omega) (by omega), ev (b + 11) f (by omega) (by omega), ev (b + 12) f (by omega) (by omega), ev (b + 13) f (by omega) (by omega), ev (b + 14) f (by omega) (by omega), ev (b + 17) f (by omega) (by omega)]
      exact ⟨c0, c1, c2, c3, c4, c5, c6, vw, c9⟩
  · rw [ev _ _ (by omega) (by omega)]; exact hT.1 i i1 i2
  · have hg1 : fl M g := by unfold fl at hg0 ⊢; rw [lo 6 (by omega) (by omega)] at hg0; exact hg0
    rw [ev _ _ (by omega) (by omega), ne g 8 (by omega) (by omega) (by omega)]
    refine hT.2 g hg1 ?_
    rcases hw with rfl | rfl
    · rw [ne g 7 (by omega) (by omega) (by omega)] at h9; exact h9
    · by_cases e : g = f
      · rw [e, sa, h8 rfl] at h9; omega
      · rw [ne g 7 (by omega) (by omega) (Or.inl e)] at h9; exact h9
  · refine FR_step hM hF (fun i => ev _ _ (by omega) (by omega)) (fun i => ev _ _ (by omega) (by omega)) (fun i => ev _ _ (by omega) (by omega)) (fun i => ev _ _ (by omega) (by omega)) (fun q hq => ?_)
    by_cases c : q = r
    · exact Or.inl (by rw [e2, c, hg_same])
    · exact Or.inr ⟨ev _ _ (by omega) (by omega), fun _ => sim_off (g := f) hM lo (fun g u q1 _ q2 q3 => ne g u q2 (by omega) (Or.inl q1)) (by rw [hr]; exact fun z => c z.symm) (by rw [ne f 6 (by omega) (by omega) (by omega), hr]; exact fun z => c z.symm)⟩
theorem k_cancel {f : Int} (hG : GX l G) (hR : RX H x M) (hd : 7 ≤ d := by omega) : CL l G mX7_cancel d 4 24 [vR x, vI f] H (xP x (if okCn M f then cncM M f else M) (1 - bi (decide (fl M f))) 1 (vI (vCnc M f)) H) := by
  obtain ⟨d, rfl⟩ : ∃ k, d = k + 1 := ⟨d - 1, by omega⟩
  have hn := okM_n hR.ok
  have h5 := okM_5 hR.ok
  refine CL.of (by decide) rfl (Nat.le_of_ble_eq_true rfl) (s_X7_cancel_0 hG hR.sk hR.la ⟨fun c => ?_, fun c => ⟨c, fun c2 => ?_, fun c2 => ?_⟩⟩)
  · rw [if_neg (fun z => c z.1)]; exact xP.id hR (ans_f c).symm
  · have q1 := c.1
    have q2 := c.2
    obtain ⟨-, -, -, -, -, -, h6, -⟩ := hR.ok.2 f c.1 c.2
    refine ⟨by omega, fun H1 e1 => ?_⟩
    have g14 : hg H1 (x + 34) f = ofM M f 6 := by
      rw [e1, hg_ne _ (by omega)]
      have := sk_14 hR.sk c
      rwa [show x + 20 + 14 = x + 34 by omega] at this
    rw [g14]
    refine ⟨by omega, fun H2 e2 => ?_⟩
    rw [show x + 35 = x + 20 + (8 + 7) by omega] at e1
    rw [show x + 41 = x + 20 + 21 by omega] at e2
    obtain ⟨X2, o2⟩ := SX_one hR.sx c rfl (Or.inr rfl) (fun _ => rfl) (okM_cn9 hR.ok c) e1 e2
    obtain ⟨R2, w2⟩ := hR.go (su_tm o2) X2 (lo_up (by omega) c.1 (by omega)) (nm_one (by omega))
    refine CL.mono (k_countIn R2.sk) ?_
    rintro v H3 ⟨rfl, rfl⟩
    rw [if_pos ⟨c, c2⟩]
    refine ⟨_, R2.la, R2.sk, _, rfl, ?_, w2, R2⟩
    rw [ans_t c, vCnc, if_pos c, if_pos c2]
    have l6 : upM M (56 + 16 * f + 7) 3 6 = M 6 := lo_up (by omega) c.1 (by omega)
    rw [l6]
    rfl
  · rw [if_neg (fun z => c2 z.2)]
    exact xP.id hR (by rw [ans_t c, vCnc, if_pos c, if_neg c2])
end
