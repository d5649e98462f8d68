/-! the class: predictions over the place of trials -/
section
variable {l : Launch} {G : GT} {H : AH} {x : Int} {M : Row} {d : Nat}
theorem SX.far {H' : AH} {b : Int} {P : Int → Int → Prop} (h : SX H b M) (ho : only H H' P) (hn : ∀ c i, P c i → nrf H c i) (hP : ∀ c i, P c i → c < b ∨ b + 23 ≤ c) : SX H' b M := by
  have e : ∀ c i, b ≤ c → c < b + 23 → hg H' c i = hg H c i := fun c i h1 h2 => ho.2.2 _ _ (fun z => by have := hP _ _ z; omega)
  refine ⟨skO h.1 ho hn (fun c i z => by have := hP _ _ z; unfold offS; omega), h.2.1.only ho (fun i z => by have := hP _ _ z; omega), fun q hq => ?_⟩
  obtain ⟨h1, h2⟩ := h.2.2 q hq
  rw [e _ _ (by omega) (by omega), e _ _ (by omega) (by omega)]
  refine ⟨h1, ?_⟩
  rcases h2 with h2 | ⟨h2, h3⟩
  · exact Or.inl h2
  · exact Or.inr ⟨h2, h3.keep h.1.2.1 (e _ _ (by omega) (by omega)) (fun i _ _ => e _ _ (by omega) (by omega)) (fun f _ => e _ _ (by omega) (by omega)) (e _ _ (by omega) (by omega))⟩
def pTr (x : Int) : Int → Int → Prop := fun c i => pPla (x + 3) c i ∨ pSt (x + 43) c i
theorem pTr_X : ∀ c i, pTr x c i → pX x c i := by
  rintro c i (h | h)
  · exact Or.inl h
  · exact Or.inr (Or.inr h)
theorem pTm_tr : ∀ c i, pTm (x + 3) (x + 43) c i → pTr x c i := by
  rintro c i (h | h)
  · exact Or.inl h
  · exact Or.inr h.1
theorem RX.tr {H' : AH} {M' : Row} (h : RX H x M) (ho : only H H' (pTr x)) (hB : SX H' (x + 43) M' ∨ SB H' (x + 43)) : RX H' x M ∧ only H H' (pX x) := by
  have oX : only H H' (pX x) := ho.mono pTr_X
  have hn := pX_nrf h.1
  have far : ∀ c i, pTr x c i → c < x + 20 ∨ x + 20 + 23 ≤ c := by
    rintro c i (z | z)
    · have := pPla_in z; omega
    · have := pSt_in z; omega
  refine ⟨⟨h.1.only ok_Run oX hn, ⟨h.sx.far ho (fun c i z => hn c i (pTr_X c i z)) far, h.2.1.2.step rfl (fun _ _ _ _ _ => rfl) (fun c i q => ho.2.2 _ _ (fun z => by have := far _ _ z; omega))⟩, ?_⟩, oX⟩
  rcases hB with hB | hB
  · exact hB.sb
  · exact hB
/-- the state copied to the place of trials -/
theorem k_trial (hR : RX H x M) (hd : 2 ≤ d := by omega) : CL l G mX6_copyFrom d 0 0 [vR (x + 43), vR (x + 20)] H (fun v H' => v = vV ∧ only H H' (pTr x) ∧ SX H' (x + 43) M ∧ RX H' x M) := by
  refine CL.mono (k_copyState hR.sx hR.2.1.2 hR.2.2 (by omega)) ?_
  rintro v H1 ⟨rfl, o1, X1, N1⟩
  have o1' : only H H1 (pTr x) := o1.mono fun c i q => Or.inr q
  exact ⟨rfl, o1', X1, (hR.tr o1' (Or.inl X1)).1⟩
theorem k_costWithReach {y : Int} (hR : RX H x M) (hy : 0 ≤ y ∧ y ≤ 4) (hd : 13 ≤ d := by omega) : CL l G mX7_costWithReach d 0 0 [vR x, vI y] H (fun v H' => v = vJ (totM (upM M 1 y)) ∧ only H H' (pX x) ∧ RX H' x M) := by
  obtain ⟨d, rfl⟩ : ∃ k, d = k + 1 := ⟨d - 1, by omega⟩
  refine CL.of (by decide) rfl (Nat.le_of_ble_eq_true rfl) (s_X7_costWithReach_0 hR.sk hR.la (CL.mono (k_trial hR) ?_))
  rintro v H1 ⟨rfl, o1, X1, R1⟩
  refine ⟨M, R1.la, R1.sk, X1.1, rfl, fun H2 e2 => ?_⟩
  rw [show x + 44 = x + 43 + 1 by omega] at e2
  obtain ⟨⟨S2, T2⟩, o2⟩ := SX_set X1 (k := 1) (o := 1) (i := 2) (Or.inl ⟨rfl, rfl, rfl⟩) (okM_shift hR.ok hy) e2
  refine CL.mono (k_forgetPlans S2) ?_
  rintro v H3 ⟨rfl, o3, z3⟩
  have X3 := fg_sx S2 T2 o3 z3
  have q3 : only H H3 (pTr x) := (o1.trans (o2.mono fun c i q => Or.inr q.1)).trans ((fg_su o3).mono fun c i q => Or.inr q.1)
  obtain ⟨R3, w3⟩ := hR.tr q3 (Or.inl X3)
  refine ⟨_, R3.la, R3.sk, X3.1, rfl, CL.mono (k_wholeCost X3 R3.pl (by omega)) ?_⟩
  rintro v H4 ⟨rfl, o4, X4, L4⟩
  have q4 : only H H4 (pTr x) := q3.trans (o4.mono fun c i q => pTm_tr c i (pRf_tm c i q))
  obtain ⟨R4, w4⟩ := hR.tr q4 (Or.inl X4)
  exact ⟨R4.la, R4.sk, X4.1, _, rfl, rfl, w4, R4⟩
theorem k_costMoved {f r : Int} (hR : RX H x M) (h : okAs M f r) (hd : 13 ≤ d := by omega) : CL l G mX7_costMoved d 0 0 [vR x, vI f, vI r] H (fun v H' => v = vJ (totM (asgM M f r)) ∧ only H H' (pX x) ∧ RX H' x M) := by
  obtain ⟨d, rfl⟩ : ∃ k, d = k + 1 := ⟨d - 1, by omega⟩
  refine CL.of (by decide) rfl (Nat.le_of_ble_eq_true rfl) (s_X7_costMoved_0 hR.sk hR.la (CL.mono (k_trial hR) ?_))
  rintro v H1 ⟨rfl, o1, X1, R1⟩
  refine ⟨M, R1.la, R1.sk, X1.1, rfl, CL.mono (k_moveTo X1 h) ?_⟩
  rintro v H2 ⟨rfl, o2, X2⟩
  have q2 : only H H2 (pTr x) := o1.trans (o2.mono fun c i q => Or.inr q.1)
  obtain ⟨R2, w2⟩ := hR.tr q2 (Or.inl X2)
  refine ⟨_, R2.la, R2.sk, X2.1, rfl, CL.mono (k_wholeCost X2 R2.pl (by omega)) ?_⟩
  rintro v H3 ⟨rfl, o3, X3, L3⟩
  have q3 : only H H3 (pTr x) := q2.trans (o3.mono fun c i q => pTm_tr c i (pRf_tm c i q))
  obtain ⟨R3, w3⟩ := hR.tr q3 (Or.inl X3)
  exact ⟨R3.la, R3.sk, X3.1, _, rfl, rfl, w3, R3⟩
theorem k_costWithShift {y : Int} (hG : GX l G) (hR : RX H x M) (hd : 14 ≤ d := by omega) : CL l G mX7_costWithShift d 4 24 [vR x, vI y] H (xP x M (1 - bi (decide (0 ≤ y ∧ y ≤ 4))) 0 (vJ (vCWS M y)) H) := by
  obtain ⟨d, rfl⟩ : ∃ k, d = k + 1 := ⟨d - 1, by omega⟩
  refine CL.of (by decide) rfl (Nat.le_of_ble_eq_true rfl) (s_X7_costWithShift_0 hG hR.sk hR.la ⟨fun c => xP.id hR (ans_f c).symm, fun c => CL.mono (k_costWithReach hR c) ?_⟩)
  rintro v H1 ⟨rfl, o1, R1⟩
  exact ⟨R1.la, R1.sk, _, rfl, by rw [ans_t c, vCWS, if_pos c], o1, R1⟩
theorem k_neededShift (hR : RX H x M) (hd : 14 ≤ d := by omega) : CL l G mX7_neededShift d 0 0 [vR x] H (xP x M 0 0 (vI (vNeed M)) H) := by
  obtain ⟨d, rfl⟩ : ∃ k, d = k + 1 := ⟨d - 1, by omega⟩
  refine CL.of (by decide) rfl (Nat.le_of_ble_eq_true rfl) (s_X7_neededShift_0 hR.sk hR.la (CL.mono (k_costWithReach hR (by omega)) ?_))
  rintro v H1 ⟨rfl, o1, R1⟩
  refine ⟨R1.la, R1.sk, _, rfl, ?_⟩
  have key : ∀ j : Nat, j ≤ 4 → ∀ H2, only H H2 (pX x) → RX H2 x M → (∀ k, k < j → ¬ nsP M k) → AW l G mX7_neededShift (d + 1) 0 0 (xP x M 0 0 (vI (vNeed M)) H) 8 [vR x, vJ (totM (upM M 1 4)), vU, vI (j : Nat)] [] 0 0 H2 := by
    refine upN 4 ?_ ?_
    · intro j hj ih H2 o2 R2 hno
      refine s_X7_neededShift_8 R2.sk R2.la ⟨fun c => absurd c (by omega), fun _ => CL.mono (k_costWithReach (y := j) R2 (by omega)) ?_⟩
      rintro v H3 ⟨rfl, o3, R3⟩
      refine ⟨R3.la, R3.sk, _, rfl, fun c => ⟨by omega, ih H3 (o2.trans o3) R3 (fun k hk => ?_)⟩, fun c => ⟨?_, o2.trans o3, R3⟩⟩
      · by_cases e : k = j
        · rw [e]; unfold nsP; omega
        · exact hno k (by omega)
      · rw [ans_0, vNeed, fndP_hit hno c (by omega)]
    · intro H2 o2 R2 hno
      refine s_X7_neededShift_8 R2.sk R2.la ⟨fun _ => ⟨?_, o2, R2⟩, fun c => absurd c (by decide)⟩
      rw [ans_0, vNeed, fndP_hit hno (j := 4) (Int.le_refl _) (by omega)]
      rfl
  exact key 0 (Nat.zero_le _) H1 o1 R1 (fun k hk => by omega)
theorem k_costIfAssigned {f r : Int} (hG : GX l G) (hR : RX H x M) (hd : 14 ≤ d := by omega) : CL l G mX7_costIfAssigned d 4 24 [vR x, vI f, vI r] H (xP x M (1 - bi (decide (fl M f ∧ rl M r))) 1 (vJ (vCIA M f r)) H) := by
  obtain ⟨d, rfl⟩ : ∃ k, d = k + 1 := ⟨d - 1, by omega⟩
  have h5 := okM_5 hR.ok
  refine CL.of (by decide) rfl (Nat.le_of_ble_eq_true rfl) (s_X7_costIfAssigned_0 hG hR.sk hR.la ⟨fun c => xP.id hR (ans_f (fun z => c z.1)).symm, fun c => ⟨fun c2 => xP.id hR (ans_f (fun z => c2 z.2)).symm, fun c2 => ⟨c, by have := c2.1; have := c2.2; omega, fun c3 => CL.mono (k_costMoved hR ⟨⟨c, c2⟩, c3⟩) ?_, fun c3 => xP.id hR ?_⟩⟩⟩)
  · rintro v H1 ⟨rfl, o1, R1⟩
    exact ⟨R1.la, R1.sk, _, rfl, by rw [ans_t ⟨c, c2⟩, vCIA, if_pos ⟨c, c2⟩, if_pos c3], o1, R1⟩
  · rw [ans_t ⟨c, c2⟩, vCIA, if_pos ⟨c, c2⟩, if_neg c3]
theorem k_aroundCost {f : Int} (hG : GX l G) (hR : RX H x M) (hB : arB M 1000000000) (hd : 14 ≤ d := by omega) : CL l G mX7_aroundCost d 4 24 [vR x, vI f] H (xP x M (1 - bi (decide (fl M f))) 1 (vJ (vARC M f)) H) := by
  obtain ⟨d, rfl⟩ : ∃ k, d = k + 1 := ⟨d - 1, by omega⟩
  refine CL.of (by decide) rfl (Nat.le_of_ble_eq_true rfl) (s_X7_aroundCost_0 hG hR.sk hR.la ⟨fun c => xP.id hR (ans_f c).symm, fun c => ⟨c, fun c2 => CL.mono (k_wholeCost hR.sx hR.pl (by omega)) ?_, fun c2 => xP.id hR ?_⟩⟩)
  · rintro v H1 ⟨rfl, q1⟩
    obtain ⟨R1, w1⟩ := hR.rf q1
    refine ⟨R1.la, R1.sk, _, rfl, CL.mono (k_trial R1) ?_⟩
    rintro v H2 ⟨rfl, o2, X2, R2⟩
    refine ⟨M, R2.la, R2.sk, X2.1, rfl, CL.mono (k_turn X2 c (hB f c)) ?_⟩
    rintro v H3 ⟨rfl, o3, X3⟩
    have q3 : only H1 H3 (pTr x) := o2.trans (o3.mono fun c i q => Or.inr q.1)
    obtain ⟨R3, w3⟩ := R1.tr q3 (Or.inl X3)
    refine ⟨_, R3.la, R3.sk, X3.1, rfl, CL.mono (k_wholeCost X3 R3.pl (by omega)) ?_⟩
    rintro v H4 ⟨rfl, o4, X4, L4⟩
    have q4 : only H1 H4 (pTr x) := q3.trans (o4.mono fun c i q => pTm_tr c i (pRf_tm c i q))
    obtain ⟨R4, w4⟩ := R1.tr q4 (Or.inl X4)
    have t1 := tot_in hR.ok
    have t2 := tot_in (okM_ar hR.ok c)
    exact ⟨R4.la, R4.sk, X4.1, _, rfl, by omega, by rw [ans_t c, vARC, if_pos c, if_pos c2], w1.trans w4, R4⟩
  · rw [ans_t c, vARC, if_pos c, if_neg c2]
theorem k_latestStart {f : Int} (hG : GX l G) (hR : RX H x M) (hd : 14 ≤ d := by omega) : CL l G mX7_latestStart d 4 24 [vR x, vI f] H (xP x M (1 - bi (decide (fl M f))) 1 (vI (vLS M f)) H) := by
  obtain ⟨d, rfl⟩ : ∃ k, d = k + 1 := ⟨d - 1, by omega⟩
  have hn := okM_n hR.ok
  have h5 := okM_5 hR.ok
  refine CL.of (by decide) rfl (Nat.le_of_ble_eq_true rfl) (s_X7_latestStart_0 hG hR.sk hR.la ⟨fun c => xP.id hR (ans_f c).symm, fun c => ⟨c, fun c2 => CL.mono (k_trial hR) ?_, fun c2 => xP.id hR ?_⟩⟩)
  · rintro v H1 ⟨rfl, o1, X1, R1⟩
    refine ⟨M, R1.la, R1.sk, X1.1, rfl, ?_⟩
    have c1 := c.1
    have c1' := c.2
    obtain ⟨-, -, g2, -, g4, -, g6, -⟩ := hR.ok.2 f c.1 c.2
    have fin : ∀ v H2, v = vLS M f → only H H2 (pTr x) → RX H2 x M → xP x M (1 - bi (decide (fl M f))) 1 (vI (vLS M f)) H (vI v) H2 := fun v H2 e o R => ⟨by rw [ans_t c, e], o.mono pTr_X, R⟩
    have key : ∀ (n : Nat) (j y : Int) (H2 : AH), j = (n : Int) - 1 → n ≤ 31 → only H H2 (pTr x) → RX H2 x M → SX H2 (x + 43) (upM M (56 + 16 * f + 2) y) → (0 ≤ y ∧ y ≤ 300000) → lsN M f n = vLS M f → AW l G mX7_latestStart (d + 1) 4 24 (xP x M (1 - bi (decide (fl M f))) 1 (vI (vLS M f)) H) 46 [vR x, vI f, vI (ofM M f 4), vI j, vU] [] 1 6 H2 := by
      intro n
      induction n with
      | zero =>
        intro j y H2 ej hn31 o2 R2 X2 hy he
        refine s_X7_latestStart_46 hG R2.sk R2.la ⟨fun _ => fin _ _ (by rw [← he]; rfl) o2 R2, fun q => absurd q (by omega)⟩
      | succ n ih =>
        intro j y H2 ej hn31 o2 R2 X2 hy he
        have ej : j = (n : Int) := by omega
        subst ej
        rw [lsN] at he
        refine s_X7_latestStart_46 hG R2.sk R2.la ⟨fun q => absurd q (by omega), fun _ => ⟨c, by omega, by omega, fun q => ⟨by omega, ?_⟩, fun q => ⟨by omega, fun H3 e3 => ?_⟩⟩⟩
        · rw [if_neg (fun z => by have := z.1; omega)] at he
          exact ih _ y H2 (by omega) (by omega) o2 R2 X2 hy he
        · rw [show ofM M f 2 + (n : Int) * 30 = ofM M f 2 + 30 * n by omega] at e3 q ⊢
          have gr : hg H3 (x + 57) f = ofM M f 6 := by
            rw [e3, hg_ne _ (by omega)]
            have := sk_14 X2.1 (f := f) (by rw [lo_up (by omega) c1 (by omega)]; exact c)
            rw [of_ne (by omega) (by omega) (by omega), show x + 43 + 14 = x + 57 by omega] at this
            exact this
          rw [gr]
          refine ⟨by omega, fun H4 e4 => ?_⟩
          rw [show x + 53 = x + 43 + (8 + 2) by omega] at e3
          rw [show x + 64 = x + 43 + 21 by omega] at e4
          have okL : okM (upM (upM M (56 + 16 * f + 2) y) (56 + 16 * f + 2) (ofM M f 2 + 30 * n)) := by rw [upM_upM]; exact okM_set2 hR.ok c (by omega)
          have hf2 : fl (upM M (56 + 16 * f + 2) y) f := by unfold fl; rw [lo_up (by omega) c1 (by omega)]; exact c
          obtain ⟨X4, o4⟩ := SX_one X2 hf2 (by rw [of_ne (by omega) (by omega) (by omega)]) (Or.inl rfl) (fun z => absurd z (by decide)) okL e3 e4
          rw [upM_upM] at X4
          have q4 : only H H4 (pTr x) := o2.trans (o4.mono fun c i q => Or.inr q.1)
          obtain ⟨R4, w4⟩ := hR.tr q4 (Or.inl X4)
          have hf4 : fl (upM M (56 + 16 * f + 2) (ofM M f 2 + 30 * n)) f := by unfold fl; rw [lo_up (by omega) c1 (by omega)]; exact c
          refine CL.mono (k_timeIn X4 R4.pl (by omega) hf4 (by rw [of_ne (by omega) (by omega) (by omega)]; omega)) ?_
          rintro v H5 ⟨rfl, o5, X5, L5⟩
          have q5 : only H H5 (pTr x) := q4.trans (o5.mono fun c i q => pTm_tr c i (pRf_tm c i q))
          obtain ⟨R5, w5⟩ := hR.tr q5 (Or.inl X5)
          refine ⟨_, R5.la, R5.sk, X5.1, _, rfl, fun z => ⟨by omega, ?_⟩, fun z => ?_⟩
          · rw [if_neg (fun z2 => by have h2 : tmNow (upM M (56 + 16 * f + 2) (ofM M f 2 + 30 * n)) f ≤ ofM M f 4 := z2.2; omega)] at he
            exact ih _ _ H5 (by omega) (by omega) q5 R5 X5 (by omega) he
          · rw [if_pos ⟨q, z⟩] at he
            exact fin _ _ he q5 R5
    have X1' : SX H1 (x + 43) (upM M (56 + 16 * f + 2) (ofM M f 2)) := by rw [show ofM M f 2 = M (56 + 16 * f + 2) from rfl, upM_id]; exact X1
    exact key 31 30 _ H1 (by decide) (Nat.le_refl _) o1 R1 X1' (by omega) (by rw [vLS, if_pos c, if_pos c2])
  · rw [ans_t c, vLS, if_pos c, if_neg c2]
end
