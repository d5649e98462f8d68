/-! the class: freezing and passing -/
section
variable {l : Launch} {G : GT}
/-- time and plans: the world behind -/
abbrev tmQ (p b : Int) (M : Row) (H H' : AH) : Prop := only H H' (pTm p b) ∧ SX H' b M ∧ Lay LPla H' p
theorem k_freezeDue {d : Nat} {H : AH} {p b : Int} {M : Row} (hX : SX H b M) (hP : Lay LPla H p) (hsep : b + 23 ≤ p ∨ p + 17 ≤ b) (hd : 12 ≤ d := by omega) :
    CL l G mX2_freezeDue d 0 0 [vR p, vR b] H (fun v H' => v = vV ∧ tmQ p b (frzM M) H H' ∧ ∀ q, rl M q → hg H' (b + 21) q = 1) := by
  obtain ⟨d, rfl⟩ : ∃ k, d = k + 1 := ⟨d - 1, by omega⟩
  have hM := hX.1.2.1
  have h5 := okM_5 hM
  refine CL.of (by decide) rfl (Nat.le_of_ble_eq_true rfl) (s_X2_freezeDue_0 hX.1 hP hsep ?_)
  have key : ∀ j, j ≤ (M 5).toNat → ∀ H1, tmQ p b (frzN M j) H H1 → (∀ q : Int, 0 ≤ q → q < j → hg H1 (b + 21) q = 1) → AW l G mX2_freezeDue (d + 1) 0 0 (fun v H' => v = vV ∧ tmQ p b (frzM M) H H' ∧ ∀ q, rl M q → hg H' (b + 21) q = 1) 2 [vR p, vR b, vI j, vU, vU] [] 0 0 H1 := by
    refine upN _ ?_ ?_
    · intro j hj ih H1 w1 f1
      obtain ⟨o1, X1, L1⟩ := w1
      have e5 : (frzN M j) 5 = M 5 := (frzN_all hM j).2.1.1.1 5 (by omega) (by omega) (by omega)
      refine s_X2_freezeDue_2 X1.1 L1 hsep ⟨fun c => absurd c (by omega), fun _ => CL.mono (k_refresh X1 L1 hsep ⟨by omega, by omega⟩) ?_⟩
      rintro v H2 ⟨rfl, o2, X2, L2, g2, k2⟩
      refine ⟨L2, X2.1.1, X2.1, rfl, ?_⟩
      have inner : ∀ (n k : Nat) (Mc : Row) (H3 : AH), k + n = 24 → Mc 5 = M 5 → frzR j n Mc = frzN M (j + 1) → tmQ p b Mc H H3 → (∀ q : Int, 0 ≤ q → q < j + 1 → hg H3 (b + 21) q = 1) → AW l G mX2_freezeDue (d + 1) 0 0 (fun v H' => v = vV ∧ tmQ p b (frzM M) H H' ∧ ∀ q, rl M q → hg H' (b + 21) q = 1) 21 [vR p, vR b, vI j, vI k, vU] [] 0 0 H3 := by
        intro n
        induction n with
        | zero =>
          intro k Mc H3 hk h5c he w3 f3
          have he : Mc = frzN M (j + 1) := he
          refine s_X2_freezeDue_21 w3.2.1.1 w3.2.2 hsep ⟨fun _ => ⟨by omega, ih H3 (by rw [← he]; exact w3) (fun q q1 q2 => f3 q q1 (by omega))⟩, fun c => absurd c (by omega)⟩
        | succ n ihn =>
          intro k Mc H3 hk h5c he w3 f3
          obtain ⟨o3, X3, L3⟩ := id w3
          have hMc := X3.1.2.1
          have h0 := hMc.1.1
          have h2 := hMc.1.2.2.1
          have hn := okM_n hMc
          have fr := X3.2.2.at hMc (r := j) ⟨by omega, by omega⟩ (f3 j (by omega) (by omega))
          refine s_X2_freezeDue_21 X3.1 L3 hsep ⟨fun c => absurd c (by omega), fun _ => ⟨by omega, fun c => ⟨by omega, ih H3 ?_ (fun q q1 q2 => f3 q q1 (by omega))⟩, fun c => ?_⟩⟩
          · rw [fr.1] at c
            rw [frzR, if_pos (by omega)] at he
            rw [← he]; exact w3
          · rw [fr.1] at c
            have hk0 : 0 ≤ (0 : Int) ∧ (0 : Int) < (comeL Mc j).length := by omega
            have pp := pl_at hMc hk0
            have p6 := pp.2.2
            rw [fr.pl hMc hk0 (i := (j : Int) * 24) (by omega)]
            have tv : hg H3 (b + 16) (wAt (planL Mc j) 0) = planT Mc (wAt (planL Mc j) 0) := by
              have : Frs H3 b Mc (ofM Mc (wAt (planL Mc j) 0) 6) := by rw [p6]; exact fr
              exact this.time hMc pp.1 pp.2.1
            rw [tv]
            rw [frzR, if_neg (by omega)] at he
            have pf1 := pp.1.1
            have pf2 := pp.1.2
            refine ⟨by omega, by omega, by omega, by omega, fun c3 H4 e4 H5 e5 => ?_, fun c3 => ⟨by omega, ih H3 ?_ (fun q q1 q2 => f3 q q1 (by omega))⟩⟩
            · rw [if_pos c3] at he
              have tb := planT_in hMc pp.1 pp.2.1
              obtain ⟨X5, o5⟩ := SX_frz X3 pp.1 pp.2.1 p6 tv (by omega) e4 e5
              have L5 : Lay LPla H5 p := L3.only ok_Pla o5 (fun c i q => pSt_nrf X3.1.1 c i q.1)
              have h55 : (frz1 Mc (wAt (planL Mc j) 0) (planT Mc (wAt (planL Mc j) 0))) 5 = M 5 := by rw [frz1_lo pf1 (by omega)]; exact h5c
              refine CL.mono (k_refresh X5 L5 hsep ⟨by omega, by omega⟩) ?_
              rintro v H6 ⟨rfl, o6, X6, L6, g6, k6⟩
              refine ⟨L6, X6.1.1, rfl, by omega, ihn (k + 1) _ H6 (by omega) h55 he ⟨(o3.trans (o5.mono fun c i q => Or.inr q)).trans (o6.mono pRf_tm), X6, L6⟩ (fun q q1 q2 => ?_)⟩
              by_cases e : q = j
              · rw [e]; exact g6
              · refine k6 q (by omega) ?_
                rw [e5, hg_ne _ (by omega), e4, hg_ne _ (by omega)]
                exact f3 q q1 (by omega)
            · rw [if_neg (by omega)] at he
              rw [← he]; exact w3
      refine inner 24 0 (frzN M j) H2 (by omega) e5 rfl ⟨o1.trans (o2.mono pRf_tm), X2, L2⟩ (fun q q1 q2 => ?_)
      by_cases e : q = j
      · rw [e]; exact g2
      · exact k2 q (by omega) (f1 q q1 (by omega))
    · intro H1 w1 f1
      have e5 : (frzN M (M 5).toNat) 5 = M 5 := (frzN_all hM _).2.1.1.1 5 (by omega) (by omega) (by omega)
      exact s_X2_freezeDue_2 w1.2.1.1 w1.2.2 hsep ⟨fun _ => ⟨rfl, w1, fun q hq => f1 q hq.1 (by have := hq.2; omega)⟩, fun c => absurd c (by omega)⟩
  exact key 0 (Nat.zero_le _) H ⟨only.rf, hX, hP⟩ (fun q q1 q2 => by omega)
theorem pasN_end {t : Int} {A : Row} (h : A 0 = t) : ∀ n, pasN t n A = A
  | 0 => rfl
  | n + 1 => by unfold pasN; rw [if_pos h]
theorem k_pass {d : Nat} {H : AH} {p b t : Int} {M : Row} (hX : SX H b M) (hD : okD M) (hP : Lay LPla H p) (hsep : b + 23 ≤ p ∨ p + 17 ≤ b) (ht : M 0 ≤ t ∧ t ≤ 207200) (ht2 : t - M 0 ≤ 7200) (hd : 13 ≤ d := by omega) :
    CL l G mX2_pass d 0 0 [vR p, vR b, vI t] H (fun v H' => v = vI ((pasM M t) 7 - M 7) ∧ tmQ p b (pasM M t) H H') := by
  obtain ⟨d, rfl⟩ : ∃ k, d = k + 1 := ⟨d - 1, by omega⟩
  have hM := hX.1.2.1
  have g7 := okM_7 hM
  refine CL.of (by decide) rfl (Nat.le_of_ble_eq_true rfl) (s_X2_pass_0 hX.1 hP hsep ?_)
  have key : ∀ (n k : Nat) (M1 : Row) (H1 : AH), k + n ≤ 7200 → tmQ p b M1 H H1 → okD M1 → pasN t n (frzM M1) = pasM M t → M1 0 ≤ t → t - M1 0 ≤ n → AW l G mX2_pass (d + 1) 0 0 (fun v H' => v = vI ((pasM M t) 7 - M 7) ∧ tmQ p b (pasM M t) H H') 8 [vR p, vR b, vI t, vI (M 7), vI k, vU, vU, vU] [] 0 0 H1 := by
    intro n
    induction n with
    | zero =>
      intro k M1 H1 hk w1 D1 he h1 h2
      obtain ⟨o1, X1, L1⟩ := id w1
      have hM1 := X1.1.2.1
      refine s_X2_pass_8 X1.1 L1 hsep ⟨fun c => absurd c (by omega), fun _ => CL.mono (k_freezeDue X1 L1 hsep) ?_⟩
      rintro v H2 ⟨rfl, ⟨o2, X2, L2⟩, f2⟩
      have z := frzM_stab hM1
      have he : frzM M1 = pasM M t := he
      have k7 := okM_7 X2.1.2.1
      refine ⟨frzM M1, L2, X2.1.1, X2.1, rfl, fun c => absurd c (by rw [z.2.1]; omega), fun _ => ⟨by omega, by rw [he], ?_⟩⟩
      rw [← he]
      exact ⟨o1.trans o2, X2, L2⟩
    | succ n ih =>
      intro k M1 H1 hk w1 D1 he h1 h2
      obtain ⟨o1, X1, L1⟩ := id w1
      have hM1 := X1.1.2.1
      refine s_X2_pass_8 X1.1 L1 hsep ⟨fun c => absurd c (by omega), fun _ => CL.mono (k_freezeDue X1 L1 hsep) ?_⟩
      rintro v H2 ⟨rfl, ⟨o2, X2, L2⟩, f2⟩
      have z := frzM_stab hM1
      have hA := X2.1.2.1
      have fz := frzM_fz hM1
      have DA := frzM_D hM1 D1
      have a5 : (frzM M1) 5 = M1 5 := z.1.1 5 (by omega) (by omega) (by omega)
      obtain ⟨A, eA⟩ : ∃ A, A = frzM M1 := ⟨_, rfl⟩
      rw [← eA] at X2 z hA fz DA a5 he
      have k7 := okM_7 hA
      have k5 := okM_5 hA
      have k2 := hA.1.2.2.1
      have k0 := hA.1.1
      refine ⟨A, L2, X2.1.1, X2.1, rfl, fun c => ?_, fun c => ⟨by omega, ?_⟩⟩
      · have fA : ∀ r, 0 ≤ r → r < A 5 → Frs H2 b A r := fun r r1 r2 => X2.2.2.at hA ⟨r1, r2⟩ (f2 r ⟨r1, by omega⟩)
        have hx := nxT_in hA fz c
        have loop : ∀ j, j ≤ (A 5).toNat → AW l G mX2_pass (d + 1) 0 0 (fun v H' => v = vI ((pasM M t) 7 - M 7) ∧ tmQ p b (pasM M t) H H') 38 [vR p, vR b, vI t, vI (M 7), vI k, vI (nxN A t j), vI j, vU] [] 0 0 H2 := by
          refine upN _ ?_ ?_
          · intro j hj ihj
            have m := fA j (by omega) (by omega)
            have hn := okM_n hA
            refine s_X2_pass_38 X2.1 L2 hsep ⟨fun q => absurd q (by omega), fun _ => ⟨by omega, fun q => ⟨by omega, ?_⟩, fun q => ?_⟩⟩
            · rw [m.1] at q
              rw [nxN, if_pos (by omega)] at ihj
              exact ihj
            · rw [m.1] at q
              have hk0 : 0 ≤ (0 : Int) ∧ (0 : Int) < (comeL A j).length := by omega
              have pp := pl_at hA hk0
              have tv : hg H2 (b + 16) (wAt (planL A j) 0) = planT A (wAt (planL A j) 0) := by
                have : Frs H2 b A (ofM A (wAt (planL A j) 0) 6) := by rw [pp.2.2]; exact m
                exact this.time hA pp.1 pp.2.1
              have tb := planT_in hA pp.1 pp.2.1
              rw [m.pl hA hk0 (i := (j : Int) * 24) (by omega), tv]
              rw [nxN, if_neg (by omega)] at ihj
              have pf1 := pp.1.1
              have pf2 := pp.1.2
              refine ⟨by omega, by omega, by omega, by omega, fun q2 => ⟨by omega, ?_⟩, fun q2 => ⟨by omega, ?_⟩⟩
              · rw [mn_eq q2] at ihj; exact ihj
              · rw [show min (nxN A t j) (planT A (wAt (planL A j) 0) - A 2) = planT A (wAt (planL A j) 0) - A 2 by omega] at ihj; exact ihj
          · refine s_X2_pass_38 X2.1 L2 hsep ⟨fun _ => CL.mono (k_moveClock (t := nxT A t) X2 (by omega)) ?_, fun q => absurd q (by omega)⟩
            rintro v H3 ⟨rfl, o3, X3⟩
            have L3 : Lay LPla H3 p := L2.only ok_Pla o3 (fun c i q => pSt_nrf X2.1.1 c i q.1)
            have D3 := mv_D (t := nxT A t) DA
            refine ⟨_, L3, X3.1.1, X3.1, rfl, CL.mono (k_finishDue X3 D3) ?_⟩
            rintro v H4 ⟨rfl, o4, X4⟩
            have L4 : Lay LPla H4 p := L3.only ok_Pla o4 (fun c i q => pSt_nrf X3.1.1 c i q.1)
            obtain ⟨y1, y2, y3, y4⟩ := finM_ok X3.1.2.1 D3
            rw [upM_same] at y4
            have hne : ¬ A 0 = t := by omega
            refine ⟨_, L4, X4.1.1, X4.1, rfl, by omega, ih (k + 1) _ H4 (by omega) ⟨((o1.trans o2).trans (o3.mono fun c i q => Or.inr q)).trans (o4.mono fun c i q => Or.inr q), X4, L4⟩ y2 ?_ (by rw [y4]; omega) (by rw [y4]; omega)⟩
            unfold pasN at he
            rw [if_neg hne] at he
            exact he
        exact loop 0 (Nat.zero_le _)
      · have e0 : A 0 = t := by omega
        rw [pasN_end e0] at he
        exact ⟨by rw [he], by rw [← he]; exact ⟨o1.trans o2, X2, L2⟩⟩
  exact key (t - M 0).toNat 0 M H (by omega) ⟨only.rf, hX, hP⟩ hD rfl ht.1 (by omega)
end
