/-! the class: a flight, a statement, all of them -/
section
variable {l : Launch} {G : GT} {H : AH} {x n p q a c s m : Int} {B R : Row} {d : Nat}
/-- what a row that is being read keeps to -/
def okRd (R : Row) : Prop := (R 0 = 0 ∧ R 7 = 0) ∧ (0 ≤ R 1 ∧ R 1 ≤ 4) ∧ (0 ≤ R 2 ∧ R 2 ≤ 1800) ∧ (60 ≤ R 3 ∧ R 3 ≤ 3600) ∧ (0 ≤ R 4 ∧ R 4 ≤ 600) ∧ (1 ≤ R 5 ∧ R 5 ≤ 3) ∧ (0 ≤ R 6 ∧ R 6 ≤ 24) ∧ (∀ k, 0 ≤ k → k < 16 → 0 ≤ R (8 + k) ∧ R (8 + k) ≤ 600) ∧ (∀ k, 0 ≤ k → k < 8 → 0 ≤ R (24 + k) ∧ R (24 + k) ≤ 9999) ∧
  (∀ f, 0 ≤ f → f < 24 → ofM R f 6 = 0 ∧ ofM R f 7 = 0 ∧ ofM R f 8 = 0 ∧ ofM R f 9 = 0) ∧
  ∀ f, fl R f → (ofM R f 0 = 0 ∨ ofM R f 0 = 1) ∧ (0 ≤ ofM R f 1 ∧ ofM R f 1 ≤ 3) ∧ (0 ≤ ofM R f 2 ∧ ofM R f 2 ≤ 99999) ∧ (ofM R f 2 ≤ ofM R f 3 ∧ ofM R f 3 ≤ 99999) ∧ (ofM R f 3 ≤ ofM R f 4 ∧ ofM R f 4 ≤ 99999) ∧ (1 ≤ ofM R f 5 ∧ ofM R f 5 ≤ pw (R 5) - 1)
theorem okRd.r5 (h : okRd R) : 1 ≤ R 5 ∧ R 5 ≤ 3 := h.2.2.2.2.2.1
theorem okRd.r6 (h : okRd R) : 0 ≤ R 6 ∧ R 6 ≤ 24 := h.2.2.2.2.2.2.1
theorem pw_in {r : Int} (h : 1 ≤ r ∧ r ≤ 3) : 2 ≤ pw r ∧ pw r ≤ 8 := by
  have hr : r = 1 ∨ r = 2 ∨ r = 3 := by omega
  rcases hr with rfl | rfl | rfl <;> decide
theorem upM_lo {k v j : Int} (hk : 56 ≤ k) (hj : j < 56) : upM R k v j = R j := upM_ne _ (by omega)
/-- a step of a flight's reading writes only behind the settings -/
theorem namS_lo {f j : Int} {σ : PS} (hf : 0 ≤ f) (hj : j < 56) : (namS B n σ f).2.2.2 j = σ.2.2.2 j := by
  unfold namS
  simp only []
  split
  · rfl
  · split
    · rfl
    · show namR _ _ _ _ _ j = _
      unfold namR
      rw [if_neg (by omega)]
theorem k_readFlight {arr : Int} (hT : gT G) (h : RI H x B n p) (h3 : hg H (x + 1) 3 = s) (hS : TS H x R) (hR : okRd R) (ha : arr = 0 ∨ arr = 1) (hd : 6 ≤ d := by omega) : CL l G mX3_readFlight d 0 0 [vR (x + 1), vR (x + 43), vI arr] H (rP x B n (flyS B n (0, q, p, R) s arr) H (fun H' => TS H' x (flyS B n (0, q, p, R) s arr).2.2.2)) := by
  obtain ⟨d, rfl⟩ : ∃ k, d = k + 1 := ⟨d - 1, by omega⟩
  obtain ⟨hr, hg9, hF⟩ := id hS
  have r6 := hR.r6
  have r5 := hR.r5
  have hp5 := pw_in r5
  refine CL.of (by decide) rfl (Nat.le_of_ble_eq_true rfl) (s_X3_readFlight_0 h.1 ?_)
  rw [hF.1]
  refine ⟨fun c6 => CL.mono (k_readName (q := q) h hF (by omega)) ?_, fun c6 => CL.mono (k_fail h.1) ?_⟩
  rotate_left
  · rintro r H1 ⟨rfl, o1, F1⟩
    rw [h3] at F1
    have e : flyS B n (0, q, p, R) s arr = (4, s, p, R) := by unfold flyS; rw [if_pos (by show R 6 = 24; omega)]
    rw [e]
    exact ⟨F1.1, 0, rfl, Or.inl rfl, o1.mono pIn_rd, Or.inr ⟨(by decide : (4 : Int) ≠ 0), rfl, F1⟩⟩
  have eF : flyS B n (0, q, p, R) s arr = (let a := kdS B n (upS (namS B n (0, q, p, R) (R 6)) (56 + 16 * R 6 + 0) arr); let t := timS B n (upS a.1 (56 + 16 * R 6 + 1) a.2) (R 6); upS (stnS B n t (56 + 16 * R 6 + 5) 1 (pw (t.2.2.2 5) - 1)) 6 (R 6 + 1)) := by
    unfold flyS
    rw [if_neg (by show ¬ R 6 = 24; omega)]
  rw [eF]
  have nlo : ∀ j, j < 56 → (namS B n (0, q, p, R) (R 6)).2.2.2 j = R j := fun j hj => namS_lo r6.1 hj
  have nhi : ∀ j, 56 ≤ j → (j < 56 + 16 * R 6 + 10 ∨ 56 + 16 * R 6 + 16 ≤ j) → (namS B n (0, q, p, R) (R 6)).2.2.2 j = R j := by
    intro j j1 j2
    unfold namS
    simp only []
    split
    · rfl
    · split
      · rfl
      · show namR _ _ _ _ _ j = _
        unfold namR
        rw [if_neg (by omega)]
  obtain ⟨ν, hν⟩ : ∃ ν, ν = namS B n (0, q, p, R) (R 6) := ⟨_, rfl⟩
  rw [← hν] at nlo nhi ⊢
  rintro r H1 ⟨o1, ⟨k1, rfl, R1, of1, nl1, nm1⟩ | ⟨k1, rfl, F1⟩⟩
  · obtain ⟨e1, q1, p1, N1⟩ := ν
    have k1 : e1 = 0 := k1
    subst k1
    have R1 : RI H1 x B n p1 := R1
    refine ⟨R1.1, 1, rfl, fun c => absurd c (by decide), fun _ => CL.mono (k_readKind hT R1) ?_⟩
    rintro r H2 ⟨o2, ⟨k2, rfl, R2, v2⟩ | ⟨k2, rfl, F2⟩⟩
    · have i2 := kdV_in k2
      refine ⟨R2.1, 1, rfl, fun _ => ⟨by omega, ha, fun H3 e3 H4 e4 => ?_⟩, fun c => absurd c (by decide)⟩
      have g3 : hg H3 (x + 1) 4 = kdV B (spE B n p1) (wdE B n (spE B n p1)) := by rw [e3, hg_ne _ (by omega)]; exact v2
      rw [g3] at e4
      have R3 : RI H3 x B n (wdE B n (spE B n p1)) := by rw [e3]; exact R2.out (by omega) (nrf_arr (kRun_51 R2.1) (by decide) (by decide))
      have R4 : RI H4 x B n (wdE B n (spE B n p1)) := by rw [e4]; exact R3.out (by omega) (nrf_arr (kRun_52 R3.1) (by decide) (by decide))
      have o4 : only H2 H4 (pFl x (R 6)) := by rw [e4, e3]; exact (only.wr (Or.inr (Or.inr ⟨by omega, by omega, rfl⟩))).then (Or.inr (Or.inr ⟨by omega, by omega, rfl⟩))
      have p4 : only H H4 (pFl x (R 6)) := (of1.trans (o2.mono fun c i w => Or.inl w)).trans o4
      simp only [upS_mk, kdS_good k2]
      refine CL.mono (k_readTimes (q := spE B n p1) (R := upM (upM N1 (56 + 16 * R 6 + 0) arr) (56 + 16 * R 6 + 1) (kdV B (spE B n p1) (wdE B n (spE B n p1)))) R4 (by omega)) ?_
      have tlo : ∀ j, (j < 56 + 16 * R 6 + 2 ∨ 56 + 16 * R 6 + 4 < j) → (timS B n (0, spE B n p1, wdE B n (spE B n p1), upM (upM N1 (56 + 16 * R 6 + 0) arr) (56 + 16 * R 6 + 1) (kdV B (spE B n p1) (wdE B n (spE B n p1)))) (R 6)).2.2.2 j = upM (upM N1 (56 + 16 * R 6 + 0) arr) (56 + 16 * R 6 + 1) (kdV B (spE B n p1) (wdE B n (spE B n p1))) j := by
        intro j hj
        have nmR : ∀ (σ : PS) (lo hi : Int), (nmS B n σ lo hi).1.2.2.2 = σ.2.2.2 := by intro σ lo hi; unfold nmS; split <;> rfl
        unfold timS stnS upS
        simp only [nmR]
        rw [upM_ne _ (by omega), upM_ne _ (by omega), upM_ne _ (by omega)]
      obtain ⟨τ, hτ⟩ : ∃ τ, τ = timS B n (0, spE B n p1, wdE B n (spE B n p1), upM (upM N1 (56 + 16 * R 6 + 0) arr) (56 + 16 * R 6 + 1) (kdV B (spE B n p1) (wdE B n (spE B n p1)))) (R 6) := ⟨_, rfl⟩
      rw [← hτ] at tlo ⊢
      rintro r H5 ⟨o5, ⟨k5, rfl, R5, of5, fr5, s5, w5, l5⟩ | ⟨k5, rfl, F5⟩⟩
      · obtain ⟨e5, q5, p5, N5⟩ := τ
        have k5 : e5 = 0 := k5
        subst k5
        have R5 : RI H5 x B n p5 := R5
        have tlo : ∀ j, (j < 56 + 16 * R 6 + 2 ∨ 56 + 16 * R 6 + 4 < j) → N5 j = upM (upM N1 (56 + 16 * R 6 + 0) arr) (56 + 16 * R 6 + 1) (kdV B (spE B n p1) (wdE B n (spE B n p1))) j := tlo
        have t5 : N5 5 = R 5 := by
          have := tlo 5 (by omega)
          rw [upM_ne _ (by omega), upM_ne _ (by omega)] at this
          exact this.trans (nlo 5 (by omega))
        have g44 : hg H5 (x + 44) 0 = R 5 := by
          rw [fr5 _ _ (by omega) (by omega), p4.2.2 _ _ (by unfold pFl pIn pNn; omega)]
          exact hr.1
        refine ⟨R5.1, 1, rfl, fun _ => ?_, fun c => absurd c (by decide)⟩
        rw [g44]
        refine ⟨by omega, by omega, ?_⟩
        show CL l G mX1_readNumber d 0 0 _ H5 _
        rw [show ((0, q5, p5, N5) : PS).2.2.2 5 = R 5 from t5]
        refine CL.mono (k_readNumber R5) ?_
        have p5' : only H H5 (pFl x (R 6)) := p4.trans of5
        rintro r H6 ⟨o6, ⟨k6, rfl, R6, v6⟩ | ⟨k6, rfl, F6⟩⟩
        · refine ⟨R6.1, 1, rfl, fun _ H7 e7 => ⟨by omega, fun H8 e8 => ?_⟩, fun c => absurd c (by decide)⟩
          rw [v6] at e7
          rw [stnS_good k6]
          have R7 : RI H7 x B n _ := e7 ▸ R6.out (by omega) (nrf_arr (kRun_56 R6.1) (by decide) (by decide))
          have R8 : RI H8 x B n _ := e8 ▸ R7.out (by omega) (nrf_fld 0 (kRun_48 R7.1) (by decide) (by decide))
          have p6 : only H H6 (pFl x (R 6)) := p5'.trans (o6.mono fun c i w => Or.inl w)
          have p7 : only H H7 (pFl x (R 6)) := by rw [e7]; exact p6.then (Or.inr (Or.inr ⟨by omega, by omega, rfl⟩))
          refine ⟨?_, Or.inl ⟨rfl, rfl, R8, ?_⟩⟩
          · rw [e8]; exact (p7.mono pFl_rd).then (Or.inr (Or.inr (Or.inr (Or.inl ⟨rfl, rfl⟩))))
          · obtain ⟨v, hv⟩ : ∃ v, v = cvE B n (spE B n p5) 0 := ⟨_, rfl⟩
            rw [← hv] at e7
            show TS H8 x (upM (upM N5 (56 + 16 * R 6 + 5) _) 6 (R 6 + 1))
            rw [← hv]
            obtain ⟨Z, hZ⟩ : ∃ Z, Z = upM (upM N5 (56 + 16 * R 6 + 5) v) 6 (R 6 + 1) := ⟨_, rfl⟩
            rw [← hZ]
            have z6 : Z 6 = R 6 + 1 := by rw [hZ, upM_same]
            have zz : ∀ j, j ≠ 6 → (j < 56 + 16 * R 6 ∨ 56 + 16 * R 6 + 16 ≤ j) → Z j = R j := by
              intro j j1 j2
              rw [hZ, upM_ne _ j1, upM_ne _ (by omega)]
              have := tlo j (by omega)
              rw [upM_ne _ (by omega), upM_ne _ (by omega)] at this
              refine this.trans ?_
              by_cases c : j < 56
              · exact nlo j c
              · exact nhi j (by omega) (by omega)
            have x8 : ∀ c i, ¬ pFl x (R 6) c i → (c ≠ x + 48 ∨ i ≠ 0) → hg H8 c i = hg H c i := by
              intro c i c1 c2
              rw [e8, hg_ne _ c2]
              exact p7.2.2 c i c1
            have y8 : ∀ c i, c ≠ x + 1 → c ≠ x + 48 → c ≠ x + 56 → hg H8 c i = hg H5 c i := by
              intro c i c1 c2 c3
              rw [e8, hg_ne _ (Or.inl c2), e7, hg_ne _ (Or.inl c3)]
              exact o6.2.2 c i (fun w => c1 w.1)
            have y4 : ∀ c i, c ≠ x + 1 → c ≠ x + 48 → (c < x + 53 ∨ x + 56 < c) → hg H8 c i = hg H4 c i := by
              intro c i c1 c2 c3
              rw [y8 c i c1 c2 (by omega)]
              exact fr5 c i c1 (by omega)
            have y1 : ∀ c i, c ≠ x + 1 → (c = x + 49 ∨ c = x + 50) → hg H8 c i = hg H1 c i := by
              intro c i c1 c3
              rw [y4 c i c1 (by omega) (by omega), e4, hg_ne _ (by omega), e3, hg_ne _ (by omega)]
              exact o2.2.2 c i (fun w => c1 w.1)
            refine ⟨?_, ⟨fun k hk => ?_, fun k hk => ?_, fun k hk => ?_⟩, ?_, fun f hf => ?_, fun f hf => ?_⟩
            · rw [x8 _ _ (by unfold pFl pIn pNn; omega) (by omega), x8 _ _ (by unfold pFl pIn pNn; omega) (by omega), x8 _ _ (by unfold pFl pIn pNn; omega) (by omega), x8 _ _ (by unfold pFl pIn pNn; omega) (by omega), x8 _ _ (by unfold pFl pIn pNn; omega) (by omega), zz 5 (by omega) (by omega), zz 4 (by omega) (by omega), zz 1 (by omega) (by omega), zz 2 (by omega) (by omega), zz 3 (by omega) (by omega)]
              exact hr
            · rw [x8 _ _ (by unfold pFl pIn pNn; omega) (by omega), zz _ (by omega) (by omega)]; exact hg9.1 k hk
            · rw [x8 _ _ (by unfold pFl pIn pNn; omega) (by omega), zz _ (by omega) (by omega)]; exact hg9.2.1 k hk
            · rw [x8 _ _ (by unfold pFl pIn pNn; omega) (by omega), zz _ (by omega) (by omega)]; exact hg9.2.2 k hk
            · rw [e8, hg_same, z6]
            · have hf1 := hf.1
              have hf2 : f < Z 6 := hf.2
              by_cases cf : f = R 6
              · subst cf
                have t0 : N5 (56 + 16 * R 6 + 0) = arr := by rw [tlo _ (by omega), upM_ne _ (by omega), upM_same]
                have t1 : N5 (56 + 16 * R 6 + 1) = kdV B (spE B n p1) (wdE B n (spE B n p1)) := by rw [tlo _ (by omega), upM_same]
                unfold ofM
                rw [hZ, upM_ne _ (by omega), upM_ne _ (by omega), upM_ne _ (by omega), upM_ne _ (by omega), upM_ne _ (by omega), upM_ne _ (by omega), upM_ne _ (by omega), upM_ne _ (by omega), upM_ne _ (by omega), upM_ne _ (by omega), upM_ne _ (by omega), upM_same]
                refine ⟨?_, ?_, ?_, ?_, ?_, ?_⟩
                · rw [t0, y4 _ _ (by omega) (by omega) (by omega), e4, hg_ne _ (by omega), e3, hg_same]
                · rw [t1, y4 _ _ (by omega) (by omega) (by omega), e4, hg_same]
                · rw [y8 _ _ (by omega) (by omega) (by omega)]; exact s5
                · rw [y8 _ _ (by omega) (by omega) (by omega)]; exact w5
                · rw [y8 _ _ (by omega) (by omega) (by omega)]; exact l5
                · rw [e8, hg_ne _ (by omega), e7, hg_same]
              · have hfR : fl R f := ⟨hf1, by omega⟩
                have := hF.2.1 f hfR
                unfold ofM at this ⊢
                rw [zz _ (by omega) (by omega), zz _ (by omega) (by omega), zz _ (by omega) (by omega), zz _ (by omega) (by omega), zz _ (by omega) (by omega), zz _ (by omega) (by omega), x8 _ _ (by unfold pFl pIn pNn; omega) (by omega), x8 _ _ (by unfold pFl pIn pNn; omega) (by omega), x8 _ _ (by unfold pFl pIn pNn; omega) (by omega), x8 _ _ (by unfold pFl pIn pNn; omega) (by omega), x8 _ _ (by unfold pFl pIn pNn; omega) (by omega), x8 _ _ (by unfold pFl pIn pNn; omega) (by omega)]
                exact this
            · have hf1 := hf.1
              have hf2 : f < Z 6 := hf.2
              rw [show x + 43 + 7 = x + 50 by omega, show x + 43 + 6 = x + 49 by omega]
              by_cases cf : f = R 6
              · subst cf
                rw [y1 _ _ (by omega) (by omega)]
                refine ⟨nl1, fun k hk => ?_⟩
                rw [y1 _ _ (by omega) (by omega)]
                have := nm1 k hk
                have en : ofM Z (R 6) (10 + k) = ofM N1 (R 6) (10 + k) := by
                  unfold ofM
                  rw [hZ, upM_ne _ (by omega), upM_ne _ (by omega), tlo _ (by omega), upM_ne _ (by omega), upM_ne _ (by omega)]
                rw [en]
                exact this
              · have hfR : fl R f := ⟨hf1, by omega⟩
                have := hF.2.2 f hfR
                rw [show x + 43 + 7 = x + 50 by omega, show x + 43 + 6 = x + 49 by omega] at this
                rw [x8 _ _ (by unfold pFl pIn pNn; omega) (by omega)]
                refine ⟨this.1, fun k hk => ?_⟩
                rw [x8 _ _ (by unfold pFl pIn pNn; omega) (by omega)]
                have t2 := this.2 k hk
                unfold ofM at t2 ⊢
                rw [zz _ (by omega) (by omega)]
                exact t2
        · refine ⟨F6.1, 0, rfl, fun c => absurd rfl c, fun _ => ?_⟩
          rw [stnS_bad k6]
          exact ⟨(p5'.trans (o6.mono fun c i w => Or.inl w)).mono pFl_rd, Or.inr ⟨k6, rfl, F6⟩⟩
      · refine ⟨F5.1, 0, rfl, fun c => absurd rfl c, fun _ => ?_⟩
        obtain ⟨e5, q5, p5, N5⟩ := τ
        have k5 : e5 ≠ 0 := k5
        rw [stnS_er k5]
        exact ⟨(p4.mono pFl_rd).trans o5, Or.inr ⟨k5, rfl, F5⟩⟩
    · refine ⟨F2.1, 0, rfl, fun c => absurd rfl c, fun _ => ?_⟩
      simp only [upS_mk, kdS_bad k2, timS, nmS_er one0, stnS_er one0]
      exact ⟨o1.trans (o2.mono pIn_rd), Or.inr ⟨one0, rfl, F2⟩⟩
  · obtain ⟨e1, q1, p1, N1⟩ := ν
    have k1 : e1 ≠ 0 := k1
    refine ⟨F1.1, 0, rfl, fun _ => ?_, fun c => absurd rfl c⟩
    simp only [upS_mk, kdS_er k1, timS, nmS_er k1, stnS_er k1]
    exact ⟨o1, Or.inr ⟨k1, rfl, F1⟩⟩
end
