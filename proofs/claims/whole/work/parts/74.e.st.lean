/-! the class: a statement, and all of them -/
section
variable {l : Launch} {G : GT} {H : AH} {x n p q s z : Int} {B R : Row} {d : Nat}
theorem wEq_no {u v : List Int32} (h : wEq B s z u = true) (hn : wne u v = true) : ¬ wEq B s z v = true := by rw [wEq_ne h hn]; decide
theorem stK_wake (h : wEq B s z ws_wake = true) : stK B s z = 0 := by unfold stK; rw [if_pos h]
theorem stK_cost (h : wEq B s z ws_cost = true) : stK B s z = 5 := by
  unfold stK
  rw [if_neg (wEq_no h (by decide)), if_neg (wEq_no h (by decide)), if_neg (wEq_no h (by decide)), if_neg (wEq_no h (by decide)), if_neg (wEq_no h (by decide)), if_pos h]
theorem stK_arr (h : wEq B s z ws_arrival = true) : stK B s z = 6 := by
  unfold stK
  rw [if_neg (wEq_no h (by decide)), if_neg (wEq_no h (by decide)), if_neg (wEq_no h (by decide)), if_neg (wEq_no h (by decide)), if_neg (wEq_no h (by decide)), if_neg (wEq_no h (by decide)), if_pos h]
theorem stK_dep (h : wEq B s z ws_departure = true) : stK B s z = 7 := by
  unfold stK
  rw [if_neg (wEq_no h (by decide)), if_neg (wEq_no h (by decide)), if_neg (wEq_no h (by decide)), if_neg (wEq_no h (by decide)), if_neg (wEq_no h (by decide)), if_neg (wEq_no h (by decide)), if_neg (wEq_no h (by decide)), if_pos h]
/-- what a statement's number leads to -/
theorem stm_k {k : Int} (hk : stK B (spE B n p) (wdE B n (spE B n p)) = k) : stmS B n (0, q, p, R) = (if k = 0 then wakS B n (0, spE B n p, wdE B n (spE B n p), R) else if k = 1 then stnS B n (0, spE B n p, wdE B n (spE B n p), R) 4 0 600 else if k = 2 then stnS B n (0, spE B n p, wdE B n (spE B n p), R) 1 0 4 else if k = 3 then stnS B n (0, spE B n p, wdE B n (spE B n p), R) 2 0 1800 else if k = 4 then stnS B n (0, spE B n p, wdE B n (spE B n p), R) 3 60 3600 else if k = 5 then cosS B n (0, spE B n p, wdE B n (spE B n p), R) else if k = 6 then flyS B n (0, spE B n p, wdE B n (spE B n p), R) (spE B n p) 1 else if k = 7 then flyS B n (0, spE B n p, wdE B n (spE B n p), R) (spE B n p) 0 else (1, spE B n p, wdE B n (spE B n p), R)) := by
  rw [← hk]
  rfl
theorem stm_set (h1 : ¬ wEq B (spE B n p) (wdE B n (spE B n p)) ws_arrival = true) (h2 : ¬ wEq B (spE B n p) (wdE B n (spE B n p)) ws_departure = true) (h3 : ¬ wEq B (spE B n p) (wdE B n (spE B n p)) ws_wake = true) (h4 : ¬ wEq B (spE B n p) (wdE B n (spE B n p)) ws_cost = true) : stmS B n (0, q, p, R) = setK B n (spE B n p) (0, spE B n p, wdE B n (spE B n p), R) := by
  unfold setK
  show _ = if wEq B (spE B n p) (wdE B n (spE B n p)) ws_mixed = true then _ else if wEq B (spE B n p) (wdE B n (spE B n p)) ws_shift = true then _ else if wEq B (spE B n p) (wdE B n (spE B n p)) ws_freeze = true then _ else if wEq B (spE B n p) (wdE B n (spE B n p)) ws_around = true then _ else _
  by_cases c1 : wEq B (spE B n p) (wdE B n (spE B n p)) ws_mixed = true
  · rw [if_pos c1, stm_k (k := 1) (by unfold stK; rw [if_neg h3, if_pos c1])]
    rfl
  rw [if_neg c1]
  by_cases c2 : wEq B (spE B n p) (wdE B n (spE B n p)) ws_shift = true
  · rw [if_pos c2, stm_k (k := 2) (by unfold stK; rw [if_neg h3, if_neg c1, if_pos c2])]
    rfl
  rw [if_neg c2]
  by_cases c3 : wEq B (spE B n p) (wdE B n (spE B n p)) ws_freeze = true
  · rw [if_pos c3, stm_k (k := 3) (by unfold stK; rw [if_neg h3, if_neg c1, if_neg c2, if_pos c3])]
    rfl
  rw [if_neg c3]
  by_cases c4 : wEq B (spE B n p) (wdE B n (spE B n p)) ws_around = true
  · rw [if_pos c4, stm_k (k := 4) (by unfold stK; rw [if_neg h3, if_neg c1, if_neg c2, if_neg c3, if_pos c4])]
    rfl
  rw [if_neg c4, stm_k (k := -1) (by unfold stK; rw [if_neg h3, if_neg c1, if_neg c2, if_neg c3, if_neg c4, if_neg h4, if_neg h1, if_neg h2])]
  rfl
theorem rP.pre {σ : PS} {H1 : AH} {E : AH → Prop} {r : AV} {H' : AH} (o : only H H1 (pRd x)) (h : rP x B n σ H1 E r H') : rP x B n σ H E r H' := ⟨o.trans h.1, h.2⟩
/-- an answer of the reader, handed on -/
theorem rP.on {σ : PS} {H1 : AH} {E : AH → Prop} (o : only H H1 (pRd x)) : ∀ r H', rP x B n σ H1 E r H' → Lay LRun H' x ∧ ∃ y : Int, r = vI y ∧ (y = 0 ∨ y = 1) ∧ rP x B n σ H E (vI y) H' := by
  intro r H' h
  obtain ⟨o2, ⟨k, rfl, hR, hE⟩ | ⟨k, rfl, hF⟩⟩ := id h
  · exact ⟨hR.1, 1, rfl, Or.inr rfl, h.pre o⟩
  · exact ⟨hF.1, 0, rfl, Or.inl rfl, h.pre o⟩
theorem k_readStatement (hT : gT G) (h : RI H x B n p) (hS : TS H x R) (hR : okRd R) (hd : 7 ≤ d := by omega) : CL l G mX3_readStatement d 0 0 [vR (x + 1), vR (x + 43)] H (rP x B n (stmS B n (0, q, p, R)) H (fun H' => TS H' x (stmS B n (0, q, p, R)).2.2.2)) := by
  obtain ⟨d, rfl⟩ : ∃ k, d = k + 1 := ⟨d - 1, by omega⟩
  have hp := h.2.2.1
  have sf := spE_f (B := B) (i := p) hp.2.1
  refine CL.of (by decide) rfl (Nat.le_of_ble_eq_true rfl) (s_X3_readStatement_0 hT h.1 (CL.mono (k_readWord h) ?_))
  rintro r H1 ⟨o1, ⟨k1, rfl, R1, t1⟩ | ⟨k1, rfl, F1⟩⟩
  · have wd : ∀ bs, kWd H1 x bs (wEq B (spE B n p) (wdE B n (spE B n p)) bs) := fun bs => R1.wd t1 (by omega)
    have o := o1.mono (pIn_rd (x := x))
    have S1 := hS.inp o1
    refine ⟨R1.1, 1, rfl, fun _ => ⟨_, wd _, fun c1 => ⟨_, wd _, fun c2 => ⟨_, wd _, fun c3 => ⟨_, wd _, fun c4 => ?_, fun c4 => ?_⟩, fun c3 => ?_⟩, fun c2 => ?_⟩, fun c1 => ?_⟩, fun c => absurd c (by decide)⟩
    · rw [stm_set c1 c2 c3 c4]
      exact CL.mono (k_readSetting hT R1 t1 (by omega) S1) (rP.on o)
    · rw [stm_k (stK_cost c4)]
      exact CL.mono (k_readCost hT R1 S1) (rP.on o)
    · rw [stm_k (stK_wake c3)]
      exact CL.mono (k_readWake hT R1 S1) (rP.on o)
    · rw [stm_k (stK_dep c2)]
      exact CL.mono (k_readFlight hT R1 t1 S1 hR (Or.inl rfl)) (rP.on o)
    · rw [stm_k (stK_arr c1)]
      exact CL.mono (k_readFlight hT R1 t1 S1 hR (Or.inr rfl)) (rP.on o)
  · refine ⟨F1.1, 0, rfl, fun c => absurd rfl c, fun _ => ?_⟩
    have no : ∀ u : List Int32, u.length ≠ 0 → ¬ wEq B (spE B n p) (wdE B n (spE B n p)) u = true := fun u hu => by rw [k1, wEq_0 hu]; decide
    rw [stm_k (k := -1) (by unfold stK; rw [if_neg (no _ (by decide)), if_neg (no _ (by decide)), if_neg (no _ (by decide)), if_neg (no _ (by decide)), if_neg (no _ (by decide)), if_neg (no _ (by decide)), if_neg (no _ (by decide)), if_neg (no _ (by decide))])]
    exact ⟨o1.mono pIn_rd, Or.inr ⟨one0, rfl, F1⟩⟩
theorem runS_ok (h : (runS B n).1 = 0) : okRd (runS B n).2.2.2 := by
  unfold runS at h ⊢
  simp only [] at h ⊢
  exact okRd_beg (nm_ok h).2.1
theorem k_read (hT : gT G) (hL : Lay LRun H x) (hn : hg H (x + 1) 1 = n) (hn2 : 0 ≤ n ∧ n ≤ 900) (hB : ∀ i, 0 ≤ i → i < n → hg H (x + 2) i = B i) (hS : TS H x (begM 1)) (hd : 8 ≤ d := by omega) : CL l G mX3_read d 0 0 [vR (x + 1), vR (x + 43)] H (rP x B n (reaS B n) H (fun H' => TS H' x (reaS B n).2.2.2 ∧ okRd (reaS B n).2.2.2)) := by
  obtain ⟨d, rfl⟩ : ∃ k, d = k + 1 := ⟨d - 1, by omega⟩
  refine CL.of (by decide) rfl (Nat.le_of_ble_eq_true rfl) (s_X3_read_0 hL (CL.mono (k_rewind hL) ?_))
  rintro r H1 ⟨rfl, o1, a1, z1⟩
  have L1 := inp_lay hL o1
  have R1 : RI H1 x B n 0 := ⟨L1, ⟨(o1.2.2 _ _ (fun w => by have := w.2.1; omega)).trans hn, a1, z1⟩, by omega, fun i i1 i2 => (o1.2.2 _ _ (fun w => by have := w.1; omega)).trans (hB i i1 i2)⟩
  refine ⟨L1, rfl, CL.mono (k_readRunways hT R1 (hS.inp o1)) ?_⟩
  have key : ∀ (g : Nat) (k : Nat) (q p : Int) (R : Row) (H2 : AH), k + g = 900 → (k : Int) ≤ p → only H H2 (pRd x) → RI H2 x B n p → TS H2 x R → okRd R → allS B n (g + 1) (0, q, p, R) = reaS B n → AW l G mX3_read (d + 1) 0 0 (rP x B n (reaS B n) H (fun H' => TS H' x (reaS B n).2.2.2 ∧ okRd (reaS B n).2.2.2)) 19 [vR (x + 1), vR (x + 43), vI k] [] 0 0 H2 := by
    intro g
    induction g with
    | zero =>
      intro k q p R H2 hk hkp o2 R2 S2 ok he
      have hp := R2.2.2.1
      refine s_X3_read_19 R2.1 ⟨fun c => absurd c (by omega), fun _ => CL.mono (k_skipSpaces R2) ?_⟩
      rintro r H3 ⟨rfl, o3, R3⟩
      have sf := spE_f (B := B) (i := p) hp.2.1
      refine ⟨R3.1, rfl, fun c => absurd c (by rw [R3.2.1.1, R3.2.1.2.1]; omega), fun _ => ?_⟩
      have e : allS B n 1 (0, q, p, R) = (0, q, spE B n p, R) := by
        have : morS B n (0, q, p, R) = ((0, q, spE B n p, R), false) := by
          unfold morS
          rw [if_neg (fun w => w rfl), if_pos (by show n ≤ spE B n p; omega)]
        unfold allS
        rw [this]
        rfl
      rw [← he, e]
      exact ⟨o2.trans (o3.mono pIn_rd), Or.inl ⟨rfl, rfl, R3, S2.inp o3, ok⟩⟩
    | succ g ih =>
      intro k q p R H2 hk hkp o2 R2 S2 ok he
      have hp := R2.2.2.1
      refine s_X3_read_19 R2.1 ⟨fun c => absurd c (by omega), fun _ => CL.mono (k_skipSpaces R2) ?_⟩
      rintro r H3 ⟨rfl, o3, R3⟩
      have sf := spE_f (B := B) (i := p) hp.2.1
      obtain ⟨s, hsp⟩ : ∃ s, s = spE B n p := ⟨_, rfl⟩
      have em : morS B n (0, q, p, R) = if n ≤ s then ((0, q, s, R), false) else if B s ≠ 59 then ((1, s, s, R), false) else ((0, q, s + 1, R), true) := by
        unfold morS
        rw [if_neg (fun w => w rfl), hsp]
      have ea : allS B n (g + 1 + 1) (0, q, p, R) = if (morS B n (0, q, p, R)).2 = true then allS B n (g + 1) (stmS B n (morS B n (0, q, p, R)).1) else (morS B n (0, q, p, R)).1 := rfl
      rw [← hsp] at sf R3
      have p3 := o2.trans (o3.mono (pIn_rd (x := x)))
      refine ⟨R3.1, rfl, fun c => ?_, fun c => ?_⟩
      · rw [R3.2.1.1, R3.2.1.2.1] at c
        rw [R3.2.1.2.1, R3.2.2.2 s (by omega) c]
        refine ⟨by omega, fun c2 => ⟨by omega, fun H4 e4 => ?_⟩, fun c2 => CL.mono (k_fail R3.1) ?_⟩
        · have o4 : only H3 H4 (pIn x) := by rw [e4]; exact only.wr ⟨rfl, by omega, by omega⟩
          have R4 : RI H4 x B n (s + 1) := R3.go o4 (by rw [e4, hg_same]) (by rw [e4, hg_ne _ (by omega)]; exact R3.2.1.2.2) (by omega)
          rw [if_neg (by omega), if_neg (fun w => w c2)] at em
          rw [em, if_pos rfl] at ea
          have ge := pGe.stm (B := B) (n := n) (p := s + 1) (σ := (0, q, s + 1, R)) ⟨Int.le_refl _, by show s + 1 ≤ n; omega⟩
          have ok2 := okRd_stm (B := B) (n := n) (σ := (0, q, s + 1, R)) ok
          refine CL.mono (k_readStatement (q := q) hT R4 ((S2.inp o3).inp o4) ok) ?_
          have p4 := p3.trans (o4.mono (pIn_rd (x := x)))
          have ea : allS B n (g + 1 + 1) (0, q, p, R) = allS B n (g + 1) (stmS B n (0, q, s + 1, R)) := ea
          obtain ⟨σ, hσ⟩ : ∃ σ, σ = stmS B n (0, q, s + 1, R) := ⟨_, rfl⟩
          rw [← hσ] at ge ok2 ea ⊢
          rintro r H5 ⟨o5, ⟨k5, rfl, R5, S5⟩ | ⟨k5, rfl, F5⟩⟩
          · refine ⟨R5.1, 1, rfl, fun _ => ⟨by omega, ?_⟩, fun c => absurd c (by decide)⟩
            obtain ⟨e5, q5, p5, N5⟩ := σ
            have k5 : e5 = 0 := k5
            subst k5
            have ge : s + 1 ≤ p5 ∧ p5 ≤ n := ge
            exact ih (k + 1) q5 p5 N5 H5 (by omega) (by omega) (p4.trans o5) R5 S5 (ok2 rfl) (by rw [← ea]; exact he)
          · refine ⟨F5.1, 0, rfl, fun c => absurd rfl c, fun _ => ?_⟩
            rw [allS_er k5] at ea
            rw [← he, ea]
            exact ⟨p4.trans o5, Or.inr ⟨k5, rfl, F5⟩⟩
        · rintro r H4 ⟨rfl, o4, F4⟩
          rw [if_neg (by omega), if_pos c2] at em
          rw [em, if_neg (show ¬ false = true by decide)] at ea
          rw [← he, ea]
          exact ⟨F4.1, 0, rfl, Or.inl rfl, p3.trans (o4.mono pIn_rd), Or.inr ⟨one0, rfl, F4⟩⟩
      · rw [R3.2.1.1, R3.2.1.2.1] at c
        rw [if_pos c] at em
        rw [em, if_neg (show ¬ false = true by decide)] at ea
        rw [← he, ea]
        exact ⟨p3, Or.inl ⟨rfl, rfl, R3, S2.inp o3, ok⟩⟩
  have rok := runS_ok (B := B) (n := n)
  have ea : allS B n 901 (runS B n) = reaS B n := rfl
  obtain ⟨σ, hσ⟩ : ∃ σ, σ = runS B n := ⟨_, rfl⟩
  rw [← hσ] at ea rok ⊢
  rintro r H2 ⟨o2, ⟨k2, rfl, R2, S2⟩ | ⟨k2, rfl, F2⟩⟩
  · refine ⟨R2.1, 1, rfl, fun _ => ?_, fun c => absurd c (by decide)⟩
    obtain ⟨e5, q5, p5, N5⟩ := σ
    have k2 : e5 = 0 := k2
    subst k2
    exact key 900 0 q5 p5 N5 H2 rfl (R2.2.2.1.1) ((o1.mono pIn_rd).trans o2) R2 S2 (rok rfl) ea
  · refine ⟨F2.1, 0, rfl, fun c => absurd rfl c, fun _ => ?_⟩
    rw [allS_er k2] at ea
    rw [← ea]
    exact ⟨(o1.mono pIn_rd).trans o2, Or.inr ⟨k2, rfl, F2⟩⟩
end
