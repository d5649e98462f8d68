/-! the reference: load, find, appendByte -/
section
variable {l : Launch} {G : GT} {H : AH} {a n p q r s z : Int} {B R S M : Row} {σ : PS} {d : Nat}
def pMq (a : Int) : Int → Int → Prop := fun c i => (c = a ∧ (i = 5 ∨ (7 ≤ i ∧ i ≤ 12))) ∨ c = a + 2
def pMl (a : Int) : Int → Int → Prop := fun c i => (c = a ∧ (i = 5 ∨ (7 ≤ i ∧ i ≤ 13))) ∨ c = a + 1 ∨ c = a + 2
theorem pMr_q : ∀ c i, pMr a c i → pMq a c i := by
  intro c i h
  unfold pMr at h
  unfold pMq
  omega
theorem pMq_l : ∀ c i, pMq a c i → pMl a c i := by
  intro c i h
  unfold pMq at h
  unfold pMl
  omega
theorem pMq_nrf (h : Lay LMod H a) : ∀ c i, pMq a c i → nrf H c i := by
  rintro c i (⟨rfl, h1⟩ | rfl)
  · exact nrf_mf h (by omega)
  · exact nrf_arr (kMod_2 h) (by decide) (by decide)
theorem mw_qq {H' : AH} (h : MW H a M) (ho : only H H' (pMq a)) : MW H' a M := h.only ho (pMq_nrf h.1) (fun i w => by unfold pMq at w; omega) (fun b i b1 b2 w => by unfold pMq at w; omega) (fun w => by unfold pMq at w; omega)
theorem nmS_0 {lo hi : Int} : nmS B n (0, q, p, R) lo hi = ((nmE B n p lo hi, spE B n p, dgE B n (spE B n p), R), if nmE B n p lo hi = 0 then cvE B n (spE B n p) 0 else lo) := by
  unfold nmS
  rw [if_neg (fun z => z rfl)]
theorem nsame.rf : nsame H H := ⟨rfl, rfl, fun _ _ _ _ => rfl⟩
theorem c_load (hT : gT G) (hW : MW H a M) (h7 : hg H a 7 = n) (hn : 0 ≤ n ∧ n ≤ 900) (hB : BM H a B n) (hd : 8 ≤ d := by omega) : CL l G mX8_load d 0 0 [vR a] H (fun v H' => v = vI (if (reaS B n).1 = 0 then (reaS B n).2.2.2 6 else -100 - (reaS B n).2.1) ∧ only H H' (pMl a) ∧ MW H' a (if (reaS B n).1 = 0 then asgR (reaS B n).2.2.2 else M) ∧ hg H' a 5 = 0 ∧ hg H' a 7 = 0 ∧ hg H' a 12 = (reaS B n).1) := by
  obtain ⟨d, rfl⟩ : ∃ k, d = k + 1 := ⟨d - 1, by omega⟩
  have gd := gdP_rea (B := B) (n := n) hn.1
  obtain ⟨ρ, hρ⟩ : ∃ ρ, ρ = reaS B n := ⟨_, rfl⟩
  rw [← hρ] at gd ⊢
  obtain ⟨Q, hQ⟩ : ∃ Q : AV → AH → Prop, Q = (fun v H' => v = vI (if ρ.1 = 0 then ρ.2.2.2 6 else -100 - ρ.2.1) ∧ only H H' (pMl a) ∧ (hg H' a 5 = 0 ∧ hg H' a 7 = 0 ∧ hg H' a 12 = ρ.1) ∧ ((ρ.1 ≠ 0 ∧ MW H' a M) ∨ (ρ.1 = 0 ∧ okRd ρ.2.2.2 ∧ Lay LMod H' a ∧ (∀ k, 0 ≤ k → k < 440 → hg H' (a + 1) k = asgR ρ.2.2.2 k) ∧ hg H' a 13 = 0))) := ⟨_, rfl⟩
  refine CL.norm (Q := Q) (CL.of (by decide) rfl (Nat.le_of_ble_eq_true rfl) ?_) ?_
  rotate_left
  · intro v H1 h1
    rw [hQ] at h1
    obtain ⟨rfl, o1, ⟨f5, f7, f12⟩, ⟨e1, w1⟩ | ⟨e1, ok1, L1, v1, z1⟩⟩ := h1
    · exact ⟨H1, nsame.rf, rfl, o1, by rw [if_neg e1]; exact w1, f5, f7, f12⟩
    · obtain ⟨H2, s2, o2, L2, r2⟩ := row_norm L1 v1
      refine ⟨H2, s2, rfl, o1.trans (o2.mono fun c i w => Or.inr (Or.inl w)), ?_, (o2.2.2 _ _ (by omega)).trans f5, (o2.2.2 _ _ (by omega)).trans f7, (o2.2.2 _ _ (by omega)).trans f12⟩
      rw [if_pos e1]
      exact ⟨L2, r2, (asgR_ok ok1).1, Or.inl ((o2.2.2 _ _ (by omega)).trans z1)⟩
  have fin : ∀ (H1 H2 H3 : AH), only H H1 (pMq a) → hg H1 a 5 = 0 → MJ H1 a B n ρ → (ρ.1 = 0 → okRd ρ.2.2.2) → H2 = hs H1 a 7 0 → H3 = hs H2 a 12 (hg H2 a 10) → ((hg H3 a 10) = 0 → CL l G mX8_assignsAll d 0 0 [vR (a + 2)] H3 (fun r9 H4 => Lay LMod H4 a ∧ r9 = vV ∧ CL l G mX8_copies d 0 0 [vR (a + 2), vI 0, vR (a + 1), vI 0] H4 (fun r9 H5 => Lay LMod H5 a ∧ r9 = vV ∧ ∀ H6 : AH, H6 = hs H5 a 13 0 → Q (vI (rowM H6 a 6)) H6))) ∧ (¬ (hg H3 a 10) = 0 → (-2147483648 ≤ (-100) - (hg H3 a 11) ∧ (-100) - (hg H3 a 11) ≤ 2147483647) ∧ Q (vI ((-100) - (hg H3 a 11))) H3) := by
    intro H1 H2 H3 o1 f5 M1 ok e2 e3
    have m10 : hg H1 a 10 = ρ.1 := M1.2.1.2.2.1
    have g10 : hg H2 a 10 = ρ.1 := by rw [e2, hg_ne _ (by omega)]; exact m10
    rw [g10] at e3
    have h10 : hg H3 a 10 = ρ.1 := by rw [e3, hg_ne _ (by omega)]; exact g10
    have o3 : only H H3 (pMq a) := by rw [e3, e2]; exact (o1.then (Or.inl ⟨rfl, by omega⟩)).then (Or.inl ⟨rfl, by omega⟩)
    have L3 := hW.1.only ok_Mod o3 (pMq_nrf hW.1)
    have k5 : hg H3 a 5 = 0 := by rw [e3, hg_ne _ (by omega), e2, hg_ne _ (by omega)]; exact f5
    have k7 : hg H3 a 7 = 0 := by rw [e3, hg_ne _ (by omega), e2, hg_same]
    have k12 : hg H3 a 12 = ρ.1 := by rw [e3, hg_same]
    have r3 : RR H3 (a + 2) ρ.2.2.2 := ⟨sA_Mod_2 L3, fun k k1 k2 => by rw [e3, hg_ne _ (by omega), e2, hg_ne _ (by omega)]; exact M1.2.2.2.2 k k1 k2⟩
    rw [h10]
    refine ⟨fun c => CL.mono (c_assignsAll r3 (ok c)) ?_, fun c => ?_⟩
    · rintro v H4 ⟨rfl, o4, r4⟩
      have n4 : ∀ c i, c = a + 2 → nrf H3 c i := fun c i w => by rw [w]; exact nrf_arr (kMod_2 L3) (by decide) (by decide)
      have L4 := L3.only ok_Mod o4 n4
      refine ⟨L4, rfl, CL.mono (c_copies (sA_Mod_2 L4) (sA_Mod_1 L4) (by omega) (by omega) (by omega)) ?_⟩
      rintro v H5 ⟨rfl, o5, v5⟩
      have L5 := L4.only ok_Mod o5 (fun c i w => by rw [w.1]; exact nrf_arr (kMod_1 L4) (by decide) (by decide))
      refine ⟨L5, rfl, fun H6 e6 => ?_⟩
      have p5 : only H H5 (pMl a) := ((o3.mono pMq_l).trans (o4.mono fun c i w => Or.inr (Or.inr w))).trans (o5.mono fun c i w => Or.inr (Or.inl w.1))
      have rows : ∀ k, 0 ≤ k → k < 440 → hg H6 (a + 1) k = asgR ρ.2.2.2 k := by
        intro k k1 k2
        have := v5 k k1 k2
        rw [show 440 * (0 : Int) + k = k by omega] at this
        rw [e6, hg_ne _ (by omega), this]
        exact r4.2 k k1 k2
      have old : ∀ i, i ≠ 13 → hg H6 a i = hg H3 a i := fun i hi => by rw [e6, hg_ne _ (by omega), o5.2.2 _ _ (by omega), o4.2.2 _ _ (by omega)]
      rw [hQ]
      refine ⟨?_, ?_, ⟨(old 5 (by omega)).trans k5, (old 7 (by omega)).trans k7, (old 12 (by omega)).trans k12⟩, Or.inr ⟨c, ok c, ?_, rows, by rw [e6, hg_same]⟩⟩
      · rw [if_pos c]
        refine congrArg vI ?_
        show hg H6 (a + 1) 6 = _
        rw [rows 6 (by omega) (by omega), asgR_lo (ok c) (by omega)]
      · rw [e6]; exact p5.then (Or.inl ⟨rfl, by omega⟩)
      · rw [e6]; exact L5.wr ok_Mod (nrf_mf L5 (by omega))
    · have h11 : hg H3 a 11 = ρ.2.1 := by rw [e3, hg_ne _ (by omega), e2, hg_ne _ (by omega)]; exact M1.2.1.2.2.2 c
      have qb := gd.2 c
      rw [h11]
      refine ⟨by omega, ?_⟩
      rw [hQ]
      exact ⟨by rw [if_neg c], o3.mono pMq_l, ⟨k5, k7, k12⟩, Or.inl ⟨c, mw_qq hW o3⟩⟩
  have key : ∀ (g : Nat) (σ : PS) (H1 : AH), only H H1 (pMq a) → hg H1 a 5 = 0 → MJ H1 a B n σ → (σ.1 = 0 → okRd σ.2.2.2 ∧ n - σ.2.2.1 ≤ g) → allS B n (g + 1) σ = ρ → AW l G mX8_load (d + 1) 0 0 Q 50 [vR a] [] 0 0 H1 := by
    intro g
    induction g with
    | zero =>
      intro σ H1 o1 f5 M1 ok he
      refine s_X8_load_50 hT M1.1 (CL.mono (c_isMore M1) ?_)
      have hm : (morS B n σ).2 = false ∧ (morS B n σ).1 = ρ ∧ (ρ.1 = 0 → okRd ρ.2.2.2) := by
        have ea : allS B n (0 + 1) σ = if (morS B n σ).2 = true then allS B n 0 (stmS B n (morS B n σ).1) else (morS B n σ).1 := rfl
        obtain ⟨e, q, p, R⟩ := σ
        by_cases c : e = 0
        · subst c
          have hp : 0 ≤ p ∧ p ≤ n ∧ n ≤ 900 := M1.2.2.1
          have := (ok rfl).2
          have this : n - p ≤ ((0 : Nat) : Int) := this
          have sf := spE_f (B := B) (i := p) hp.2.1
          have em : morS B n (0, q, p, R) = ((0, q, spE B n p, R), false) := by
            unfold morS
            rw [if_neg (fun w => w rfl), if_pos (by show n ≤ spE B n p; omega)]
          rw [em, if_neg (show ¬ false = true by decide)] at ea
          rw [em, ← he, ea]
          exact ⟨rfl, rfl, fun _ => (ok rfl).1⟩
        · have em : morS B n (e, q, p, R) = ((e, q, p, R), false) := by unfold morS; rw [if_pos c]
          rw [em, if_neg (show ¬ false = true by decide)] at ea
          rw [em, ← he, ea]
          exact ⟨rfl, rfl, fun w => absurd w c⟩
      rw [hm.1, hm.2.1]
      rintro v H2 ⟨rfl, o2, M2⟩
      refine ⟨M2.1, _, rfl, fun _ H3 e3 H4 e4 => fin H2 H3 H4 (o1.trans (o2.mono pMr_q)) ((o2.2.2 _ _ (by unfold pMr; omega)).trans f5) M2 hm.2.2 e3 e4, fun c => absurd rfl c⟩
    | succ g ih =>
      intro σ H1 o1 f5 M1 ok he
      refine s_X8_load_50 hT M1.1 (CL.mono (c_isMore M1) ?_)
      have ea : allS B n (g + 1 + 1) σ = if (morS B n σ).2 = true then allS B n (g + 1) (stmS B n (morS B n σ).1) else (morS B n σ).1 := rfl
      cases hm : (morS B n σ).2 with
      | false =>
        rw [hm, if_neg (by decide)] at ea
        have okm : (morS B n σ).1.1 = 0 → okRd (morS B n σ).1.2.2.2 := by
          obtain ⟨e, q, p, R⟩ := σ
          intro w
          by_cases c : e = 0
          · subst c
            have R' : (morS B n (0, q, p, R)).1.2.2.2 = R := by unfold morS; rw [if_neg (fun w => w rfl)]; split; rfl; split; rfl; rfl
            rw [R']
            exact (ok rfl).1
          · have em : morS B n (e, q, p, R) = ((e, q, p, R), false) := by unfold morS; rw [if_pos c]
            rw [em] at w
            exact absurd w c
        rw [← ea, he] at okm
        rintro v H2 ⟨rfl, o2, M2⟩
        rw [← ea, he] at M2
        exact ⟨M2.1, _, rfl, fun _ H3 e3 H4 e4 => fin H2 H3 H4 (o1.trans (o2.mono pMr_q)) ((o2.2.2 _ _ (by unfold pMr; omega)).trans f5) M2 okm e3 e4, fun c => absurd rfl c⟩
      | true =>
        rw [hm, if_pos rfl] at ea
        obtain ⟨e, q, p, R⟩ := σ
        have c : e = 0 := by
          by_cases c : e = 0
          · exact c
          · have em : morS B n (e, q, p, R) = ((e, q, p, R), false) := by unfold morS; rw [if_pos c]
            rw [em] at hm
            exact absurd hm (show ¬ false = true by decide)
        subst c
        have hp : 0 ≤ p ∧ p ≤ n ∧ n ≤ 900 := M1.2.2.1
        have sf := spE_f (B := B) (i := p) hp.2.1
        have em : morS B n (0, q, p, R) = ((0, q, spE B n p + 1, R), true) ∧ spE B n p < n := by
          have e0 : morS B n (0, q, p, R) = if n ≤ spE B n p then ((0, q, spE B n p, R), false) else if B (spE B n p) ≠ 59 then ((1, spE B n p, spE B n p, R), false) else ((0, q, spE B n p + 1, R), true) := by
            unfold morS
            rw [if_neg (fun w => w rfl)]
          by_cases c1 : n ≤ spE B n p
          · rw [e0, if_pos c1] at hm; exact absurd hm (show ¬ false = true by decide)
          · by_cases c2 : B (spE B n p) ≠ 59
            · rw [e0, if_neg c1, if_pos c2] at hm; exact absurd hm (show ¬ false = true by decide)
            · rw [e0, if_neg c1, if_neg c2]; exact ⟨rfl, by omega⟩
        rw [em.1] at ea ⊢
        rintro v H2 ⟨rfl, o2, M2⟩
        refine ⟨M2.1, _, rfl, fun w => absurd w (by decide), fun _ => ?_⟩
        have okR9 := (ok rfl).1
        have ok2 := (ok rfl).2
        have okR9 : okRd R := okR9
        have ok2 : n - p ≤ ((g + 1 : Nat) : Int) := ok2
        refine CL.mono (c_statement hT M2 okR9.r5 okR9.r6) ?_
        rintro v H3 ⟨rfl, o3, M3⟩
        refine ⟨M3.1, rfl, ih _ H3 ((o1.trans (o2.mono pMr_q)).trans (o3.mono pMr_q)) ((o3.2.2 _ _ (by unfold pMr; omega)).trans ((o2.2.2 _ _ (by unfold pMr; omega)).trans f5)) M3 (fun w => ⟨okRd_stm (σ := (0, q, spE B n p + 1, R)) okR9 w, ?_⟩) (by rw [← he]; exact ea.symm)⟩
        have ge := pGe.stm (B := B) (n := n) (p := spE B n p + 1) (σ := (0, q, spE B n p + 1, R)) ⟨Int.le_refl _, by show spE B n p + 1 ≤ n; omega⟩
        have g1 := ge.1
        omega
  refine s_X8_load_0 hT hW.1 fun H1 e1 H2 e2 H3 e3 => ?_
  have o3 : only H H3 (pMq a) := by rw [e3, e2, e1]; exact ((only.wr (Or.inl ⟨rfl, by omega⟩)).then (Or.inl ⟨rfl, by omega⟩)).then (Or.inl ⟨rfl, by omega⟩)
  have f3 : hg H3 a 5 = 0 := by rw [e3, hg_ne _ (by omega), e2, hg_ne _ (by omega), e1, hg_same]
  have M3 : MJ H3 a B n (0, 0, 0, hg H3 (a + 2)) := by
    refine ⟨hW.1.only ok_Mod o3 (pMq_nrf hW.1), ⟨?_, ?_, ?_, fun w => absurd rfl w⟩, ⟨Int.le_refl _, hn.1, hn.2⟩, fun i i1 i2 => ?_, fun k _ _ => rfl⟩
    · rw [e3, hg_ne _ (by omega), e2, hg_ne _ (by omega), e1, hg_ne _ (by omega)]; exact h7
    · rw [e3, hg_ne _ (by omega), e2, hg_same]
    · rw [e3, hg_same]
    · rw [o3.2.2 _ _ (by unfold pMq; omega)]; exact hB i i1 i2
  have sf := spE_f (B := B) (i := 0) hn.1
  have wf := wdE_f (B := B) (i := spE B n 0) sf.2.1
  refine CL.mono (c_reads M3) ?_
  rintro v H4 ⟨rfl, o4, M4, t4⟩
  have M4 : MJ H4 a B n (0, 0, wdE B n (spE B n 0), hg H3 (a + 2)) := M4
  have t4 : hg H4 a 9 = spE B n 0 := t4
  have q4 := o3.trans (o4.mono pMr_q)
  have f4 : hg H4 a 5 = 0 := (o4.2.2 _ _ (by unfold pMr; omega)).trans f3
  have rok := runS_ok (B := B) (n := n)
  have rgd := gdP_run (B := B) hn.1
  have go : ∀ (H5 : AH) (τ : PS) (y : Int), only H H5 (pMq a) → hg H5 a 5 = 0 → MJ H5 a B n τ → (τ.1, τ.2.1, τ.2.2.1, begM y) = runS B n → CL l G mX8_begins d 0 0 [vR (a + 2), vI y] H5 (fun r9 H6 => Lay LMod H6 a ∧ r9 = vV ∧ AW l G mX8_load (d + 1) 0 0 Q 50 [vR a] [] 0 0 H6) := by
    intro H5 τ y o5 f5 M5 et
    refine CL.mono (c_begins (sA_Mod_2 M5.1)) ?_
    rintro v H6 ⟨rfl, o6, r6⟩
    have n6 : ∀ c i, c = a + 2 → nrf H5 c i := fun c i w => by rw [w]; exact nrf_arr (kMod_2 M5.1) (by decide) (by decide)
    have L6 := M5.1.only ok_Mod o6 n6
    have ee : ∀ c i, c ≠ a + 2 → hg H6 c i = hg H5 c i := fun c i w => o6.2.2 c i w
    have M6 : MJ H6 a B n (τ.1, τ.2.1, τ.2.2.1, begM y) := by
      refine ⟨L6, ⟨(ee _ _ (by omega)).trans M5.2.1.1, (ee _ _ (by omega)).trans M5.2.1.2.1, (ee _ _ (by omega)).trans M5.2.1.2.2.1, fun w => (ee _ _ (by omega)).trans (M5.2.1.2.2.2 w)⟩, M5.2.2.1, fun i i1 i2 => ?_, r6.2⟩
      rw [ee _ _ (by omega)]; exact M5.2.2.2.1 i i1 i2
    rw [et] at M6
    refine ⟨L6, rfl, key 900 (runS B n) H6 (o5.trans (o6.mono fun c i w => Or.inr w)) ((ee _ _ (by omega)).trans f5) M6 (fun w => ⟨rok w, ?_⟩) hρ.symm⟩
    have := rgd.1
    omega
  refine ⟨M4.1, rfl, _, M4.wd t4 ⟨sf.1, wf.1⟩ (fun i i1 i2 => isLt_t.mp (wf.2.2.1 i i1 i2)), fun c => CL.mono (c_number M4 (by omega)) ?_, fun c => CL.mono (c_fails M4) ?_⟩
  · have c : wEq B (spE B n 0) (wdE B n (spE B n 0)) ws_runways = true := c
    rintro v H5 ⟨rfl, o5, M5⟩
    refine ⟨M5.1, _, rfl, go H5 _ _ (q4.trans (o5.mono pMr_q)) ((o5.2.2 _ _ (by unfold pMr; omega)).trans f4) M5 ?_⟩
    simp only [runS, c, if_true, nmS_0]
  · have c : ¬ wEq B (spE B n 0) (wdE B n (spE B n 0)) ws_runways = true := c
    rw [t4]
    rintro v H5 ⟨rfl, o5, M5, -⟩
    rw [if_pos rfl] at M5
    refine ⟨M5.1, rfl, CL.mono (c_number M5 (by omega)) ?_⟩
    rintro v H6 ⟨rfl, o6, M6⟩
    refine ⟨M6.1, _, rfl, go H6 _ _ ((q4.trans (o5.mono pMr_q)).trans (o6.mono pMr_q)) ((o6.2.2 _ _ (by unfold pMr; omega)).trans ((o5.2.2 _ _ (by unfold pMr; omega)).trans f4)) M6 ?_⟩
    simp only [runS, if_neg c, nmS_er one0]
end
