/-! the class: load, find, appendByte -/
section
variable {l : Launch} {G : GT} {H : AH} {x n : Int} {B R M : Row} {d : Nat}
theorem RX.far {H' : AH} {P : Int → Int → Prop} (h : RX H x M) (ho : only H H' P) (hn : ∀ c i, P c i → nrf H c i) (hP : ∀ c i, P c i → ¬ (x + 20 ≤ c ∧ c ≤ x + 42)) (hB : SB H' (x + 43)) : RX H' x M := by
  have e : ∀ c i, x + 20 ≤ c → c ≤ x + 42 → hg H' c i = hg H c i := fun c i c1 c2 => ho.2.2 c i (fun q => hP c i q ⟨c1, c2⟩)
  refine ⟨h.1.only ok_Run ho hn, ⟨⟨skO h.sk ho hn (fun c i q => by have := hP c i q; unfold offS; omega), h.sx.2.1.only ho (fun i z => hP _ _ z (by omega)), fun q hq => ?_⟩, h.2.1.2.step rfl (fun _ _ _ _ _ => rfl) (fun c i q => e c i (by omega) (by omega))⟩, hB⟩
  obtain ⟨h1, h2⟩ := h.sx.2.2 q hq
  rw [e _ _ (by omega) (by omega), e _ _ (by omega) (by omega)]
  refine ⟨h1, ?_⟩
  rcases h2 with h2 | ⟨h2, h3⟩
  · exact Or.inl h2
  · exact Or.inr ⟨h2, h3.keep h.ok (e _ _ (by omega) (by omega)) (fun i _ _ => e _ _ (by omega) (by omega)) (fun f _ => e _ _ (by omega) (by omega)) (e _ _ (by omega) (by omega))⟩
/-- the input's bytes -/
def IB (H : AH) (x : Int) (B : Row) (n : Int) : Prop := hg H (x + 1) 1 = n ∧ (0 ≤ n ∧ n ≤ 900) ∧ ∀ i, 0 ≤ i → i < n → hg H (x + 2) i = B i
/-- what load may change -/
def pLd (x : Int) : Int → Int → Prop := fun c i => (c = x ∧ i = 5) ∨ (c = x + 1 ∧ 1 ≤ i ∧ i ≤ 6) ∨ pSt (x + 20) c i ∨ pSt (x + 43) c i
theorem pRd_st : ∀ c i, pRd x c i → (c = x + 1 ∧ 1 ≤ i ∧ i ≤ 6) ∨ pSt (x + 43) c i := by
  intro c i h
  unfold pRd at h
  unfold pSt
  omega
theorem pLd_nrf (hL : Lay LRun H x) : ∀ c i, pLd x c i → nrf H c i := by
  rintro c i (h | h | h | h)
  · rw [h.1, h.2]; exact nrf_fld 5 (kRun_0 hL) (by decide) (by decide)
  · rw [h.1]; exact nrf_in hL h.2
  · exact pSt_nrf (s_Run_Sta_20 hL) c i h
  · exact pSt_nrf (s_Run_Sta_43 hL) c i h
theorem k_load (hT : gT G) (hR : RX H x M) (hI : IB H x B n) (hd : 9 ≤ d := by omega) : CL l G mX7_load d 0 0 [vR x] H (fun v H' => v = vI (if (reaS B n).1 = 0 then (reaS B n).2.2.2 6 else -100 - (reaS B n).2.1) ∧ only H H' (pLd x) ∧ RX H' x (if (reaS B n).1 = 0 then asgR (reaS B n).2.2.2 else M) ∧ hg H' (x + 1) 1 = 0 ∧ hg H' x 5 = (reaS B n).1) := by
  obtain ⟨d, rfl⟩ : ∃ k, d = k + 1 := ⟨d - 1, by omega⟩
  have hL := hR.la
  have sL : ∀ c i, pSt (x + 43) c i → pLd x c i := fun c i w => Or.inr (Or.inr (Or.inr w))
  have rL : ∀ c i, pRd x c i → pLd x c i := fun c i w => by
    rcases pRd_st c i w with w | w
    · exact Or.inr (Or.inl w)
    · exact Or.inr (Or.inr (Or.inr w))
  refine CL.of (by decide) rfl (Nat.le_of_ble_eq_true rfl) (s_X7_load_0 hL (CL.mono (k_clear2 hR.2.2) ?_))
  rintro v H1 ⟨rfl, o1, X1, p1⟩
  have q1 : only H H1 (pLd x) := o1.mono fun c i w => sL c i w.1
  have L1 := hL.only ok_Run q1 (pLd_nrf hL)
  have T1 : TS H1 x (begM 1) := by
    obtain ⟨-, -, ss⟩ := X1.1
    obtain ⟨-, sr, sa, s6, -, -⟩ := ss
    simp only [show x + 43 + 1 = x + 44 by omega, show x + 43 + 2 = x + 45 by omega, show x + 43 + 3 = x + 46 by omega, show x + 43 + 4 = x + 47 by omega, show x + 43 + 5 = x + 48 by omega] at sr sa s6
    refine ⟨sr, sa, s6, fun f hf => ?_, NM_none rfl⟩
    have h1 := hf.1
    have h2 : f < 0 := hf.2
    omega
  refine ⟨L1, rfl, CL.mono (k_read hT L1 (n := n) (B := B) ((o1.2.2 _ _ (by unfold pSu pSt; omega)).trans hI.1) hI.2.1 (fun i i1 i2 => (o1.2.2 _ _ (by unfold pSu pSt; omega)).trans (hI.2.2 i i1 i2)) T1) ?_⟩
  obtain ⟨σ, hσ⟩ : ∃ σ, σ = reaS B n := ⟨_, rfl⟩
  rw [← hσ]
  have bound : ∀ (H2 : AH), only H1 H2 (pRd x) → SB H2 (x + 43) := by
    intro H2 o2
    have L2 := L1.only ok_Run (o2.mono rL) (pLd_nrf L1)
    refine ⟨s_Run_Sta_43 L2, fun i hi => ?_⟩
    rw [o2.2.2 _ _ (by unfold pRd; omega)]
    exact X1.2.1.1 i hi.1 hi.2
  have fin : ∀ (H2 H3 H4 : AH), only H1 H2 (pRd x) → H3 = hs H2 (x + 1) 1 0 → H4 = hs H3 x 5 (hg H3 (x + 1) 5) → only H H4 (pLd x) ∧ hg H4 (x + 1) 1 = 0 ∧ hg H4 x 5 = hg H2 (x + 1) 5 ∧ (∀ c i, x + 43 ≤ c → hg H4 c i = hg H2 c i) ∧ hg H4 (x + 1) 6 = hg H2 (x + 1) 6 := by
    intro H2 H3 H4 o2 e3 e4
    refine ⟨?_, ?_, ?_, fun c i hc => ?_, ?_⟩
    · rw [e4, e3]; exact ((q1.trans (o2.mono rL)).then (Or.inr (Or.inl ⟨rfl, by omega, by omega⟩))).then (Or.inl ⟨rfl, rfl⟩)
    · rw [e4, hg_ne _ (by omega), e3, hg_same]
    · rw [e4, hg_same, e3, hg_ne _ (by omega)]
    · rw [e4, hg_ne _ (by omega), e3, hg_ne _ (by omega)]
    · rw [e4, hg_ne _ (by omega), e3, hg_ne _ (by omega)]
  rintro v H2 ⟨o2, ⟨k2, rfl, R2, T2, ok2⟩ | ⟨k2, rfl, F2⟩⟩
  · refine ⟨R2.1, 1, rfl, fun H3 e3 H4 e4 => ⟨fun _ => ?_, fun c => absurd c (by decide)⟩⟩
    obtain ⟨f1, f2, f3, f4, -⟩ := fin H2 H3 H4 o2 e3 e4
    obtain ⟨e, q, p, R⟩ := σ
    have k2 : e = 0 := k2
    subst k2
    have T2 : TS H2 x R := T2
    have ok2 : okRd R := ok2
    show CL l G mX6_assignByTargets d 0 0 [vR (x + 43)] H4 _
    rw [if_pos rfl, if_pos rfl]
    have L4 := hL.only ok_Run f1 (pLd_nrf hL)
    have S4 := s_Run_Sta_43 L4
    obtain ⟨tr, ta, t6, tf, tn⟩ := id T2
    refine CL.mono (k_assignBy S4 ok2 (by rw [f4 _ _ (by omega), show x + 43 + 1 = x + 44 by omega]; exact tr.1) (by rw [f4 _ _ (by omega), show x + 43 + 5 = x + 48 by omega]; exact t6) (fun f hf => ?_) (fun r hr => ?_)) ?_
    · rw [f4 _ _ (by omega), f4 _ _ (by omega), show x + 43 + 11 = x + 54 by omega, show x + 43 + 13 = x + 56 by omega]
      exact ⟨(tf f hf).2.2.2.1, (tf f hf).2.2.2.2.2⟩
    · rw [f4 _ _ (by omega), o2.2.2 _ _ (by unfold pRd; omega)]; exact (p1 r hr).1
    rintro v H5 ⟨rfl, o5, a5, t5, b5⟩
    have gSt : ∀ c i, pAg (x + 43) c i → pSt (x + 43) c i := fun c i w => by unfold pAg at w; unfold pSt; omega
    have q5 : only H H5 (pLd x) := f1.trans (o5.mono fun c i w => sL c i (gSt c i w))
    have L5 := hL.only ok_Run q5 (pLd_nrf hL)
    have g5 : ∀ c i, x + 43 ≤ c → (c < x + 57 ∨ (x + 60 < c ∧ c ≠ x + 63)) → hg H5 c i = hg H2 c i := by
      intro c i c1 c2
      rw [o5.2.2 _ _ (by unfold pAg; omega), f4 c i c1]
    obtain ⟨N, hN⟩ : ∃ N, N = asgR R := ⟨_, rfl⟩
    obtain ⟨okN, okDN, arN, n0⟩ := asgR_ok ok2
    rw [← hN] at okN okDN arN n0 a5 ⊢
    have nlo : ∀ j, j < 56 → N j = R j := fun j hj => by rw [hN]; exact asgR_lo ok2 hj
    have nof : ∀ f w, 0 ≤ f → 0 ≤ w ∧ w < 16 → w ≠ 6 → ofM N f w = ofM R f w := fun f w f1 f2 f3 => by rw [hN]; exact asgR_of ok2 f1 f2 f3
    have flR : ∀ f, fl N f → fl R f := fun f hf => by unfold fl at hf ⊢; rw [nlo 6 (by omega)] at hf; exact hf
    have z43 : ∀ i, hg H2 (x + 43) i = hg H1 (x + 43) i := fun i => o2.2.2 _ _ (by unfold pRd; omega)
    have SS5 : SX H5 (x + 43) N := by
      refine ⟨⟨s_Run_Sta_43 L5, okN, ⟨?_, ?_⟩, ?_, ⟨fun k hk => ?_, fun k hk => ?_, fun k hk => ?_⟩, ?_, fun f hf => ?_, fun k hk => ?_⟩, ⟨fun i i1 i2 => ?_, fun f hf w => ?_⟩, fun r hr => ⟨b5 r hr, Or.inl ?_⟩⟩
      · rw [g5 _ _ (by omega) (by omega), z43, n0]
        exact X1.1.2.2.1.1
      · rw [g5 _ _ (by omega) (by omega), z43, nlo 7 (by omega), ok2.1.2]
        exact X1.1.2.2.1.2
      · rw [show x + 43 + 1 = x + 44 by omega, g5 _ _ (by omega) (by omega), g5 _ _ (by omega) (by omega), g5 _ _ (by omega) (by omega), g5 _ _ (by omega) (by omega), g5 _ _ (by omega) (by omega), nlo 5 (by omega), nlo 4 (by omega), nlo 1 (by omega), nlo 2 (by omega), nlo 3 (by omega)]
        exact tr
      · rw [show x + 43 + 2 = x + 45 by omega, g5 _ _ (by omega) (by omega), nlo _ (by omega)]; exact ta.1 k hk
      · rw [show x + 43 + 3 = x + 46 by omega, g5 _ _ (by omega) (by omega), nlo _ (by omega)]; exact ta.2.1 k hk
      · rw [show x + 43 + 4 = x + 47 by omega, g5 _ _ (by omega) (by omega), nlo _ (by omega)]; exact ta.2.2 k hk
      · rw [show x + 43 + 5 = x + 48 by omega, g5 _ _ (by omega) (by omega), nlo _ (by omega)]; exact t6
      · have hfR := flR f hf
        have h1 := hf.1
        have h2 := hfR.2
        have r6 := ok2.r6
        have tt := tf f hfR
        have az := ok2.2.2.2.2.2.2.2.2.2.1 f h1 (by omega)
        have aa := a5 f hfR
        refine ⟨?_, ?_, ?_, ?_, ?_, ?_, aa.1, ?_, ?_⟩
        · rw [show x + 43 + 8 = x + 51 by omega, g5 _ _ (by omega) (by omega), nof f _ h1 (by omega) (by omega)]; exact tt.1
        · rw [show x + 43 + 9 = x + 52 by omega, g5 _ _ (by omega) (by omega), nof f _ h1 (by omega) (by omega)]; exact tt.2.1
        · rw [show x + 43 + 10 = x + 53 by omega, g5 _ _ (by omega) (by omega), nof f _ h1 (by omega) (by omega)]; exact tt.2.2.1
        · rw [show x + 43 + 11 = x + 54 by omega, g5 _ _ (by omega) (by omega), nof f _ h1 (by omega) (by omega)]; exact tt.2.2.2.1
        · rw [show x + 43 + 12 = x + 55 by omega, g5 _ _ (by omega) (by omega), nof f _ h1 (by omega) (by omega)]; exact tt.2.2.2.2.1
        · rw [show x + 43 + 13 = x + 56 by omega, g5 _ _ (by omega) (by omega), nof f _ h1 (by omega) (by omega)]; exact tt.2.2.2.2.2
        · rw [aa.2.1, nof f _ h1 (by omega) (by omega)]; exact az.2.1.symm
        · rw [aa.2.2.2, nof f _ h1 (by omega) (by omega)]; exact az.2.2.2.symm
      · rw [nlo 7 (by omega), ok2.1.2] at hk; omega
      · rcases t5 i with w | w
        · rw [w, f4 _ _ (by omega), o2.2.2 _ _ (by unfold pRd; omega)]
          exact X1.2.1.1 i i1 i2
        · rw [w]; omega
      · have hfR := flR f hf
        have r6 := ok2.r6
        have h2 := hfR.2
        have az := ok2.2.2.2.2.2.2.2.2.2.1 f hf.1 (by omega)
        rw [nof f 7 hf.1 (by omega) (by omega)] at w
        omega
      · rw [show x + 43 + 21 = x + 64 by omega, g5 _ _ (by omega) (by omega), o2.2.2 _ _ (by unfold pRd; omega)]
        have := (p1 r hr).2
        rw [show x + 43 + 21 = x + 64 by omega] at this
        exact this
    have NM5 : NM H5 (x + 43) N := tn.step (nlo 6 (by omega)) (fun f w hf w1 w2 => nof f w hf.1 (by omega) (by omega)) (fun c i hc => g5 c i (by omega) (by omega))
    have SB5 : SB H5 (x + 20) := by
      refine ⟨s_Run_Sta_20 L5, fun i hi => ?_⟩
      rw [o5.2.2 _ _ (by unfold pAg; omega), e4, hg_ne _ (by omega), e3, hg_ne _ (by omega), o2.2.2 _ _ (by unfold pRd; omega), o1.2.2 _ _ (by unfold pSu pSt; omega)]
      exact hR.sx.2.1.1 i hi.1 hi.2
    refine ⟨L5, rfl, CL.mono (k_copyState SS5 NM5 SB5 (by omega)) ?_⟩
    rintro v H6 ⟨rfl, o6, X6, N6⟩
    have q6 : only H H6 (pLd x) := q5.trans (o6.mono fun c i w => Or.inr (Or.inr (Or.inl w)))
    have L6 := hL.only ok_Run q6 (pLd_nrf hL)
    have h6 : ∀ c i, (c < x + 20 ∨ x + 42 < c) → hg H6 c i = hg H5 c i := fun c i hc => o6.2.2 c i (fun w => by have := pSt_in w; omega)
    refine ⟨N, L6, X6.1, rfl, ?_, q6, ⟨L6, ⟨X6, N6⟩, s_Run_Sta_43 L6, fun i hi => ?_⟩, ?_, ?_⟩
    · rw [nlo 6 (by omega)]
    · rw [h6 _ _ (by omega)]; exact SS5.2.1.1 i hi.1 hi.2
    · rw [h6 _ _ (by omega), o5.2.2 _ _ (by unfold pAg; omega)]; exact f2
    · rw [h6 _ _ (by omega), o5.2.2 _ _ (by unfold pAg; omega), f3]; exact R2.2.1.2.2
  · refine ⟨F2.1, 0, rfl, fun H3 e3 H4 e4 => ⟨fun c => absurd rfl c, fun _ => ?_⟩⟩
    obtain ⟨f1, f2, f3, f4, f6⟩ := fin H2 H3 H4 o2 e3 e4
    rw [f6, F2.2.2, if_neg k2, if_neg k2]
    have qb : 0 ≤ σ.2.1 ∧ σ.2.1 ≤ 900 := by
      have := (gdP_rea (B := B) hI.2.1.1).2
      rw [← hσ] at this
      have := this k2
      have := hI.2.1
      omega
    refine ⟨by omega, rfl, f1, ?_, f2, by rw [f3]; exact F2.2.1⟩
    refine hR.far (P := fun c i => (c = x ∧ i = 5) ∨ (c = x + 1 ∧ 1 ≤ i ∧ i ≤ 6) ∨ pSt (x + 43) c i) ?_ (fun c i w => pLd_nrf hL c i (by rcases w with w | w | w; exact Or.inl w; exact Or.inr (Or.inl w); exact Or.inr (Or.inr (Or.inr w)))) (fun c i w => by rcases w with w | w | w; omega; omega; have := pSt_in w; omega) ?_
    · rw [e4, e3]
      exact (((o1.mono fun c i w => Or.inr (Or.inr w.1)).trans (o2.mono fun c i w => Or.inr (pRd_st c i w))).then (Or.inr (Or.inl ⟨rfl, by omega, by omega⟩))).then (Or.inl ⟨rfl, rfl⟩)
    · have s2 := bound H2 o2
      refine ⟨s_Run_Sta_43 (hL.only ok_Run f1 (pLd_nrf hL)), fun i hi => ?_⟩
      rw [f4 _ _ (by omega)]
      exact s2.2 i hi
/-- the flight of the name in the input -/
def finS (M B : Row) (n : Int) : Int := if wdE B n 0 = n ∧ 1 ≤ n ∧ n ≤ 6 then fnd M B 0 n else -1
theorem k_find (hR : RX H x M) (hI : IB H x B n) (hd : 2 ≤ d := by omega) : CL l G mX7_find d 0 0 [vR x] H (fun v H' => v = vI (finS M B n) ∧ H' = hs H (x + 1) 1 0 ∧ RX H' x M) := by
  obtain ⟨d, rfl⟩ : ∃ k, d = k + 1 := ⟨d - 1, by omega⟩
  obtain ⟨i1, i2, i3⟩ := hI
  have hL := hR.la
  have hN := hR.2.1.2
  have h6 := okM_n hR.ok
  have wf := wdE_f (B := B) (i := 0) (n := n) i2.1
  refine CL.of (by decide) rfl (Nat.le_of_ble_eq_true rfl) (s_X7_find_0 hL ?_)
  rw [i1]
  have fin : ∀ v H2, H2 = hs H (x + 1) 1 0 → v = finS M B n → (vI v = vI (finS M B n) ∧ H2 = hs H (x + 1) 1 0 ∧ RX H2 x M) := by
    intro v H2 e2 ev
    refine ⟨by rw [ev], e2, ?_⟩
    rw [e2]
    exact hR.far (P := fun c i => c = x + 1 ∧ i = 1) (only.wr ⟨rfl, rfl⟩) (fun c i w => by rw [w.1, w.2]; exact nrf_in hL (by omega)) (fun c i w => by omega) ⟨(s_Run_Sta_43 hL).wr ok_Sta (nrf_in hL (by omega)), fun i hi => by rw [hg_ne _ (by omega)]; exact hR.2.2.2 i hi⟩
  have nl : ∀ f, 0 ≤ f → f < M 6 → hg H (x + 25 + 2) f ≤ 6 := fun f f1 f2 => by
    have := (hN f ⟨f1, f2⟩).1
    rw [show x + 25 + 2 = x + 20 + 7 by omega]
    omega
  have s5 : hg H (x + 25) 0 = M 6 := by have := sk_5_0 hR.sk; rwa [show x + 20 + 5 = x + 25 by omega] at this
  by_cases c : wdE B n 0 = n ∧ 1 ≤ n ∧ n ≤ 6
  · have hl : ∀ i, 0 ≤ i → i < n → 97 ≤ B i ∧ B i ≤ 122 := fun i a1 a2 => isLt_t.mp (wf.2.2.1 i a1 (by omega))
    refine CL.mono (k_named (P := nmd M B 0 n) (N := M 6) (s_Run_Fli_25 hL) (sA_Run_2 hL) s5 h6.2 nl (by omega) (fun f f1 f2 => ?_)) ?_
    · have := nmd_sm (c := x + 2) (s := 0) (z := n) (B := B) hN ⟨f1, f2⟩ (by omega) (fun i a1 a2 => i3 i a1 a2) (fun i a1 a2 => (hl i a1 a2).1)
      rw [show x + 20 + 5 = x + 25 by omega, show n - 0 = n by omega] at this
      exact this
    · rintro v H1 ⟨rfl, rfl⟩
      refine ⟨hL, _, rfl, fun H2 e2 => fin _ H2 e2 ?_⟩
      unfold finS
      rw [if_pos c]
      rfl
  · refine CL.mono (k_named (P := fun _ => false) (N := M 6) (s_Run_Fli_25 hL) (sA_Run_2 hL) s5 h6.2 nl (by omega) (fun f f1 f2 => ⟨fun w => absurd w (by decide), fun w => ?_⟩)) ?_
    · exfalso
      obtain ⟨w1, w2⟩ := w
      have nn := hN f ⟨f1, f2⟩
      unfold sameL at w2
      rw [show x + 25 + 2 = x + 20 + 7 by omega] at w1 w2
      rw [show x + 25 + 1 = x + 20 + 6 by omega] at w2
      have hlt : wdE B n 0 < n := by omega
      have a1 := w2 (wdE B n 0) wf.1 (by omega)
      have a2 := (nn.2 (wdE B n 0) (by omega)).2 (by omega)
      rw [a1, show 0 + wdE B n 0 = wdE B n 0 by omega, i3 _ wf.1 hlt] at a2
      exact wf.2.2.2 hlt (isLt_t.mpr a2)
    · rintro v H1 ⟨rfl, rfl⟩
      refine ⟨hL, _, rfl, fun H2 e2 => fin _ H2 e2 ?_⟩
      unfold finS
      rw [if_neg c, fstN_no (fun _ _ _ => rfl)]
theorem k_loadError (hR : RX H x M) : CL l G mX7_loadError d 0 0 [vR x] H (PQ (vI (hg H x 5)) H) := CL.of (by decide) rfl (Nat.le_of_ble_eq_true rfl) (s_X7_loadError_0 hR.la ⟨rfl, rfl⟩)
theorem k_appendByte {v : Int} (hG : GX l G) (hR : RX H x M) (hI : IB H x B n) (hd : 6 ≤ d := by omega) : CL l G mX7_appendByte d 4 24 [vR x, vI v] H (fun r H' => r = ans (1 - bi (decide (0 ≤ v ∧ v ≤ 255))) 0 (vI (if n = 900 then -2 else n + 1)) ∧ only H H' (fun c i => c = x + 2 ∨ (c = x + 1 ∧ i = 1)) ∧ RX H' x M ∧ IB H' x (if 0 ≤ v ∧ v ≤ 255 ∧ n < 900 then upM B n v else B) (if 0 ≤ v ∧ v ≤ 255 ∧ n < 900 then n + 1 else n)) := by
  have hL := hR.la
  obtain ⟨i1, i2, i3⟩ := id hI
  refine CL.of (by decide) rfl (Nat.le_of_ble_eq_true rfl) (s_X7_appendByte_0 hG hL ?_)
  rw [i1]
  refine ⟨fun c => ⟨(ans_f (by omega)).symm, only.rf, hR, by rw [if_neg (by omega), if_neg (by omega)]; exact hI⟩, fun c => ⟨fun c2 => ⟨fun c3 => ⟨by omega, fun H1 e1 => ?_⟩, fun c3 => ⟨?_, only.rf, hR, by rw [if_neg (by omega), if_neg (by omega)]; exact hI⟩⟩, fun c2 => ⟨(ans_f (by omega)).symm, only.rf, hR, by rw [if_neg (by omega), if_neg (by omega)]; exact hI⟩⟩⟩
  · have g1 : hg H1 (x + 1) 1 = n := by rw [e1, hg_ne _ (by omega)]; exact i1
    rw [g1]
    refine ⟨by omega, fun H2 e2 => ?_⟩
    have o2 : only H H2 (fun c i => c = x + 2 ∨ (c = x + 1 ∧ i = 1)) := by rw [e2, e1]; exact (only.wr (Or.inl rfl)).then (Or.inr ⟨rfl, rfl⟩)
    have nr : ∀ c i, (c = x + 2 ∨ (c = x + 1 ∧ i = 1)) → nrf H c i := fun c i w => by
      rcases w with rfl | ⟨rfl, rfl⟩
      · exact nrf_arr (kRun_2 hL) (by decide) (by decide)
      · exact nrf_in hL (by omega)
    have g2 : hg H2 (x + 1) 1 = n + 1 := by rw [e2, hg_same]
    rw [g2]
    refine ⟨?_, o2, hR.far o2 nr (fun c i w => by omega) ⟨(s_Run_Sta_43 hL).only ok_Sta o2 nr, fun i hi => by rw [o2.2.2 _ _ (by omega)]; exact hR.2.2.2 i hi⟩, ?_⟩
    · rw [ans_t ⟨c, c2⟩, if_neg (by omega)]
    · rw [if_pos ⟨c, c2, c3⟩, if_pos ⟨c, c2, c3⟩]
      refine ⟨g2, by omega, fun i a1 a2 => ?_⟩
      rw [e2, hg_ne _ (by omega), e1]
      by_cases e : i = n
      · rw [e, hg_same, upM_same]
      · rw [hg_ne _ (by omega), upM_ne _ e]; exact i3 i a1 (by omega)
  · rw [ans_t ⟨c, c2⟩, if_pos (by omega)]
end
