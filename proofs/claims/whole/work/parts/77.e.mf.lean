/-! the reference: find, appendByte -/
section
variable {l : Launch} {G : GT} {H : AH} {a n p q r s z v : Int} {B R S M : Row} {σ : PS} {d : Nat}
theorem c_find (hW : MW H a M) (h7 : hg H a 7 = n) (hn : 0 ≤ n ∧ n ≤ 900) (hB : BM H a B n) (hd : 3 ≤ d := by omega) : CL l G mX8_find d 0 0 [vR a] H (fun r H' => r = vI (finS M B n) ∧ only H H' (pMq a) ∧ MW H' a M ∧ hg H' a 5 = 0 ∧ hg H' a 7 = 0 ∧ hg H' a 12 = hg H a 12) := by
  obtain ⟨d, rfl⟩ : ∃ k, d = k + 1 := ⟨d - 1, by omega⟩
  have h6 := okM_n hW.2.2.1
  have wf := wdE_f (B := B) (i := 0) hn.1
  refine CL.of (by decide) rfl (Nat.le_of_ble_eq_true rfl) (s_X8_find_0 hW.1 fun H1 e1 H2 e2 H3 e3 => ?_)
  have o3 : only H H3 (pMq a) := by rw [e3, e2, e1]; exact ((only.wr (Or.inl ⟨rfl, by omega⟩)).then (Or.inl ⟨rfl, by omega⟩)).then (Or.inl ⟨rfl, by omega⟩)
  have key : ∀ (k : Nat) (p1 : Int) (H4 : AH), (n - p1).toNat ≤ k → 0 ≤ p1 ∧ p1 ≤ n → only H H4 (fun c i => c = a ∧ (i = 5 ∨ i = 8 ∨ i = 9)) → hg H4 a 5 = 0 → hg H4 a 8 = p1 → hg H4 a 9 = 0 → wdE B n p1 = wdE B n 0 → AW l G mX8_find (d + 1) 0 0 (fun r H' => r = vI (finS M B n) ∧ only H H' (pMq a) ∧ MW H' a M ∧ hg H' a 5 = 0 ∧ hg H' a 7 = 0 ∧ hg H' a 12 = hg H a 12) 15 [vR a, vU] [] 0 0 H4 := by
    intro k
    induction k with
    | zero =>
      intro p1 H4 hk hp o4 f5 f8 f9 he
      have ho : only H H4 (pMq a) := o4.mono fun c i w => Or.inl ⟨w.1, by omega⟩
      have W4 := mw_qq hW ho
      have g7 : hg H4 a 7 = n := (o4.2.2 _ _ (by omega)).trans h7
      have B4 : BM H4 a B n := fun i i1 i2 => by rw [o4.2.2 _ _ (by omega)]; exact hB i i1 i2
      have J4 : MJ H4 a B n (hg H4 a 10, hg H4 a 11, p1, hg H4 (a + 2)) := ⟨W4.1, ⟨g7, f8, rfl, fun _ => rfl⟩, ⟨hp.1, hp.2, hn.2⟩, B4, fun _ _ _ => rfl⟩
      have ep : p1 = n := by omega
      rw [wdE_no (Or.inl (by omega))] at he
      refine s_X8_find_15 W4.1 (CL.mono (c_here J4) ?_)
      rintro v H5 ⟨rfl, rfl⟩
      refine ⟨W4.1, _, rfl, fun _ => ?_, fun c => ?_⟩
      · rw [g7, f8]
        have last : ∀ y H6, H6 = hs H5 a 7 0 → y = finS M B n → (vI y = vI (finS M B n) ∧ only H H6 (pMq a) ∧ MW H6 a M ∧ hg H6 a 5 = 0 ∧ hg H6 a 7 = 0 ∧ hg H6 a 12 = hg H a 12) := by
          intro y H6 e6 ey
          have o6 : only H H6 (pMq a) := by rw [e6]; exact ho.then (Or.inl ⟨rfl, by omega⟩)
          exact ⟨by rw [ey], o6, mw_qq hW o6, by rw [e6, hg_ne _ (by omega)]; exact f5, by rw [e6, hg_same], by rw [e6, hg_ne _ (by omega)]; exact o4.2.2 _ _ (by omega)⟩
        refine ⟨fun c => absurd ep c, fun _ => ⟨fun c2 H6 e6 => last _ H6 e6 ?_, fun c2 => ?_⟩⟩
        · unfold finS; rw [if_neg (fun w => c2 w.2)]
        · have hl : ∀ i, 0 ≤ i → i < n → 97 ≤ B i ∧ B i ≤ 122 := fun i a1 a2 => isLt_t.mp (wf.2.2.1 i a1 (by omega))
          have rr : RR H5 (a + 1) M := ⟨sA_Mod_1 W4.1, fun k _ _ => congrFun W4.2.1 k⟩
          refine CL.mono (c_findIn (B := B) W4.1 rr h6 f9 f8 (by omega) (fun i i1 i2 => ?_)) ?_
          · have := B4 i i1 (by omega)
            have := hl i i1 (by omega)
            omega
          rintro v H6 ⟨rfl, rfl⟩
          refine ⟨W4.1, _, rfl, fun H7 e7 => last _ H7 e7 ?_⟩
          unfold finS
          rw [if_pos ⟨by omega, c2⟩, ep]
      · have c : 97 ≤ (if p1 < n then B p1 else -1) ∧ (if p1 < n then B p1 else -1) ≤ 122 := c
        rw [if_neg (by omega)] at c; omega
    | succ k ih =>
      intro p1 H4 hk hp o4 f5 f8 f9 he
      have ho : only H H4 (pMq a) := o4.mono fun c i w => Or.inl ⟨w.1, by omega⟩
      have W4 := mw_qq hW ho
      have g7 : hg H4 a 7 = n := (o4.2.2 _ _ (by omega)).trans h7
      have B4 : BM H4 a B n := fun i i1 i2 => by rw [o4.2.2 _ _ (by omega)]; exact hB i i1 i2
      have J4 : MJ H4 a B n (hg H4 a 10, hg H4 a 11, p1, hg H4 (a + 2)) := ⟨W4.1, ⟨g7, f8, rfl, fun _ => rfl⟩, ⟨hp.1, hp.2, hn.2⟩, B4, fun _ _ _ => rfl⟩
      refine s_X8_find_15 W4.1 (CL.mono (c_here J4) ?_)
      rintro v H5 ⟨rfl, rfl⟩
      refine ⟨W4.1, _, rfl, fun c => ?_, fun c => ?_⟩
      · have c : ¬ (97 ≤ (if p1 < n then B p1 else -1) ∧ (if p1 < n then B p1 else -1) ≤ 122) := c
        have no : n ≤ p1 ∨ ¬ isLt B p1 = true := by
          by_cases c2 : p1 < n
          · rw [if_pos c2] at c; exact Or.inr (fun w => c (isLt_t.mp w))
          · exact Or.inl (by omega)
        rw [wdE_no no] at he
        rw [g7, f8]
        have last : ∀ y H6, H6 = hs H5 a 7 0 → y = finS M B n → (vI y = vI (finS M B n) ∧ only H H6 (pMq a) ∧ MW H6 a M ∧ hg H6 a 5 = 0 ∧ hg H6 a 7 = 0 ∧ hg H6 a 12 = hg H a 12) := by
          intro y H6 e6 ey
          have o6 : only H H6 (pMq a) := by rw [e6]; exact ho.then (Or.inl ⟨rfl, by omega⟩)
          exact ⟨by rw [ey], o6, mw_qq hW o6, by rw [e6, hg_ne _ (by omega)]; exact f5, by rw [e6, hg_same], by rw [e6, hg_ne _ (by omega)]; exact o4.2.2 _ _ (by omega)⟩
        refine ⟨fun c2 H6 e6 => last _ H6 e6 ?_, fun ep => ⟨fun c2 H6 e6 => last _ H6 e6 ?_, fun c2 => ?_⟩⟩
        · unfold finS; rw [if_neg (fun w => c2 (by omega))]
        · unfold finS; rw [if_neg (fun w => c2 w.2)]
        · have hl : ∀ i, 0 ≤ i → i < n → 97 ≤ B i ∧ B i ≤ 122 := fun i a1 a2 => isLt_t.mp (wf.2.2.1 i a1 (by omega))
          have rr : RR H5 (a + 1) M := ⟨sA_Mod_1 W4.1, fun k _ _ => congrFun W4.2.1 k⟩
          refine CL.mono (c_findIn (B := B) W4.1 rr h6 f9 f8 (by omega) (fun i i1 i2 => ?_)) ?_
          · have := B4 i i1 (by omega)
            have := hl i i1 (by omega)
            omega
          rintro v H6 ⟨rfl, rfl⟩
          refine ⟨W4.1, _, rfl, fun H7 e7 => last _ H7 e7 ?_⟩
          unfold finS
          rw [if_pos ⟨by omega, c2⟩, ep]
      · have c : 97 ≤ (if p1 < n then B p1 else -1) ∧ (if p1 < n then B p1 else -1) ≤ 122 := c
        have c2 : p1 < n := by by_cases w : p1 < n; exact w; rw [if_neg w] at c; omega
        rw [if_pos c2] at c
        rw [f8]
        refine ⟨by omega, fun H6 e6 => ?_⟩
        rw [wdE_go c2 (isLt_t.mpr c)] at he
        exact ih (p1 + 1) H6 (by omega) (by omega) (by rw [e6]; exact o4.then ⟨rfl, by omega⟩) (by rw [e6, hg_ne _ (by omega)]; exact f5) (by rw [e6, hg_same]) (by rw [e6, hg_ne _ (by omega)]; exact f9) he
  refine key _ 0 H3 (Nat.le_refl _) ⟨Int.le_refl _, hn.1⟩ ?_ ?_ ?_ ?_ rfl
  · rw [e3, e2, e1]; exact ((only.wr ⟨rfl, by omega⟩).then ⟨rfl, by omega⟩).then ⟨rfl, by omega⟩
  · rw [e3, hg_ne _ (by omega), e2, hg_ne _ (by omega), e1, hg_same]
  · rw [e3, hg_ne _ (by omega), e2, hg_same]
  · rw [e3, hg_same]
theorem c_appendByte (hW : MW H a M) (h7 : hg H a 7 = n) (hn : 0 ≤ n ∧ n ≤ 900) (hB : BM H a B n) (hd : 2 ≤ d := by omega) : CL l G mX8_appendByte d 0 0 [vR a, vI v] H (fun r H' => r = vI (if 0 ≤ v ∧ v ≤ 255 then (if n = 900 then -2 else n + 1) else 0) ∧ only H H' (fun c i => (c = a ∧ (i = 5 ∨ i = 7)) ∨ c = a + 6) ∧ MW H' a M ∧ hg H' a 5 = 1 - bi (decide (0 ≤ v ∧ v ≤ 255)) ∧ hg H' a 7 = (if 0 ≤ v ∧ v ≤ 255 ∧ n < 900 then n + 1 else n) ∧ BM H' a (if 0 ≤ v ∧ v ≤ 255 ∧ n < 900 then upM B n v else B) (if 0 ≤ v ∧ v ≤ 255 ∧ n < 900 then n + 1 else n)) := by
  obtain ⟨d, rfl⟩ : ∃ k, d = k + 1 := ⟨d - 1, by omega⟩
  have hL := hW.1
  have nr : ∀ c i, ((c = a ∧ (i = 5 ∨ i = 7)) ∨ c = a + 6) → nrf H c i := by
    rintro c i (⟨rfl, w⟩ | rfl)
    · exact nrf_mf hL (by omega)
    · exact nrf_arr (kMod_6 hL) (by decide) (by decide)
  have keep : ∀ {H' : AH}, only H H' (fun c i => (c = a ∧ (i = 5 ∨ i = 7)) ∨ c = a + 6) → MW H' a M := fun ho => hW.only ho nr (fun i w => by omega) (fun b i b1 b2 w => by omega) (fun w => by omega)
  refine CL.of (by decide) rfl (Nat.le_of_ble_eq_true rfl) (s_X8_appendByte_0 hL fun H1 e1 => ?_)
  have o1 : only H H1 (fun c i => (c = a ∧ (i = 5 ∨ i = 7)) ∨ c = a + 6) := by rw [e1]; exact only.wr (Or.inl ⟨rfl, Or.inl rfl⟩)
  have g7 : hg H1 a 7 = n := by rw [e1, hg_ne _ (by omega)]; exact h7
  have g5 : hg H1 a 5 = 1 - bi (decide (0 ≤ v ∧ v ≤ 255)) := by rw [e1, hg_same]
  have B1 : BM H1 a B n := fun i i1 i2 => by rw [e1, hg_ne _ (by omega)]; exact hB i i1 i2
  rw [g7]
  refine ⟨fun c => ⟨fun c2 => ⟨by omega, by omega, fun H2 e2 => ?_⟩, fun c2 => ⟨?_, o1, keep o1, g5, ?_, ?_⟩⟩, fun c => ⟨?_, o1, keep o1, g5, ?_, ?_⟩⟩
  · have k7 : hg H2 a 7 = n := by rw [e2, hg_ne _ (by omega)]; exact g7
    rw [k7]
    refine ⟨by omega, fun H3 e3 => ?_⟩
    have o3 : only H H3 (fun c i => (c = a ∧ (i = 5 ∨ i = 7)) ∨ c = a + 6) := by rw [e3, e2]; exact (o1.then (Or.inr rfl)).then (Or.inl ⟨rfl, Or.inr rfl⟩)
    have j7 : hg H3 a 7 = n + 1 := by rw [e3, hg_same]
    rw [j7]
    refine ⟨by rw [if_pos c, if_neg c2], o3, keep o3, by rw [e3, hg_ne _ (by omega), e2, hg_ne _ (by omega)]; exact g5, by rw [if_pos ⟨c.1, c.2, by omega⟩], ?_⟩
    rw [if_pos ⟨c.1, c.2, by omega⟩, if_pos ⟨c.1, c.2, by omega⟩]
    intro i i1 i2
    rw [e3, hg_ne _ (by omega), e2]
    by_cases e : i = n
    · rw [e, hg_same, upM_same]; omega
    · rw [hg_ne _ (by omega), upM_ne _ e]; exact B1 i i1 (by omega)
  · rw [if_pos c, if_pos c2]
  · rw [if_neg (by omega)]
  · rw [if_neg (by omega), if_neg (by omega)]; exact B1
  · rw [if_neg c]
  · rw [if_neg (fun w => c ⟨w.1, w.2.1⟩)]
  · rw [if_neg (fun w => c ⟨w.1, w.2.1⟩), if_neg (fun w => c ⟨w.1, w.2.1⟩)]; exact B1
end
