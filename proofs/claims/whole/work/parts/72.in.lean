/-! the class: its input -/
def pIn (x : Int) : Int → Int → Prop := fun c i => c = x + 1 ∧ 2 ≤ i ∧ i ≤ 6
/-- a reading goes on -/
def RI (H : AH) (x : Int) (B : Row) (n p : Int) : Prop := Lay LRun H x ∧ (hg H (x + 1) 1 = n ∧ hg H (x + 1) 2 = p ∧ hg H (x + 1) 5 = 0) ∧ (0 ≤ p ∧ p ≤ n ∧ n ≤ 900) ∧ ∀ i, 0 ≤ i → i < n → hg H (x + 2) i = B i
/-- a reading has ended with an error -/
def FE (H : AH) (x k q : Int) : Prop := Lay LRun H x ∧ hg H (x + 1) 5 = k ∧ hg H (x + 1) 6 = q
/-- the word read last is this one, or not -/
def kWd (H : AH) (x : Int) (bs : List Int32) (w : Bool) : Prop := (0 ≤ hg H (x + 1) 3 ∧ hg H (x + 1) 3 ≤ hg H (x + 1) 2 ∧ hg H (x + 1) 2 ≤ 900) ∧ w = wEq (hg H (x + 2)) (hg H (x + 1) 3) (hg H (x + 1) 2) bs
theorem wEq_ext {B C : Row} {s z : Int} {bs : List Int32} (h : ∀ i, s ≤ i → i < z → B i = C i) : wEq B s z bs = wEq C s z bs := by
  have key : ∀ (B C : Row), (∀ i, s ≤ i → i < z → B i = C i) → wEq B s z bs = true → wEq C s z bs = true := by
    intro B C h q
    obtain ⟨q1, q2⟩ := wEq_t.mp q
    exact wEq_t.mpr ⟨q1, fun i i1 i2 => by rw [← h (s + i) (by omega) (by omega)]; exact q2 i i1 i2⟩
  cases h1 : wEq B s z bs <;> cases h2 : wEq C s z bs
  · rfl
  · exact absurd (key C B (fun i a b => (h i a b).symm) h2) (by rw [h1]; decide)
  · exact absurd (key B C h h1) (by rw [h2]; decide)
  · rfl
theorem nrf_in {H : AH} {x i : Int} (h : Lay LRun H x) (hi : 1 ≤ i ∧ i ≤ 6) : nrf H (x + 1) i := by
  obtain ⟨k, rfl⟩ : ∃ k : Nat, i = k := ⟨i.toNat, by omega⟩
  have hk : k = 1 ∨ k = 2 ∨ k = 3 ∨ k = 4 ∨ k = 5 ∨ k = 6 := by omega
  rcases hk with rfl | rfl | rfl | rfl | rfl | rfl <;> exact nrf_fld _ (kRun_1 h) (by decide) (by decide)
theorem inp_lay {H H' : AH} {x : Int} (h : Lay LRun H x) (ho : only H H' (pIn x)) : Lay LRun H' x := h.only ok_Run ho (fun c i q => by obtain ⟨rfl, q1, q2⟩ := q; exact nrf_in h (by omega))
section
variable {l : Launch} {G : GT} {H : AH} {x n p : Int} {B : Row} {d : Nat}
theorem RI.go {H' : AH} {p' : Int} (h : RI H x B n p) (ho : only H H' (pIn x)) (e2 : hg H' (x + 1) 2 = p') (e5 : hg H' (x + 1) 5 = 0) (hp : 0 ≤ p' ∧ p' ≤ n) : RI H' x B n p' :=
  ⟨inp_lay h.1 ho, ⟨(ho.2.2 _ _ (fun q => by obtain ⟨-, q, -⟩ := q; omega)).trans h.2.1.1, e2, e5⟩, ⟨hp.1, hp.2, h.2.2.1.2.2⟩, fun i i1 i2 => (ho.2.2 _ _ (fun q => by obtain ⟨q, -⟩ := q; omega)).trans (h.2.2.2 i i1 i2)⟩
theorem k_wordIs {q t : Nat} {bs : List Int32} {w : Bool} (hL : Lay LRun H x) (hg9 : gS G q t bs) (hc : gC G) (hb : bs.length < 1000) (hw : kWd H x bs w) (hd : 4 ≤ d := by omega) : CL l G mX1_wordIs d 0 0 [vR (x + 1), vX q] H (PQ (vI (bi (decide (w = true)))) H) := by
  obtain ⟨d, rfl⟩ : ∃ k, d = k + 1 := ⟨d - 1, by omega⟩
  obtain ⟨⟨b1, b2, b3⟩, hw⟩ := hw
  refine CL.of (by decide) rfl (Nat.le_of_ble_eq_true rfl) (s_X1_wordIs_0 hg9 hc hb hL ⟨by omega, fun c => ?_, fun c => ⟨?_, rfl⟩⟩)
  · have key : ∀ k : Nat, k ≤ bs.length → (∀ i : Int, 0 ≤ i → i < k → hg H (x + 2) (hg H (x + 1) 3 + i) = (bs.getD i.toNat 0).toInt % 256) → AW l G mX1_wordIs (d + 1) 0 0 (PQ (vI (bi (decide (w = true)))) H) 20 [vR (x + 1), vX q, vI k] [] 0 0 H := by
      refine upN _ ?_ ?_
      · intro k hk ih hv
        refine s_X1_wordIs_20 hg9 hc hb hL ⟨fun z => absurd z (by omega), fun _ => ⟨by omega, by omega, by omega, fun q1 => ⟨by omega, ih (fun i i1 i2 => ?_)⟩, fun q1 => ⟨?_, rfl⟩⟩⟩
        · by_cases hi : i = k
          · rw [hi]; exact q1
          · exact hv i i1 (by omega)
        · rw [bi_f (fun z => q1 ?_)]
          rw [hw] at z
          exact (wEq_t.mp z).2 k (by omega) (by omega)
      · intro hv
        refine s_X1_wordIs_20 hg9 hc hb hL ⟨fun _ => ⟨?_, rfl⟩, fun z => absurd z (by omega)⟩
        rw [bi_t]
        rw [hw]
        exact wEq_t.mpr ⟨c, hv⟩
    exact key 0 (Nat.zero_le _) (fun i i1 i2 => by omega)
  · rw [bi_f (fun z => c ?_)]
    rw [hw] at z
    exact (wEq_t.mp z).1
theorem RI.wd {s : Int} {bs : List Int32} (h : RI H x B n p) (h3 : hg H (x + 1) 3 = s) (hs : 0 ≤ s ∧ s ≤ p) : kWd H x bs (wEq B s p bs) := by
  obtain ⟨-, ⟨-, e2, -⟩, hb, hB⟩ := h
  refine ⟨by omega, ?_⟩
  rw [h3, e2]
  exact wEq_ext (fun i i1 i2 => (hB i (by omega) (by omega)).symm)
theorem k_rewind (hL : Lay LRun H x) : CL l G mX1_rewind d 0 0 [vR (x + 1)] H (fun r H' => r = vV ∧ only H H' (pIn x) ∧ hg H' (x + 1) 2 = 0 ∧ hg H' (x + 1) 5 = 0) := by
  refine CL.of (by decide) rfl (Nat.le_of_ble_eq_true rfl) (s_X1_rewind_0 hL fun H1 e1 H2 e2 => ⟨rfl, ?_, ?_, ?_⟩)
  · rw [e2, e1]; exact (only.wr ⟨rfl, by omega, by omega⟩).then ⟨rfl, by omega, by omega⟩
  · rw [e2, hg_ne _ (by omega), e1, hg_same]
  · rw [e2, hg_same]
theorem k_fail {k q : Int} (hL : Lay LRun H x) : CL l G mX1_fail d 0 0 [vR (x + 1), vI k, vI q] H (fun r H' => r = vI 0 ∧ only H H' (pIn x) ∧ FE H' x k q) := by
  refine CL.of (by decide) rfl (Nat.le_of_ble_eq_true rfl) (s_X1_fail_0 hL fun H1 e1 H2 e2 => ?_)
  have o : only H H2 (pIn x) := by rw [e2, e1]; exact (only.wr ⟨rfl, by omega, by omega⟩).then ⟨rfl, by omega, by omega⟩
  exact ⟨rfl, o, inp_lay hL o, by rw [e2, hg_ne _ (by omega), e1, hg_same], by rw [e2, hg_same]⟩
theorem k_skipSpaces (h : RI H x B n p) : CL l G mX1_skipSpaces d 0 0 [vR (x + 1)] H (fun r H' => r = vV ∧ only H H' (pIn x) ∧ RI H' x B n (spE B n p)) := by
  refine CL.of (by decide) rfl (Nat.le_of_ble_eq_true rfl) ?_
  have key : ∀ (k : Nat) (H1 : AH) (p1 : Int), (n - p1).toNat ≤ k → only H H1 (pIn x) → RI H1 x B n p1 → spE B n p1 = spE B n p → AW l G mX1_skipSpaces d 0 0 (fun r H' => r = vV ∧ only H H' (pIn x) ∧ RI H' x B n (spE B n p)) 0 [vR (x + 1)] [] 0 0 H1 := by
    intro k
    induction k with
    | zero =>
      intro H1 p1 hk o1 R1 he
      obtain ⟨L1, ⟨f1, f2, f5⟩, b1, B1⟩ := R1
      refine s_X1_skipSpaces_0 L1 ⟨fun c => ?_, fun c => absurd c (by omega)⟩
      rw [spE_no (Or.inl (by omega))] at he
      rw [← he]
      exact ⟨rfl, o1, L1, ⟨f1, f2, f5⟩, b1, B1⟩
    | succ k ih =>
      intro H1 p1 hk o1 R1 he
      have R1' := R1
      obtain ⟨L1, ⟨f1, f2, f5⟩, b1, B1⟩ := R1
      refine s_X1_skipSpaces_0 L1 ⟨fun c => ?_, fun c => ⟨by omega, fun c2 => ?_, fun c2 => ⟨by omega, fun H2 e2 => ?_⟩⟩⟩
      · rw [spE_no (Or.inl (by omega))] at he
        rw [← he]
        exact ⟨rfl, o1, R1'⟩
      · rw [f2, B1 p1 (by omega) (by omega)] at c2
        rw [spE_no (Or.inr (fun z => c2 (isSp_t.mp z)))] at he
        rw [← he]
        exact ⟨rfl, o1, R1'⟩
      · rw [f2, B1 p1 (by omega) (by omega)] at c2
        have o2 : only H1 H2 (pIn x) := by rw [e2]; exact only.wr ⟨rfl, by omega, by omega⟩
        rw [f2] at e2
        refine ih H2 (p1 + 1) (by omega) (o1.trans o2) (R1'.go o2 (by rw [e2, hg_same]) (by rw [e2, hg_ne _ (by omega), f5]) (by omega)) ?_
        rw [← he]
        exact (spE_go (by omega) (isSp_t.mpr c2)).symm
  exact key _ H p (Nat.le_refl _) only.rf h rfl
theorem k_readWord (h : RI H x B n p) (hd : 1 ≤ d := by omega) : CL l G mX1_readWord d 0 0 [vR (x + 1)] H (fun r H' => only H H' (pIn x) ∧ ((spE B n p < wdE B n (spE B n p) ∧ r = vI 1 ∧ RI H' x B n (wdE B n (spE B n p)) ∧ hg H' (x + 1) 3 = spE B n p) ∨ (wdE B n (spE B n p) = spE B n p ∧ r = vI 0 ∧ FE H' x 1 (spE B n p)))) := by
  obtain ⟨d, rfl⟩ : ∃ k, d = k + 1 := ⟨d - 1, by omega⟩
  obtain ⟨s, hs⟩ : ∃ s, s = spE B n p := ⟨_, rfl⟩
  obtain ⟨z, hz⟩ : ∃ z, z = wdE B n s := ⟨_, rfl⟩
  rw [← hs, ← hz]
  have sf := spE_f (B := B) (i := p) h.2.2.1.2.1
  rw [← hs] at sf
  have zf := wdE_f (B := B) (i := s) sf.2.1
  rw [← hz] at zf
  have hp := h.2.2.1
  refine CL.of (by decide) rfl (Nat.le_of_ble_eq_true rfl) (s_X1_readWord_0 h.1 (CL.mono (k_skipSpaces h) ?_))
  rintro r H1 ⟨rfl, o1, R1⟩
  rw [← hs] at R1
  refine ⟨R1.1, rfl, fun H2 e2 => ?_⟩
  rw [R1.2.1.2.1] at e2
  have o2 : only H1 H2 (pIn x) := by rw [e2]; exact only.wr ⟨rfl, by omega, by omega⟩
  have last : ∀ H3, only H H3 (pIn x) → RI H3 x B n z → hg H3 (x + 1) 3 = s → AW l G mX1_readWord (d + 1) 0 0 (fun r H' => only H H' (pIn x) ∧ ((s < z ∧ r = vI 1 ∧ RI H' x B n z ∧ hg H' (x + 1) 3 = s) ∨ (z = s ∧ r = vI 0 ∧ FE H' x 1 s))) 64 [vR (x + 1)] [] 0 0 H3 := by
    intro H3 o3 R3 t3
    obtain ⟨L3, ⟨f1, f2, f5⟩, b3, B3⟩ := id R3
    refine s_X1_readWord_64 L3 ⟨fun c => ⟨o3, Or.inl ⟨by omega, rfl, R3, t3⟩⟩, fun c => CL.mono (k_fail L3) ?_⟩
    rintro r H4 ⟨rfl, o4, F4⟩
    rw [t3] at F4
    exact ⟨F4.1, 0, rfl, fun _ => ⟨o3.trans o4, Or.inr ⟨by omega, rfl, F4⟩⟩, fun c => absurd rfl c⟩
  have key : ∀ (k : Nat) (H3 : AH) (p1 : Int), (n - p1).toNat ≤ k → s ≤ p1 → only H H3 (pIn x) → RI H3 x B n p1 → hg H3 (x + 1) 3 = s → wdE B n p1 = z → AW l G mX1_readWord (d + 1) 0 0 (fun r H' => only H H' (pIn x) ∧ ((s < z ∧ r = vI 1 ∧ RI H' x B n z ∧ hg H' (x + 1) 3 = s) ∨ (z = s ∧ r = vI 0 ∧ FE H' x 1 s))) 12 [vR (x + 1)] [] 0 0 H3 := by
    intro k
    induction k with
    | zero =>
      intro H3 p1 hk hsp o3 R3 t3 he
      obtain ⟨L3, ⟨f1, f2, f5⟩, b3, B3⟩ := id R3
      refine s_X1_readWord_12 L3 ⟨fun c => ?_, fun c => absurd c (by omega)⟩
      rw [wdE_no (Or.inl (by omega))] at he
      rw [he] at R3
      exact last H3 o3 R3 t3
    | succ k ih =>
      intro H3 p1 hk hsp o3 R3 t3 he
      obtain ⟨L3, ⟨f1, f2, f5⟩, b3, B3⟩ := id R3
      have no : (n ≤ p1 ∨ ¬ isLt B p1 = true) → AW l G mX1_readWord (d + 1) 0 0 (fun r H' => only H H' (pIn x) ∧ ((s < z ∧ r = vI 1 ∧ RI H' x B n z ∧ hg H' (x + 1) 3 = s) ∨ (z = s ∧ r = vI 0 ∧ FE H' x 1 s))) 64 [vR (x + 1)] [] 0 0 H3 := by
        intro c
        rw [wdE_no c] at he
        rw [he] at R3
        exact last H3 o3 R3 t3
      refine s_X1_readWord_12 L3 ⟨fun c => no (Or.inl (by omega)), fun c => ⟨by omega, fun c2 => ?_, fun c2 => ⟨fun c3 => ?_, fun c3 => ⟨by omega, fun H4 e4 => ?_⟩⟩⟩⟩
      · rw [f2, B3 p1 (by omega) (by omega)] at c2
        exact no (Or.inr (fun q => by have := isLt_t.mp q; omega))
      · rw [f2, B3 p1 (by omega) (by omega)] at c3
        exact no (Or.inr (fun q => by have := isLt_t.mp q; omega))
      · rw [f2, B3 p1 (by omega) (by omega)] at c2 c3
        rw [f2] at e4
        have o4 : only H3 H4 (pIn x) := by rw [e4]; exact only.wr ⟨rfl, by omega, by omega⟩
        refine ih H4 (p1 + 1) (by omega) (by omega) (o3.trans o4) (R3.go o4 (by rw [e4, hg_same]) (by rw [e4, hg_ne _ (by omega), f5]) (by omega)) (by rw [e4, hg_ne _ (by omega), t3]) ?_
        rw [← he]
        exact (wdE_go (by omega) (isLt_t.mpr ⟨c2, c3⟩)).symm
  exact key _ H2 s (Nat.le_refl _) (Int.le_refl _) (o1.trans o2) (R1.go o2 (by rw [e2, hg_ne _ (by omega), R1.2.1.2.1]) (by rw [e2, hg_ne _ (by omega), R1.2.1.2.2]) (by omega)) (by rw [e2, hg_same]) hz.symm
theorem k_readNumber {lo hi : Int} (h : RI H x B n p) (hd : 1 ≤ d := by omega) : CL l G mX1_readNumber d 0 0 [vR (x + 1), vI lo, vI hi] H (fun r H' => only H H' (pIn x) ∧ ((nmE B n p lo hi = 0 ∧ r = vI 1 ∧ RI H' x B n (dgE B n (spE B n p)) ∧ hg H' (x + 1) 4 = cvE B n (spE B n p) 0) ∨ (nmE B n p lo hi ≠ 0 ∧ r = vI 0 ∧ FE H' x (nmE B n p lo hi) (spE B n p)))) := by
  obtain ⟨d, rfl⟩ : ∃ k, d = k + 1 := ⟨d - 1, by omega⟩
  unfold nmE
  obtain ⟨s, hs⟩ : ∃ s, s = spE B n p := ⟨_, rfl⟩
  obtain ⟨z, hz⟩ : ∃ z, z = dgE B n s := ⟨_, rfl⟩
  obtain ⟨v, hv⟩ : ∃ v, v = cvE B n s 0 := ⟨_, rfl⟩
  rw [← hs, ← hz, ← hv]
  have sf := spE_f (B := B) (i := p) h.2.2.1.2.1
  rw [← hs] at sf
  have zf := dgE_f (B := B) (i := s) sf.2.1
  rw [← hz] at zf
  have hp := h.2.2.1
  obtain ⟨Q, hQ⟩ : ∃ Q : AV → AH → Prop, Q = (fun r H' => only H H' (pIn x) ∧ (((if z = s then 1 else if lo ≤ v ∧ v ≤ hi then 0 else 2) = (0 : Int) ∧ r = vI 1 ∧ RI H' x B n z ∧ hg H' (x + 1) 4 = v) ∨ ((if z = s then 1 else if lo ≤ v ∧ v ≤ hi then 0 else 2) ≠ (0 : Int) ∧ r = vI 0 ∧ FE H' x (if z = s then 1 else if lo ≤ v ∧ v ≤ hi then 0 else 2) s))) := ⟨_, rfl⟩
  rw [← hQ]
  refine CL.of (by decide) rfl (Nat.le_of_ble_eq_true rfl) (s_X1_readNumber_0 h.1 (CL.mono (k_skipSpaces h) ?_))
  rintro r H1 ⟨rfl, o1, R1⟩
  rw [← hs] at R1
  refine ⟨R1.1, rfl, fun H2 e2 H3 e3 => ?_⟩
  rw [R1.2.1.2.1] at e2
  have o2 : only H1 H3 (pIn x) := by rw [e3, e2]; exact (only.wr ⟨rfl, by omega, by omega⟩).then ⟨rfl, by omega, by omega⟩
  have last : ∀ H3, only H H3 (pIn x) → RI H3 x B n z → hg H3 (x + 1) 3 = s → hg H3 (x + 1) 4 = v → AW l G mX1_readNumber (d + 1) 0 0 Q 102 [vR (x + 1), vI lo, vI hi] [] 0 0 H3 := by
    intro H3 o3 R3 t3 v3
    obtain ⟨L3, ⟨f1, f2, f5⟩, b3, B3⟩ := id R3
    have bad : z ≠ s → ¬ (lo ≤ v ∧ v ≤ hi) → CL l G mX1_fail d 0 0 [vR (x + 1), vI 2, vI (hg H3 (x + 1) 3)] H3 (fun r9 H1 => Lay LRun H1 x ∧ ∃ y1 : Int, r9 = vI y1 ∧ (y1 = 0 → Q (vI 0) H1) ∧ (¬ y1 = 0 → Q (vI 1) H1)) := by
      intro c1 c2
      refine CL.mono (k_fail L3) ?_
      rintro r H4 ⟨rfl, o4, F4⟩
      rw [t3] at F4
      refine ⟨F4.1, 0, rfl, fun _ => ?_, fun c => absurd rfl c⟩
      rw [hQ]
      refine ⟨o3.trans o4, Or.inr ?_⟩
      rw [if_neg c1, if_neg c2]
      exact ⟨by decide, rfl, F4⟩
    refine s_X1_readNumber_102 L3 ⟨fun c => ⟨fun c2 => bad (by omega) (by omega), fun c2 => ⟨fun c3 => ?_, fun c3 => bad (by omega) (by omega)⟩⟩, fun c => ?_⟩
    · rw [hQ]
      refine ⟨o3, Or.inl ?_⟩
      rw [if_neg (by omega), if_pos (by omega)]
      exact ⟨rfl, rfl, R3, v3⟩
    · refine CL.mono (k_fail L3) ?_
      rintro r H4 ⟨rfl, o4, F4⟩
      rw [t3] at F4
      refine ⟨F4.1, 0, rfl, Or.inl rfl, ?_⟩
      rw [hQ]
      refine ⟨o3.trans o4, Or.inr ?_⟩
      rw [if_pos (by omega)]
      exact ⟨by decide, rfl, F4⟩
  have key : ∀ (k : Nat) (H3 : AH) (p1 w : Int), (n - p1).toNat ≤ k → s ≤ p1 → 0 ≤ w ∧ w ≤ 9999999 → only H H3 (pIn x) → RI H3 x B n p1 → hg H3 (x + 1) 3 = s → hg H3 (x + 1) 4 = w → dgE B n p1 = z → cvE B n p1 w = v → AW l G mX1_readNumber (d + 1) 0 0 Q 17 [vR (x + 1), vI lo, vI hi] [] 0 0 H3 := by
    intro k
    induction k with
    | zero =>
      intro H3 p1 w hk hsp hw o3 R3 t3 v3 he hc
      obtain ⟨L3, ⟨f1, f2, f5⟩, b3, B3⟩ := id R3
      refine s_X1_readNumber_17 L3 ⟨fun c => ?_, fun c => absurd c (by omega)⟩
      rw [dgE_no (Or.inl (by omega))] at he
      rw [cvE_no (Or.inl (by omega))] at hc
      rw [he] at R3
      exact last H3 o3 R3 t3 (v3.trans hc)
    | succ k ih =>
      intro H3 p1 w hk hsp hw o3 R3 t3 v3 he hc
      obtain ⟨L3, ⟨f1, f2, f5⟩, b3, B3⟩ := id R3
      have no : (n ≤ p1 ∨ ¬ isDg B p1 = true) → AW l G mX1_readNumber (d + 1) 0 0 Q 102 [vR (x + 1), vI lo, vI hi] [] 0 0 H3 := by
        intro c
        rw [dgE_no c] at he
        rw [cvE_no c] at hc
        rw [he] at R3
        exact last H3 o3 R3 t3 (v3.trans hc)
      refine s_X1_readNumber_17 L3 ⟨fun c => no (Or.inl (by omega)), fun c => ⟨by omega, fun c2 => ?_, fun c2 => ⟨fun c3 => ?_, fun c3 => ?_⟩⟩⟩
      · rw [f2, B3 p1 (by omega) (by omega)] at c2
        exact no (Or.inr (fun q => by have := isDg_t.mp q; omega))
      · rw [f2, B3 p1 (by omega) (by omega)] at c3
        exact no (Or.inr (fun q => by have := isDg_t.mp q; omega))
      · rw [f2, B3 p1 (by omega) (by omega)] at c2 c3
        rw [dgE_go (by omega) (isDg_t.mpr ⟨c2, c3⟩)] at he
        rw [cvE_go (by omega) (isDg_t.mpr ⟨c2, c3⟩)] at hc
        rw [f2, v3, B3 p1 (by omega) (by omega)]
        refine ⟨fun c4 => ⟨by omega, fun H4 e4 => ?_⟩, fun c4 => ⟨by omega, by omega, by omega, fun H4 e4 => ?_⟩⟩
        · rw [if_neg (by omega)] at hc
          have o4 : only H3 H4 (pIn x) := by rw [e4]; exact only.wr ⟨rfl, by omega, by omega⟩
          exact ih H4 (p1 + 1) w (by omega) (by omega) hw (o3.trans o4) (R3.go o4 (by rw [e4, hg_same]) (by rw [e4, hg_ne _ (by omega), f5]) (by omega)) (by rw [e4, hg_ne _ (by omega), t3]) (by rw [e4, hg_ne _ (by omega), v3]) he hc
        · rw [if_pos (by omega)] at hc
          have g2 : hg H4 (x + 1) 2 = p1 := by rw [e4, hg_ne _ (by omega), f2]
          rw [g2]
          refine ⟨by omega, fun H5 e5 => ?_⟩
          have o4 : only H3 H5 (pIn x) := by rw [e5, e4]; exact (only.wr ⟨rfl, by omega, by omega⟩).then ⟨rfl, by omega, by omega⟩
          exact ih H5 (p1 + 1) _ (by omega) (by omega) (by omega) (o3.trans o4) (R3.go o4 (by rw [e5, hg_same]) (by rw [e5, hg_ne _ (by omega), e4, hg_ne _ (by omega), f5]) (by omega)) (by rw [e5, hg_ne _ (by omega), e4, hg_ne _ (by omega), t3]) (by rw [e5, hg_ne _ (by omega), e4, hg_same]) he hc
  exact key _ H3 s 0 (Nat.le_refl _) (Int.le_refl _) (by omega) (o1.trans o2) (R1.go o2 (by rw [e3, hg_ne _ (by omega), e2, hg_ne _ (by omega), R1.2.1.2.1]) (by rw [e3, hg_ne _ (by omega), e2, hg_ne _ (by omega), R1.2.1.2.2]) (by omega)) (by rw [e3, hg_ne _ (by omega), e2, hg_same]) (by rw [e3, hg_same]) hz.symm hv.symm
end
