/-! the reference: its input -/
/-- the reference's word is this one, or not -/
def mWd (H : AH) (a : Int) (bs : List Int32) (w : Bool) : Prop := (0 ≤ hg H a 9 ∧ hg H a 9 ≤ hg H a 8 ∧ hg H a 8 ≤ 900) ∧ w = wEq (hg H (a + 6)) (hg H a 9) (hg H a 8) bs
def BM (H : AH) (a : Int) (B : Row) (n : Int) : Prop := ∀ i, 0 ≤ i → i < n → hg H (a + 6) i % 256 = B i ∧ -128 ≤ hg H (a + 6) i ∧ hg H (a + 6) i ≤ 127
/-- the reference's reading -/
def MJ (H : AH) (a : Int) (B : Row) (n : Int) (σ : PS) : Prop := Lay LMod H a ∧ (hg H a 7 = n ∧ hg H a 8 = σ.2.2.1 ∧ hg H a 10 = σ.1 ∧ (σ.1 ≠ 0 → hg H a 11 = σ.2.1)) ∧ (0 ≤ σ.2.2.1 ∧ σ.2.2.1 ≤ n ∧ n ≤ 900) ∧ BM H a B n ∧ ∀ k, 0 ≤ k → k < 440 → hg H (a + 2) k = σ.2.2.2 k
/-- what a reading changes -/
def pMr (a : Int) : Int → Int → Prop := fun c i => (c = a ∧ 8 ≤ i ∧ i ≤ 11) ∨ c = a + 2
section
variable {l : Launch} {G : GT} {H : AH} {a n : Int} {B R : Row} {σ : PS} {d : Nat}
theorem nrf_mf {i : Int} (h : Lay LMod H a) (hi : i = 5 ∨ (7 ≤ i ∧ i ≤ 13)) : nrf H a i := by
  obtain ⟨k, rfl⟩ : ∃ k : Nat, i = k := ⟨i.toNat, by omega⟩
  have hk : k = 5 ∨ k = 7 ∨ k = 8 ∨ k = 9 ∨ k = 10 ∨ k = 11 ∨ k = 12 ∨ k = 13 := by omega
  rcases hk with rfl | rfl | rfl | rfl | rfl | rfl | rfl | rfl <;> exact nrf_fld _ (kMod_0 h) (by decide) (by decide)
theorem pMr_nrf (h : Lay LMod H a) : ∀ c i, pMr a c i → nrf H c i := by
  rintro c i (⟨rfl, h1, h2⟩ | rfl)
  · exact nrf_mf h (by omega)
  · exact nrf_arr (kMod_2 h) (by decide) (by decide)
theorem MJ.go {H' : AH} {p e q : Int} (h : MJ H a B n σ) (ho : only H H' (fun c i => c = a ∧ 8 ≤ i ∧ i ≤ 11)) (h8 : hg H' a 8 = p) (hp : 0 ≤ p ∧ p ≤ n) (h10 : hg H' a 10 = e) (h11 : e ≠ 0 → hg H' a 11 = q) : MJ H' a B n (e, q, p, σ.2.2.2) := by
  obtain ⟨hL, ⟨l7, l8, l10, l11⟩, hb, hB, hR⟩ := h
  refine ⟨hL.only ok_Mod ho (fun c i w => by rw [w.1]; exact nrf_mf hL (by omega)), ⟨(ho.2.2 _ _ (by omega)).trans l7, h8, h10, h11⟩, ⟨hp.1, hp.2, hb.2.2⟩, fun i i1 i2 => ?_, fun k k1 k2 => (ho.2.2 _ _ (by omega)).trans (hR k k1 k2)⟩
  rw [ho.2.2 _ _ (by omega)]
  exact hB i i1 i2
theorem MJ.up {k v : Int} (h : MJ H a B n σ) : MJ (hs H (a + 2) k v) a B n (upS σ k v) := by
  obtain ⟨hL, ⟨l7, l8, l10, l11⟩, hb, hB, hR⟩ := h
  refine ⟨hL.wr ok_Mod (nrf_arr (kMod_2 hL) (by decide) (by decide)), ⟨(hg_ne _ (by omega)).trans l7, (hg_ne _ (by omega)).trans l8, (hg_ne _ (by omega)).trans l10, fun w => (hg_ne _ (by omega)).trans (l11 w)⟩, hb, fun i i1 i2 => ?_, fun j j1 j2 => ?_⟩
  · rw [hg_ne _ (by omega)]; exact hB i i1 i2
  · show _ = upM σ.2.2.2 k v j
    by_cases e : j = k
    · rw [e, hg_same, upM_same]
    · rw [hg_ne _ (by omega), upM_ne _ e]; exact hR j j1 j2
theorem MJ.wd {s : Int} {bs : List Int32} (h : MJ H a B n σ) (h9 : hg H a 9 = s) (hs : 0 ≤ s ∧ s ≤ σ.2.2.1) (hl : ∀ i, s ≤ i → i < σ.2.2.1 → 97 ≤ B i ∧ B i ≤ 122) : mWd H a bs (wEq B s σ.2.2.1 bs) := by
  obtain ⟨hL, ⟨l7, l8, l10, l11⟩, hb, hB, hR⟩ := h
  refine ⟨by omega, ?_⟩
  rw [h9, l8]
  refine wEq_ext (fun i i1 i2 => ?_)
  have := hB i (by omega) (by omega)
  have := hl i i1 i2
  omega
theorem c_isWord {q t : Nat} {bs : List Int32} {w : Bool} (hL : Lay LMod H a) (hg9 : gS G q t bs) (hc : gC G) (hb : bs.length < 1000) (hw : mWd H a bs w) (hd : 4 ≤ d := by omega) : CL l G mX8_isWord d 0 0 [vR a, vX q] H (PQ (vI (bi (decide (w = true)))) H) := by
  obtain ⟨d, rfl⟩ : ∃ k, d = k + 1 := ⟨d - 1, by omega⟩
  obtain ⟨⟨b1, b2, b3⟩, hw⟩ := hw
  have zero : ∀ k : Int, w = false → AW l G mX8_isWord (d + 1) 0 0 (PQ (vI (bi (decide (w = true)))) H) 24 [vR a, vX q, vI 0, vI k] [] 0 0 H := by
    intro k z
    refine s_X8_isWord_24 hg9 hc hb hL ⟨fun _ => ⟨Or.inl rfl, ?_, rfl⟩, fun c => absurd rfl c⟩
    rw [bi_f (by rw [z]; decide)]
  refine CL.of (by decide) rfl (Nat.le_of_ble_eq_true rfl) (s_X8_isWord_0 hg9 hc hb hL ⟨by omega, fun c => zero 0 ?_, fun c => ?_⟩)
  · cases h : w with
    | false => rfl
    | true => rw [h] at hw; exact absurd (wEq_t.mp hw.symm).1 c
  · have key : ∀ k : Nat, k ≤ bs.length → (∀ i : Int, 0 ≤ i → i < k → hg H (a + 6) (hg H a 9 + i) = (bs.getD i.toNat 0).toInt % 256) → AW l G mX8_isWord (d + 1) 0 0 (PQ (vI (bi (decide (w = true)))) H) 24 [vR a, vX q, vI 1, vI k] [] 0 0 H := by
      refine upN _ ?_ ?_
      · intro k hk ih hv
        refine s_X8_isWord_24 hg9 hc hb hL ⟨fun z => absurd z (by decide), fun _ => ⟨fun z => absurd z (by omega), fun _ => ⟨by omega, by omega, by omega, fun q1 => ⟨by omega, zero _ ?_⟩, fun q1 => ⟨by omega, ih (fun i i1 i2 => ?_)⟩⟩⟩⟩
        · cases h : w with
          | false => rfl
          | true => rw [h] at hw; exact absurd ((wEq_t.mp hw.symm).2 k (by omega) (by omega)) q1
        · by_cases hi : i = k
          · rw [hi]; exact q1
          · exact hv i i1 (by omega)
      · intro hv
        refine s_X8_isWord_24 hg9 hc hb hL ⟨fun z => absurd z (by decide), fun _ => ⟨fun _ => ⟨Or.inr rfl, ?_, rfl⟩, fun z => absurd z (by omega)⟩⟩
        rw [bi_t]
        rw [hw]
        exact wEq_t.mpr ⟨c, hv⟩
    exact key 0 (Nat.zero_le _) (fun i i1 i2 => by omega)
theorem c_here (h : MJ H a B n σ) : CL l G mX8_here d 0 0 [vR a] H (PQ (vI (if σ.2.2.1 < n then B σ.2.2.1 else -1)) H) := by
  obtain ⟨hL, ⟨l7, l8, l10, l11⟩, hb, hB, hR⟩ := h
  refine CL.of (by decide) rfl (Nat.le_of_ble_eq_true rfl) (s_X8_here_0 hL ?_)
  rw [l7, l8]
  refine ⟨fun c => ⟨by rw [if_neg (by omega)], rfl⟩, fun c => ⟨by omega, ?_, rfl⟩⟩
  rw [if_pos c, (hB _ hb.1 c).1]
theorem B_nn (h : MJ H a B n σ) {i : Int} (h1 : 0 ≤ i) (h2 : i < n) : 0 ≤ B i := by have := (h.2.2.2.1 i h1 h2).1; omega
theorem c_next (h : MJ H a B n σ) (hd : 1 ≤ d := by omega) : CL l G mX8_next d 0 0 [vR a] H (fun r H' => r = vI (if spE B n σ.2.2.1 < n then B (spE B n σ.2.2.1) else -1) ∧ only H H' (pMr a) ∧ MJ H' a B n (σ.1, σ.2.1, spE B n σ.2.2.1, σ.2.2.2) ∧ hg H' a 9 = spE B n σ.2.2.1) := by
  obtain ⟨d, rfl⟩ : ∃ k, d = k + 1 := ⟨d - 1, by omega⟩
  obtain ⟨e, q, p, R⟩ := σ
  refine CL.of (by decide) rfl (Nat.le_of_ble_eq_true rfl) ?_
  have key : ∀ (k : Nat) (H1 : AH) (p1 : Int), (n - p1).toNat ≤ k → only H H1 (pMr a) → MJ H1 a B n (e, q, p1, R) → spE B n p1 = spE B n p → AW l G mX8_next (d + 1) 0 0 (fun r H' => r = vI (if spE B n p < n then B (spE B n p) else -1) ∧ only H H' (pMr a) ∧ MJ H' a B n (e, q, spE B n p, R) ∧ hg H' a 9 = spE B n p) 0 [vR a] [] 0 0 H1 := by
    intro k
    induction k with
    | zero =>
      intro H1 p1 hk o1 M1 he
      have b1 : 0 ≤ p1 ∧ p1 ≤ n ∧ n ≤ 900 := M1.2.2.1
      have l8 : hg H1 a 8 = p1 := M1.2.1.2.1
      refine s_X8_next_0 M1.1 (CL.mono (c_here M1) ?_)
      rintro r H2 ⟨rfl, rfl⟩
      refine ⟨M1.1, _, rfl, fun c => ?_, fun c => ?_⟩
      rotate_left
      · have c : (if p1 < n then B p1 else -1) = 32 := c
        rw [if_neg (by omega)] at c; omega
      · intro H3 e3
        rw [l8] at e3
        have o3 : only H2 H3 (fun c i => c = a ∧ 8 ≤ i ∧ i ≤ 11) := by rw [e3]; exact only.wr ⟨rfl, by omega, by omega⟩
        have M3 := M1.go o3 (p := p1) (e := e) (q := q) (by rw [e3, hg_ne _ (by omega)]; exact l8) (by omega) (by rw [e3, hg_ne _ (by omega)]; exact M1.2.1.2.2.1) (fun w => by rw [e3, hg_ne _ (by omega)]; exact M1.2.1.2.2.2 w)
        refine CL.mono (c_here M3) ?_
        rintro r H4 ⟨rfl, rfl⟩
        rw [spE_no (Or.inl (by omega))] at he
        rw [← he]
        exact ⟨M3.1, _, rfl, rfl, o1.trans (o3.mono fun c i w => Or.inl w), M3, by rw [e3, hg_same]⟩
    | succ k ih =>
      intro H1 p1 hk o1 M1 he
      have b1 : 0 ≤ p1 ∧ p1 ≤ n ∧ n ≤ 900 := M1.2.2.1
      have l8 : hg H1 a 8 = p1 := M1.2.1.2.1
      refine s_X8_next_0 M1.1 (CL.mono (c_here M1) ?_)
      rintro r H2 ⟨rfl, rfl⟩
      refine ⟨M1.1, _, rfl, fun c H3 e3 => ?_, fun c => ?_⟩
      · have c : ¬ (if p1 < n then B p1 else -1) = 32 := c
        rw [l8] at e3
        have o3 : only H2 H3 (fun c i => c = a ∧ 8 ≤ i ∧ i ≤ 11) := by rw [e3]; exact only.wr ⟨rfl, by omega, by omega⟩
        have M3 := M1.go o3 (p := p1) (e := e) (q := q) (by rw [e3, hg_ne _ (by omega)]; exact l8) (by omega) (by rw [e3, hg_ne _ (by omega)]; exact M1.2.1.2.2.1) (fun w => by rw [e3, hg_ne _ (by omega)]; exact M1.2.1.2.2.2 w)
        refine CL.mono (c_here M3) ?_
        rintro r H4 ⟨rfl, rfl⟩
        have no : n ≤ p1 ∨ ¬ isSp B p1 = true := by
          by_cases c2 : p1 < n
          · rw [if_pos c2] at c; exact Or.inr (fun w => c (isSp_t.mp w))
          · exact Or.inl (by omega)
        rw [spE_no no] at he
        rw [← he]
        exact ⟨M3.1, _, rfl, rfl, o1.trans (o3.mono fun c i w => Or.inl w), M3, by rw [e3, hg_same]⟩
      · have c : (if p1 < n then B p1 else -1) = 32 := c
        have c2 : p1 < n := by by_cases w : p1 < n; exact w; rw [if_neg w] at c; omega
        rw [if_pos c2] at c
        rw [l8]
        refine ⟨by omega, fun H3 e3 => ?_⟩
        have o3 : only H2 H3 (fun c i => c = a ∧ 8 ≤ i ∧ i ≤ 11) := by rw [e3]; exact only.wr ⟨rfl, by omega, by omega⟩
        have M3 := M1.go o3 (p := p1 + 1) (e := e) (q := q) (by rw [e3, hg_same]) (by omega) (by rw [e3, hg_ne _ (by omega)]; exact M1.2.1.2.2.1) (fun w => by rw [e3, hg_ne _ (by omega)]; exact M1.2.1.2.2.2 w)
        refine ih H3 (p1 + 1) (by omega) (o1.trans (o3.mono fun c i w => Or.inl w)) M3 ?_
        rw [← he]
        exact (spE_go c2 (isSp_t.mpr c)).symm
  exact key _ H p (Nat.le_refl _) only.rf h rfl
theorem c_fails {k q : Int} (h : MJ H a B n σ) : CL l G mX8_fails d 0 0 [vR a, vI k, vI q] H (fun r H' => r = vV ∧ only H H' (pMr a) ∧ MJ H' a B n (if σ.1 = 0 then (k, q, σ.2.2.1, σ.2.2.2) else σ) ∧ hg H' a 9 = hg H a 9) := by
  have l10 := h.2.1.2.2.1
  refine CL.of (by decide) rfl (Nat.le_of_ble_eq_true rfl) (s_X8_fails_0 h.1 ?_)
  rw [l10]
  refine ⟨fun c => ⟨rfl, only.rf, by rw [if_neg c]; exact h, rfl⟩, fun c H1 e1 H2 e2 => ?_⟩
  have o : only H H2 (fun c i => c = a ∧ 8 ≤ i ∧ i ≤ 11) := by rw [e2, e1]; exact (only.wr ⟨rfl, by omega, by omega⟩).then ⟨rfl, by omega, by omega⟩
  refine ⟨rfl, o.mono fun c i w => Or.inl w, ?_, by rw [e2, hg_ne _ (by omega), e1, hg_ne _ (by omega)]⟩
  rw [if_pos c]
  exact h.go o (by rw [e2, hg_ne _ (by omega), e1, hg_ne _ (by omega)]; exact h.2.1.2.1) ⟨h.2.2.1.1, h.2.2.1.2.1⟩ (by rw [e2, hg_ne _ (by omega), e1, hg_same]) (fun _ => by rw [e2, hg_same])
theorem c_reads (h : MJ H a B n σ) (hd : 2 ≤ d := by omega) : CL l G mX8_reads d 0 0 [vR a] H (fun r H' => r = vV ∧ only H H' (pMr a) ∧ MJ H' a B n (σ.1, σ.2.1, wdE B n (spE B n σ.2.2.1), σ.2.2.2) ∧ hg H' a 9 = spE B n σ.2.2.1) := by
  obtain ⟨d, rfl⟩ : ∃ k, d = k + 1 := ⟨d - 1, by omega⟩
  obtain ⟨e, q, p, R⟩ := σ
  refine CL.of (by decide) rfl (Nat.le_of_ble_eq_true rfl) (s_X8_reads_0 h.1 (CL.mono (c_next h) ?_))
  rintro r H1 ⟨rfl, o1, M1, t1⟩
  refine ⟨M1.1, _, rfl, ?_⟩
  have key : ∀ (k : Nat) (H1 : AH) (p1 : Int), (n - p1).toNat ≤ k → only H H1 (pMr a) → MJ H1 a B n (e, q, p1, R) → hg H1 a 9 = spE B n p → wdE B n p1 = wdE B n (spE B n p) → AW l G mX8_reads (d + 1) 0 0 (fun r H' => r = vV ∧ only H H' (pMr a) ∧ MJ H' a B n (e, q, wdE B n (spE B n p), R) ∧ hg H' a 9 = spE B n p) 5 [vR a] [] 0 0 H1 := by
    intro k
    induction k with
    | zero =>
      intro H1 p1 hk o1 M1 t1 he
      have b1 : 0 ≤ p1 ∧ p1 ≤ n ∧ n ≤ 900 := M1.2.2.1
      refine s_X8_reads_5 M1.1 (CL.mono (c_here M1) ?_)
      rintro r H2 ⟨rfl, rfl⟩
      refine ⟨M1.1, _, rfl, fun c => ?_, fun c => ?_⟩
      · rw [wdE_no (Or.inl (by omega))] at he
        rw [← he]
        exact ⟨rfl, o1, M1, t1⟩
      · have c : 97 ≤ (if p1 < n then B p1 else -1) ∧ (if p1 < n then B p1 else -1) ≤ 122 := c
        rw [if_neg (by omega)] at c; omega
    | succ k ih =>
      intro H1 p1 hk o1 M1 t1 he
      have b1 : 0 ≤ p1 ∧ p1 ≤ n ∧ n ≤ 900 := M1.2.2.1
      have l8 : hg H1 a 8 = p1 := M1.2.1.2.1
      refine s_X8_reads_5 M1.1 (CL.mono (c_here M1) ?_)
      rintro r H2 ⟨rfl, rfl⟩
      refine ⟨M1.1, _, rfl, fun c => ?_, fun c => ?_⟩
      · have c : ¬ (97 ≤ (if p1 < n then B p1 else -1) ∧ (if p1 < n then B p1 else -1) ≤ 122) := c
        have no : n ≤ p1 ∨ ¬ isLt B p1 = true := by
          by_cases c2 : p1 < n
          · rw [if_pos c2] at c; exact Or.inr (fun w => c (isLt_t.mp w))
          · exact Or.inl (by omega)
        rw [wdE_no no] at he
        rw [← he]
        exact ⟨rfl, o1, M1, t1⟩
      · have c : 97 ≤ (if p1 < n then B p1 else -1) ∧ (if p1 < n then B p1 else -1) ≤ 122 := c
        have c2 : p1 < n := by by_cases w : p1 < n; exact w; rw [if_neg w] at c; omega
        rw [if_pos c2] at c
        rw [l8]
        refine ⟨by omega, fun H3 e3 => ?_⟩
        have o3 : only H2 H3 (fun c i => c = a ∧ 8 ≤ i ∧ i ≤ 11) := by rw [e3]; exact only.wr ⟨rfl, by omega, by omega⟩
        have M3 := M1.go o3 (p := p1 + 1) (e := e) (q := q) (by rw [e3, hg_same]) (by omega) (by rw [e3, hg_ne _ (by omega)]; exact M1.2.1.2.2.1) (fun w => by rw [e3, hg_ne _ (by omega)]; exact M1.2.1.2.2.2 w)
        refine ih H3 (p1 + 1) (by omega) (o1.trans (o3.mono fun c i w => Or.inl w)) M3 (by rw [e3, hg_ne _ (by omega)]; exact t1) ?_
        rw [← he]
        exact (wdE_go c2 (isLt_t.mpr c)).symm
  exact key _ H1 _ (Nat.le_refl _) o1 M1 t1 rfl
end
