/-! the reference: the reading of descriptions -/
section
variable {l : Launch} {G : GT} {H : AH} {a n p q s z : Int} {B R : Row} {σ : PS} {d : Nat}
theorem MJ.eta (h : MJ H a B n σ) {τ : PS} (e : τ = σ) : MJ H a B n τ := by rw [e]; exact h
theorem c_number {lo hi : Int} (h : MJ H a B n σ) (hh : hi ≤ 999999) (hd : 2 ≤ d := by omega) : CL l G mX8_number d 0 0 [vR a, vI lo, vI hi] H (fun r H' => r = vI (nmS B n σ lo hi).2 ∧ only H H' (pMr a) ∧ MJ H' a B n (nmS B n σ lo hi).1) := by
  obtain ⟨d, rfl⟩ : ∃ k, d = k + 1 := ⟨d - 1, by omega⟩
  obtain ⟨e, q, p, R⟩ := σ
  have hp : 0 ≤ p ∧ p ≤ n ∧ n ≤ 900 := h.2.2.1
  have sf := spE_f (B := B) (i := p) hp.2.1
  have df := dgE_f (B := B) (i := spE B n p) sf.2.1
  have l10 : hg H a 10 = e := h.2.1.2.2.1
  refine CL.of (by decide) rfl (Nat.le_of_ble_eq_true rfl) (s_X8_number_0 h.1 ?_)
  rw [l10]
  refine ⟨fun c => CL.mono (c_next h) ?_, fun c => ?_⟩
  rotate_left
  · rw [nmS_er c]; exact ⟨rfl, only.rf, h⟩
  subst c
  rintro r H1 ⟨rfl, o1, M1, t1⟩
  have M1 : MJ H1 a B n (0, q, spE B n p, R) := M1
  obtain ⟨s, hsp⟩ : ∃ s, s = spE B n p := ⟨_, rfl⟩
  have e1 : (if spE B n ((0, q, p, R) : PS).2.2.1 < n then B (spE B n ((0, q, p, R) : PS).2.2.1) else -1) = (if s < n then B s else -1) := by rw [hsp]
  rw [e1]
  have t1 : hg H1 a 9 = s := t1.trans hsp.symm
  have en : nmE B n p lo hi = if dgE B n s = s then 1 else if lo ≤ cvE B n s 0 ∧ cvE B n s 0 ≤ hi then 0 else 2 := by rw [hsp]; rfl
  have mv := mv_cv B n s
  rw [← hsp] at sf df M1
  have l8 : hg H1 a 8 = s := M1.2.1.2.1
  refine ⟨M1.1, _, rfl, fun c => ?_, fun c => ?_⟩
  · have c2 : s < n := by by_cases w : s < n; exact w; rw [if_neg w] at c; omega
    rw [if_pos c2] at c
    have hdg : isDg B s = true := isDg_t.mpr c
    have ne : ¬ dgE B n s = s := by
      have := dgE_go c2 hdg
      have := dgE_f (B := B) (i := s + 1) (n := n) (by omega)
      omega
    rw [if_neg ne] at en
    have key : ∀ (k : Nat) (H2 : AH) (p1 w : Int), (n - p1).toNat ≤ k → s ≤ p1 → 0 ≤ w ∧ w ≤ 10000000 → only H H2 (pMr a) → MJ H2 a B n (0, q, p1, R) → hg H2 a 9 = s → dgE B n p1 = dgE B n s → mvE B n p1 w = mvE B n s 0 → AW l G mX8_number (d + 1) 0 0 (fun r H' => r = vI (nmS B n (0, q, p, R) lo hi).2 ∧ only H H' (pMr a) ∧ MJ H' a B n (nmS B n (0, q, p, R) lo hi).1) 36 [vR a, vI lo, vI hi, vI w] [] 0 0 H2 := by
      intro k
      have stop : ∀ (H2 : AH) (p1 w : Int), only H H2 (pMr a) → MJ H2 a B n (0, q, p1, R) → hg H2 a 9 = s → dgE B n p1 = dgE B n s → mvE B n p1 w = mvE B n s 0 → (n ≤ p1 ∨ ¬ isDg B p1 = true) → (lo ≤ w ∧ w ≤ hi → (vI w = vI (nmS B n (0, q, p, R) lo hi).2 ∧ only H H2 (pMr a) ∧ MJ H2 a B n (nmS B n (0, q, p, R) lo hi).1)) ∧ (¬ (lo ≤ w ∧ w ≤ hi) → CL l G mX8_fails d 0 0 [vR a, vI 2, vI (hg H2 a 9)] H2 (fun r9 H3 => Lay LMod H3 a ∧ r9 = vV ∧ (vI lo = vI (nmS B n (0, q, p, R) lo hi).2 ∧ only H H3 (pMr a) ∧ MJ H3 a B n (nmS B n (0, q, p, R) lo hi).1))) := by
        intro H2 p1 w o2 M2 t2 he hm no
        rw [dgE_no no] at he
        rw [mvE_no no] at hm
        refine ⟨fun c => ?_, fun c => ?_⟩
        · have k0 : nmE B n p lo hi = 0 := by rw [en, if_pos (by omega)]
          rw [nmS_good k0, ← hsp]
          refine ⟨?_, o2, ?_⟩
          · refine congrArg vI ?_
            show w = cvE B n s 0
            omega
          · rw [← he]
            exact ⟨M2.1, ⟨M2.2.1.1, M2.2.1.2.1, M2.2.1.2.2.1, fun w => absurd rfl w⟩, M2.2.2.1, M2.2.2.2.1, M2.2.2.2.2⟩
        · rw [t2]
          refine CL.mono (c_fails M2) ?_
          rintro r H3 ⟨rfl, o3, M3, t3⟩
          have k2 : nmE B n p lo hi = 2 := by rw [en, if_neg (by omega)]
          rw [nmS_bad (by omega), k2, ← hsp]
          refine ⟨M3.1, rfl, rfl, o2.trans o3, ?_⟩
          rw [if_pos rfl] at M3
          rw [← he]
          exact M3
      induction k with
      | zero =>
        intro H2 p1 w hk hsp1 hw o2 M2 t2 he hm
        have b1 : 0 ≤ p1 ∧ p1 ≤ n ∧ n ≤ 900 := M2.2.2.1
        refine s_X8_number_36 M2.1 (CL.mono (c_here M2) ?_)
        rintro r H3 ⟨rfl, rfl⟩
        refine ⟨M2.1, _, rfl, fun _ => stop _ p1 w o2 M2 t2 he hm (Or.inl (by omega)), fun c => ?_⟩
        have c : 48 ≤ (if p1 < n then B p1 else -1) ∧ (if p1 < n then B p1 else -1) ≤ 57 := c
        rw [if_neg (by omega)] at c; omega
      | succ k ih =>
        intro H2 p1 w hk hsp1 hw o2 M2 t2 he hm
        have b1 : 0 ≤ p1 ∧ p1 ≤ n ∧ n ≤ 900 := M2.2.2.1
        have m8 : hg H2 a 8 = p1 := M2.2.1.2.1
        refine s_X8_number_36 M2.1 (CL.mono (c_here M2) ?_)
        rintro r H3 ⟨rfl, rfl⟩
        refine ⟨M2.1, _, rfl, fun c => stop _ p1 w o2 M2 t2 he hm ?_, fun c => ⟨by omega, CL.mono (c_here M2) ?_⟩⟩
        · have c : ¬ (48 ≤ (if p1 < n then B p1 else -1) ∧ (if p1 < n then B p1 else -1) ≤ 57) := c
          by_cases c2 : p1 < n
          · rw [if_pos c2] at c; exact Or.inr (fun w => c (isDg_t.mp w))
          · exact Or.inl (by omega)
        · rintro r H4 ⟨rfl, rfl⟩
          have c : 48 ≤ (if p1 < n then B p1 else -1) ∧ (if p1 < n then B p1 else -1) ≤ 57 := c
          have c2 : p1 < n := by by_cases w : p1 < n; exact w; rw [if_neg w] at c; omega
          rw [if_pos c2] at c
          have ei : (if ((0, q, p1, R) : PS).2.2.1 < n then B ((0, q, p1, R) : PS).2.2.1 else -1) = B p1 := if_pos c2
          rw [ei]
          refine ⟨M2.1, _, rfl, by omega, by omega, ?_⟩
          rw [m8]
          refine ⟨by omega, fun H5 e5 => ?_⟩
          have hdg2 := isDg_t.mpr c
          rw [dgE_go c2 hdg2] at he
          rw [mvE_go c2 hdg2] at hm
          have o5 : only H4 H5 (fun c i => c = a ∧ 8 ≤ i ∧ i ≤ 11) := by rw [e5]; exact only.wr ⟨rfl, by omega, by omega⟩
          have M5 := M2.go o5 (p := p1 + 1) (e := 0) (q := q) (by rw [e5, hg_same]) (by omega) (by rw [e5, hg_ne _ (by omega)]; exact M2.2.1.2.2.1) (fun w => absurd rfl w)
          exact ih H5 (p1 + 1) _ (by omega) (by omega) (by omega) (o2.trans (o5.mono fun c i w => Or.inl w)) M5 (by rw [e5, hg_ne _ (by omega)]; exact t2) he hm
    exact key _ H1 s 0 (Nat.le_refl _) (Int.le_refl _) (by omega) o1 M1 t1 rfl rfl
  · rw [l8]
    refine CL.mono (c_fails M1) ?_
    rintro r H2 ⟨rfl, o2, M2, t2⟩
    have no : n ≤ s ∨ ¬ isDg B s = true := by
      by_cases c2 : s < n
      · rw [if_pos c2] at c; exact Or.inr (fun w => c (isDg_t.mp w))
      · exact Or.inl (by omega)
    rw [if_pos (dgE_no no)] at en
    rw [nmS_bad (by omega), en, ← hsp, dgE_no no]
    rw [if_pos rfl] at M2
    exact ⟨M2.1, rfl, rfl, o1.trans o2, M2⟩
theorem c_wakeClass (hT : gT G) (h : MJ H a B n σ) (hd : 5 ≤ d := by omega) : CL l G mX8_wakeClass d 0 0 [vR a] H (fun r H' => r = vI (kdS B n σ).2 ∧ only H H' (pMr a) ∧ MJ H' a B n (kdS B n σ).1) := by
  obtain ⟨d, rfl⟩ : ∃ k, d = k + 1 := ⟨d - 1, by omega⟩
  obtain ⟨e, q, p, R⟩ := σ
  have hp : 0 ≤ p ∧ p ≤ n ∧ n ≤ 900 := h.2.2.1
  have sf := spE_f (B := B) (i := p) hp.2.1
  have wf := wdE_f (B := B) (i := spE B n p) sf.2.1
  have l10 : hg H a 10 = e := h.2.1.2.2.1
  refine CL.of (by decide) rfl (Nat.le_of_ble_eq_true rfl) (s_X8_wakeClass_0 hT h.1 ?_)
  rw [l10]
  refine ⟨fun c => CL.mono (c_reads h) ?_, fun c => ?_⟩
  rotate_left
  · rw [kdS_er c]; exact ⟨rfl, only.rf, h⟩
  subst c
  rintro r H1 ⟨rfl, o1, M1, t1⟩
  have M1 : MJ H1 a B n (0, q, wdE B n (spE B n p), R) := M1
  have t1 : hg H1 a 9 = spE B n p := t1
  have wd : ∀ bs, mWd H1 a bs (wEq B (spE B n p) (wdE B n (spE B n p)) bs) := fun bs => M1.wd t1 ⟨by omega, wf.1⟩ (fun i i1 i2 => isLt_t.mp (wf.2.2.1 i i1 i2))
  have good : ∀ v, kdV B (spE B n p) (wdE B n (spE B n p)) = v → v ≠ -1 → (vI v = vI (kdS B n (0, q, p, R)).2 ∧ only H H1 (pMr a) ∧ MJ H1 a B n (kdS B n (0, q, p, R)).1) := by
    intro v ev hv
    have k0 : kdE B n p = 0 := by unfold kdE; rw [ev, if_neg hv]
    rw [kdS_good k0, ev]
    exact ⟨rfl, o1, M1.1, ⟨M1.2.1.1, M1.2.1.2.1, M1.2.1.2.2.1, fun w => absurd rfl w⟩, M1.2.2.1, M1.2.2.2.1, M1.2.2.2.2⟩
  refine ⟨M1.1, rfl, _, wd _, fun c1 => ⟨_, wd _, fun c2 => ⟨_, wd _, fun c3 => ⟨_, wd _, fun c4 => CL.mono (c_fails M1) ?_, fun c4 => good 3 (by unfold kdV; rw [if_neg c1, if_neg c2, if_neg c3, if_pos c4]) (by decide)⟩, fun c3 => good 2 (by unfold kdV; rw [if_neg c1, if_neg c2, if_pos c3]) (by decide)⟩, fun c2 => good 1 (by unfold kdV; rw [if_neg c1, if_pos c2]) (by decide)⟩, fun c1 => good 0 (by unfold kdV; rw [if_pos c1]) (by decide)⟩
  rw [t1]
  rintro r H2 ⟨rfl, o2, M2, t2⟩
  have k1 : kdE B n p = 1 := by unfold kdE; rw [if_pos (by unfold kdV; rw [if_neg c1, if_neg c2, if_neg c3, if_neg c4])]
  rw [kdS_bad k1]
  rw [if_pos rfl] at M2
  exact ⟨M2.1, rfl, rfl, o1.trans o2, M2⟩
/-- a row in an array -/
def RR (H : AH) (r : Int) (R : Row) : Prop := Lay (LArr 10 440) H r ∧ ∀ k, 0 ≤ k → k < 440 → hg H r k = R k
theorem c_isNameOf {r f : Int} (hL : Lay LMod H a) (hr : RR H r R) (h9 : hg H a 9 = s) (h8 : hg H a 8 = z) (hs : 0 ≤ s ∧ s ≤ z ∧ z ≤ 900) (hB : ∀ i, s ≤ i → i < z → hg H (a + 6) i = B i) (hf : 0 ≤ f ∧ f < 24) (hd : 1 ≤ d := by omega) : CL l G mX8_isNameOf d 0 0 [vR a, vR r, vI f] H (PQ (vI (bi (decide (nmd R B s z f = true)))) H) := by
  obtain ⟨d, rfl⟩ : ∃ k, d = k + 1 := ⟨d - 1, by omega⟩
  refine CL.of (by decide) rfl (Nat.le_of_ble_eq_true rfl) (s_X8_isNameOf_0 hL hr.1 ?_)
  have zero : ∀ (g : Nat) (k : Int), (6 - k).toNat ≤ g → 0 ≤ k → ¬ nmd R B s z f = true → AW l G mX8_isNameOf (d + 1) 0 0 (PQ (vI (bi (decide (nmd R B s z f = true)))) H) 5 [vR a, vR r, vI f, vI 0, vI k, vU] [] 0 0 H := by
    intro g
    induction g with
    | zero =>
      intro k hk k0 hn
      refine s_X8_isNameOf_5 hL hr.1 ⟨fun _ => ⟨Or.inl rfl, by rw [bi_f hn], rfl⟩, fun c => absurd c (by omega)⟩
    | succ g ih =>
      intro k hk k0 hn
      refine s_X8_isNameOf_5 hL hr.1 ⟨fun _ => ⟨Or.inl rfl, by rw [bi_f hn], rfl⟩, fun c => ?_⟩
      rw [h9, h8]
      exact ⟨by omega, fun c2 => ⟨fun _ => ⟨by omega, ih (k + 1) (by omega) (by omega) hn⟩, fun w => absurd rfl w⟩, fun c2 => ⟨by omega, fun _ => ⟨by omega, ih (k + 1) (by omega) (by omega) hn⟩, fun w => absurd rfl w⟩⟩
  have key : ∀ k : Nat, k ≤ 6 → (∀ j : Int, 0 ≤ j → j < k → ofM R f (10 + j) = (if s + j < z then B (s + j) else 0)) → AW l G mX8_isNameOf (d + 1) 0 0 (PQ (vI (bi (decide (nmd R B s z f = true)))) H) 5 [vR a, vR r, vI f, vI 1, vI k, vU] [] 0 0 H := by
    refine upN _ ?_ ?_
    · intro k hk ih hv
      refine s_X8_isNameOf_5 hL hr.1 ⟨fun c => absurd c (by omega), fun _ => ?_⟩
      rw [h9, h8, hr.2 _ (by omega) (by omega)]
      have step : R (56 + 16 * f + (10 + k)) = (if s + k < z then B (s + k) else 0) → AW l G mX8_isNameOf (d + 1) 0 0 (PQ (vI (bi (decide (nmd R B s z f = true)))) H) 5 [vR a, vR r, vI f, vI 1, vI (k + 1), vU] [] 0 0 H := by
        intro e
        refine ih (fun j j1 j2 => ?_)
        by_cases c : j = k
        · rw [c]; exact e
        · exact hv j j1 (by omega)
      have bad : ¬ R (56 + 16 * f + (10 + k)) = (if s + k < z then B (s + k) else 0) → AW l G mX8_isNameOf (d + 1) 0 0 (PQ (vI (bi (decide (nmd R B s z f = true)))) H) 5 [vR a, vR r, vI f, vI 0, vI (k + 1), vU] [] 0 0 H := by
        intro e
        exact zero _ _ (Nat.le_refl _) (by omega) (fun w => e (nmd_t.mp w k (by omega) (by omega)))
      refine ⟨by omega, fun c => ⟨fun w => absurd w (by decide), fun _ => ⟨by omega, by omega, by omega, fun w => ⟨by omega, bad ?_⟩, fun w => ⟨by omega, step ?_⟩⟩⟩, fun c => ⟨by omega, fun w => absurd w (by decide), fun _ => ⟨by omega, by omega, by omega, fun w => ⟨by omega, bad ?_⟩, fun w => ⟨by omega, step ?_⟩⟩⟩⟩
      · rw [if_neg (by omega)]; exact w
      · rw [if_neg (by omega)]; exact w
      · rw [if_pos c, ← hB _ (by omega) c]; exact w
      · rw [if_pos c, ← hB _ (by omega) c]; exact w
    · intro hv
      refine s_X8_isNameOf_5 hL hr.1 ⟨fun _ => ⟨Or.inr rfl, ?_, rfl⟩, fun c => absurd c (by omega)⟩
      rw [bi_t (nmd_t.mpr (fun k k1 k2 => hv k k1 k2))]
  exact key 0 (Nat.zero_le _) (fun j j1 j2 => by omega)
theorem c_findIn {r : Int} (hL : Lay LMod H a) (hr : RR H r R) (h6 : 0 ≤ R 6 ∧ R 6 ≤ 24) (h9 : hg H a 9 = s) (h8 : hg H a 8 = z) (hs : 0 ≤ s ∧ s ≤ z ∧ z ≤ 900) (hB : ∀ i, s ≤ i → i < z → hg H (a + 6) i = B i) (hd : 2 ≤ d := by omega) : CL l G mX8_findIn d 0 0 [vR a, vR r] H (PQ (vI (fnd R B s z)) H) := by
  obtain ⟨d, rfl⟩ : ∃ k, d = k + 1 := ⟨d - 1, by omega⟩
  refine CL.of (by decide) rfl (Nat.le_of_ble_eq_true rfl) (s_X8_findIn_0 hL hr.1 ?_)
  have key : ∀ k : Nat, k ≤ (R 6).toNat → (∀ j : Int, 0 ≤ j → j < k → nmd R B s z j = false) → AW l G mX8_findIn (d + 1) 0 0 (PQ (vI (fnd R B s z)) H) 2 [vR a, vR r, vI k] [] 0 0 H := by
    refine upN _ ?_ ?_
    · intro k hk ih hv
      refine s_X8_findIn_2 hL hr.1 ?_
      rw [hr.2 6 (by omega) (by omega)]
      refine ⟨fun c => absurd c (by omega), fun _ => CL.mono (c_isNameOf hL hr h9 h8 hs hB (by omega)) ?_⟩
      rintro v H1 ⟨rfl, rfl⟩
      refine ⟨hL, hr.1, _, rfl, fun c => ⟨by omega, ih (fun j j1 j2 => ?_)⟩, fun c => ⟨?_, rfl⟩⟩
      · by_cases e : j = k
        · rw [e]
          cases w : nmd R B s z k with
          | false => rfl
          | true => rw [bi_t w] at c; omega
        · exact hv j j1 (by omega)
      · have w : nmd R B s z k = true := by
          cases w : nmd R B s z k with
          | true => rfl
          | false => rw [bi_f (by rw [w]; decide)] at c; exact absurd rfl c
        unfold fnd
        rw [fstN_at (i := k) w hv (by omega)]
    · intro hv
      refine s_X8_findIn_2 hL hr.1 ?_
      rw [hr.2 6 (by omega) (by omega)]
      refine ⟨fun _ => ⟨?_, rfl⟩, fun c => absurd c (by omega)⟩
      unfold fnd
      rw [fstN_no hv]
  exact key 0 (Nat.zero_le _) (fun j j1 j2 => by omega)
end
