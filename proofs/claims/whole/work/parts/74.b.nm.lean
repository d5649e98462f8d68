/-! the class: names of flights -/
theorem fstN_no {P : Int → Bool} : ∀ {k : Nat}, (∀ j : Int, 0 ≤ j → j < k → P j = false) → fstN P k = -1
  | 0, _ => rfl
  | k + 1, h => by
    unfold fstN
    rw [fstN_no (k := k) (fun j j1 j2 => h j j1 (by omega)), if_pos rfl, h k (by omega) (by omega)]
    rfl
theorem fstN_at {P : Int → Bool} {i : Nat} (hp : P i = true) (h : ∀ j : Int, 0 ≤ j → j < i → P j = false) : ∀ {k : Nat}, i < k → fstN P k = i
  | 0, hk => absurd hk (Nat.not_lt_zero _)
  | k + 1, hk => by
    unfold fstN
    by_cases e : i = k
    · subst e
      rw [fstN_no h, if_pos rfl, if_pos hp]
    · have := fstN_at hp h (k := k) (by omega)
      rw [this, if_neg (by omega)]
theorem fstN_ext {P Q : Int → Bool} : ∀ {k : Nat}, (∀ j : Int, 0 ≤ j → j < k → P j = Q j) → fstN P k = fstN Q k
  | 0, _ => rfl
  | k + 1, h => by
    unfold fstN
    rw [fstN_ext (k := k) (fun j j1 j2 => h j j1 (by omega)), h k (by omega) (by omega)]
section
variable {l : Launch} {G : GT} {H : AH} {x n p q a c s m : Int} {B R : Row} {d : Nat}
/-- a flight's letters are those -/
def sameL (H : AH) (a c f s : Int) : Prop := ∀ k, 0 ≤ k → k < hg H (a + 2) f → hg H (a + 1) (f * 6 + k) = hg H c (s + k)
theorem k_sameLetters {f : Int} (hA : Lay LFli H a) (hC : Lay (LArr 10 900) H c) (hf : 0 ≤ f ∧ f < 24) (hm : hg H (a + 2) f ≤ 6) (hs : 0 ≤ s ∧ s + hg H (a + 2) f ≤ 900) : CL l G mX0_sameLetters d 0 0 [vR a, vI f, vR c, vI s] H (fun r H' => H' = H ∧ ((r = vI 1 ∧ sameL H a c f s) ∨ (r = vI 0 ∧ ¬ sameL H a c f s))) := by
  refine CL.of (by decide) rfl (Nat.le_of_ble_eq_true rfl) (s_X0_sameLetters_0 hA hC ?_)
  have key : ∀ (g : Nat) (k : Int), 0 ≤ k → (hg H (a + 2) f - k).toNat ≤ g → (∀ j, 0 ≤ j → j < k → hg H (a + 1) (f * 6 + j) = hg H c (s + j)) → AW l G mX0_sameLetters d 0 0 (fun r H' => H' = H ∧ ((r = vI 1 ∧ sameL H a c f s) ∨ (r = vI 0 ∧ ¬ sameL H a c f s))) 3 [vR a, vI f, vR c, vI s, vI k] [] 0 0 H := by
    intro g
    induction g with
    | zero =>
      intro k k0 hk hv
      exact s_X0_sameLetters_3 hA hC ⟨hf, fun _ => ⟨rfl, Or.inl ⟨rfl, fun j j1 j2 => hv j j1 (by omega)⟩⟩, fun z => absurd z (by omega)⟩
    | succ g ih =>
      intro k k0 hk hv
      refine s_X0_sameLetters_3 hA hC ⟨hf, fun z => ⟨rfl, Or.inl ⟨rfl, fun j j1 j2 => hv j j1 (by omega)⟩⟩, fun z => ⟨by omega, by omega, by omega, by omega, by omega, fun e => ⟨by omega, ih (k + 1) (by omega) (by omega) (fun j j1 j2 => ?_)⟩, fun e => ⟨rfl, Or.inr ⟨rfl, fun w => e (w k k0 z)⟩⟩⟩⟩
      by_cases hj : j = k
      · rw [hj]; exact e
      · exact hv j j1 (by omega)
  exact key _ 0 (Int.le_refl _) (Nat.le_refl _) (fun j j1 j2 => by omega)
theorem k_named {P : Int → Bool} {N : Int} (hA : Lay LFli H a) (hC : Lay (LArr 10 900) H c) (hN : hg H a 0 = N) (hN2 : N ≤ 24) (hm : ∀ f, 0 ≤ f → f < N → hg H (a + 2) f ≤ 6) (hs : 0 ≤ s ∧ s + m ≤ 900) (hP : ∀ f, 0 ≤ f → f < N → (P f = true ↔ (hg H (a + 2) f = m ∧ sameL H a c f s))) (hd : 1 ≤ d := by omega) : CL l G mX0_named d 0 0 [vR a, vR c, vI s, vI m] H (PQ (vI (fstN P N.toNat)) H) := by
  obtain ⟨d, rfl⟩ : ∃ k, d = k + 1 := ⟨d - 1, by omega⟩
  refine CL.of (by decide) rfl (Nat.le_of_ble_eq_true rfl) (s_X0_named_0 hA hC ?_)
  have key : ∀ k : Nat, k ≤ N.toNat → (∀ j : Int, 0 ≤ j → j < k → P j = false) → AW l G mX0_named (d + 1) 0 0 (PQ (vI (fstN P N.toNat)) H) 3 [vR a, vR c, vI s, vI m, vI k] [] 0 0 H := by
    refine upN _ ?_ ?_
    · intro k hk ih hv
      have no : P k = false → AW l G mX0_named (d + 1) 0 0 (PQ (vI (fstN P N.toNat)) H) 3 [vR a, vR c, vI s, vI m, vI (k + 1)] [] 0 0 H := by
        intro z
        refine ih (fun j j1 j2 => ?_)
        by_cases hj : j = k
        · rw [hj]; exact z
        · exact hv j j1 (by omega)
      have hk9 := hP k (by omega) (by omega)
      have hm9 := hm k (by omega) (by omega)
      refine s_X0_named_3 hA hC ⟨fun z => absurd z (by omega), fun _ => ⟨by omega, fun e => ⟨by omega, no ?_⟩, fun e => CL.mono (k_sameLetters hA hC (by omega) hm9 (by omega)) ?_⟩⟩
      · cases h : P k with
        | false => rfl
        | true => exact absurd (hk9.mp h).1 e
      · rintro r H1 ⟨rfl, ⟨rfl, w⟩ | ⟨rfl, w⟩⟩
        · refine ⟨hA, hC, 1, rfl, fun z => absurd z (by decide), fun _ => ⟨?_, rfl⟩⟩
          rw [fstN_at (i := k) (hk9.mpr ⟨e, w⟩) hv (by omega)]
        · refine ⟨hA, hC, 0, rfl, fun _ => ⟨by omega, no ?_⟩, fun z => absurd rfl z⟩
          cases h : P k with
          | false => rfl
          | true => exact absurd (hk9.mp h).2 w
    · intro hv
      refine s_X0_named_3 hA hC ⟨fun _ => ⟨?_, rfl⟩, fun z => absurd z (by omega)⟩
      rw [fstN_no hv]
  exact key 0 (Nat.zero_le _) (fun j j1 j2 => by omega)
theorem nmd_t {z f : Int} : nmd R B s z f = true ↔ ∀ k : Int, 0 ≤ k → k < 6 → ofM R f (10 + k) = (if s + k < z then B (s + k) else 0) := by
  unfold nmd
  rw [List.all_eq_true]
  refine ⟨fun h k k1 k2 => ?_, fun h k hk => decide_eq_true ?_⟩
  · have := of_decide_eq_true (h k.toNat (List.mem_range.mpr (by omega)))
    rw [show ((k.toNat : Nat) : Int) = k by omega] at this
    exact this
  · exact h k (by omega) (by have := List.mem_range.mp hk; omega)
/-- a name of the row, held against letters -/
theorem nmd_sm {b z f : Int} (hN : NM H b R) (hf : fl R f) (hz : 1 ≤ z - s ∧ z - s ≤ 6) (hB : ∀ i, s ≤ i → i < z → hg H c i = B i) (hl : ∀ i, s ≤ i → i < z → 97 ≤ B i) : nmd R B s z f = true ↔ (hg H (b + 5 + 2) f = z - s ∧ sameL H (b + 5) c f s) := by
  obtain ⟨h1, h2⟩ := hN f hf
  rw [show b + 5 + 2 = b + 7 by omega, nmd_t]
  unfold sameL
  rw [show b + 5 + 2 = b + 7 by omega, show b + 5 + 1 = b + 6 by omega]
  refine ⟨fun h => ?_, fun h k k1 k2 => ?_⟩
  · have e : hg H (b + 7) f = z - s := by
      by_cases c1 : hg H (b + 7) f < z - s
      · have a := h (hg H (b + 7) f) (by omega) (by omega)
        rw [if_pos (by omega), (h2 (hg H (b + 7) f) (by omega)).1, if_neg (by omega)] at a
        have := hl (s + hg H (b + 7) f) (by omega) (by omega)
        omega
      · by_cases c2 : z - s < hg H (b + 7) f
        · have a := h (z - s) (by omega) (by omega)
          have := h2 (z - s) (by omega)
          rw [if_neg (by omega), this.1, if_pos c2] at a
          have := this.2 c2
          omega
        · omega
    refine ⟨e, fun k k1 k2 => ?_⟩
    have a := h k k1 (by omega)
    rw [if_pos (by omega), (h2 k (by omega)).1, if_pos k2] at a
    rw [a, hB _ (by omega) (by omega)]
  · rw [(h2 k ⟨k1, k2⟩).1]
    by_cases c1 : k < hg H (b + 7) f
    · rw [if_pos c1, if_pos (by omega), h.2 k k1 c1, hB _ (by omega) (by omega)]
    · rw [if_neg c1, if_neg (by omega)]
/-- the next name -/
def pNn (x f : Int) : Int → Int → Prop := fun c i => (c = x + 49 ∧ f * 6 ≤ i ∧ i < f * 6 + 6) ∨ (c = x + 50 ∧ i = f)
theorem k_nameNext {f : Int} (hL : Lay LRun H x) (hf : hg H (x + 48) 0 = f) (hf2 : 0 ≤ f ∧ f < 24) (hs : 0 ≤ s ∧ s + m ≤ 900) (hm : 0 ≤ m ∧ m ≤ 6) : CL l G mX0_nameNext d 0 0 [vR (x + 48), vR (x + 2), vI s, vI m] H (fun r H' => r = vV ∧ Lay LRun H' x ∧ only H H' (pNn x f) ∧ hg H' (x + 50) f = m ∧ ∀ k, 0 ≤ k → k < m → hg H' (x + 49) (f * 6 + k) = hg H (x + 2) (s + k)) := by
  refine CL.of (by decide) rfl (Nat.le_of_ble_eq_true rfl) (s_X0_nameNext_0 hL ⟨by omega, fun H1 e1 => ?_⟩)
  rw [hf] at e1
  have key : ∀ k : Nat, k ≤ m.toNat → ∀ H2, Lay LRun H2 x → only H H2 (pNn x f) → hg H2 (x + 50) f = m → (∀ j : Int, 0 ≤ j → j < k → hg H2 (x + 49) (f * 6 + j) = hg H (x + 2) (s + j)) → AW l G mX0_nameNext d 0 0 (fun r H' => r = vV ∧ Lay LRun H' x ∧ only H H' (pNn x f) ∧ hg H' (x + 50) f = m ∧ ∀ k, 0 ≤ k → k < m → hg H' (x + 49) (f * 6 + k) = hg H (x + 2) (s + k)) 13 [vR (x + 48), vR (x + 2), vI s, vI m, vI k] [] 0 0 H2 := by
    refine upN _ ?_ ?_
    · intro k hk ih H2 L2 o2 m2 hv
      have g0 : hg H2 (x + 48) 0 = f := (o2.2.2 _ _ (by unfold pNn; omega)).trans hf
      refine s_X0_nameNext_13 L2 ⟨fun z => absurd z (by omega), fun _ => ?_⟩
      rw [g0]
      refine ⟨by omega, by omega, by omega, by omega, by omega, fun H3 e3 => ⟨by omega, ?_⟩⟩
      have b2 : hg H2 (x + 2) (s + k) = hg H (x + 2) (s + k) := o2.2.2 _ _ (by unfold pNn; omega)
      rw [b2] at e3
      refine ih H3 (by rw [e3]; exact L2.wr ok_Run (nrf_arr (kRun_49 L2) (by decide) (by decide))) (by rw [e3]; exact o2.then (Or.inl ⟨rfl, by omega, by omega⟩)) (by rw [e3, hg_ne _ (by omega)]; exact m2) (fun j j1 j2 => ?_)
      rw [e3]
      by_cases hj : j = k
      · rw [hj, hg_same]
      · rw [hg_ne _ (by omega)]; exact hv j j1 (by omega)
    · intro H2 L2 o2 m2 hv
      exact s_X0_nameNext_13 L2 ⟨fun _ => ⟨rfl, L2, o2, m2, fun k k1 k2 => hv k k1 (by omega)⟩, fun z => absurd z (by omega)⟩
  exact key 0 (Nat.zero_le _) H1 (by rw [e1]; exact hL.wr ok_Run (nrf_arr (kRun_50 hL) (by decide) (by decide))) (by rw [e1]; exact only.wr (Or.inr ⟨rfl, rfl⟩)) (by rw [e1, hg_same]) (fun j j1 j2 => by omega)
theorem RI.far {H' : AH} {P : Int → Int → Prop} (h : RI H x B n p) (L : Lay LRun H' x) (ho : only H H' P) (hP : ∀ c i, P c i → x + 44 ≤ c) : RI H' x B n p :=
  ⟨L, ⟨(ho.2.2 _ _ (fun z => by have := hP _ _ z; omega)).trans h.2.1.1, (ho.2.2 _ _ (fun z => by have := hP _ _ z; omega)).trans h.2.1.2.1, (ho.2.2 _ _ (fun z => by have := hP _ _ z; omega)).trans h.2.1.2.2⟩, h.2.2.1, fun j j1 j2 => (ho.2.2 _ _ (fun z => by have := hP _ _ z; omega)).trans (h.2.2.2 j j1 j2)⟩
/-- what stays while a flight is read -/
def pFl (x f : Int) : Int → Int → Prop := fun c i => pIn x c i ∨ pNn x f c i ∨ (x + 51 ≤ c ∧ c ≤ x + 56 ∧ i = f)
theorem pFl_rd {f : Int} : ∀ c i, pFl x f c i → pRd x c i := by
  intro c i h
  unfold pFl pIn pNn at h
  unfold pRd
  omega
theorem k_readName (h : RI H x B n p) (hS : TF H x R) (h6 : 0 ≤ R 6 ∧ R 6 < 24) (hd : 2 ≤ d := by omega) : CL l G mX3_readName d 0 0 [vR (x + 1), vR (x + 48)] H (rP x B n (namS B n (0, q, p, R) (R 6)) H (fun H' => only H H' (pFl x (R 6)) ∧ (1 ≤ hg H' (x + 50) (R 6) ∧ hg H' (x + 50) (R 6) ≤ 6) ∧ ∀ k, 0 ≤ k ∧ k < 6 → ofM (namS B n (0, q, p, R) (R 6)).2.2.2 (R 6) (10 + k) = (if k < hg H' (x + 50) (R 6) then hg H' (x + 49) (R 6 * 6 + k) else 0) ∧ (k < hg H' (x + 50) (R 6) → 97 ≤ hg H' (x + 49) (R 6 * 6 + k) ∧ hg H' (x + 49) (R 6 * 6 + k) ≤ 122))) := by
  obtain ⟨d, rfl⟩ : ∃ k, d = k + 1 := ⟨d - 1, by omega⟩
  have sf := spE_f (B := B) (i := p) h.2.2.1.2.1
  have wf := wdE_f (B := B) (i := spE B n p) sf.2.1
  have hp := h.2.2.1
  obtain ⟨s, hsp⟩ : ∃ s, s = spE B n p := ⟨_, rfl⟩
  refine CL.of (by decide) rfl (Nat.le_of_ble_eq_true rfl) (s_X3_readName_0 h.1 (CL.mono (k_readWord h) ?_))
  have e0 : namS B n (0, q, p, R) (R 6) = if ¬ (1 ≤ wdE B n s - s ∧ wdE B n s - s ≤ 6) then (1, s, wdE B n s, R) else if fnd R B s (wdE B n s) ≠ -1 then (3, s, wdE B n s, R) else (0, s, wdE B n s, namR R B s (wdE B n s) (R 6)) := by rw [hsp]; rfl
  rw [← hsp] at sf wf ⊢
  obtain ⟨z, hz⟩ : ∃ z, z = wdE B n s := ⟨_, rfl⟩
  rw [← hz] at e0 wf ⊢
  rintro r H1 ⟨o1, ⟨k1, rfl, R1, t1⟩ | ⟨k1, rfl, F1⟩⟩
  · have hb1 := R1.2.2.1
    refine ⟨R1.1, 1, rfl, fun _ => ?_, fun c => absurd c (by decide)⟩
    rw [t1, R1.2.1.2.1]
    refine ⟨by omega, fun c1 => ?_, fun c1 => CL.mono (k_fail R1.1) ?_⟩
    · have T1 : TF H1 x R := hS.keep rfl (fun j _ => rfl) (fun c i c1 c2 => o1.2.2 c i (fun z => by have := z.1; omega))
      have hl : ∀ i, s ≤ i → i < z → 97 ≤ B i ∧ B i ≤ 122 := fun i i1 i2 => isLt_t.mp (wf.2.2.1 i i1 i2)
      have hm : ∀ f, 0 ≤ f → f < R 6 → (nmd R B s z f = true ↔ (hg H1 (x + 48 + 2) f = z - s ∧ sameL H1 (x + 48) (x + 2) f s)) := by
        intro f f1 f2
        have := nmd_sm (c := x + 2) (s := s) (z := z) (B := B) T1.2.2 ⟨f1, f2⟩ (by omega) (fun i i1 i2 => R1.2.2.2 i (by omega) (by omega)) (fun i i1 i2 => (hl i i1 i2).1)
        rw [show x + 43 + 5 = x + 48 by omega] at this
        exact this
      refine CL.mono (k_named (P := nmd R B s z) (s_Run_Fli_48 R1.1) (sA_Run_2 R1.1) T1.1 (by omega) (fun f f1 f2 => ?_) (by omega) hm) ?_
      · have := (T1.2.2 f ⟨f1, f2⟩).1
        rw [show x + 48 + 2 = x + 43 + 7 by omega]
        omega
      rintro r H2 ⟨rfl, rfl⟩
      refine ⟨R1.1, _, rfl, fun c2 => ?_, fun c2 => CL.mono (k_fail R1.1) ?_⟩
      · rw [t1]
        refine CL.mono (k_nameNext R1.1 T1.1 h6 (by omega) (by omega)) ?_
        rintro r H3 ⟨rfl, L3, o3, m3, v3⟩
        refine ⟨L3, rfl, ?_⟩
        have e : namS B n (0, q, p, R) (R 6) = (0, s, z, namR R B s z (R 6)) := by
          rw [e0, if_neg (fun w => w (by omega)), if_neg (fun w => w c2)]
        rw [e]
        have of : only H H3 (pFl x (R 6)) := (o1.mono fun c i w => Or.inl w).trans (o3.mono fun c i w => Or.inr (Or.inl w))
        refine ⟨of.mono pFl_rd, Or.inl ⟨rfl, rfl, R1.far L3 o3 (fun c i w => by unfold pNn at w; omega), of, by omega, fun k hk => ?_⟩⟩
        rw [m3]
        have er : ofM (namR R B s z (R 6)) (R 6) (10 + k) = (if s + k < z then B (s + k) else 0) := by
          unfold ofM namR
          rw [if_pos (by omega), show 56 + 16 * R 6 + (10 + k) - (56 + 16 * R 6 + 10) = k by omega]
        show ofM (namR R B s z (R 6)) (R 6) (10 + k) = _ ∧ _
        rw [er]
        by_cases ck : k < z - s
        · rw [if_pos (by omega), if_pos ck, v3 k hk.1 ck, R1.2.2.2 _ (by omega) (by omega)]
          exact ⟨rfl, fun _ => hl _ (by omega) (by omega)⟩
        · rw [if_neg (by omega), if_neg ck]
          exact ⟨rfl, fun w => absurd w ck⟩
      · rintro r H3 ⟨rfl, o3, F3⟩
        rw [t1] at F3
        have e : namS B n (0, q, p, R) (R 6) = (3, s, z, R) := by
          rw [e0, if_neg (fun w => w (by omega)), if_pos (show fnd R B s z ≠ -1 from c2)]
        rw [e]
        exact ⟨F3.1, 0, rfl, Or.inl rfl, (o1.trans o3).mono pIn_rd, Or.inr ⟨(by decide : (3 : Int) ≠ 0), rfl, F3⟩⟩
    · rintro r H2 ⟨rfl, o2, F2⟩
      have e : namS B n (0, q, p, R) (R 6) = (1, s, z, R) := by
        rw [e0, if_pos (by omega)]
      rw [e]
      exact ⟨F2.1, 0, rfl, Or.inl rfl, (o1.trans o2).mono pIn_rd, Or.inr ⟨one0, rfl, F2⟩⟩
  · have e : namS B n (0, q, p, R) (R 6) = (1, s, z, R) := by
      rw [e0, if_pos (by omega)]
    rw [e]
    exact ⟨F1.1, 0, rfl, fun c => absurd rfl c, fun _ => ⟨o1.mono pIn_rd, Or.inr ⟨one0, rfl, F1⟩⟩⟩
theorem k_readTimes {f : Int} (h : RI H x B n p) (hf : 0 ≤ f ∧ f < 24) (hd : 2 ≤ d := by omega) : CL l G mX3_readTimes d 0 0 [vR (x + 1), vR (x + 48), vI f] H (rP x B n (timS B n (0, q, p, R) f) H (fun H' => only H H' (pFl x f) ∧ (∀ c i, c ≠ x + 1 → (c < x + 53 ∨ x + 55 < c) → hg H' c i = hg H c i) ∧ hg H' (x + 53) f = ofM (timS B n (0, q, p, R) f).2.2.2 f 2 ∧ hg H' (x + 54) f = ofM (timS B n (0, q, p, R) f).2.2.2 f 3 ∧ hg H' (x + 55) f = ofM (timS B n (0, q, p, R) f).2.2.2 f 4)) := by
  obtain ⟨d, rfl⟩ : ∃ k, d = k + 1 := ⟨d - 1, by omega⟩
  have pin : ∀ c i, pIn x c i → pFl x f c i := fun c i w => Or.inl w
  refine CL.of (by decide) rfl (Nat.le_of_ble_eq_true rfl) (s_X3_readTimes_0 h.1 (CL.mono (k_readNumber h) ?_))
  rintro r H1 ⟨o1, ⟨k1, rfl, R1, v1⟩ | ⟨k1, rfl, F1⟩⟩
  · refine ⟨R1.1, 1, rfl, fun _ => ⟨by omega, fun H2 e2 => ?_⟩, fun c => absurd c (by decide)⟩
    rw [v1] at e2
    have R2 : RI H2 x B n (dgE B n (spE B n p)) := by rw [e2]; exact R1.out (by omega) (nrf_arr (kRun_53 R1.1) (by decide) (by decide))
    have o2 : only H1 H2 (pFl x f) := by rw [e2]; exact only.wr (Or.inr (Or.inr ⟨by omega, by omega, rfl⟩))
    have g2 : hg H2 (x + 53) f = cvE B n (spE B n p) 0 := by rw [e2, hg_same]
    rw [g2]
    refine CL.mono (k_readNumber R2) ?_
    rintro r H3 ⟨o3, ⟨k3, rfl, R3, v3⟩ | ⟨k3, rfl, F3⟩⟩
    · refine ⟨R3.1, 1, rfl, fun _ H4 e4 => ?_, fun c => absurd c (by decide)⟩
      rw [v3] at e4
      have R4 : RI H4 x B n (dgE B n (spE B n (dgE B n (spE B n p)))) := by rw [e4]; exact R3.out (by omega) (nrf_arr (kRun_54 R3.1) (by decide) (by decide))
      have o4 : only H3 H4 (pFl x f) := by rw [e4]; exact only.wr (Or.inr (Or.inr ⟨by omega, by omega, rfl⟩))
      have g4 : hg H4 (x + 54) f = cvE B n (spE B n (dgE B n (spE B n p))) 0 := by rw [e4, hg_same]
      rw [g4]
      have p4 : only H H4 (pFl x f) := (((o1.mono pin).trans o2).trans (o3.mono pin)).trans o4
      refine CL.mono (k_readNumber R4) ?_
      rintro r H5 ⟨o5, ⟨k5, rfl, R5, v5⟩ | ⟨k5, rfl, F5⟩⟩
      · refine ⟨R5.1, 1, rfl, fun _ H6 e6 => ?_, fun c => absurd c (by decide)⟩
        rw [v5] at e6
        have o6 : only H5 H6 (pFl x f) := by rw [e6]; exact only.wr (Or.inr (Or.inr ⟨by omega, by omega, rfl⟩))
        have p6 := (p4.trans (o5.mono pin)).trans o6
        simp only [timS, nmS_good k1, nmS_good k3, upS_mk, stnS_good k5]
        have q1 : ∀ c i, c ≠ x + 1 → hg H1 c i = hg H c i := fun c i w => o1.2.2 c i (fun u => w u.1)
        have q3 : ∀ c i, c ≠ x + 1 → hg H3 c i = hg H2 c i := fun c i w => o3.2.2 c i (fun u => w u.1)
        have q5 : ∀ c i, c ≠ x + 1 → hg H5 c i = hg H4 c i := fun c i w => o5.2.2 c i (fun u => w u.1)
        refine ⟨p6.mono pFl_rd, Or.inl ⟨rfl, rfl, ?_, p6, fun c i c1 c2 => ?_, ?_, ?_, ?_⟩⟩
        · rw [e6]; exact R5.out (by omega) (nrf_arr (kRun_55 R5.1) (by decide) (by decide))
        · rw [e6, hg_ne _ (by omega), q5 c i c1, e4, hg_ne _ (by omega), q3 c i c1, e2, hg_ne _ (by omega), q1 c i c1]
        · show _ = upM (upM (upM R (56 + 16 * f + 2) _) (56 + 16 * f + 3) _) (56 + 16 * f + 4) _ (56 + 16 * f + 2)
          rw [upM_ne _ (by omega), upM_ne _ (by omega), upM_same, e6, hg_ne _ (by omega), q5 _ _ (by omega), e4, hg_ne _ (by omega), q3 _ _ (by omega), g2]
        · show _ = upM (upM (upM R (56 + 16 * f + 2) _) (56 + 16 * f + 3) _) (56 + 16 * f + 4) _ (56 + 16 * f + 3)
          rw [upM_ne _ (by omega), upM_same, e6, hg_ne _ (by omega), q5 _ _ (by omega), g4]
        · show _ = upM (upM (upM R (56 + 16 * f + 2) _) (56 + 16 * f + 3) _) (56 + 16 * f + 4) _ (56 + 16 * f + 4)
          rw [upM_same, e6, hg_same]
      · refine ⟨F5.1, 0, rfl, fun c => absurd rfl c, fun _ => ?_⟩
        simp only [timS, nmS_good k1, nmS_good k3, upS_mk, stnS_bad k5]
        exact ⟨(p4.trans (o5.mono pin)).mono pFl_rd, Or.inr ⟨k5, rfl, F5⟩⟩
    · refine ⟨F3.1, 0, rfl, fun c => absurd rfl c, fun _ => ?_⟩
      simp only [timS, nmS_good k1, nmS_bad k3, upS_mk, stnS_er k3]
      exact ⟨(((o1.mono pin).trans o2).trans (o3.mono pin)).mono pFl_rd, Or.inr ⟨k3, rfl, F3⟩⟩
  · refine ⟨F1.1, 0, rfl, fun c => absurd rfl c, fun _ => ?_⟩
    simp only [timS, nmS_bad k1, nmS_er k1, upS_mk, stnS_er k1]
    exact ⟨o1.mono pIn_rd, Or.inr ⟨k1, rfl, F1⟩⟩
end
