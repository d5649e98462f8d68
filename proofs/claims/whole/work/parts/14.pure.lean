/-! pure words -/
def bi (b : Bool) : Int := if b then 1 else 0
theorem bi_0 {P : Prop} {i : Decidable P} (h : bi (@decide P i) = 0) : ¬ P := by
  intro hp
  unfold bi at h
  rw [if_pos (by simpa using hp)] at h
  cases h
theorem bi_1 {P : Prop} {i : Decidable P} (h : ¬ bi (@decide P i) = 0) : P := by
  refine Decidable.byContradiction fun hp => h ?_
  unfold bi
  rw [if_neg (by simpa using hp)]
theorem bi_01 (b : Bool) : bi b = 0 ∨ bi b = 1 := by cases b <;> simp [bi]
theorem bi_t {P : Prop} {i : Decidable P} (h : P) : bi (@decide P i) = 1 := by unfold bi; rw [if_pos (by simpa using h)]
theorem bi_f {P : Prop} {i : Decidable P} (h : ¬ P) : bi (@decide P i) = 0 := by unfold bi; rw [if_neg (by simpa using h)]
/-- loops that count up -/
theorem upN {P : Nat → Prop} (n : Nat) (hs : ∀ j, j < n → P (j + 1) → P j) (he : P n) : ∀ j, j ≤ n → P j := by
  intro j hj
  obtain ⟨k, rfl⟩ : ∃ k, n = j + k := ⟨n - j, by omega⟩
  induction k generalizing j with
  | zero => exact he
  | succ k ih => exact hs j (by omega) (ih (j + 1) (fun i hi => hs i (by omega)) (by rw [show j + 1 + k = j + (k + 1) by omega]; exact he) (by omega))
/-- a call without effect -/
abbrev PQ (v : AV) (H : AH) : AV → AH → Prop := fun r H' => r = v ∧ H' = H
theorem mx_eq {a b : Int} (h : a ≤ b) : max a b = b := by omega
theorem mx_eq' {a b : Int} (h : b ≤ a) : max a b = a := by omega
theorem mn_eq {a b : Int} (h : a ≤ b) : min a b = a := by omega
theorem wk_n : wk [] [] := trivial
theorem wk_u {a : AV} {as bs : List AV} (h : wk as bs) : wk (a :: as) (vU :: bs) := ⟨Or.inl rfl, h⟩
theorem wk_e {a : AV} {as bs : List AV} (h : wk as bs) : wk (a :: as) (a :: bs) := ⟨Or.inr rfl, h⟩
