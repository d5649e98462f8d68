/-! the reference's row of numbers, and what it tells -/
abbrev Row : Type := Int → Int
abbrev rowM (H : AH) (a : Int) : Row := H.2.2 (a + 1)
def ofM (M : Row) (f w : Int) : Int := M (56 + 16 * f + w)
def apartM (M : Row) (f g : Int) : Int := if ofM M f 0 = ofM M g 0 then M (8 + 4 * ofM M f 1 + ofM M g 1) else M 4
def costM (M : Row) (f t : Int) : Int := (if t < ofM M f 3 then (ofM M f 3 - t) * M (24 + ofM M f 1) else (t - ofM M f 3) * M (28 + ofM M f 1)) + (if ofM M f 4 < t then 1000000000 else 0)
def upM (M : Row) (k x : Int) : Row := fun j => if j = k then x else M j
theorem upM_same (M : Row) (k x : Int) : upM M k x k = x := by simp [upM]
theorem upM_ne (M : Row) {k x j : Int} (h : j ≠ k) : upM M k x j = M j := by simp [upM, h]
theorem rowM_hs {H : AH} {a i x : Int} : rowM (hs H (a + 1) i x) a = upM (rowM H a) i x := by
  funext j
  simp [rowM, hs, upM]
theorem rowM_ne {H : AH} {a b i x : Int} (h : b ≠ a + 1) : rowM (hs H b i x) a = rowM H a := by
  funext j
  have : ¬ (a + 1 = b) := fun q => h q.symm
  simp [rowM, hs, this]
/-- what holds of a flight -/
def okF (M : Row) (f : Int) : Prop := (ofM M f 0 = 0 ∨ ofM M f 0 = 1) ∧ (0 ≤ ofM M f 1 ∧ ofM M f 1 ≤ 3) ∧ (0 ≤ ofM M f 2 ∧ ofM M f 2 ≤ 300000) ∧ (0 ≤ ofM M f 3 ∧ ofM M f 3 ≤ 300000) ∧ (0 ≤ ofM M f 4 ∧ ofM M f 4 ≤ 300000) ∧ (1 ≤ ofM M f 5 ∧ ofM M f 5 ≤ 7) ∧ (0 ≤ ofM M f 6 ∧ ofM M f 6 < M 5) ∧ (0 ≤ ofM M f 7 ∧ ofM M f 7 ≤ 3) ∧ (ofM M f 7 = 1 ∨ ofM M f 7 = 2 → 0 ≤ ofM M f 8 ∧ ofM M f 8 ≤ 210000) ∧ shr (ofM M f 5) (ofM M f 6) % 2 = 1
/-- what holds of the settings -/
def okS (M : Row) : Prop := (0 ≤ M 0 ∧ M 0 ≤ 207200) ∧ (0 ≤ M 1 ∧ M 1 ≤ 4) ∧ (0 ≤ M 2 ∧ M 2 ≤ 1800) ∧ (60 ≤ M 3 ∧ M 3 ≤ 3600) ∧ (0 ≤ M 4 ∧ M 4 ≤ 600) ∧ (1 ≤ M 5 ∧ M 5 ≤ 3) ∧ (0 ≤ M 6 ∧ M 6 ≤ 24) ∧ (0 ≤ M 7 ∧ M 7 ≤ M 6) ∧ (∀ k, 0 ≤ k → k < 16 → 0 ≤ M (8 + k) ∧ M (8 + k) ≤ 600) ∧ (∀ k, 0 ≤ k → k < 8 → 0 ≤ M (24 + k) ∧ M (24 + k) ≤ 9999) ∧ (∀ k, 0 ≤ k → k < M 7 → 0 ≤ M (32 + k) ∧ M (32 + k) < M 6)
def okM (M : Row) : Prop := okS M ∧ ∀ f, 0 ≤ f → f < M 6 → okF M f
theorem okM.apart {M : Row} (h : okM M) {f g : Int} (hf : 0 ≤ f ∧ f < M 6) (hg : 0 ≤ g ∧ g < M 6) : 0 ≤ apartM M f g ∧ apartM M f g ≤ 600 := by
  obtain ⟨⟨-, -, -, -, h4, -, -, -, h8, -⟩, hF⟩ := h
  obtain ⟨-, h1, -⟩ := hF f hf.1 hf.2
  obtain ⟨-, h2, -⟩ := hF g hg.1 hg.2
  unfold apartM
  split
  · have := h8 (4 * ofM M f 1 + ofM M g 1) (by omega) (by omega)
    rw [← Int.add_assoc] at this
    exact this
  · exact h4
theorem mul_in {a b A B : Int} (h1 : 0 ≤ a) (h2 : a ≤ A) (h3 : 0 ≤ b) (h4 : b ≤ B) : 0 ≤ a * b ∧ a * b ≤ A * B := ⟨Int.mul_nonneg h1 h3, Int.mul_le_mul h2 h4 h3 (by omega)⟩
theorem okM.cost {M : Row} (h : okM M) {f t : Int} (hf : 0 ≤ f ∧ f < M 6) (ht : 0 ≤ t ∧ t ≤ 400000) : 0 ≤ costM M f t ∧ costM M f t ≤ 5000000000 := by
  obtain ⟨⟨-, -, -, -, -, -, -, -, -, h9, -⟩, hF⟩ := h
  obtain ⟨-, h1, -, h3, h4, -⟩ := hF f hf.1 hf.2
  have e1 := h9 (ofM M f 1) (by omega) (by omega)
  have e2 := h9 (4 + ofM M f 1) (by omega) (by omega)
  rw [← Int.add_assoc] at e2
  unfold costM
  have : (24 : Int) + 4 = 28 := rfl
  rw [this] at e2
  split
  · have := mul_in (a := ofM M f 3 - t) (A := 400000) (b := M (24 + ofM M f 1)) (B := 9999) (by omega) (by omega) e1.1 e1.2
    split <;> omega
  · have := mul_in (a := t - ofM M f 3) (A := 400000) (b := M (28 + ofM M f 1)) (B := 9999) (by omega) (by omega) e2.1 e2.2
    split <;> omega
theorem okM_n {M : Row} (h : okM M) : 0 ≤ M 6 ∧ M 6 ≤ 24 := h.1.2.2.2.2.2.2.1
theorem okF_123 {M : Row} (h : okM M) {f : Int} (hf : 0 ≤ f ∧ f < M 6) : (0 ≤ ofM M f 1 ∧ ofM M f 1 ≤ 3) ∧ (0 ≤ ofM M f 3 ∧ ofM M f 3 ≤ 300000) ∧ (0 ≤ ofM M f 4 ∧ ofM M f 4 ≤ 300000) := by
  obtain ⟨-, h1, -, h3, h4, -⟩ := h.2 f hf.1 hf.2
  exact ⟨h1, h3, h4⟩
theorem okM_early {M : Row} (h : okM M) {f : Int} (hf : 0 ≤ f ∧ f < M 6) : 0 ≤ M (24 + ofM M f 1) ∧ M (24 + ofM M f 1) ≤ 9999 := by
  obtain ⟨⟨-, -, -, -, -, -, -, -, -, h9, -⟩, hF⟩ := h
  obtain ⟨-, h1, -⟩ := hF f hf.1 hf.2
  exact h9 _ (by omega) (by omega)
theorem okM_late {M : Row} (h : okM M) {f : Int} (hf : 0 ≤ f ∧ f < M 6) : 0 ≤ M (28 + ofM M f 1) ∧ M (28 + ofM M f 1) ≤ 9999 := by
  obtain ⟨⟨-, -, -, -, -, -, -, -, -, h9, -⟩, hF⟩ := h
  obtain ⟨-, h1, -⟩ := hF f hf.1 hf.2
  have := h9 (4 + ofM M f 1) (by omega) (by omega)
  rw [← Int.add_assoc] at this
  exact this
