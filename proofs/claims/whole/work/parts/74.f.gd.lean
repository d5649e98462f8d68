/-! the reading: where it is, and where its error is -/
def gdP (n : Int) (σ : PS) : Prop := (0 ≤ σ.2.2.1 ∧ σ.2.2.1 ≤ n) ∧ (σ.1 ≠ 0 → 0 ≤ σ.2.1 ∧ σ.2.1 ≤ n)
section
variable {n b : Int} {B : Row} {σ : PS}
theorem gdP.nm {lo hi : Int} (h : gdP n σ) : gdP n (nmS B n σ lo hi).1 := by
  obtain ⟨e, q, p, R⟩ := σ
  have h1 : 0 ≤ p ∧ p ≤ n := h.1
  have a := spE_f (B := B) (i := p) h1.2
  have c := dgE_f (B := B) (i := spE B n p) a.2.1
  unfold nmS
  split
  · exact h
  · exact ⟨⟨by show 0 ≤ dgE B n (spE B n p); omega, c.2.1⟩, fun _ => ⟨by show 0 ≤ spE B n p; omega, a.2.1⟩⟩
theorem gdP.kd (h : gdP n σ) : gdP n (kdS B n σ).1 := by
  obtain ⟨e, q, p, R⟩ := σ
  have h1 : 0 ≤ p ∧ p ≤ n := h.1
  have a := spE_f (B := B) (i := p) h1.2
  have c := wdE_f (B := B) (i := spE B n p) a.2.1
  unfold kdS
  split
  · exact h
  · exact ⟨⟨by show 0 ≤ wdE B n (spE B n p); omega, c.2.1⟩, fun _ => ⟨by show 0 ≤ spE B n p; omega, a.2.1⟩⟩
theorem gdP.up {k v : Int} (h : gdP n σ) : gdP n (upS σ k v) := h
theorem gdP.stn {k lo hi : Int} (h : gdP n σ) : gdP n (stnS B n σ k lo hi) := h.nm.up
theorem gdP.nam {f : Int} (h : gdP n σ) : gdP n (namS B n σ f) := by
  obtain ⟨e, q, p, R⟩ := σ
  have h1 : 0 ≤ p ∧ p ≤ n := h.1
  have a := spE_f (B := B) (i := p) h1.2
  have c := wdE_f (B := B) (i := spE B n p) a.2.1
  have t : ∀ e R, gdP n (e, spE B n p, wdE B n (spE B n p), R) := fun e R => ⟨⟨by show 0 ≤ wdE B n (spE B n p); omega, c.2.1⟩, fun _ => ⟨by show 0 ≤ spE B n p; omega, a.2.1⟩⟩
  unfold namS
  simp only []
  split
  · exact t _ _
  · split
    · exact t _ _
    · exact t _ _
theorem gdP.tim {f : Int} (h : gdP n σ) : gdP n (timS B n σ f) := by
  unfold timS
  exact (h.nm.nm.up).up.stn
theorem gdP.fly {arr : Int} (h : gdP n σ) (hb : 0 ≤ b ∧ b ≤ n) : gdP n (flyS B n σ b arr) := by
  unfold flyS
  split
  · exact ⟨h.1, fun _ => hb⟩
  · exact ((h.nam.up).kd.up.tim).stn.up
theorem gdP.stm (h : gdP n σ) : gdP n (stmS B n σ) := by
  obtain ⟨e, q, p, R⟩ := σ
  have h1 : 0 ≤ p ∧ p ≤ n := h.1
  have a := spE_f (B := B) (i := p) h1.2
  have c := wdE_f (B := B) (i := spE B n p) a.2.1
  have t : ∀ e R, gdP n (e, spE B n p, wdE B n (spE B n p), R) := fun e R => ⟨⟨by show 0 ≤ wdE B n (spE B n p); omega, c.2.1⟩, fun _ => ⟨by show 0 ≤ spE B n p; omega, a.2.1⟩⟩
  have hb : 0 ≤ spE B n p ∧ spE B n p ≤ n := ⟨by omega, a.2.1⟩
  unfold stmS
  simp only []
  split
  · unfold wakS; exact (t _ _).kd.kd.stn
  split
  · exact (t _ _).stn
  split
  · exact (t _ _).stn
  split
  · exact (t _ _).stn
  split
  · exact (t _ _).stn
  split
  · unfold cosS; exact (t _ _).kd.stn.stn
  split
  · exact (t _ _).fly hb
  split
  · exact (t _ _).fly hb
  · exact t _ _
theorem gdP.mor (h : gdP n σ) : gdP n (morS B n σ).1 := by
  obtain ⟨e, q, p, R⟩ := σ
  have h1 : 0 ≤ p ∧ p ≤ n := h.1
  have a := spE_f (B := B) (i := p) h1.2
  unfold morS
  simp only []
  split
  · exact h
  split
  · exact ⟨⟨by show 0 ≤ spE B n p; omega, a.2.1⟩, fun w => absurd rfl w⟩
  split
  · exact ⟨⟨by show 0 ≤ spE B n p; omega, a.2.1⟩, fun _ => ⟨by show 0 ≤ spE B n p; omega, a.2.1⟩⟩
  · rename_i c _
    exact ⟨⟨by show 0 ≤ spE B n p + 1; omega, by show spE B n p + 1 ≤ n; omega⟩, fun w => absurd rfl w⟩
theorem gdP.all : ∀ (k : Nat) {σ : PS}, gdP n σ → gdP n (allS B n k σ)
  | 0, _, h => h
  | k + 1, σ, h => by
    unfold allS
    split
    · exact gdP.all k h.mor.stm
    · exact h.mor
theorem gdP_run (hn : 0 ≤ n) : gdP n (runS B n) := by
  have a := spE_f (B := B) (i := 0) hn
  have c := wdE_f (B := B) (i := spE B n 0) a.2.1
  have t : ∀ e R, gdP n (e, spE B n 0, wdE B n (spE B n 0), R) := fun e R => ⟨⟨by show 0 ≤ wdE B n (spE B n 0); omega, c.2.1⟩, fun _ => ⟨a.1, a.2.1⟩⟩
  unfold runS
  exact (t _ _).nm
theorem gdP_rea (hn : 0 ≤ n) : gdP n (reaS B n) := gdP.all _ (gdP_run hn)
end
