/-! blocks within blocks -/
theorem PL.sub {H0 H H2 : AH} {a m m' : Int} {cs cs' : List (Int × Nat × Int)} {rs rs' : List (Int × Int × Int)} {k : Nat} {n : Int} (h : PL H0 H a m cs rs) (h' : PL (hnew H k n) H2 (a + (m + 1)) m' cs' rs') : PL H0 H2 a (m + 1 + m') (cs ++ cs'.map fun e => (m + 1 + e.1, e.2)) (rs ++ rs'.map fun e => (m + 1 + e.1, e.2.1, m + 1 + e.2.2)) := by
  obtain ⟨h1, h2, h3, h4, h5, h6⟩ := h
  obtain ⟨g1, g2, g3, g4, g5, g6⟩ := h'
  have low : ∀ b, b < a + (m + 1) → H2.2.1 b = H.2.1 b ∧ ∀ i, hg H2 b i = hg H b i := by
    intro b hb
    have := g3 b hb
    refine ⟨?_, fun i => ?_⟩
    · rw [this.1, hk_new, if_neg (by omega)]
    · rw [this.2 i, hg_new, if_neg (by omega)]
  refine ⟨by omega, by omega, fun b hb => ⟨(low b (by omega)).1.trans (h3 b hb).1, fun i => ((low b (by omega)).2 i).trans ((h3 b hb).2 i)⟩, fun e he => ?_, fun e he => ?_, fun b i b1 b2 hn => ?_⟩
  · rcases List.mem_append.mp he with he | he
    · have := h4 e he
      exact ⟨by omega, (low _ (by omega)).1.trans this.2⟩
    · obtain ⟨e0, he0, rfl⟩ := List.mem_map.mp he
      have := g4 e0 he0
      refine ⟨by show 0 ≤ m + 1 + e0.1 ∧ m + 1 + e0.1 ≤ m + 1 + m'; omega, ?_⟩
      show H2.2.1 (a + (m + 1 + e0.1)) = e0.2
      rw [← Int.add_assoc]
      exact this.2
  · rcases List.mem_append.mp he with he | he
    · have := h5 e he
      exact ⟨by omega, ((low _ (by omega)).2 _).trans this.2⟩
    · obtain ⟨e0, he0, rfl⟩ := List.mem_map.mp he
      have := g5 e0 he0
      refine ⟨by show 0 ≤ m + 1 + e0.1 ∧ m + 1 + e0.1 ≤ m + 1 + m'; omega, ?_⟩
      show hg H2 (a + (m + 1 + e0.1)) e0.2.1 = a + (m + 1 + e0.2.2)
      rw [← Int.add_assoc, this.2]
      omega
  · by_cases c : b < a + (m + 1)
    · rw [(low b c).2 i]
      exact h6 b i b1 (by omega) (fun e he => hn e (List.mem_append_left _ he))
    · refine g6 b i (by omega) (by omega) (fun e he w => ?_)
      refine hn (m + 1 + e.1, e.2.1, m + 1 + e.2.2) (List.mem_append_right _ (List.mem_map.mpr ⟨e, he, rfl⟩)) ⟨?_, w.2⟩
      show b = a + (m + 1 + e.1)
      omega
theorem hk_at {H : AH} {k : Nat} {n b : Int} (h : b = H.1 + 1) : (hnew H k n).2.1 b = (k, n) := by rw [hk_new, if_pos h]
theorem hz_at {H : AH} {k : Nat} {n b : Int} (h : b = H.1 + 1) : ∀ i, hg (hnew H k n) b i = 0 := fun i => by rw [hg_new, if_pos h]
