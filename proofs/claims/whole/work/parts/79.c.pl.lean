/-! blocks that are being made -/
/-- a block at a, made over the heap H0: its cells so far, its references so far, all else nothing -/
def PL (H0 H : AH) (a m : Int) (cs : List (Int × Nat × Int)) (rs : List (Int × Int × Int)) : Prop :=
  (H.1 : Int) = a + m ∧ 0 ≤ m ∧ (∀ b, b < a → H.2.1 b = H0.2.1 b ∧ ∀ i, hg H b i = hg H0 b i) ∧ (∀ e ∈ cs, (0 ≤ e.1 ∧ e.1 ≤ m) ∧ H.2.1 (a + e.1) = e.2) ∧ (∀ e ∈ rs, (0 ≤ e.1 ∧ e.1 ≤ m) ∧ hg H (a + e.1) e.2.1 = a + e.2.2) ∧ ∀ b i, a ≤ b → b ≤ a + m → (∀ e ∈ rs, ¬ (b = a + e.1 ∧ i = e.2.1)) → hg H b i = 0
section
variable {H0 H : AH} {a m : Int} {cs : List (Int × Nat × Int)} {rs : List (Int × Int × Int)}
theorem PL.lay (h : PL H0 H a m cs rs) : Lay (cs, rs) H a := ⟨fun e he => (h.2.2.2.1 e he).2, fun e he => (h.2.2.2.2.1 e he).2⟩
theorem PL.new {k : Nat} {n : Int} (h : PL H0 H a m cs rs) : PL H0 (hnew H k n) a (m + 1) (cs ++ [(m + 1, k, n)]) rs := by
  obtain ⟨h1, h2, h3, h4, h5, h6⟩ := h
  refine ⟨?_, by omega, fun b hb => ⟨?_, fun i => ?_⟩, fun e he => ?_, fun e he => ?_, fun b i b1 b2 hn => ?_⟩
  · show ((H.1 + 1 : Nat) : Int) = _
    omega
  · rw [hk_new, if_neg (by omega)]; exact (h3 b hb).1
  · rw [hg_new, if_neg (by omega)]; exact (h3 b hb).2 i
  · rcases List.mem_append.mp he with he | he
    · have := h4 e he
      rw [hk_new, if_neg (by omega)]
      exact ⟨by omega, this.2⟩
    · rcases List.mem_singleton.mp he with rfl
      refine ⟨⟨by show 0 ≤ m + 1; omega, Int.le_refl _⟩, ?_⟩
      show (hnew H k n).2.1 (a + (m + 1)) = (k, n)
      rw [hk_new, if_pos (by omega)]
  · have := h5 e he
    rw [hg_new, if_neg (by omega)]
    exact ⟨by omega, this.2⟩
  · rw [hg_new]
    by_cases c : b = H.1 + 1
    · rw [if_pos c]
    · rw [if_neg c]; exact h6 b i b1 (by omega) hn
theorem PL.put {s j : Int} (h : PL H0 H a m cs rs) (hj : 0 ≤ m) (hn : ∀ e ∈ rs, ¬ (e.1 = 0 ∧ e.2.1 = s)) : PL H0 (hs H a s (a + j)) a m cs (rs ++ [(0, s, j)]) := by
  obtain ⟨h1, h2, h3, h4, h5, h6⟩ := h
  refine ⟨h1, h2, fun b hb => ⟨(h3 b hb).1, fun i => ?_⟩, h4, fun e he => ?_, fun b i b1 b2 hq => ?_⟩
  · rw [hg_ne _ (by omega)]; exact (h3 b hb).2 i
  · rcases List.mem_append.mp he with he | he
    · have := h5 e he
      have hne := hn e he
      rw [hg_ne _ (by
        by_cases c : a + e.1 = a
        · right; exact fun w => hne ⟨by omega, w⟩
        · left; exact c)]
      exact this
    · rcases List.mem_singleton.mp he with rfl
      refine ⟨⟨Int.le_refl _, hj⟩, ?_⟩
      show hg (hs H a s (a + j)) (a + 0) s = a + j
      rw [Int.add_zero, hg_same]
  · have q1 := hq (0, s, j) (List.mem_append_right _ (List.mem_singleton.mpr rfl))
    rw [hg_ne _ (by
      by_cases c : b = a
      · right; exact fun w => q1 ⟨by show b = a + 0; omega, w⟩
      · left; exact c)]
    exact h6 b i b1 b2 (fun e he => hq e (List.mem_append_left _ he))
end
section
variable {l : Launch} {G : GT} {H : AH} {a : Int} {d : Nat}
/-- what is made when an object has only been given its cell -/
theorem PL.born {H : AH} {ci : Nat} (hk9 : H.2.1 a = (ci, 0)) (h1 : (H.1 : Int) = a) (hz : ∀ i, hg H a i = 0) : PL H H a 0 [(0, ci, 0)] [] := by
  refine ⟨by omega, Int.le_refl _, fun b hb => ⟨rfl, fun i => rfl⟩, fun e he => ?_, fun e he => absurd he List.not_mem_nil, fun b i b1 b2 _ => ?_⟩
  · rcases List.mem_singleton.mp he with rfl
    refine ⟨⟨Int.le_refl _, Int.le_refl _⟩, ?_⟩
    show H.2.1 (a + 0) = (ci, 0)
    rw [Int.add_zero]; exact hk9
  · rw [show b = a by omega]; exact hz i
end
