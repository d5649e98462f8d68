/-! the reference's search -/
def rdL (H : AH) (b o : Int) (n : Nat) : List Int := (List.range n).map fun k : Nat => hg H b (o + k)
theorem rdL_len (H : AH) (b o : Int) (n : Nat) : (rdL H b o n).length = n := by simp [rdL]
theorem rdL_at {H : AH} {b o : Int} {n k : Nat} (h : k < n) : (rdL H b o n)[k]? = some (hg H b (o + k)) := by simp [rdL, h]
theorem rdL_lst {H : AH} {b o : Int} {L : List Int} (h : lst H b o L) : rdL H b o L.length = L := by
  refine List.ext_getElem? fun k => ?_
  by_cases hk : k < L.length
  · rw [rdL_at hk, h.at hk, List.getElem?_eq_getElem hk]
  · rw [List.getElem?_eq_none (by rw [rdL_len]; omega), List.getElem?_eq_none (by omega)]
theorem rdL_congr {H H' : AH} {b o : Int} {n : Nat} (h : ∀ k : Nat, k < n → hg H' b (o + k) = hg H b (o + k)) : rdL H' b o n = rdL H b o n := by
  refine List.ext_getElem? fun k => ?_
  by_cases hk : k < n
  · rw [rdL_at hk, rdL_at hk, h k hk]
  · rw [List.getElem?_eq_none (by rw [rdL_len]; omega), List.getElem?_eq_none (by rw [rdL_len]; omega)]
theorem lst_rdL {H : AH} {b o : Int} {n : Nat} : lst H b o (rdL H b o n) := by
  intro k x hx
  have hk := (List.getElem?_eq_some_iff.mp hx).1
  rw [rdL_len] at hk
  rw [rdL_at hk] at hx
  exact Option.some.inj hx
theorem lst.snoc {H : AH} {b o x : Int} {L : List Int} (h : lst H b o L) (hx : hg H b (o + L.length) = x) : lst H b o (L ++ [x]) := by
  intro k y hy
  by_cases hk : k < L.length
  · rw [List.getElem?_append_left hk] at hy
    exact h k y hy
  · rw [List.getElem?_append_right (by omega)] at hy
    have h1 := (List.getElem?_eq_some_iff.mp hy).1
    have h2 : k = L.length := by simp at h1; omega
    subst h2
    rw [Nat.sub_self] at hy
    have : x = y := by simpa using hy
    rw [← this]
    exact hx
theorem lst.take {H : AH} {b o : Int} {L : List Int} (h : lst H b o L) (n : Nat) : lst H b o (L.take n) := by
  intro k x hx
  rw [List.getElem?_take] at hx
  split at hx
  · exact h k x hx
  · cases hx
/-- which flight may come next -/
def nxt (M : Row) (W : List Int) (place used above k y : Int) : Prop := (y = -1 ∧ ∀ i, 0 ≤ i → i < k → okK M place used i → wAt W i ≤ above) ∨ ((0 ≤ y ∧ y < k) ∧ okK M place used y ∧ above < wAt W y ∧ ∀ i, 0 ≤ i → i < k → okK M place used i → above < wAt W i → wAt W y ≤ wAt W i)
theorem nxt.none {M : Row} {W : List Int} {place used above y : Int} {k : Nat} (h : nxt M W place used above k y) (hn : okK M place used k → wAt W k ≤ above) : nxt M W place used above (k + 1 : Nat) y := by
  rcases h with ⟨h1, h2⟩ | ⟨h1, h2, h3, h4⟩
  · refine Or.inl ⟨h1, fun i hi hk ho => ?_⟩
    by_cases hik : i = k
    · subst hik; exact hn ho
    · exact h2 i hi (by omega) ho
  · refine Or.inr ⟨by omega, h2, h3, fun i hi hk ho ha => ?_⟩
    by_cases hik : i = k
    · subst hik
      have := hn ho
      omega
    · exact h4 i hi (by omega) ho ha
theorem nxt.keep {M : Row} {W : List Int} {place used above y : Int} {k : Nat} (h : nxt M W place used above k y) (hy : y ≠ -1) (hn : wAt W y ≤ wAt W k) : nxt M W place used above (k + 1 : Nat) y := by
  rcases h with ⟨h1, h2⟩ | ⟨h1, h2, h3, h4⟩
  · exact absurd h1 hy
  · refine Or.inr ⟨by omega, h2, h3, fun i hi hk ho ha => ?_⟩
    by_cases hik : i = k
    · subst hik; exact hn
    · exact h4 i hi (by omega) ho ha
theorem nxt.take {M : Row} {W : List Int} {place used above y : Int} {k : Nat} (h : nxt M W place used above k y) (ho : okK M place used k) (ha : above < wAt W k) (hn : y = -1 ∨ wAt W k < wAt W y) : nxt M W place used above (k + 1 : Nat) k := by
  refine Or.inr ⟨by omega, ho, ha, fun i hi hk hoi hai => ?_⟩
  by_cases hik : i = k
  · subst hik; exact Int.le_refl _
  · rcases h with ⟨h1, h2⟩ | ⟨h1, h2, h3, h4⟩
    · have := h2 i hi (by omega) hoi
      omega
    · have := h4 i hi (by omega) hoi hai
      omega
def pGoes (a r place : Int) : Int → Int → Prop := fun b i => ((b = a + 12 ∨ b = a + 13) ∧ place ≤ i) ∨ (b = a + 9 ∧ 24 * r ≤ i ∧ i < 24 * r + 24) ∨ (b = a ∧ i = 21)
/-- what the search stands on -/
def GE (H : AH) (a r : Int) (M : Row) (C : List Int) : Prop := Lay LMod H a ∧ rowM H a = M ∧ hg H (a + 7) r = C.length ∧ lst H (a + 8) (24 * r) C ∧ ∀ x ∈ C, hg H (a + 11) x = baseM M r x
theorem pGoes_nrf {H : AH} {a r p : Int} (hL : Lay LMod H a) : ∀ c i, pGoes a r p c i → nrf H c i := by
  rintro c i (⟨rfl | rfl, -⟩ | ⟨rfl, -⟩ | ⟨rfl, rfl⟩)
  · exact nrf_arr (kMod_12 hL) (by decide) (by decide)
  · exact nrf_arr (kMod_13 hL) (by decide) (by decide)
  · exact nrf_arr (kMod_9 hL) (by decide) (by decide)
  · exact nrf_fld 21 (kMod_0 hL) (by decide) (by decide)
theorem pGoes_no {a r p b i : Int} (h1 : b ≠ a + 12) (h2 : b ≠ a + 13) (h3 : b ≠ a + 9) (h4 : b ≠ a) : ¬ pGoes a r p b i := by
  rintro (⟨h | h, -⟩ | ⟨h, -⟩ | ⟨h, -⟩)
  · exact h1 h
  · exact h2 h
  · exact h3 h
  · exact h4 h
theorem GE.only {H H' : AH} {a r p : Int} {M : Row} {C : List Int} (h : GE H a r M C) (ho : only H H' (pGoes a r p)) : GE H' a r M C := by
  obtain ⟨h1, h2, h3, h4, h5⟩ := h
  refine ⟨h1.only ok_Mod ho (pGoes_nrf h1), (rowM_only ho (fun i => pGoes_no (by omega) (by omega) (by omega) (by omega))).trans h2, ?_, h4.only ho (fun k _ => pGoes_no (by omega) (by omega) (by omega) (by omega)), fun x hx => ?_⟩
  · rw [ho.2.2 _ _ (pGoes_no (by omega) (by omega) (by omega) (by omega))]; exact h3
  · rw [ho.2.2 _ _ (pGoes_no (by omega) (by omega) (by omega) (by omega))]; exact h5 x hx
theorem win_at {H : AH} {a r : Int} {C : List Int} (h : lst H (a + 8) (24 * r) C) {k : Int} (hk : 0 ≤ k ∧ k < (C.take 7).length) : hg H (a + 8) (24 * r + k) = wAt (C.take 7) k := by
  have h1 : k.toNat < (C.take 7).length := by omega
  rw [wAt_eq h1]
  have := (h.take 7).at h1
  rw [show ((k.toNat : Nat) : Int) = k by omega] at this
  exact this
theorem win_len (C : List Int) : ((C.take 7).length : Int) = min 7 C.length := by
  rw [List.length_take]
section
variable {l : Launch} {G : GT}
theorem c_nextAt {d : Nat} {H : AH} {a r : Int} {M : Row} {C : List Int} {place used above : Int} (hE : GE H a r M C) (hM : okM M) (hr : 0 ≤ r ∧ r < 3) (hp : 0 ≤ place ∧ place ≤ 7) (hd : 2 ≤ d) : CL l G mX8_nextAt d 0 0 [vR a, vI r, vI place, vI used, vI above] H (fun v H' => H' = H ∧ ∃ y : Int, v = vI y ∧ nxt M (C.take 7) place used above (C.take 7).length y) := by
  obtain ⟨d, rfl⟩ : ∃ k, d = k + 1 := ⟨d - 1, by omega⟩
  obtain ⟨hL, hrow, hm, hl, -⟩ := hE
  have hwl := win_len C
  refine CL.of (by decide) rfl (Nat.le_of_ble_eq_true rfl) ?_
  have key : ∀ k, k ≤ (C.take 7).length → ∀ y : Int, nxt M (C.take 7) place used above k y → AW l G mX8_nextAt (d + 1) 0 0 (fun v H' => H' = H ∧ ∃ y : Int, v = vI y ∧ nxt M (C.take 7) place used above (C.take 7).length y) 6 [vR a, vI r, vI place, vI used, vI above, vI y, vI k, vU, vU] [] 0 0 H := by
    refine upN _ ?_ ?_
    · intro k hk ih y hy
      have hv := win_at hl (k := k) (by omega)
      have hs1 : rowM H a 1 = M 1 := by rw [hrow]
      refine s_X8_nextAt_6 hL ⟨hr, fun c => absurd c (by rw [hm]; omega), fun c => ⟨by omega, by omega, by omega, by omega, fun c1 => ⟨by omega, ih y (hy.none (fun q => absurd q.1 c1))⟩, fun c1 => ⟨by omega, by omega, fun c2 => ⟨by omega, ih y (hy.none (fun q => by have := q.2; omega))⟩, fun c2 => ⟨fun c3 => ⟨by omega, ih y (hy.none (fun q => by rw [hv] at c3; exact c3))⟩, fun c3 => ⟨fun c4 => ⟨by omega, ?_⟩, fun c4 => ?_⟩⟩⟩⟩⟩
      · rw [hv] at c3
        exact ih k (hy.take ⟨c1, by omega⟩ c3 (Or.inl c4))
      · have hy0 : 0 ≤ y ∧ y < k := by
          rcases hy with ⟨q, -⟩ | ⟨q, -⟩
          · exact absurd q c4
          · exact q
        have hvy := win_at hl (k := y) (by omega)
        refine ⟨by omega, by omega, fun c5 => ⟨by omega, ?_⟩, fun c5 => ⟨by omega, ?_⟩⟩
        · rw [hv, hvy] at c5
          exact ih y (hy.keep c4 c5)
        · rw [hv, hvy] at c5
          rw [hv] at c3
          exact ih k (hy.take ⟨c1, by omega⟩ c3 (Or.inr c5))
    · intro y hy
      exact s_X8_nextAt_6 hL ⟨hr, fun _ => ⟨rfl, y, rfl, hy⟩, fun c => absurd c (by rw [hm]; omega)⟩
  exact s_X8_nextAt_0 hL (key 0 (Nat.zero_le _) (-1) (Or.inl ⟨rfl, fun i h1 h2 _ => by omega⟩))
end
/-- the ones behind a number -/
def remK (W : List Int) (above : Int) (L : List Int) : List Int := L.filter fun k => decide (above < wAt W k)
theorem remK_cons {W : List Int} {above k : Int} : ∀ {L R : List Int}, L.Pairwise (fun x y => wAt W x < wAt W y) → remK W above L = k :: R → remK W (wAt W k) L = R ∧ above < wAt W k ∧ ∀ x ∈ R, wAt W k < wAt W x
  | [], R, _, h => by simp [remK] at h
  | g :: L, R, hp, h => by
    have h1 := List.pairwise_cons.mp hp
    unfold remK at h ⊢
    rw [List.filter_cons] at h ⊢
    by_cases hg : above < wAt W g
    · rw [if_pos (by simpa using hg)] at h
      obtain ⟨rfl, h2⟩ := List.cons.inj h
      have hall : L.filter (fun k => decide (above < wAt W k)) = L := List.filter_eq_self.mpr fun x hx => by have := h1.1 x hx; simp; omega
      have hall2 : L.filter (fun k => decide (wAt W g < wAt W k)) = L := List.filter_eq_self.mpr fun x hx => by have := h1.1 x hx; simp; omega
      rw [if_neg (by simp), hall2]
      rw [hall] at h2
      subst h2
      exact ⟨rfl, hg, h1.1⟩
    · rw [if_neg (by simpa using hg)] at h
      obtain ⟨q1, q2, q3⟩ := remK_cons h1.2 h
      rw [if_neg (by simp; omega)]
      exact ⟨q1, q2, q3⟩
theorem nxt_head {M : Row} {W : List Int} (hW : W.Nodup) {place used above y : Int} (h : nxt M W place used above W.length y) : (remK W above (oks M W place used) = [] ∧ y = -1) ∨ (0 ≤ y ∧ y < W.length ∧ okK M place used y ∧ ∃ R, remK W above (oks M W place used) = y :: R) := by
  have hs := oks_sorted (M := M) hW (place := place) (used := used)
  rcases h with ⟨h1, h2⟩ | ⟨h1, h2, h3, h4⟩
  · refine Or.inl ⟨List.filter_eq_nil_iff.mpr fun k hk => ?_, h1⟩
    obtain ⟨q1, q2⟩ := oks_mem.mp hk
    have := h2 k q1.1 q1.2 q2
    simp
    omega
  · refine Or.inr ⟨h1.1, h1.2, h2, ?_⟩
    have hy : y ∈ remK W above (oks M W place used) := List.mem_filter.mpr ⟨oks_mem.mpr ⟨h1, h2⟩, by simpa using h3⟩
    cases hR : remK W above (oks M W place used) with
    | nil => rw [hR] at hy; cases hy
    | cons k R =>
      have hk : k ∈ remK W above (oks M W place used) := by rw [hR]; exact List.mem_cons_self
      obtain ⟨q1, q2⟩ := List.mem_filter.mp hk
      obtain ⟨q3, q4⟩ := oks_mem.mp q1
      have e1 := h4 k q3.1 q3.2 q4 (by simpa using q2)
      rw [hR] at hy
      rcases List.mem_cons.mp hy with rfl | hy
      · exact ⟨R, rfl⟩
      · have := (remK_cons hs hR).2.2 y hy
        omega
