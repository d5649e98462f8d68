/-! the reference's planning -/
def pCome (a r : Int) : Int → Int → Prop := fun b i => (b = a + 7 ∧ i = r) ∨ (b = a + 8 ∧ 24 * r ≤ i ∧ i < 24 * r + 24)
theorem pCome_nrf {H : AH} {a r : Int} (hL : Lay LMod H a) : ∀ c i, pCome a r c i → nrf H c i := by
  rintro c i (⟨rfl, -⟩ | ⟨rfl, -⟩)
  · exact nrf_arr (kMod_7 hL) (by decide) (by decide)
  · exact nrf_arr (kMod_8 hL) (by decide) (by decide)
theorem pCome_1 {a r i : Int} : ¬ pCome a r (a + 1) i := by
  rintro (⟨h, -⟩ | ⟨h, -⟩) <;> omega
section
variable {l : Launch} {G : GT} {d : Nat} {Q : AV → AH → Prop}
theorem laysCome_in {H0 : AH} {a r : Int} {M : Row} (hd : 2 ≤ d) (hL0 : Lay LMod H0 a) (hM : okM M) (hrow : rowM H0 a = M) (hr : 0 ≤ r ∧ r < 3) (j : Nat) (hj : (j : Int) < M 6) (L : List Int) (hlen : L.length ≤ j) (hLm : ∀ x ∈ L, 0 ≤ x ∧ x < M 6)
    (hk : ∀ H, only H0 H (pCome a r) → hg H (a + 7) r = (L.length : Int) + 1 → lst H (a + 8) (24 * r) (insF M j L) → AW l G mX8_laysCome (d + 1) 0 0 Q 9 [vR a, vI r, vI (j + 1), vU] [] 0 0 H) :
    ∀ (k : Nat) (H : AH), k ≤ L.length → only H0 H (pCome a r) → hg H (a + 7) r = L.length → (∀ i : Nat, i < k → ∀ x, L[i]? = some x → hg H (a + 8) (24 * r + i) = x) → (∀ i : Nat, k ≤ i → ∀ x, L[i]? = some x → hg H (a + 8) (24 * r + (i + 1 : Nat)) = x) → (∀ g ∈ L.drop k, ofM M j 3 < ofM M g 3) → AW l G mX8_laysCome (d + 1) 0 0 Q 40 [vR a, vI r, vI j, vI k] [] 0 0 H := by
  have hn := okM_n hM
  -- the end of the shifting: f is laid at k
  have fin : ∀ (k : Nat) (H : AH), k ≤ L.length → only H0 H (pCome a r) → hg H (a + 7) r = L.length → (∀ i : Nat, i < k → ∀ x, L[i]? = some x → hg H (a + 8) (24 * r + i) = x) → (∀ i : Nat, k ≤ i → ∀ x, L[i]? = some x → hg H (a + 8) (24 * r + (i + 1 : Nat)) = x) → (∀ g ∈ L.drop k, ofM M j 3 < ofM M g 3) → (∀ (i : Nat) (g : Int), k = i + 1 → L[i]? = some g → ofM M g 3 ≤ ofM M j 3) →
      ∀ H1, H1 = hs H (a + 8) (24 * r + k) j → ∀ H2, H2 = hs H1 (a + 7) r (hg H1 (a + 7) r + 1) → AW l G mX8_laysCome (d + 1) 0 0 Q 9 [vR a, vI r, vI (j + 1), vU] [] 0 0 H2 := by
    intro k H hkl ho hm hlo hhi hgt hle H1 e1 H2 e2
    have hm1 : hg H1 (a + 7) r = L.length := by rw [e1, hg_ne H (Or.inl (by omega))]; exact hm
    refine hk H2 ?_ ?_ ?_
    · rw [e2, e1]
      exact (ho.then (Or.inr ⟨rfl, by omega, by omega⟩)).then (Or.inl ⟨rfl, rfl⟩)
    · rw [e2, hg_same, hm1]
    · rw [insF_split M j L k hkl hgt hle]
      intro i x hx
      rw [e2, hg_ne H1 (Or.inl (by omega)), e1]
      by_cases h1 : i < k
      · rw [hg_ne H (Or.inr (by omega))]
        rw [List.getElem?_append_left (by rw [List.length_take]; omega), List.getElem?_take, if_pos h1] at hx
        exact hlo i h1 x hx
      · by_cases h2 : i = k
        · subst h2
          rw [hg_same]
          rw [List.getElem?_append_right (by rw [List.length_take]; omega), List.length_take, Nat.min_eq_left hkl, Nat.sub_self] at hx
          simpa using hx
        · rw [hg_ne H (Or.inr (by omega))]
          rw [List.getElem?_append_right (by rw [List.length_take]; omega), List.length_take, Nat.min_eq_left hkl, show i - k = (i - 1 - k) + 1 by omega, List.getElem?_cons_succ, List.getElem?_drop, show k + (i - 1 - k) = i - 1 by omega] at hx
          have := hhi (i - 1) (by omega) x hx
          rw [show i - 1 + 1 = i by omega] at this
          exact this
  intro k
  induction k with
  | zero =>
    intro H hkl ho hm hlo hhi hgt
    have hL := hL0.only ok_Mod ho (pCome_nrf hL0)
    have hrw : rowM H a = M := (rowM_only ho (fun _ => pCome_1)).trans hrow
    refine s_X8_laysCome_40 hL ⟨fun _ => ⟨by omega, by omega, by omega, fun H1 e1 => ⟨hr, ?_, fun H2 e2 => ⟨by omega, ?_⟩⟩⟩, fun c => absurd c (by decide)⟩
    · rw [e1, hg_ne H (Or.inl (by omega)), hm]; omega
    · exact fin 0 H hkl ho hm hlo hhi hgt (fun i g h => by omega) H1 e1 H2 e2
  | succ k ih =>
    intro H hkl ho hm hlo hhi hgt
    have hL := hL0.only ok_Mod ho (pCome_nrf hL0)
    have hrw : rowM H a = M := (rowM_only ho (fun _ => pCome_1)).trans hrow
    have hlt : k < L.length := by omega
    have hx := List.getElem?_eq_getElem hlt
    have hv : hg H (a + 8) (24 * r + (k + 1 : Nat) - 1) = L[k] := by
      have := hlo k (by omega) _ hx
      rw [show 24 * r + ((k + 1 : Nat) : Int) - 1 = 24 * r + (k : Int) by omega]
      exact this
    have hb := hLm _ (List.getElem_mem hlt)
    refine s_X8_laysCome_40 hL ⟨fun c => absurd c (by omega), fun c => ⟨by omega, by omega, by omega, by omega, ?_, by omega, fun c2 => ⟨by omega, fun H1 e1 => ⟨hr, ?_, fun H2 e2 => ⟨by omega, ?_⟩⟩⟩, fun c2 => ⟨by omega, fun H1 e1 => ⟨by omega, ?_⟩⟩⟩⟩
    · rw [hv]; omega
    · rw [e1, hg_ne H (Or.inl (by omega)), hm]; omega
    · rw [hv, hrw] at c2
      exact fin (k + 1) H hkl ho hm hlo hhi hgt (fun i g hi hgi => by
        have : i = k := by omega
        subst this
        rw [hx] at hgi
        cases hgi
        exact c2) H1 e1 H2 e2
    · rw [hv, hrw] at c2
      rw [hv] at e1
      rw [show ((k + 1 : Nat) : Int) + -1 = (k : Int) by omega]
      refine ih H1 (by omega) ?_ ?_ ?_ ?_ ?_
      · rw [e1]
        exact ho.then (Or.inr ⟨rfl, by omega, by omega⟩)
      · rw [e1, hg_ne H (Or.inl (by omega))]; exact hm
      · intro i hi x hxi
        rw [e1, hg_ne H (Or.inr (by omega))]
        exact hlo i (by omega) x hxi
      · intro i hi x hxi
        by_cases hik : i = k
        · subst hik
          rw [hx] at hxi
          cases hxi
          rw [e1, hg_same]
        · rw [e1, hg_ne H (Or.inr (by omega))]
          exact hhi i (by omega) x hxi
      · intro g hg'
        rw [List.drop_eq_getElem_cons hlt] at hg'
        rcases List.mem_cons.mp hg' with rfl | hg'
        · exact c2
        · exact hgt g hg'
end
