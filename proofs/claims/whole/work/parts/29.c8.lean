/-! the reference's makes() -/
section
variable {l : Launch} {G : GT}
def Made (H : AH) (a : Int) (M : Row) : Prop := ∀ r, 0 ≤ r → r < M 5 → MadeR H a M r
/-- the cells of plans -/
def pMks (a : Int) : Int → Int → Prop := fun b i => (a + 7 ≤ b ∧ b ≤ a + 13) ∨ (b = a ∧ (i = 13 ∨ i = 21))
theorem pMks_nrf {H : AH} {a : Int} (hL : Lay LMod H a) : ∀ c i, pMks a c i → nrf H c i := by
  rintro c i (⟨h1, h2⟩ | ⟨rfl, rfl | rfl⟩)
  · obtain rfl | rfl | rfl | rfl | rfl | rfl | rfl : c = a + 7 ∨ c = a + 8 ∨ c = a + 9 ∨ c = a + 10 ∨ c = a + 11 ∨ c = a + 12 ∨ c = a + 13 := by omega
    · exact nrf_arr (kMod_7 hL) (by decide) (by decide)
    · exact nrf_arr (kMod_8 hL) (by decide) (by decide)
    · exact nrf_arr (kMod_9 hL) (by decide) (by decide)
    · exact nrf_arr (kMod_10 hL) (by decide) (by decide)
    · exact nrf_arr (kMod_11 hL) (by decide) (by decide)
    · exact nrf_arr (kMod_12 hL) (by decide) (by decide)
    · exact nrf_arr (kMod_13 hL) (by decide) (by decide)
  · exact nrf_fld 13 (kMod_0 hL) (by decide) (by decide)
  · exact nrf_fld 21 (kMod_0 hL) (by decide) (by decide)
theorem pMake_mks {a r : Int} {C : List Int} : ∀ b i, pMake a r C b i → pMks a b i := by
  rintro b i ((⟨h, -⟩ | ⟨h, -⟩) | h | (⟨h | h, -⟩ | ⟨h, -⟩ | ⟨h, h2⟩) | ⟨h, -⟩ | (h | h))
  · exact Or.inl (by omega)
  · exact Or.inl (by omega)
  · exact Or.inl (by omega)
  · exact Or.inl (by omega)
  · exact Or.inl (by omega)
  · exact Or.inl (by omega)
  · exact Or.inr ⟨h, Or.inr h2⟩
  · exact Or.inl (by omega)
  · exact Or.inl (by omega)
  · exact Or.inl (by omega)
/-- another runway's plan stays -/
theorem MadeR.stays {H H' : AH} {a : Int} {M : Row} (hM : okM M) {r q : Int} (hr : 0 ≤ r) (hq : 0 ≤ q) (hne : q ≠ r) (h : MadeR H a M q) (ho : only H H' (pMake a r (comeL M r))) : MadeR H' a M q := by
  obtain ⟨h1, h2, h3, h4⟩ := h
  have hlc := comeL_len hM (r := q)
  obtain ⟨pp1, pp2, pp3⟩ := planL_perm hM (r := q)
  refine ⟨?_, ?_, ?_, ?_⟩
  · rw [ho.2.2]
    · exact h1
    · rintro ((⟨-, z⟩ | ⟨z, -⟩) | z | (⟨z | z, -⟩ | ⟨z, -⟩ | ⟨z, z2⟩) | ⟨z, -⟩ | (z | z)) <;> omega
  · refine h2.only ho ?_
    rintro k hk ((⟨z, -⟩ | ⟨-, z, z2⟩) | z | (⟨z | z, -⟩ | ⟨z, -⟩ | ⟨z, z2⟩) | ⟨z, -⟩ | (z | z)) <;> omega
  · refine h3.only ho ?_
    rintro k hk ((⟨z, -⟩ | ⟨z, -⟩) | z | (⟨z | z, -⟩ | ⟨-, z, z2⟩ | ⟨z, z2⟩) | ⟨z, -⟩ | (z | z)) <;> omega
  · intro p hp
    rw [ho.2.2]
    · exact h4 p hp
    · have hpq : p.1 ∈ comeL M q := (pp3 _).mp (by
        have : (tmS M q [] (planL M q)).map Prod.fst = planL M q := by rw [tmS_fst]; rfl
        rw [← this]
        exact List.mem_map.mpr ⟨p, hp, rfl⟩)
      rintro ((⟨z, -⟩ | ⟨z, -⟩) | z | (⟨z | z, -⟩ | ⟨z, -⟩ | ⟨z, z2⟩) | ⟨-, z⟩ | (z | z))
      · omega
      · omega
      · omega
      · omega
      · omega
      · omega
      · omega
      · have e1 := ((comeL_mem hM).mp hpq).2.2
        have e2 := ((comeL_mem hM).mp z).2.2
        omega
      · omega
      · omega
/-- what is known of the plans: nothing, or all -/
def mkd (H : AH) (a : Int) : Prop := hg H a 13 = 0 ∨ (hg H a 13 = 1 ∧ Made H a (rowM H a))
theorem c_makes {d : Nat} {H : AH} {a : Int} {M : Row} (hL : Lay LMod H a) (hrow : rowM H a = M) (hM : okM M) (hk : mkd H a) (hd : 14 ≤ d) : CL l G mX8_makes d 0 0 [vR a] H (fun v H' => v = vV ∧ only H H' (pMks a) ∧ hg H' a 13 = 1 ∧ Made H' a M) := by
  obtain ⟨d, rfl⟩ : ∃ k, d = k + 1 := ⟨d - 1, by omega⟩
  have hn5 := hM.1.2.2.2.2.2.1
  refine CL.of (by decide) rfl (Nat.le_of_ble_eq_true rfl) (s_X8_makes_0 hL ⟨fun c H1 e1 => ?_, fun c => ?_⟩)
  · have o1 : only H H1 (pMks a) := by rw [e1]; exact only.wr (Or.inr ⟨rfl, Or.inl rfl⟩)
    have key : ∀ r, r ≤ (M 5).toNat → ∀ H', only H H' (pMks a) → hg H' a 13 = 1 → (∀ q : Int, 0 ≤ q → q < r → MadeR H' a M q) → AW l G mX8_makes (d + 1) 0 0 (fun v H' => v = vV ∧ only H H' (pMks a) ∧ hg H' a 13 = 1 ∧ Made H' a M) 15 [vR a, vI r] [] 0 0 H' := by
      refine upN _ ?_ ?_
      · intro r hr ih H' ho h1 hmd
        have hL' := hL.only ok_Mod ho (pMks_nrf hL)
        have hrw : rowM H' a = M := (rowM_only ho (fun _ q => by rcases q with q | q <;> omega)).trans hrow
        refine s_X8_makes_15 hL' ⟨fun c => absurd c (by rw [hrw]; omega), fun c => CL.mono (c_makesPlan hL' hrw hM (by omega) (by omega)) ?_⟩
        rintro r9 H2 ⟨rfl, o2, m2⟩
        have ho2 := ho.trans (o2.mono pMake_mks)
        refine ⟨hL.only ok_Mod ho2 (pMks_nrf hL), rfl, by omega, ih H2 ho2 ?_ ?_⟩
        · rw [o2.2.2]
          · exact h1
          · rintro ((⟨z, -⟩ | ⟨z, -⟩) | z | (⟨z | z, -⟩ | ⟨z, -⟩ | ⟨z, z2⟩) | ⟨z, -⟩ | (z | z)) <;> omega
        · intro q hq1 hq2
          by_cases hqr : q = r
          · rw [hqr]; exact m2
          · exact (hmd q hq1 (by omega)).stays hM (by omega) hq1 hqr o2
      · intro H' ho h1 hmd
        have hL' := hL.only ok_Mod ho (pMks_nrf hL)
        have hrw : rowM H' a = M := (rowM_only ho (fun _ q => by rcases q with q | q <;> omega)).trans hrow
        exact s_X8_makes_15 hL' ⟨fun _ => ⟨rfl, ho, h1, fun r q1 q2 => hmd r q1 (by omega)⟩, fun c => absurd c (by rw [hrw]; omega)⟩
    exact key 0 (Nat.zero_le _) H1 o1 (by rw [e1, hg_same]) (fun q q1 q2 => by omega)
  · rcases hk with h | ⟨h1, h2⟩
    · exact absurd h c
    · rw [hrow] at h2
      exact ⟨rfl, only.rf, h1, h2⟩
end
