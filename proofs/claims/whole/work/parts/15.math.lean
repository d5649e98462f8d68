/-! Math.max, min, abs -/
def ab (x : Int) : Int := if 0 ≤ x then x else -x
theorem e_max : mJ9_max_7cf53 = (Lib.Math.max.name, Lib.Math.max.code, 2, some .int, []) := by rfl
theorem e_min : mJ9_min_7cf53 = (Lib.Math.min.name, Lib.Math.min.code, 2, some .int, []) := by rfl
theorem e_abs : mJ9_abs_0f7a4 = (Lib.Math.abs.name, Lib.Math.abs.code, 1, some .int, []) := by rfl
section AMATH
variable {l : Launch} {G : GT} {M : MI} {d mc ms : Nat} {Q : AV → AH → Prop} {pc : Nat} {ls st : List AV} {cs sl : Nat} {H : AH}
theorem rls.size {ws : va_W} {nL : Nat} {ls : List AV} {lsR : Array Slot} (h : rls ws nL ls lsR) : lsR.size = nL := by
  obtain ⟨-, lv, h1, -⟩ := h
  exact h1.1
theorem a_mmax {x y : Int} {idx : Nat} (hd : decode M.2.1 pc = .ok (.invokestatic idx, 3)) (hw : CWS M mJ9_max_7cf53 idx 2) (hca : aCat st ≤ 8) (hc : cs ≤ mc) (hs : sl ≤ ms) (k : AW l G M (d + 1) mc ms Q (pc + 3) ls (vI (max x y) :: st) cs sl H) : AW l G M (d + 1) mc ms Q pc ls (vI y :: vI x :: st) cs sl H := by
  intro p e s m args below meth c z D ca ws0 C ws Hp locs lsR stR hR hE hS hL hT
  obtain ⟨_, _, e0, hy, hT0⟩ := rvs_cons hT
  subst e0
  obtain ⟨_, _, e1, hx, hT1⟩ := rvs_cons hT0
  subst e1
  obtain ⟨y', rfl, rfl⟩ := rv_I hy
  obtain ⟨x', rfl, rfl⟩ := rv_I hx
  rw [e_max] at hw
  have hts := C.2.2.2.2.2.2.1
  refine va_mmax C.1 C.2.1 (C.2.2.1.trans hL.size.symm) C.2.2.2.2.2.1 (hts _ hw.2.1) (hts _ hw.2.2) (hts _ hw.1.2.1) (hts _ hw.1.1) (by show 1 ≤ d + 1; omega) (by rw [aCat_eq hT1]; show aCat st + 13 ≤ 64 * (d + 1); omega) hc hs hd (k p e s m args below meth c z D ca ws0 C ws Hp locs lsR _ hR hE hS hL ⟨?_, hT1⟩)
  refine congrArg vI ?_
  by_cases h : x' < y'
  · rw [if_pos h]
    have := i32_ltI.mp h
    omega
  · rw [if_neg h]
    have : ¬ x'.toInt < y'.toInt := fun q => h (i32_ltI.mpr q)
    omega
theorem a_mmin {x y : Int} {idx : Nat} (hd : decode M.2.1 pc = .ok (.invokestatic idx, 3)) (hw : CWS M mJ9_min_7cf53 idx 2) (hca : aCat st ≤ 8) (hc : cs ≤ mc) (hs : sl ≤ ms) (k : AW l G M (d + 1) mc ms Q (pc + 3) ls (vI (min x y) :: st) cs sl H) : AW l G M (d + 1) mc ms Q pc ls (vI y :: vI x :: st) cs sl H := by
  intro p e s m args below meth c z D ca ws0 C ws Hp locs lsR stR hR hE hS hL hT
  obtain ⟨_, _, e0, hy, hT0⟩ := rvs_cons hT
  subst e0
  obtain ⟨_, _, e1, hx, hT1⟩ := rvs_cons hT0
  subst e1
  obtain ⟨y', rfl, rfl⟩ := rv_I hy
  obtain ⟨x', rfl, rfl⟩ := rv_I hx
  rw [e_min] at hw
  have hts := C.2.2.2.2.2.2.1
  refine va_mmin C.1 C.2.1 (C.2.2.1.trans hL.size.symm) C.2.2.2.2.2.1 (hts _ hw.2.1) (hts _ hw.2.2) (hts _ hw.1.2.1) (hts _ hw.1.1) (by show 1 ≤ d + 1; omega) (by rw [aCat_eq hT1]; show aCat st + 13 ≤ 64 * (d + 1); omega) hc hs hd (k p e s m args below meth c z D ca ws0 C ws Hp locs lsR _ hR hE hS hL ⟨?_, hT1⟩)
  refine congrArg vI ?_
  by_cases h : y' < x'
  · rw [if_pos h]
    have := i32_ltI.mp h
    omega
  · rw [if_neg h]
    have : ¬ y'.toInt < x'.toInt := fun q => h (i32_ltI.mpr q)
    omega
theorem a_mabs {x : Int} {idx : Nat} (hd : decode M.2.1 pc = .ok (.invokestatic idx, 3)) (hw : CWS M mJ9_abs_0f7a4 idx 1) (hb : -1000000 ≤ x ∧ x ≤ 1000000) (hca : aCat st ≤ 8) (hc : cs ≤ mc) (hs : sl ≤ ms) (k : AW l G M (d + 1) mc ms Q (pc + 3) ls (vI (ab x) :: st) cs sl H) : AW l G M (d + 1) mc ms Q pc ls (vI x :: st) cs sl H := by
  intro p e s m args below meth c z D ca ws0 C ws Hp locs lsR stR hR hE hS hL hT
  obtain ⟨_, _, e1, hx, hT1⟩ := rvs_cons hT
  subst e1
  obtain ⟨x', rfl, rfl⟩ := rv_I hx
  rw [e_abs] at hw
  have hts := C.2.2.2.2.2.2.1
  refine va_mabs C.1 C.2.1 (C.2.2.1.trans hL.size.symm) C.2.2.2.2.2.1 (hts _ hw.2.1) (hts _ hw.2.2) (hts _ hw.1.2.1) (hts _ hw.1.1) (by show 1 ≤ d + 1; omega) (by rw [aCat_eq hT1]; show aCat st + 13 ≤ 64 * (d + 1); omega) hc hs hd (k p e s m args below meth c z D ca ws0 C ws Hp locs lsR _ hR hE hS hL ⟨?_, hT1⟩)
  refine congrArg vI ?_
  have h0 : (0 : Int32).toInt = 0 := rfl
  unfold ab
  by_cases h : 0 ≤ x'
  · have h1 := i32_leI.mp h
    rw [if_pos h, if_pos (by rw [h0] at h1; exact h1)]
  · have h1 : ¬ (0 : Int32).toInt ≤ x'.toInt := fun q => h (i32_leI.mpr q)
    rw [if_neg h, if_neg (by rw [h0] at h1; exact h1), i32_sub (by unfold inI; rw [h0]; omega), h0]
    omega
end AMATH
theorem pn_int : plainName mJ6_bitCount_0f7a4.1.cls = true := by decide
