/-! bits of small numbers -/
theorem ushr_small : ∀ n : Fin 128, ((Int32.ofNat n.val).toUInt32 >>> ((Int32.ofNat 1).toUInt32 &&& Int32.toUInt32 31)).toInt32.toInt = shr (n.val : Int) 1 ∧ ((Int32.ofNat n.val).toUInt32 >>> ((Int32.ofNat 2).toUInt32 &&& Int32.toUInt32 31)).toInt32.toInt = shr (n.val : Int) 2 ∧ ((Int32.ofNat n.val).toUInt32 >>> ((Int32.ofNat 4).toUInt32 &&& Int32.toUInt32 31)).toInt32.toInt = shr (n.val : Int) 4 ∧ ((Int32.ofNat n.val).toUInt32 >>> ((Int32.ofNat 8).toUInt32 &&& Int32.toUInt32 31)).toInt32.toInt = shr (n.val : Int) 8 ∧ ((Int32.ofNat n.val).toUInt32 >>> ((Int32.ofNat 16).toUInt32 &&& Int32.toUInt32 31)).toInt32.toInt = shr (n.val : Int) 16 := by decide +kernel
section
variable {l : Launch} {G : GT} {M : MI} {d mc ms : Nat} {Q : AV → AH → Prop} {pc : Nat} {ls st : List AV} {cs sl : Nat} {H : AH}
theorem a_iushr {x y : Int} (hd : decode M.2.1 pc = .ok (.iushr, 1)) (h : 0 ≤ x ∧ x < 128) (hy9 : y = 1 ∨ y = 2 ∨ y = 4 ∨ y = 8 ∨ y = 16) (k : AW l G M d mc ms Q (pc + 1) ls (vI (shr x y) :: st) cs sl H) : AW l G M d mc ms Q pc ls (vI y :: vI x :: st) cs sl H := by
  intro p e s m args below meth c z D ca ws0 C ws Hp locs lsR stR hR hE hS hL hT
  obtain ⟨_, _, e0, hy, hT0⟩ := rvs_cons hT
  subst e0
  obtain ⟨_, _, e1, hx, hT1⟩ := rvs_cons hT0
  subst e1
  obtain ⟨y', rfl, hy'⟩ := rv_I hy
  obtain ⟨x', rfl, hx'⟩ := rv_I hx
  obtain ⟨n, rfl⟩ : ∃ n : Nat, x = n := ⟨x.toNat, by omega⟩
  have ex : x' = Int32.ofNat n := i32_small (by omega)
  have us := ushr_small ⟨n, by omega⟩
  refine lv_iushr C.1 C.2.1 hd rfl (k p e s m args below meth c z D ca ws0 C ws Hp locs lsR _ hR hE hS hL ⟨congrArg vI ?_, hT1⟩)
  rw [ex]
  rcases hy9 with w | w | w | w | w
  · rw [i32_small (n := 1) (y := y') (by omega), w]; exact us.1.symm
  · rw [i32_small (n := 2) (y := y') (by omega), w]; exact us.2.1.symm
  · rw [i32_small (n := 4) (y := y') (by omega), w]; exact us.2.2.1.symm
  · rw [i32_small (n := 8) (y := y') (by omega), w]; exact us.2.2.2.1.symm
  · rw [i32_small (n := 16) (y := y') (by omega), w]; exact us.2.2.2.2.symm
end
/-- how many bits are set -/
def pcI (x : Int) : Int := shr x 0 % 2 + shr x 1 % 2 + shr x 2 % 2 + shr x 3 % 2 + shr x 4 % 2 + shr x 5 % 2 + shr x 6 % 2
