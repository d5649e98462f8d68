/-! bits -/
def pw (k : Int) : Int := 2 ^ k.toNat
def shr (x k : Int) : Int := x / 2 ^ k.toNat
def ior (x y : Int) : Int := ((x.toNat ||| y.toNat : Nat) : Int)
def iand (x y : Int) : Int := ((x.toNat &&& y.toNat : Nat) : Int)
theorem i32_tn (x : Int32) : x.toInt = if 2 * x.toBitVec.toNat < 2 ^ 32 then (x.toBitVec.toNat : Int) else (x.toBitVec.toNat : Int) - 2 ^ 32 := by
  show x.toBitVec.toInt = _
  rw [BitVec.toInt_eq_toNat_cond]
  rfl
theorem i32_nn {x : Int32} (h : 0 ≤ x.toInt) : x.toBitVec.toNat = x.toInt.toNat ∧ x.toBitVec.toNat < 2 ^ 31 := by
  have h1 := i32_tn x
  have h2 := x.toBitVec.isLt
  split at h1 <;> omega
theorem i32_ofN {x : Int32} {n : Nat} (h : x.toBitVec.toNat = n) (hn : n < 2 ^ 31) : x.toInt = n := by
  have h1 := i32_tn x
  rw [h] at h1
  split at h1 <;> omega
theorem i32_iand {x y : Int32} (hx : 0 ≤ x.toInt) (hy : 0 ≤ y.toInt) : (x &&& y).toInt = iand x.toInt y.toInt := by
  have h1 := i32_nn hx
  have h2 := i32_nn hy
  refine i32_ofN (n := x.toInt.toNat &&& y.toInt.toNat) ?_ ?_
  · rw [Int32.toBitVec_and, BitVec.toNat_and, h1.1, h2.1]
  · have : x.toInt.toNat &&& y.toInt.toNat ≤ y.toInt.toNat := Nat.and_le_right
    omega
theorem i32_ior {x y : Int32} (hx : 0 ≤ x.toInt) (hy : 0 ≤ y.toInt) : (x ||| y).toInt = ior x.toInt y.toInt := by
  have h1 := i32_nn hx
  have h2 := i32_nn hy
  refine i32_ofN (n := x.toInt.toNat ||| y.toInt.toNat) ?_ ?_
  · rw [Int32.toBitVec_or, BitVec.toNat_or, h1.1, h2.1]
  · exact Nat.or_lt_two_pow (by omega) (by omega)
theorem i32_mask1 (x : Int32) : (x &&& 1).toInt = x.toInt % 2 := by
  have h1 := i32_tn x
  have h2 := x.toBitVec.isLt
  have h3 : (x &&& 1).toBitVec.toNat = x.toBitVec.toNat % 2 := by
    rw [Int32.toBitVec_and, BitVec.toNat_and]
    exact Nat.and_two_pow_sub_one_eq_mod _ 1
  rw [i32_ofN h3 (by omega)]
  split at h1 <;> omega
theorem i32_mask63 (x : Int32) : (x &&& 63).toInt = x.toInt % 64 := by
  have h1 := i32_tn x
  have h2 := x.toBitVec.isLt
  have h3 : (x &&& 63).toBitVec.toNat = x.toBitVec.toNat % 64 := by
    rw [Int32.toBitVec_and, BitVec.toNat_and]
    exact Nat.and_two_pow_sub_one_eq_mod _ 6
  rw [i32_ofN h3 (by omega)]
  split at h1 <;> omega
theorem i32_mask255 (x : Int32) : (x &&& 255).toInt = x.toInt % 256 := by
  have h1 := i32_tn x
  have h2 := x.toBitVec.isLt
  have h3 : (x &&& 255).toBitVec.toNat = x.toBitVec.toNat % 256 := by
    rw [Int32.toBitVec_and, BitVec.toNat_and]
    exact Nat.and_two_pow_sub_one_eq_mod _ 8
  rw [i32_ofN h3 (by omega)]
  split at h1 <;> omega
theorem sh_amt : ∀ k : Fin 32, ((Int32.ofNat k.val &&& 31).toBitVec.smod 32).toNat = k.val := by decide
theorem i32_small {y : Int32} {n : Nat} (h : y.toInt = n) : y = Int32.ofNat n := Int32.toInt_inj.mp (by
  have h1 := i32_in y
  unfold inI at h1
  rw [show Int32.ofNat n = Int32.ofInt n from rfl, i32_of (by unfold inI; omega)]
  exact h)
theorem sh_one : ∀ k : Fin 31, ((1 : Int32) <<< (Int32.ofNat k.val &&& 31)).toInt = 2 ^ k.val := by decide
theorem i32_shl1 {y : Int32} (h : 0 ≤ y.toInt ∧ y.toInt ≤ 30) : ((1 : Int32) <<< (y &&& 31)).toInt = pw y.toInt := by
  obtain ⟨n, hn⟩ := Int.eq_ofNat_of_zero_le h.1
  have hy := i32_small hn
  have hlt : n < 31 := by omega
  rw [hy, sh_one ⟨n, hlt⟩]
  unfold pw
  rw [← hy, hn]
  rfl
theorem i32_shr {x y : Int32} (h : 0 ≤ y.toInt ∧ y.toInt ≤ 31) : (x >>> (y &&& 31)).toInt = shr x.toInt y.toInt := by
  obtain ⟨n, hn⟩ := Int.eq_ofNat_of_zero_le h.1
  have hy := i32_small hn
  have hlt : n < 32 := by omega
  have h1 := sh_amt ⟨n, hlt⟩
  rw [← hy] at h1
  show (x >>> (y &&& 31)).toBitVec.toInt = _
  rw [Int32.toBitVec_shiftRight, BitVec.sshiftRight', BitVec.toInt_sshiftRight, h1, Int.shiftRight_eq_div_pow, hn]
  rfl
section ABITS
variable {l : Launch} {G : GT} {M : MI} {d mc ms : Nat} {Q : AV → AH → Prop} {pc : Nat} {ls st : List AV} {cs sl : Nat} {H : AH}
theorem a_and2 {x y r : Int} (hd : decode M.2.1 pc = .ok (.iand, 1)) (hr : ∀ x' y' : Int32, x'.toInt = x → y'.toInt = y → (x' &&& y').toInt = r) (k : AW l G M d mc ms Q (pc + 1) ls (vI r :: st) cs sl H) : AW l G M d mc ms Q pc ls (vI y :: vI x :: st) cs sl H := by
  intro p e s m args below meth c z D ca ws0 C ws Hp locs lsR stR hR hE hS hL hT
  obtain ⟨_, _, e0, hy, hT0⟩ := rvs_cons hT
  subst e0
  obtain ⟨_, _, e1, hx, hT1⟩ := rvs_cons hT0
  subst e1
  obtain ⟨y', rfl, ey⟩ := rv_I hy
  obtain ⟨x', rfl, ex⟩ := rv_I hx
  exact lv_iand C.1 C.2.1 hd (k p e s m args below meth c z D ca ws0 C ws Hp locs lsR _ hR hE hS hL ⟨congrArg vI (hr x' y' ex.symm ey.symm).symm, hT1⟩)
theorem a_iand1 {x : Int} (hd : decode M.2.1 pc = .ok (.iand, 1)) (k : AW l G M d mc ms Q (pc + 1) ls (vI (x % 2) :: st) cs sl H) : AW l G M d mc ms Q pc ls (vI 1 :: vI x :: st) cs sl H :=
  a_and2 hd (fun x' y' hx hy => by rw [show y' = 1 from Int32.toInt_inj.mp hy, i32_mask1, hx]) k
theorem a_iand63 {x : Int} (hd : decode M.2.1 pc = .ok (.iand, 1)) (k : AW l G M d mc ms Q (pc + 1) ls (vI (x % 64) :: st) cs sl H) : AW l G M d mc ms Q pc ls (vI 63 :: vI x :: st) cs sl H :=
  a_and2 hd (fun x' y' hx hy => by rw [show y' = 63 from Int32.toInt_inj.mp hy, i32_mask63, hx]) k
theorem a_iand255 {x : Int} (hd : decode M.2.1 pc = .ok (.iand, 1)) (k : AW l G M d mc ms Q (pc + 1) ls (vI (x % 256) :: st) cs sl H) : AW l G M d mc ms Q pc ls (vI 255 :: vI x :: st) cs sl H :=
  a_and2 hd (fun x' y' hx hy => by rw [show y' = 255 from Int32.toInt_inj.mp hy, i32_mask255, hx]) k
theorem a_iand {x y : Int} (hd : decode M.2.1 pc = .ok (.iand, 1)) (h : 0 ≤ x ∧ 0 ≤ y) (k : AW l G M d mc ms Q (pc + 1) ls (vI (iand x y) :: st) cs sl H) : AW l G M d mc ms Q pc ls (vI y :: vI x :: st) cs sl H :=
  a_and2 hd (fun x' y' hx hy => by rw [i32_iand (by rw [hx]; exact h.1) (by rw [hy]; exact h.2), hx, hy]) k
theorem a_ior {x y : Int} (hd : decode M.2.1 pc = .ok (.ior, 1)) (h : 0 ≤ x ∧ 0 ≤ y) (k : AW l G M d mc ms Q (pc + 1) ls (vI (ior x y) :: st) cs sl H) : AW l G M d mc ms Q pc ls (vI y :: vI x :: st) cs sl H := by
  intro p e s m args below meth c z D ca ws0 C ws Hp locs lsR stR hR hE hS hL hT
  obtain ⟨_, _, e0, hy, hT0⟩ := rvs_cons hT
  subst e0
  obtain ⟨_, _, e1, hx, hT1⟩ := rvs_cons hT0
  subst e1
  obtain ⟨y', rfl, rfl⟩ := rv_I hy
  obtain ⟨x', rfl, rfl⟩ := rv_I hx
  exact lv_ior C.1 C.2.1 hd (k p e s m args below meth c z D ca ws0 C ws Hp locs lsR _ hR hE hS hL ⟨congrArg vI (i32_ior h.1 h.2).symm, hT1⟩)
theorem a_ishl {y : Int} (hd : decode M.2.1 pc = .ok (.ishl, 1)) (h : 0 ≤ y ∧ y ≤ 30) (k : AW l G M d mc ms Q (pc + 1) ls (vI (pw y) :: st) cs sl H) : AW l G M d mc ms Q pc ls (vI y :: vI 1 :: st) cs sl H := by
  intro p e s m args below meth c z D ca ws0 C ws Hp locs lsR stR hR hE hS hL hT
  obtain ⟨_, _, e0, hy, hT0⟩ := rvs_cons hT
  subst e0
  obtain ⟨_, _, e1, hx, hT1⟩ := rvs_cons hT0
  subst e1
  obtain ⟨y', rfl, rfl⟩ := rv_I hy
  obtain ⟨x', rfl, ex⟩ := rv_I hx
  have hx1 : x' = 1 := Int32.toInt_inj.mp ex.symm
  subst hx1
  exact lv_ishl C.1 C.2.1 hd (k p e s m args below meth c z D ca ws0 C ws Hp locs lsR _ hR hE hS hL ⟨congrArg vI (i32_shl1 h).symm, hT1⟩)
theorem a_ishr {x y : Int} (hd : decode M.2.1 pc = .ok (.ishr, 1)) (h : 0 ≤ y ∧ y ≤ 31) (k : AW l G M d mc ms Q (pc + 1) ls (vI (shr x y) :: st) cs sl H) : AW l G M d mc ms Q pc ls (vI y :: vI x :: st) cs sl H := by
  intro p e s m args below meth c z D ca ws0 C ws Hp locs lsR stR hR hE hS hL hT
  obtain ⟨_, _, e0, hy, hT0⟩ := rvs_cons hT
  subst e0
  obtain ⟨_, _, e1, hx, hT1⟩ := rvs_cons hT0
  subst e1
  obtain ⟨y', rfl, rfl⟩ := rv_I hy
  obtain ⟨x', rfl, rfl⟩ := rv_I hx
  exact lv_ishr C.1 C.2.1 hd (k p e s m args below meth c z D ca ws0 C ws Hp locs lsR _ hR hE hS hL ⟨congrArg vI (i32_shr h).symm, hT1⟩)
end ABITS
