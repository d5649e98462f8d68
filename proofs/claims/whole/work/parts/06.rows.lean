section AROWS
variable {l : Launch} {G : GT} {M : MI} {d mc ms : Nat} {Q : AV → AH → Prop} {pc : Nat} {ls st : List AV} {cs sl : Nat} {H : AH}

theorem i32_b (x : Int32) : x.toInt8.toInt32.toInt = (x.toInt + 128) % 256 - 128 := by
  rw [Int8.toInt_toInt32, Int32.toInt_toInt8]
  simp only [Int.bmod]
  split <;> omega
def al2f (x : Int) : Int := (FP.l2f (Int64.ofInt x)).toNat
def ai2f (x : Int) : Int := (FP.i2f (Int32.ofInt x)).toNat
def af2i (x : Int) : Int := (FP.f2i (UInt32.ofNat x.toNat)).toInt
def afdiv (x y : Int) : Int := (FP.fdiv (UInt32.ofNat x.toNat) (UInt32.ofNat y.toNat)).toNat
def af2d (x : Int) : Int := (FP.f2d (UInt32.ofNat x.toNat)).toNat
def afok (x y : Int) : Prop := vf_n32 (FP.fdiv (UInt32.ofNat x.toNat) (UInt32.ofNat y.toNat))
def adok (x : Int) : Prop := vf_n64 (FP.f2d (UInt32.ofNat x.toNat))
theorem u32_id (x : UInt32) : UInt32.ofNat (Int.toNat (x.toNat : Int)) = x := by simp
theorem i64_id (x : Int64) : Int64.ofInt x.toInt = x := by simp
theorem i32_id (x : Int32) : Int32.ofInt x.toInt = x := by simp

theorem a_iadd {y : Int} {x : Int} (hd : decode M.2.1 pc = .ok (.iadd, 1)) (hr : inI (x + y)) (k : AW l G M d mc ms Q (pc + 1) ls (vI (x + y) :: st) cs sl H) : AW l G M d mc ms Q (pc) ls (vI y :: vI x :: st) cs sl H := by
  intro p e s m args below meth c z D ca ws0 C ws Hp locs lsR stR hR hE hS hL hT
  obtain ⟨_, _, e0, hy, hT0⟩ := rvs_cons hT
  subst e0
  clear hT
  obtain ⟨y', rfl, rfl⟩ := rv_I hy
  obtain ⟨_, _, e1, hx, hT1⟩ := rvs_cons hT0
  subst e1
  clear hT0
  obtain ⟨x', rfl, rfl⟩ := rv_I hx
  have hT := hT1
  exact lv_iadd C.1 C.2.1 hd (k p e s m args below meth c z D ca ws0 C ws Hp locs lsR _ hR hE hS hL ⟨congrArg vI (i32_add hr).symm, hT⟩)

theorem a_isub {y : Int} {x : Int} (hd : decode M.2.1 pc = .ok (.isub, 1)) (hr : inI (x - y)) (k : AW l G M d mc ms Q (pc + 1) ls (vI (x - y) :: st) cs sl H) : AW l G M d mc ms Q (pc) ls (vI y :: vI x :: st) cs sl H := by
  intro p e s m args below meth c z D ca ws0 C ws Hp locs lsR stR hR hE hS hL hT
  obtain ⟨_, _, e0, hy, hT0⟩ := rvs_cons hT
  subst e0
  clear hT
  obtain ⟨y', rfl, rfl⟩ := rv_I hy
  obtain ⟨_, _, e1, hx, hT1⟩ := rvs_cons hT0
  subst e1
  clear hT0
  obtain ⟨x', rfl, rfl⟩ := rv_I hx
  have hT := hT1
  exact lv_isub C.1 C.2.1 hd (k p e s m args below meth c z D ca ws0 C ws Hp locs lsR _ hR hE hS hL ⟨congrArg vI (i32_sub hr).symm, hT⟩)

theorem a_imul {y : Int} {x : Int} (hd : decode M.2.1 pc = .ok (.imul, 1)) (hr : inI (x * y)) (k : AW l G M d mc ms Q (pc + 1) ls (vI (x * y) :: st) cs sl H) : AW l G M d mc ms Q (pc) ls (vI y :: vI x :: st) cs sl H := by
  intro p e s m args below meth c z D ca ws0 C ws Hp locs lsR stR hR hE hS hL hT
  obtain ⟨_, _, e0, hy, hT0⟩ := rvs_cons hT
  subst e0
  clear hT
  obtain ⟨y', rfl, rfl⟩ := rv_I hy
  obtain ⟨_, _, e1, hx, hT1⟩ := rvs_cons hT0
  subst e1
  clear hT0
  obtain ⟨x', rfl, rfl⟩ := rv_I hx
  have hT := hT1
  exact lv_imul C.1 C.2.1 hd (k p e s m args below meth c z D ca ws0 C ws Hp locs lsR _ hR hE hS hL ⟨congrArg vI (i32_mul hr).symm, hT⟩)

theorem a_ineg {x : Int} (hd : decode M.2.1 pc = .ok (.ineg, 1)) (hr : inI (-x)) (k : AW l G M d mc ms Q (pc + 1) ls (vI (-x) :: st) cs sl H) : AW l G M d mc ms Q (pc) ls (vI x :: st) cs sl H := by
  intro p e s m args below meth c z D ca ws0 C ws Hp locs lsR stR hR hE hS hL hT
  obtain ⟨_, _, e0, hx, hT0⟩ := rvs_cons hT
  subst e0
  clear hT
  obtain ⟨x', rfl, rfl⟩ := rv_I hx
  have hT := hT0
  exact lv_ineg C.1 C.2.1 hd (k p e s m args below meth c z D ca ws0 C ws Hp locs lsR _ hR hE hS hL ⟨congrArg vI (i32_neg hr).symm, hT⟩)

theorem a_ladd {y : Int} {x : Int} (hd : decode M.2.1 pc = .ok (.ladd, 1)) (hr : inJ (x + y)) (k : AW l G M d mc ms Q (pc + 1) ls (vJ (x + y) :: st) cs sl H) : AW l G M d mc ms Q (pc) ls (vJ y :: vJ x :: st) cs sl H := by
  intro p e s m args below meth c z D ca ws0 C ws Hp locs lsR stR hR hE hS hL hT
  obtain ⟨_, _, e0, hy, hT0⟩ := rvs_cons hT
  subst e0
  clear hT
  obtain ⟨y', rfl, rfl⟩ := rv_J hy
  obtain ⟨_, _, e1, hx, hT1⟩ := rvs_cons hT0
  subst e1
  clear hT0
  obtain ⟨x', rfl, rfl⟩ := rv_J hx
  have hT := hT1
  exact lv_ladd C.1 C.2.1 hd (k p e s m args below meth c z D ca ws0 C ws Hp locs lsR _ hR hE hS hL ⟨congrArg vJ (i64_add hr).symm, hT⟩)

theorem a_lsub {y : Int} {x : Int} (hd : decode M.2.1 pc = .ok (.lsub, 1)) (hr : inJ (x - y)) (k : AW l G M d mc ms Q (pc + 1) ls (vJ (x - y) :: st) cs sl H) : AW l G M d mc ms Q (pc) ls (vJ y :: vJ x :: st) cs sl H := by
  intro p e s m args below meth c z D ca ws0 C ws Hp locs lsR stR hR hE hS hL hT
  obtain ⟨_, _, e0, hy, hT0⟩ := rvs_cons hT
  subst e0
  clear hT
  obtain ⟨y', rfl, rfl⟩ := rv_J hy
  obtain ⟨_, _, e1, hx, hT1⟩ := rvs_cons hT0
  subst e1
  clear hT0
  obtain ⟨x', rfl, rfl⟩ := rv_J hx
  have hT := hT1
  exact lv_lsub C.1 C.2.1 hd (k p e s m args below meth c z D ca ws0 C ws Hp locs lsR _ hR hE hS hL ⟨congrArg vJ (i64_sub hr).symm, hT⟩)

theorem a_lmul {y : Int} {x : Int} (hd : decode M.2.1 pc = .ok (.lmul, 1)) (hr : inJ (x * y)) (k : AW l G M d mc ms Q (pc + 1) ls (vJ (x * y) :: st) cs sl H) : AW l G M d mc ms Q (pc) ls (vJ y :: vJ x :: st) cs sl H := by
  intro p e s m args below meth c z D ca ws0 C ws Hp locs lsR stR hR hE hS hL hT
  obtain ⟨_, _, e0, hy, hT0⟩ := rvs_cons hT
  subst e0
  clear hT
  obtain ⟨y', rfl, rfl⟩ := rv_J hy
  obtain ⟨_, _, e1, hx, hT1⟩ := rvs_cons hT0
  subst e1
  clear hT0
  obtain ⟨x', rfl, rfl⟩ := rv_J hx
  have hT := hT1
  exact lv_lmul C.1 C.2.1 hd (k p e s m args below meth c z D ca ws0 C ws Hp locs lsR _ hR hE hS hL ⟨congrArg vJ (i64_mul hr).symm, hT⟩)

theorem a_lneg {x : Int} (hd : decode M.2.1 pc = .ok (.lneg, 1)) (hr : inJ (-x)) (k : AW l G M d mc ms Q (pc + 1) ls (vJ (-x) :: st) cs sl H) : AW l G M d mc ms Q (pc) ls (vJ x :: st) cs sl H := by
  intro p e s m args below meth c z D ca ws0 C ws Hp locs lsR stR hR hE hS hL hT
  obtain ⟨_, _, e0, hx, hT0⟩ := rvs_cons hT
  subst e0
  clear hT
  obtain ⟨x', rfl, rfl⟩ := rv_J hx
  have hT := hT0
  exact lv_lneg C.1 C.2.1 hd (k p e s m args below meth c z D ca ws0 C ws Hp locs lsR _ hR hE hS hL ⟨congrArg vJ (i64_neg hr).symm, hT⟩)

theorem a_idiv {y : Int} {x : Int} (hd : decode M.2.1 pc = .ok (.idiv, 1)) (hne : y ≠ 0) (hr : inI (x.tdiv y)) (k : AW l G M d mc ms Q (pc + 1) ls (vI (x.tdiv y) :: st) cs sl H) : AW l G M d mc ms Q (pc) ls (vI y :: vI x :: st) cs sl H := by
  intro p e s m args below meth c z D ca ws0 C ws Hp locs lsR stR hR hE hS hL hT
  obtain ⟨_, _, e0, hy, hT0⟩ := rvs_cons hT
  subst e0
  clear hT
  obtain ⟨y', rfl, rfl⟩ := rv_I hy
  obtain ⟨_, _, e1, hx, hT1⟩ := rvs_cons hT0
  subst e1
  clear hT0
  obtain ⟨x', rfl, rfl⟩ := rv_I hx
  have hT := hT1
  exact lv_idiv C.1 C.2.1 hd (fun q => hne (by rw [q]; rfl)) (k p e s m args below meth c z D ca ws0 C ws Hp locs lsR _ hR hE hS hL ⟨congrArg vI (i32_div hr).symm, hT⟩)

theorem a_irem {y : Int} {x : Int} (hd : decode M.2.1 pc = .ok (.irem, 1)) (hne : y ≠ 0) (hr : inI (x.tdiv y) ∧ inI (x.tdiv y * y) ∧ inI (x.tmod y)) (k : AW l G M d mc ms Q (pc + 1) ls (vI (x.tmod y) :: st) cs sl H) : AW l G M d mc ms Q (pc) ls (vI y :: vI x :: st) cs sl H := by
  intro p e s m args below meth c z D ca ws0 C ws Hp locs lsR stR hR hE hS hL hT
  obtain ⟨_, _, e0, hy, hT0⟩ := rvs_cons hT
  subst e0
  clear hT
  obtain ⟨y', rfl, rfl⟩ := rv_I hy
  obtain ⟨_, _, e1, hx, hT1⟩ := rvs_cons hT0
  subst e1
  clear hT0
  obtain ⟨x', rfl, rfl⟩ := rv_I hx
  have hT := hT1
  exact lv_irem C.1 C.2.1 hd (fun q => hne (by rw [q]; rfl)) (k p e s m args below meth c z D ca ws0 C ws Hp locs lsR _ hR hE hS hL ⟨congrArg vI (i32_rem hr.1 hr.2.1 hr.2.2).symm, hT⟩)

theorem a_ldiv {y : Int} {x : Int} (hd : decode M.2.1 pc = .ok (.ldiv, 1)) (hne : y ≠ 0) (hr : inJ (x.tdiv y)) (k : AW l G M d mc ms Q (pc + 1) ls (vJ (x.tdiv y) :: st) cs sl H) : AW l G M d mc ms Q (pc) ls (vJ y :: vJ x :: st) cs sl H := by
  intro p e s m args below meth c z D ca ws0 C ws Hp locs lsR stR hR hE hS hL hT
  obtain ⟨_, _, e0, hy, hT0⟩ := rvs_cons hT
  subst e0
  clear hT
  obtain ⟨y', rfl, rfl⟩ := rv_J hy
  obtain ⟨_, _, e1, hx, hT1⟩ := rvs_cons hT0
  subst e1
  clear hT0
  obtain ⟨x', rfl, rfl⟩ := rv_J hx
  have hT := hT1
  exact lv_ldiv C.1 C.2.1 hd (fun q => hne (by rw [q]; rfl)) (k p e s m args below meth c z D ca ws0 C ws Hp locs lsR _ hR hE hS hL ⟨congrArg vJ (i64_div hr).symm, hT⟩)

theorem a_lrem {y : Int} {x : Int} (hd : decode M.2.1 pc = .ok (.lrem, 1)) (hne : y ≠ 0) (hr : inJ (x.tdiv y) ∧ inJ (x.tdiv y * y) ∧ inJ (x.tmod y)) (k : AW l G M d mc ms Q (pc + 1) ls (vJ (x.tmod y) :: st) cs sl H) : AW l G M d mc ms Q (pc) ls (vJ y :: vJ x :: st) cs sl H := by
  intro p e s m args below meth c z D ca ws0 C ws Hp locs lsR stR hR hE hS hL hT
  obtain ⟨_, _, e0, hy, hT0⟩ := rvs_cons hT
  subst e0
  clear hT
  obtain ⟨y', rfl, rfl⟩ := rv_J hy
  obtain ⟨_, _, e1, hx, hT1⟩ := rvs_cons hT0
  subst e1
  clear hT0
  obtain ⟨x', rfl, rfl⟩ := rv_J hx
  have hT := hT1
  exact lv_lrem C.1 C.2.1 hd (fun q => hne (by rw [q]; rfl)) (k p e s m args below meth c z D ca ws0 C ws Hp locs lsR _ hR hE hS hL ⟨congrArg vJ (i64_rem hr.1 hr.2.1 hr.2.2).symm, hT⟩)

theorem a_i2l {x : Int} (hd : decode M.2.1 pc = .ok (.i2l, 1)) (k : AW l G M d mc ms Q (pc + 1) ls (vJ (x) :: st) cs sl H) : AW l G M d mc ms Q (pc) ls (vI x :: st) cs sl H := by
  intro p e s m args below meth c z D ca ws0 C ws Hp locs lsR stR hR hE hS hL hT
  obtain ⟨_, _, e0, hx, hT0⟩ := rvs_cons hT
  subst e0
  clear hT
  obtain ⟨x', rfl, rfl⟩ := rv_I hx
  have hT := hT0
  exact lv_i2l C.1 C.2.1 hd rfl (k p e s m args below meth c z D ca ws0 C ws Hp locs lsR _ hR hE hS hL ⟨congrArg vJ (Int32.toInt_toInt64 _).symm, hT⟩)

theorem a_l2i {x : Int} (hd : decode M.2.1 pc = .ok (.l2i, 1)) (hr : inI x) (k : AW l G M d mc ms Q (pc + 1) ls (vI (x) :: st) cs sl H) : AW l G M d mc ms Q (pc) ls (vJ x :: st) cs sl H := by
  intro p e s m args below meth c z D ca ws0 C ws Hp locs lsR stR hR hE hS hL hT
  obtain ⟨_, _, e0, hx, hT0⟩ := rvs_cons hT
  subst e0
  clear hT
  obtain ⟨x', rfl, rfl⟩ := rv_J hx
  have hT := hT0
  exact lv_l2i C.1 C.2.1 hd rfl (k p e s m args below meth c z D ca ws0 C ws Hp locs lsR _ hR hE hS hL ⟨congrArg vI (by rw [Int64.toInt_toInt32]; exact (bm32 hr).symm), hT⟩)

theorem a_i2b {x : Int} (hd : decode M.2.1 pc = .ok (.i2b, 1)) (k : AW l G M d mc ms Q (pc + 1) ls (vI ((x + 128) % 256 - 128) :: st) cs sl H) : AW l G M d mc ms Q (pc) ls (vI x :: st) cs sl H := by
  intro p e s m args below meth c z D ca ws0 C ws Hp locs lsR stR hR hE hS hL hT
  obtain ⟨_, _, e0, hx, hT0⟩ := rvs_cons hT
  subst e0
  clear hT
  obtain ⟨x', rfl, rfl⟩ := rv_I hx
  have hT := hT0
  exact lv_i2b C.1 C.2.1 hd rfl (k p e s m args below meth c z D ca ws0 C ws Hp locs lsR _ hR hE hS hL ⟨congrArg vI (i32_b _).symm, hT⟩)

theorem a_l2f {x : Int} (hd : decode M.2.1 pc = .ok (.l2f, 1)) (k : AW l G M d mc ms Q (pc + 1) ls (vF (al2f x) :: st) cs sl H) : AW l G M d mc ms Q (pc) ls (vJ x :: st) cs sl H := by
  intro p e s m args below meth c z D ca ws0 C ws Hp locs lsR stR hR hE hS hL hT
  obtain ⟨_, _, e0, hx, hT0⟩ := rvs_cons hT
  subst e0
  clear hT
  obtain ⟨x', rfl, rfl⟩ := rv_J hx
  have hT := hT0
  exact lv_l2f C.1 C.2.1 hd (k p e s m args below meth c z D ca ws0 C ws Hp locs lsR _ hR hE hS hL ⟨congrArg vF (by rw [al2f, i64_id]), hT⟩)

theorem a_i2f {x : Int} (hd : decode M.2.1 pc = .ok (.i2f, 1)) (k : AW l G M d mc ms Q (pc + 1) ls (vF (ai2f x) :: st) cs sl H) : AW l G M d mc ms Q (pc) ls (vI x :: st) cs sl H := by
  intro p e s m args below meth c z D ca ws0 C ws Hp locs lsR stR hR hE hS hL hT
  obtain ⟨_, _, e0, hx, hT0⟩ := rvs_cons hT
  subst e0
  clear hT
  obtain ⟨x', rfl, rfl⟩ := rv_I hx
  have hT := hT0
  exact lv_i2f C.1 C.2.1 hd (k p e s m args below meth c z D ca ws0 C ws Hp locs lsR _ hR hE hS hL ⟨congrArg vF (by rw [ai2f, i32_id]), hT⟩)

theorem a_f2i {x : Int} (hd : decode M.2.1 pc = .ok (.f2i, 1)) (k : AW l G M d mc ms Q (pc + 1) ls (vI (af2i x) :: st) cs sl H) : AW l G M d mc ms Q (pc) ls (vF x :: st) cs sl H := by
  intro p e s m args below meth c z D ca ws0 C ws Hp locs lsR stR hR hE hS hL hT
  obtain ⟨_, _, e0, hx, hT0⟩ := rvs_cons hT
  subst e0
  clear hT
  obtain ⟨x', rfl, rfl⟩ := rv_F hx
  have hT := hT0
  exact lv_f2i C.1 C.2.1 hd (k p e s m args below meth c z D ca ws0 C ws Hp locs lsR _ hR hE hS hL ⟨congrArg vI (by rw [af2i, u32_id]), hT⟩)

theorem a_fdiv {y : Int} {x : Int} (hd : decode M.2.1 pc = .ok (.fdiv, 1)) (hr : afok x y) (k : AW l G M d mc ms Q (pc + 1) ls (vF (afdiv x y) :: st) cs sl H) : AW l G M d mc ms Q (pc) ls (vF y :: vF x :: st) cs sl H := by
  intro p e s m args below meth c z D ca ws0 C ws Hp locs lsR stR hR hE hS hL hT
  obtain ⟨_, _, e0, hy, hT0⟩ := rvs_cons hT
  subst e0
  clear hT
  obtain ⟨y', rfl, rfl⟩ := rv_F hy
  obtain ⟨_, _, e1, hx, hT1⟩ := rvs_cons hT0
  subst e1
  clear hT0
  obtain ⟨x', rfl, rfl⟩ := rv_F hx
  have hT := hT1
  exact lv_fdiv C.1 C.2.1 hd (by rw [afok, u32_id, u32_id] at hr; exact hr) (k p e s m args below meth c z D ca ws0 C ws Hp locs lsR _ hR hE hS hL ⟨congrArg vF (by rw [afdiv, u32_id, u32_id]), hT⟩)

theorem a_f2d {x : Int} (hd : decode M.2.1 pc = .ok (.f2d, 1)) (hr : adok x) (k : AW l G M d mc ms Q (pc + 1) ls (vD (af2d x) :: st) cs sl H) : AW l G M d mc ms Q (pc) ls (vF x :: st) cs sl H := by
  intro p e s m args below meth c z D ca ws0 C ws Hp locs lsR stR hR hE hS hL hT
  obtain ⟨_, _, e0, hx, hT0⟩ := rvs_cons hT
  subst e0
  clear hT
  obtain ⟨x', rfl, rfl⟩ := rv_F hx
  have hT := hT0
  exact lv_f2d C.1 C.2.1 hd (by rw [adok, u32_id] at hr; exact hr) (k p e s m args below meth c z D ca ws0 C ws Hp locs lsR _ hR hE hS hL ⟨congrArg vD (by rw [af2d, u32_id]), hT⟩)

theorem a_iconst {n : Int} (hd : decode M.2.1 pc = .ok (.iconst n, 1)) (hn : inI n) (k : AW l G M d mc ms Q (pc + 1) ls (vI (n) :: st) cs sl H) : AW l G M d mc ms Q (pc) ls (st) cs sl H := by
  intro p e s m args below meth c z D ca ws0 C ws Hp locs lsR stR hR hE hS hL hT
  exact lv_iconst C.1 C.2.1 hd rfl (k p e s m args below meth c z D ca ws0 C ws Hp locs lsR _ hR hE hS hL ⟨congrArg vI (i32_of hn).symm, hT⟩)

theorem a_bipush {n : Int} (hd : decode M.2.1 pc = .ok (.bipush n, 2)) (hn : (Int8.ofInt n).toInt32.toInt = n) (k : AW l G M d mc ms Q (pc + 2) ls (vI (n) :: st) cs sl H) : AW l G M d mc ms Q (pc) ls (st) cs sl H := by
  intro p e s m args below meth c z D ca ws0 C ws Hp locs lsR stR hR hE hS hL hT
  exact lv_bipush C.1 C.2.1 hd rfl (k p e s m args below meth c z D ca ws0 C ws Hp locs lsR _ hR hE hS hL ⟨congrArg vI hn.symm, hT⟩)

theorem a_sipush {n : Int} (hd : decode M.2.1 pc = .ok (.sipush n, 3)) (hn : (Int16.ofInt n).toInt32.toInt = n) (k : AW l G M d mc ms Q (pc + 3) ls (vI (n) :: st) cs sl H) : AW l G M d mc ms Q (pc) ls (st) cs sl H := by
  intro p e s m args below meth c z D ca ws0 C ws Hp locs lsR stR hR hE hS hL hT
  exact lv_sipush C.1 C.2.1 hd rfl (k p e s m args below meth c z D ca ws0 C ws Hp locs lsR _ hR hE hS hL ⟨congrArg vI hn.symm, hT⟩)

theorem a_lconst {n : Fin 2} (hd : decode M.2.1 pc = .ok (.lconst n, 1)) (k : AW l G M d mc ms Q (pc + 1) ls (vJ ((n : Nat)) :: st) cs sl H) : AW l G M d mc ms Q (pc) ls (st) cs sl H := by
  intro p e s m args below meth c z D ca ws0 C ws Hp locs lsR stR hR hE hS hL hT
  exact lv_lconst C.1 C.2.1 hd rfl (k p e s m args below meth c z D ca ws0 C ws Hp locs lsR _ hR hE hS hL ⟨congrArg vJ (by have := n.isLt; rcases (show (n : Nat) = 0 ∨ (n : Nat) = 1 by omega) with h | h <;> rw [h] <;> rfl), hT⟩)

theorem a_fconst (hd : decode M.2.1 pc = .ok (.fconst 0, 1)) (k : AW l G M d mc ms Q (pc + 1) ls (vF (0) :: st) cs sl H) : AW l G M d mc ms Q (pc) ls (st) cs sl H := by
  intro p e s m args below meth c z D ca ws0 C ws Hp locs lsR stR hR hE hS hL hT
  exact lv_fconst0 C.1 C.2.1 hd (k p e s m args below meth c z D ca ws0 C ws Hp locs lsR _ hR hE hS hL ⟨rfl, hT⟩)

theorem a_ldc {i : Nat} {v : Int32} (hd : decode M.2.1 pc = .ok (.ldc i, 2)) (hw : Cond.constant M.1.cls i v ∈ lw_good) (k : AW l G M d mc ms Q (pc + 2) ls (vI (v.toInt) :: st) cs sl H) : AW l G M d mc ms Q (pc) ls (st) cs sl H := by
  intro p e s m args below meth c z D ca ws0 C ws Hp locs lsR stR hR hE hS hL hT
  exact lv_ldc C.1 C.2.1 C.2.2.2.2.2.1 (C.2.2.2.2.2.2.1 _ hw) hd (k p e s m args below meth c z D ca ws0 C ws Hp locs lsR _ hR hE hS hL ⟨rfl, hT⟩)

theorem a_ldc2 {i : Nat} {v : Int64} (hd : decode M.2.1 pc = .ok (.ldc2_w i, 3)) (hw : Cond.constantLong M.1.cls i v ∈ lw_good) (k : AW l G M d mc ms Q (pc + 3) ls (vJ (v.toInt) :: st) cs sl H) : AW l G M d mc ms Q (pc) ls (st) cs sl H := by
  intro p e s m args below meth c z D ca ws0 C ws Hp locs lsR stR hR hE hS hL hT
  exact lv_ldc2 C.1 C.2.1 C.2.2.2.2.2.1 (C.2.2.2.2.2.2.1 _ hw) hd (k p e s m args below meth c z D ca ws0 C ws Hp locs lsR _ hR hE hS hL ⟨rfl, hT⟩)

theorem a_ldcf {i : Nat} {v : UInt32} (hd : decode M.2.1 pc = .ok (.ldc i, 2)) (hw : Cond.constantFloat M.1.cls i v ∈ lw_good) (k : AW l G M d mc ms Q (pc + 2) ls (vF (v.toNat) :: st) cs sl H) : AW l G M d mc ms Q (pc) ls (st) cs sl H := by
  intro p e s m args below meth c z D ca ws0 C ws Hp locs lsR stR hR hE hS hL hT
  exact lv_ldcf C.1 C.2.1 C.2.2.2.2.2.1 (C.2.2.2.2.2.2.1 _ hw) hd (k p e s m args below meth c z D ca ws0 C ws Hp locs lsR _ hR hE hS hL ⟨rfl, hT⟩)

theorem a_iload_n {i : Nat} {j : Fin 4} {x : Int} (hd : decode M.2.1 pc = .ok (.iload_n j, 1)) (hi : (j : Nat) = i) (hl : ls[i]? = some (vI x)) (k : AW l G M d mc ms Q (pc + 1) ls (vI x :: st) cs sl H) : AW l G M d mc ms Q (pc) ls (st) cs sl H := by
  intro p e s m args below meth c z D ca ws0 C ws Hp locs lsR stR hR hE hS hL hT
  obtain ⟨v, h1, h2⟩ := hL.at hl (Nat.ne_of_beq_eq_false rfl)
  obtain ⟨y, rfl, rfl⟩ := rv_I h2
  exact lv_iload_n C.1 C.2.1 hd hi h1 (k p e s m args below meth c z D ca ws0 C ws Hp locs lsR _ hR hE hS hL ⟨h2, hT⟩)

theorem a_iload {i : Nat} {x : Int} (hd : decode M.2.1 pc = .ok (.iload i, 2)) (hl : ls[i]? = some (vI x)) (k : AW l G M d mc ms Q (pc + 2) ls (vI x :: st) cs sl H) : AW l G M d mc ms Q (pc) ls (st) cs sl H := by
  intro p e s m args below meth c z D ca ws0 C ws Hp locs lsR stR hR hE hS hL hT
  obtain ⟨v, h1, h2⟩ := hL.at hl (Nat.ne_of_beq_eq_false rfl)
  obtain ⟨y, rfl, rfl⟩ := rv_I h2
  exact lv_iload C.1 C.2.1 hd h1 (k p e s m args below meth c z D ca ws0 C ws Hp locs lsR _ hR hE hS hL ⟨h2, hT⟩)

theorem a_lload_n {i : Nat} {j : Fin 4} {x : Int} (hd : decode M.2.1 pc = .ok (.lload_n j, 1)) (hi : (j : Nat) = i) (hl : ls[i]? = some (vJ x)) (k : AW l G M d mc ms Q (pc + 1) ls (vJ x :: st) cs sl H) : AW l G M d mc ms Q (pc) ls (st) cs sl H := by
  intro p e s m args below meth c z D ca ws0 C ws Hp locs lsR stR hR hE hS hL hT
  obtain ⟨v, h1, h2⟩ := hL.at hl (Nat.ne_of_beq_eq_false rfl)
  obtain ⟨y, rfl, rfl⟩ := rv_J h2
  exact lv_lload_n C.1 C.2.1 hd hi h1 (k p e s m args below meth c z D ca ws0 C ws Hp locs lsR _ hR hE hS hL ⟨h2, hT⟩)

theorem a_lload {i : Nat} {x : Int} (hd : decode M.2.1 pc = .ok (.lload i, 2)) (hl : ls[i]? = some (vJ x)) (k : AW l G M d mc ms Q (pc + 2) ls (vJ x :: st) cs sl H) : AW l G M d mc ms Q (pc) ls (st) cs sl H := by
  intro p e s m args below meth c z D ca ws0 C ws Hp locs lsR stR hR hE hS hL hT
  obtain ⟨v, h1, h2⟩ := hL.at hl (Nat.ne_of_beq_eq_false rfl)
  obtain ⟨y, rfl, rfl⟩ := rv_J h2
  exact lv_lload C.1 C.2.1 hd h1 (k p e s m args below meth c z D ca ws0 C ws Hp locs lsR _ hR hE hS hL ⟨h2, hT⟩)

theorem a_fload_n {i : Nat} {j : Fin 4} {x : Int} (hd : decode M.2.1 pc = .ok (.fload_n j, 1)) (hi : (j : Nat) = i) (hl : ls[i]? = some (vF x)) (k : AW l G M d mc ms Q (pc + 1) ls (vF x :: st) cs sl H) : AW l G M d mc ms Q (pc) ls (st) cs sl H := by
  intro p e s m args below meth c z D ca ws0 C ws Hp locs lsR stR hR hE hS hL hT
  obtain ⟨v, h1, h2⟩ := hL.at hl (Nat.ne_of_beq_eq_false rfl)
  obtain ⟨y, rfl, rfl⟩ := rv_F h2
  exact lv_fload_n C.1 C.2.1 hd hi h1 (k p e s m args below meth c z D ca ws0 C ws Hp locs lsR _ hR hE hS hL ⟨h2, hT⟩)

theorem a_fload {i : Nat} {x : Int} (hd : decode M.2.1 pc = .ok (.fload i, 2)) (hl : ls[i]? = some (vF x)) (k : AW l G M d mc ms Q (pc + 2) ls (vF x :: st) cs sl H) : AW l G M d mc ms Q (pc) ls (st) cs sl H := by
  intro p e s m args below meth c z D ca ws0 C ws Hp locs lsR stR hR hE hS hL hT
  obtain ⟨v, h1, h2⟩ := hL.at hl (Nat.ne_of_beq_eq_false rfl)
  obtain ⟨y, rfl, rfl⟩ := rv_F h2
  exact lv_fload C.1 C.2.1 hd h1 (k p e s m args below meth c z D ca ws0 C ws Hp locs lsR _ hR hE hS hL ⟨h2, hT⟩)

theorem a_dload_n {i : Nat} {j : Fin 4} {x : Int} (hd : decode M.2.1 pc = .ok (.dload_n j, 1)) (hi : (j : Nat) = i) (hl : ls[i]? = some (vD x)) (k : AW l G M d mc ms Q (pc + 1) ls (vD x :: st) cs sl H) : AW l G M d mc ms Q (pc) ls (st) cs sl H := by
  intro p e s m args below meth c z D ca ws0 C ws Hp locs lsR stR hR hE hS hL hT
  obtain ⟨v, h1, h2⟩ := hL.at hl (Nat.ne_of_beq_eq_false rfl)
  obtain ⟨y, rfl, rfl⟩ := rv_D h2
  exact lv_dload_n C.1 C.2.1 hd hi h1 (k p e s m args below meth c z D ca ws0 C ws Hp locs lsR _ hR hE hS hL ⟨h2, hT⟩)

theorem a_dload {i : Nat} {x : Int} (hd : decode M.2.1 pc = .ok (.dload i, 2)) (hl : ls[i]? = some (vD x)) (k : AW l G M d mc ms Q (pc + 2) ls (vD x :: st) cs sl H) : AW l G M d mc ms Q (pc) ls (st) cs sl H := by
  intro p e s m args below meth c z D ca ws0 C ws Hp locs lsR stR hR hE hS hL hT
  obtain ⟨v, h1, h2⟩ := hL.at hl (Nat.ne_of_beq_eq_false rfl)
  obtain ⟨y, rfl, rfl⟩ := rv_D h2
  exact lv_dload C.1 C.2.1 hd h1 (k p e s m args below meth c z D ca ws0 C ws Hp locs lsR _ hR hE hS hL ⟨h2, hT⟩)

theorem a_aload_n {i : Nat} {j : Fin 4} {x : Int} (hd : decode M.2.1 pc = .ok (.aload_n j, 1)) (hi : (j : Nat) = i) (hl : ls[i]? = some (vR x)) (k : AW l G M d mc ms Q (pc + 1) ls (vR x :: st) cs sl H) : AW l G M d mc ms Q (pc) ls (st) cs sl H := by
  intro p e s m args below meth c z D ca ws0 C ws Hp locs lsR stR hR hE hS hL hT
  obtain ⟨v, h1, h2⟩ := hL.at hl (Nat.ne_of_beq_eq_false rfl)
  rcases rv_R h2 with ⟨rfl, rfl⟩ | ⟨p9, q9, e9, rfl, h3, rfl⟩
  · exact lv_aload_nN C.1 C.2.1 hd hi h1 (k p e s m args below meth c z D ca ws0 C ws Hp locs lsR _ hR hE hS hL ⟨h2, hT⟩)
  · exact lv_aload_n C.1 C.2.1 hd hi h1 (k p e s m args below meth c z D ca ws0 C ws Hp locs lsR _ hR hE hS hL ⟨h2, hT⟩)

theorem a_xload_n {i : Nat} {j : Fin 4} {x : Int} (hd : decode M.2.1 pc = .ok (.aload_n j, 1)) (hi : (j : Nat) = i) (hl : ls[i]? = some (vX x)) (k : AW l G M d mc ms Q (pc + 1) ls (vX x :: st) cs sl H) : AW l G M d mc ms Q (pc) ls (st) cs sl H := by
  intro p e s m args below meth c z D ca ws0 C ws Hp locs lsR stR hR hE hS hL hT
  obtain ⟨v, h1, h2⟩ := hL.at hl (Nat.ne_of_beq_eq_false rfl)
  obtain ⟨q9, rfl, rfl⟩ := rv_X h2
  exact lv_aload_n C.1 C.2.1 hd hi h1 (k p e s m args below meth c z D ca ws0 C ws Hp locs lsR _ hR hE hS hL ⟨h2, hT⟩)

theorem a_aload {i : Nat} {x : Int} (hd : decode M.2.1 pc = .ok (.aload i, 2)) (hl : ls[i]? = some (vR x)) (k : AW l G M d mc ms Q (pc + 2) ls (vR x :: st) cs sl H) : AW l G M d mc ms Q (pc) ls (st) cs sl H := by
  intro p e s m args below meth c z D ca ws0 C ws Hp locs lsR stR hR hE hS hL hT
  obtain ⟨v, h1, h2⟩ := hL.at hl (Nat.ne_of_beq_eq_false rfl)
  rcases rv_R h2 with ⟨rfl, rfl⟩ | ⟨p9, q9, e9, rfl, h3, rfl⟩
  · exact lv_aloadN C.1 C.2.1 hd h1 (k p e s m args below meth c z D ca ws0 C ws Hp locs lsR _ hR hE hS hL ⟨h2, hT⟩)
  · exact lv_aload C.1 C.2.1 hd h1 (k p e s m args below meth c z D ca ws0 C ws Hp locs lsR _ hR hE hS hL ⟨h2, hT⟩)

theorem a_xload {i : Nat} {x : Int} (hd : decode M.2.1 pc = .ok (.aload i, 2)) (hl : ls[i]? = some (vX x)) (k : AW l G M d mc ms Q (pc + 2) ls (vX x :: st) cs sl H) : AW l G M d mc ms Q (pc) ls (st) cs sl H := by
  intro p e s m args below meth c z D ca ws0 C ws Hp locs lsR stR hR hE hS hL hT
  obtain ⟨v, h1, h2⟩ := hL.at hl (Nat.ne_of_beq_eq_false rfl)
  obtain ⟨q9, rfl, rfl⟩ := rv_X h2
  exact lv_aload C.1 C.2.1 hd h1 (k p e s m args below meth c z D ca ws0 C ws Hp locs lsR _ hR hE hS hL ⟨h2, hT⟩)

theorem a_istore_n {i : Nat} {j : Fin 4} {x : Int} {ls' : List AV} (hd : decode M.2.1 pc = .ok (.istore_n j, 1)) (hi : (j : Nat) = i) (hn : i < M.2.2.1) (hs : sto ls i (vI x) = ls') (k : AW l G M d mc ms Q (pc + 1) ls' (st) cs sl H) : AW l G M d mc ms Q (pc) ls (vI x :: st) cs sl H := by
  intro p e s m args below meth c z D ca ws0 C ws Hp locs lsR stR hR hE hS hL hT
  obtain ⟨_, _, e0, hx, hT0⟩ := rvs_cons hT
  subst e0
  clear hT
  have hT := hT0
  obtain ⟨y, rfl, rfl⟩ := rv_I hx
  obtain ⟨h0, lv, h1, h2⟩ := hL
  subst hs
  exact lv_istore_n C.1 C.2.1 hd hi h1 hn rfl (fun ls9 h9 => k p e s m args below meth c z D ca ws0 C ws Hp locs ls9 _ hR hE hS (rls.sto1 h0 h2 hx h9) hT)

theorem a_istore {i : Nat} {x : Int} {ls' : List AV} (hd : decode M.2.1 pc = .ok (.istore i, 2)) (hn : i < M.2.2.1) (hs : sto ls i (vI x) = ls') (k : AW l G M d mc ms Q (pc + 2) ls' (st) cs sl H) : AW l G M d mc ms Q (pc) ls (vI x :: st) cs sl H := by
  intro p e s m args below meth c z D ca ws0 C ws Hp locs lsR stR hR hE hS hL hT
  obtain ⟨_, _, e0, hx, hT0⟩ := rvs_cons hT
  subst e0
  clear hT
  have hT := hT0
  obtain ⟨y, rfl, rfl⟩ := rv_I hx
  obtain ⟨h0, lv, h1, h2⟩ := hL
  subst hs
  exact lv_istore C.1 C.2.1 hd h1 hn rfl (fun ls9 h9 => k p e s m args below meth c z D ca ws0 C ws Hp locs ls9 _ hR hE hS (rls.sto1 h0 h2 hx h9) hT)

theorem a_fstore {i : Nat} {x : Int} {ls' : List AV} (hd : decode M.2.1 pc = .ok (.fstore i, 2)) (hn : i < M.2.2.1) (hs : sto ls i (vF x) = ls') (k : AW l G M d mc ms Q (pc + 2) ls' (st) cs sl H) : AW l G M d mc ms Q (pc) ls (vF x :: st) cs sl H := by
  intro p e s m args below meth c z D ca ws0 C ws Hp locs lsR stR hR hE hS hL hT
  obtain ⟨_, _, e0, hx, hT0⟩ := rvs_cons hT
  subst e0
  clear hT
  have hT := hT0
  obtain ⟨y, rfl, rfl⟩ := rv_F hx
  obtain ⟨h0, lv, h1, h2⟩ := hL
  subst hs
  exact lv_fstore C.1 C.2.1 hd h1 hn rfl (fun ls9 h9 => k p e s m args below meth c z D ca ws0 C ws Hp locs ls9 _ hR hE hS (rls.sto1 h0 h2 hx h9) hT)

theorem a_lstore_n {i : Nat} {j : Fin 4} {x : Int} {ls' : List AV} (hd : decode M.2.1 pc = .ok (.lstore_n j, 1)) (hi : (j : Nat) = i) (hn : i + 1 < M.2.2.1) (hs : sto ls i (vJ x) = ls') (k : AW l G M d mc ms Q (pc + 1) ls' (st) cs sl H) : AW l G M d mc ms Q (pc) ls (vJ x :: st) cs sl H := by
  intro p e s m args below meth c z D ca ws0 C ws Hp locs lsR stR hR hE hS hL hT
  obtain ⟨_, _, e0, hx, hT0⟩ := rvs_cons hT
  subst e0
  clear hT
  have hT := hT0
  obtain ⟨y, rfl, rfl⟩ := rv_J hx
  obtain ⟨h0, lv, h1, h2⟩ := hL
  subst hs
  exact lv_lstore_n C.1 C.2.1 hd hi h1 hn rfl (fun ls9 h9 => k p e s m args below meth c z D ca ws0 C ws Hp locs ls9 _ hR hE hS (rls.sto2 h0 h2 hx rfl h9) hT)

theorem a_lstore {i : Nat} {x : Int} {ls' : List AV} (hd : decode M.2.1 pc = .ok (.lstore i, 2)) (hn : i + 1 < M.2.2.1) (hs : sto ls i (vJ x) = ls') (k : AW l G M d mc ms Q (pc + 2) ls' (st) cs sl H) : AW l G M d mc ms Q (pc) ls (vJ x :: st) cs sl H := by
  intro p e s m args below meth c z D ca ws0 C ws Hp locs lsR stR hR hE hS hL hT
  obtain ⟨_, _, e0, hx, hT0⟩ := rvs_cons hT
  subst e0
  clear hT
  have hT := hT0
  obtain ⟨y, rfl, rfl⟩ := rv_J hx
  obtain ⟨h0, lv, h1, h2⟩ := hL
  subst hs
  exact lv_lstore C.1 C.2.1 hd h1 hn rfl (fun ls9 h9 => k p e s m args below meth c z D ca ws0 C ws Hp locs ls9 _ hR hE hS (rls.sto2 h0 h2 hx rfl h9) hT)

theorem a_dstore {i : Nat} {x : Int} {ls' : List AV} (hd : decode M.2.1 pc = .ok (.dstore i, 2)) (hn : i + 1 < M.2.2.1) (hs : sto ls i (vD x) = ls') (k : AW l G M d mc ms Q (pc + 2) ls' (st) cs sl H) : AW l G M d mc ms Q (pc) ls (vD x :: st) cs sl H := by
  intro p e s m args below meth c z D ca ws0 C ws Hp locs lsR stR hR hE hS hL hT
  obtain ⟨_, _, e0, hx, hT0⟩ := rvs_cons hT
  subst e0
  clear hT
  have hT := hT0
  obtain ⟨y, rfl, rfl⟩ := rv_D hx
  obtain ⟨h0, lv, h1, h2⟩ := hL
  subst hs
  exact lv_dstore C.1 C.2.1 hd h1 hn rfl (fun ls9 h9 => k p e s m args below meth c z D ca ws0 C ws Hp locs ls9 _ hR hE hS (rls.sto2 h0 h2 hx rfl h9) hT)

theorem a_astore_n {i : Nat} {j : Fin 4} {x : Int} {ls' : List AV} (hd : decode M.2.1 pc = .ok (.astore_n j, 1)) (hi : (j : Nat) = i) (hn : i < M.2.2.1) (hs : sto ls i (vR x) = ls') (k : AW l G M d mc ms Q (pc + 1) ls' (st) cs sl H) : AW l G M d mc ms Q (pc) ls (vR x :: st) cs sl H := by
  intro p e s m args below meth c z D ca ws0 C ws Hp locs lsR stR hR hE hS hL hT
  obtain ⟨_, _, e0, hx, hT0⟩ := rvs_cons hT
  subst e0
  clear hT
  have hT := hT0
  obtain ⟨h0, lv, h1, h2⟩ := hL
  subst hs
  rcases rv_R hx with ⟨rfl, rfl⟩ | ⟨p9, q9, e9, rfl, h3, rfl⟩
  · exact lv_astore_nN C.1 C.2.1 hd hi h1 hn rfl (fun ls9 h9 => k p e s m args below meth c z D ca ws0 C ws Hp locs ls9 _ hR hE hS (rls.sto1 h0 h2 hx h9) hT)
  · exact lv_astore_n C.1 C.2.1 hd hi h1 hn rfl (fun ls9 h9 => k p e s m args below meth c z D ca ws0 C ws Hp locs ls9 _ hR hE hS (rls.sto1 h0 h2 hx h9) hT)

theorem a_xstore_n {i : Nat} {j : Fin 4} {x : Int} {ls' : List AV} (hd : decode M.2.1 pc = .ok (.astore_n j, 1)) (hi : (j : Nat) = i) (hn : i < M.2.2.1) (hs : sto ls i (vX x) = ls') (k : AW l G M d mc ms Q (pc + 1) ls' (st) cs sl H) : AW l G M d mc ms Q (pc) ls (vX x :: st) cs sl H := by
  intro p e s m args below meth c z D ca ws0 C ws Hp locs lsR stR hR hE hS hL hT
  obtain ⟨_, _, e0, hx, hT0⟩ := rvs_cons hT
  subst e0
  clear hT
  have hT := hT0
  obtain ⟨h0, lv, h1, h2⟩ := hL
  subst hs
  obtain ⟨q9, rfl, rfl⟩ := rv_X hx
  exact lv_astore_n C.1 C.2.1 hd hi h1 hn rfl (fun ls9 h9 => k p e s m args below meth c z D ca ws0 C ws Hp locs ls9 _ hR hE hS (rls.sto1 h0 h2 hx h9) hT)

theorem a_astore {i : Nat} {x : Int} {ls' : List AV} (hd : decode M.2.1 pc = .ok (.astore i, 2)) (hn : i < M.2.2.1) (hs : sto ls i (vR x) = ls') (k : AW l G M d mc ms Q (pc + 2) ls' (st) cs sl H) : AW l G M d mc ms Q (pc) ls (vR x :: st) cs sl H := by
  intro p e s m args below meth c z D ca ws0 C ws Hp locs lsR stR hR hE hS hL hT
  obtain ⟨_, _, e0, hx, hT0⟩ := rvs_cons hT
  subst e0
  clear hT
  have hT := hT0
  obtain ⟨h0, lv, h1, h2⟩ := hL
  subst hs
  rcases rv_R hx with ⟨rfl, rfl⟩ | ⟨p9, q9, e9, rfl, h3, rfl⟩
  · exact lv_astoreN C.1 C.2.1 hd h1 hn rfl (fun ls9 h9 => k p e s m args below meth c z D ca ws0 C ws Hp locs ls9 _ hR hE hS (rls.sto1 h0 h2 hx h9) hT)
  · exact lv_astore C.1 C.2.1 hd h1 hn rfl (fun ls9 h9 => k p e s m args below meth c z D ca ws0 C ws Hp locs ls9 _ hR hE hS (rls.sto1 h0 h2 hx h9) hT)

theorem a_xstore {i : Nat} {x : Int} {ls' : List AV} (hd : decode M.2.1 pc = .ok (.astore i, 2)) (hn : i < M.2.2.1) (hs : sto ls i (vX x) = ls') (k : AW l G M d mc ms Q (pc + 2) ls' (st) cs sl H) : AW l G M d mc ms Q (pc) ls (vX x :: st) cs sl H := by
  intro p e s m args below meth c z D ca ws0 C ws Hp locs lsR stR hR hE hS hL hT
  obtain ⟨_, _, e0, hx, hT0⟩ := rvs_cons hT
  subst e0
  clear hT
  have hT := hT0
  obtain ⟨h0, lv, h1, h2⟩ := hL
  subst hs
  obtain ⟨q9, rfl, rfl⟩ := rv_X hx
  exact lv_astore C.1 C.2.1 hd h1 hn rfl (fun ls9 h9 => k p e s m args below meth c z D ca ws0 C ws Hp locs ls9 _ hR hE hS (rls.sto1 h0 h2 hx h9) hT)

theorem a_iinc {i : Nat} {n x : Int} {ls' : List AV} (hd : decode M.2.1 pc = .ok (.iinc i n, 3)) (hl : ls[i]? = some (vI x)) (hn : i < M.2.2.1) (hv : (Int32.ofInt n).toInt = n) (hr : inI (x + n)) (hs : sto ls i (vI (x + n)) = ls') (k : AW l G M d mc ms Q (pc + 3) ls' (st) cs sl H) : AW l G M d mc ms Q (pc) ls (st) cs sl H := by
  intro p e s m args below meth c z D ca ws0 C ws Hp locs lsR stR hR hE hS hL hT
  obtain ⟨h0, lv, h1, h2⟩ := hL
  obtain ⟨v, h3, h4⟩ := h2 i _ hl (show (0 : Nat) ≠ 9 by decide)
  obtain ⟨y, rfl, rfl⟩ := rv_I h4
  obtain ⟨j, hj⟩ := List.getElem?_of_mem h3
  subst hs
  have hx : rv ws (.int (y + Int32.ofInt n)) (vI (y.toInt + n)) := congrArg vI (by rw [i32_add (by rw [hv]; exact hr), hv])
  exact lv_iinc C.1 C.2.1 hd h1 (k := j) hj rfl hn rfl (fun ls9 h9 => k p e s m args below meth c z D ca ws0 C ws Hp locs ls9 _ hR hE hS (rls.sto1 h0 h2 hx h9) hT)

theorem i32_eqI {x y : Int32} : x = y ↔ x.toInt = y.toInt := Int32.toInt_inj.symm
theorem i32_ltI {x y : Int32} : x < y ↔ x.toInt < y.toInt := Int32.lt_iff_toInt_lt
theorem i32_leI {x y : Int32} : x ≤ y ↔ x.toInt ≤ y.toInt := Int32.le_iff_toInt_le
theorem i32_0 : (0 : Int32).toInt = 0 := rfl

theorem a_icmp_eq {x y off : Int} {tgt : Nat} (hd : decode M.2.1 pc = .ok (.if_icmp .eq off, 3)) (ht : (pc : Int) + off = (tgt : Int)) (kt : x = y → AW l G M d mc ms Q (tgt) ls (st) cs sl H) (kf : ¬ x = y → AW l G M d mc ms Q (pc + 3) ls (st) cs sl H) : AW l G M d mc ms Q (pc) ls (vI y :: vI x :: st) cs sl H := by
  intro p e s m args below meth c z D ca ws0 C ws Hp locs lsR stR hR hE hS hL hT
  obtain ⟨_, _, e0, hy, hT0⟩ := rvs_cons hT
  subst e0
  clear hT
  obtain ⟨y', rfl, rfl⟩ := rv_I hy
  obtain ⟨_, _, e1, hx, hT1⟩ := rvs_cons hT0
  subst e1
  clear hT0
  obtain ⟨x', rfl, rfl⟩ := rv_I hx
  have hT := hT1
  exact lv_icmp_eq C.1 C.2.1 hd ht (fun h => kt (by first | exact i32_eqI.mp h | exact fun q => h (i32_eqI.mpr q) | exact i32_ltI.mp h | exact i32_leI.mp h) p e s m args below meth c z D ca ws0 C ws Hp locs lsR _ hR hE hS hL hT) (fun h => kf (by first | exact fun q => h (i32_eqI.mpr q) | exact i32_eqI.mp h | exact i32_eqI.mp (Decidable.byContradiction h) | exact Int.not_lt.mp (fun q => h (i32_ltI.mpr q)) | exact Int.not_le.mp (fun q => h (i32_leI.mpr q))) p e s m args below meth c z D ca ws0 C ws Hp locs lsR _ hR hE hS hL hT)

theorem a_if_eq {x off : Int} {tgt : Nat} (hd : decode M.2.1 pc = .ok (.ifCond .eq off, 3)) (ht : (pc : Int) + off = (tgt : Int)) (kt : x = 0 → AW l G M d mc ms Q (tgt) ls (st) cs sl H) (kf : ¬ x = 0 → AW l G M d mc ms Q (pc + 3) ls (st) cs sl H) : AW l G M d mc ms Q (pc) ls (vI x :: st) cs sl H := by
  intro p e s m args below meth c z D ca ws0 C ws Hp locs lsR stR hR hE hS hL hT
  obtain ⟨_, _, e0, hx, hT0⟩ := rvs_cons hT
  subst e0
  clear hT
  obtain ⟨x', rfl, rfl⟩ := rv_I hx
  have hT := hT0
  exact lv_if_eq C.1 C.2.1 hd ht (fun h => kt (by first | exact i32_eqI.mp h | exact fun q => h (i32_eqI.mpr q) | exact i32_ltI.mp h | exact i32_leI.mp h) p e s m args below meth c z D ca ws0 C ws Hp locs lsR _ hR hE hS hL hT) (fun h => kf (by first | exact fun q => h (i32_eqI.mpr q) | exact i32_eqI.mp h | exact i32_eqI.mp (Decidable.byContradiction h) | exact Int.not_lt.mp (fun q => h (i32_ltI.mpr q)) | exact Int.not_le.mp (fun q => h (i32_leI.mpr q))) p e s m args below meth c z D ca ws0 C ws Hp locs lsR _ hR hE hS hL hT)

theorem a_icmp_ne {x y off : Int} {tgt : Nat} (hd : decode M.2.1 pc = .ok (.if_icmp .ne off, 3)) (ht : (pc : Int) + off = (tgt : Int)) (kt : ¬ x = y → AW l G M d mc ms Q (tgt) ls (st) cs sl H) (kf : x = y → AW l G M d mc ms Q (pc + 3) ls (st) cs sl H) : AW l G M d mc ms Q (pc) ls (vI y :: vI x :: st) cs sl H := by
  intro p e s m args below meth c z D ca ws0 C ws Hp locs lsR stR hR hE hS hL hT
  obtain ⟨_, _, e0, hy, hT0⟩ := rvs_cons hT
  subst e0
  clear hT
  obtain ⟨y', rfl, rfl⟩ := rv_I hy
  obtain ⟨_, _, e1, hx, hT1⟩ := rvs_cons hT0
  subst e1
  clear hT0
  obtain ⟨x', rfl, rfl⟩ := rv_I hx
  have hT := hT1
  exact lv_icmp_ne C.1 C.2.1 hd ht (fun h => kt (by first | exact i32_eqI.mp h | exact fun q => h (i32_eqI.mpr q) | exact i32_ltI.mp h | exact i32_leI.mp h) p e s m args below meth c z D ca ws0 C ws Hp locs lsR _ hR hE hS hL hT) (fun h => kf (by first | exact fun q => h (i32_eqI.mpr q) | exact i32_eqI.mp h | exact i32_eqI.mp (Decidable.byContradiction h) | exact Int.not_lt.mp (fun q => h (i32_ltI.mpr q)) | exact Int.not_le.mp (fun q => h (i32_leI.mpr q))) p e s m args below meth c z D ca ws0 C ws Hp locs lsR _ hR hE hS hL hT)

theorem a_if_ne {x off : Int} {tgt : Nat} (hd : decode M.2.1 pc = .ok (.ifCond .ne off, 3)) (ht : (pc : Int) + off = (tgt : Int)) (kt : ¬ x = 0 → AW l G M d mc ms Q (tgt) ls (st) cs sl H) (kf : x = 0 → AW l G M d mc ms Q (pc + 3) ls (st) cs sl H) : AW l G M d mc ms Q (pc) ls (vI x :: st) cs sl H := by
  intro p e s m args below meth c z D ca ws0 C ws Hp locs lsR stR hR hE hS hL hT
  obtain ⟨_, _, e0, hx, hT0⟩ := rvs_cons hT
  subst e0
  clear hT
  obtain ⟨x', rfl, rfl⟩ := rv_I hx
  have hT := hT0
  exact lv_if_ne C.1 C.2.1 hd ht (fun h => kt (by first | exact i32_eqI.mp h | exact fun q => h (i32_eqI.mpr q) | exact i32_ltI.mp h | exact i32_leI.mp h) p e s m args below meth c z D ca ws0 C ws Hp locs lsR _ hR hE hS hL hT) (fun h => kf (by first | exact fun q => h (i32_eqI.mpr q) | exact i32_eqI.mp h | exact i32_eqI.mp (Decidable.byContradiction h) | exact Int.not_lt.mp (fun q => h (i32_ltI.mpr q)) | exact Int.not_le.mp (fun q => h (i32_leI.mpr q))) p e s m args below meth c z D ca ws0 C ws Hp locs lsR _ hR hE hS hL hT)

theorem a_icmp_lt {x y off : Int} {tgt : Nat} (hd : decode M.2.1 pc = .ok (.if_icmp .lt off, 3)) (ht : (pc : Int) + off = (tgt : Int)) (kt : x < y → AW l G M d mc ms Q (tgt) ls (st) cs sl H) (kf : y ≤ x → AW l G M d mc ms Q (pc + 3) ls (st) cs sl H) : AW l G M d mc ms Q (pc) ls (vI y :: vI x :: st) cs sl H := by
  intro p e s m args below meth c z D ca ws0 C ws Hp locs lsR stR hR hE hS hL hT
  obtain ⟨_, _, e0, hy, hT0⟩ := rvs_cons hT
  subst e0
  clear hT
  obtain ⟨y', rfl, rfl⟩ := rv_I hy
  obtain ⟨_, _, e1, hx, hT1⟩ := rvs_cons hT0
  subst e1
  clear hT0
  obtain ⟨x', rfl, rfl⟩ := rv_I hx
  have hT := hT1
  exact lv_icmp_lt C.1 C.2.1 hd ht (fun h => kt (by first | exact i32_eqI.mp h | exact fun q => h (i32_eqI.mpr q) | exact i32_ltI.mp h | exact i32_leI.mp h) p e s m args below meth c z D ca ws0 C ws Hp locs lsR _ hR hE hS hL hT) (fun h => kf (by first | exact fun q => h (i32_eqI.mpr q) | exact i32_eqI.mp h | exact i32_eqI.mp (Decidable.byContradiction h) | exact Int.not_lt.mp (fun q => h (i32_ltI.mpr q)) | exact Int.not_le.mp (fun q => h (i32_leI.mpr q))) p e s m args below meth c z D ca ws0 C ws Hp locs lsR _ hR hE hS hL hT)

theorem a_if_lt {x off : Int} {tgt : Nat} (hd : decode M.2.1 pc = .ok (.ifCond .lt off, 3)) (ht : (pc : Int) + off = (tgt : Int)) (kt : x < 0 → AW l G M d mc ms Q (tgt) ls (st) cs sl H) (kf : 0 ≤ x → AW l G M d mc ms Q (pc + 3) ls (st) cs sl H) : AW l G M d mc ms Q (pc) ls (vI x :: st) cs sl H := by
  intro p e s m args below meth c z D ca ws0 C ws Hp locs lsR stR hR hE hS hL hT
  obtain ⟨_, _, e0, hx, hT0⟩ := rvs_cons hT
  subst e0
  clear hT
  obtain ⟨x', rfl, rfl⟩ := rv_I hx
  have hT := hT0
  exact lv_if_lt C.1 C.2.1 hd ht (fun h => kt (by first | exact i32_eqI.mp h | exact fun q => h (i32_eqI.mpr q) | exact i32_ltI.mp h | exact i32_leI.mp h) p e s m args below meth c z D ca ws0 C ws Hp locs lsR _ hR hE hS hL hT) (fun h => kf (by first | exact fun q => h (i32_eqI.mpr q) | exact i32_eqI.mp h | exact i32_eqI.mp (Decidable.byContradiction h) | exact Int.not_lt.mp (fun q => h (i32_ltI.mpr q)) | exact Int.not_le.mp (fun q => h (i32_leI.mpr q))) p e s m args below meth c z D ca ws0 C ws Hp locs lsR _ hR hE hS hL hT)

theorem a_icmp_le {x y off : Int} {tgt : Nat} (hd : decode M.2.1 pc = .ok (.if_icmp .le off, 3)) (ht : (pc : Int) + off = (tgt : Int)) (kt : x ≤ y → AW l G M d mc ms Q (tgt) ls (st) cs sl H) (kf : y < x → AW l G M d mc ms Q (pc + 3) ls (st) cs sl H) : AW l G M d mc ms Q (pc) ls (vI y :: vI x :: st) cs sl H := by
  intro p e s m args below meth c z D ca ws0 C ws Hp locs lsR stR hR hE hS hL hT
  obtain ⟨_, _, e0, hy, hT0⟩ := rvs_cons hT
  subst e0
  clear hT
  obtain ⟨y', rfl, rfl⟩ := rv_I hy
  obtain ⟨_, _, e1, hx, hT1⟩ := rvs_cons hT0
  subst e1
  clear hT0
  obtain ⟨x', rfl, rfl⟩ := rv_I hx
  have hT := hT1
  exact lv_icmp_le C.1 C.2.1 hd ht (fun h => kt (by first | exact i32_eqI.mp h | exact fun q => h (i32_eqI.mpr q) | exact i32_ltI.mp h | exact i32_leI.mp h) p e s m args below meth c z D ca ws0 C ws Hp locs lsR _ hR hE hS hL hT) (fun h => kf (by first | exact fun q => h (i32_eqI.mpr q) | exact i32_eqI.mp h | exact i32_eqI.mp (Decidable.byContradiction h) | exact Int.not_lt.mp (fun q => h (i32_ltI.mpr q)) | exact Int.not_le.mp (fun q => h (i32_leI.mpr q))) p e s m args below meth c z D ca ws0 C ws Hp locs lsR _ hR hE hS hL hT)

theorem a_if_le {x off : Int} {tgt : Nat} (hd : decode M.2.1 pc = .ok (.ifCond .le off, 3)) (ht : (pc : Int) + off = (tgt : Int)) (kt : x ≤ 0 → AW l G M d mc ms Q (tgt) ls (st) cs sl H) (kf : 0 < x → AW l G M d mc ms Q (pc + 3) ls (st) cs sl H) : AW l G M d mc ms Q (pc) ls (vI x :: st) cs sl H := by
  intro p e s m args below meth c z D ca ws0 C ws Hp locs lsR stR hR hE hS hL hT
  obtain ⟨_, _, e0, hx, hT0⟩ := rvs_cons hT
  subst e0
  clear hT
  obtain ⟨x', rfl, rfl⟩ := rv_I hx
  have hT := hT0
  exact lv_if_le C.1 C.2.1 hd ht (fun h => kt (by first | exact i32_eqI.mp h | exact fun q => h (i32_eqI.mpr q) | exact i32_ltI.mp h | exact i32_leI.mp h) p e s m args below meth c z D ca ws0 C ws Hp locs lsR _ hR hE hS hL hT) (fun h => kf (by first | exact fun q => h (i32_eqI.mpr q) | exact i32_eqI.mp h | exact i32_eqI.mp (Decidable.byContradiction h) | exact Int.not_lt.mp (fun q => h (i32_ltI.mpr q)) | exact Int.not_le.mp (fun q => h (i32_leI.mpr q))) p e s m args below meth c z D ca ws0 C ws Hp locs lsR _ hR hE hS hL hT)

theorem a_icmp_gt {x y off : Int} {tgt : Nat} (hd : decode M.2.1 pc = .ok (.if_icmp .gt off, 3)) (ht : (pc : Int) + off = (tgt : Int)) (kt : y < x → AW l G M d mc ms Q (tgt) ls (st) cs sl H) (kf : x ≤ y → AW l G M d mc ms Q (pc + 3) ls (st) cs sl H) : AW l G M d mc ms Q (pc) ls (vI y :: vI x :: st) cs sl H := by
  intro p e s m args below meth c z D ca ws0 C ws Hp locs lsR stR hR hE hS hL hT
  obtain ⟨_, _, e0, hy, hT0⟩ := rvs_cons hT
  subst e0
  clear hT
  obtain ⟨y', rfl, rfl⟩ := rv_I hy
  obtain ⟨_, _, e1, hx, hT1⟩ := rvs_cons hT0
  subst e1
  clear hT0
  obtain ⟨x', rfl, rfl⟩ := rv_I hx
  have hT := hT1
  exact lv_icmp_gt C.1 C.2.1 hd ht (fun h => kt (by first | exact i32_eqI.mp h | exact fun q => h (i32_eqI.mpr q) | exact i32_ltI.mp h | exact i32_leI.mp h) p e s m args below meth c z D ca ws0 C ws Hp locs lsR _ hR hE hS hL hT) (fun h => kf (by first | exact fun q => h (i32_eqI.mpr q) | exact i32_eqI.mp h | exact i32_eqI.mp (Decidable.byContradiction h) | exact Int.not_lt.mp (fun q => h (i32_ltI.mpr q)) | exact Int.not_le.mp (fun q => h (i32_leI.mpr q))) p e s m args below meth c z D ca ws0 C ws Hp locs lsR _ hR hE hS hL hT)

theorem a_if_gt {x off : Int} {tgt : Nat} (hd : decode M.2.1 pc = .ok (.ifCond .gt off, 3)) (ht : (pc : Int) + off = (tgt : Int)) (kt : 0 < x → AW l G M d mc ms Q (tgt) ls (st) cs sl H) (kf : x ≤ 0 → AW l G M d mc ms Q (pc + 3) ls (st) cs sl H) : AW l G M d mc ms Q (pc) ls (vI x :: st) cs sl H := by
  intro p e s m args below meth c z D ca ws0 C ws Hp locs lsR stR hR hE hS hL hT
  obtain ⟨_, _, e0, hx, hT0⟩ := rvs_cons hT
  subst e0
  clear hT
  obtain ⟨x', rfl, rfl⟩ := rv_I hx
  have hT := hT0
  exact lv_if_gt C.1 C.2.1 hd ht (fun h => kt (by first | exact i32_eqI.mp h | exact fun q => h (i32_eqI.mpr q) | exact i32_ltI.mp h | exact i32_leI.mp h) p e s m args below meth c z D ca ws0 C ws Hp locs lsR _ hR hE hS hL hT) (fun h => kf (by first | exact fun q => h (i32_eqI.mpr q) | exact i32_eqI.mp h | exact i32_eqI.mp (Decidable.byContradiction h) | exact Int.not_lt.mp (fun q => h (i32_ltI.mpr q)) | exact Int.not_le.mp (fun q => h (i32_leI.mpr q))) p e s m args below meth c z D ca ws0 C ws Hp locs lsR _ hR hE hS hL hT)

theorem a_icmp_ge {x y off : Int} {tgt : Nat} (hd : decode M.2.1 pc = .ok (.if_icmp .ge off, 3)) (ht : (pc : Int) + off = (tgt : Int)) (kt : y ≤ x → AW l G M d mc ms Q (tgt) ls (st) cs sl H) (kf : x < y → AW l G M d mc ms Q (pc + 3) ls (st) cs sl H) : AW l G M d mc ms Q (pc) ls (vI y :: vI x :: st) cs sl H := by
  intro p e s m args below meth c z D ca ws0 C ws Hp locs lsR stR hR hE hS hL hT
  obtain ⟨_, _, e0, hy, hT0⟩ := rvs_cons hT
  subst e0
  clear hT
  obtain ⟨y', rfl, rfl⟩ := rv_I hy
  obtain ⟨_, _, e1, hx, hT1⟩ := rvs_cons hT0
  subst e1
  clear hT0
  obtain ⟨x', rfl, rfl⟩ := rv_I hx
  have hT := hT1
  exact lv_icmp_ge C.1 C.2.1 hd ht (fun h => kt (by first | exact i32_eqI.mp h | exact fun q => h (i32_eqI.mpr q) | exact i32_ltI.mp h | exact i32_leI.mp h) p e s m args below meth c z D ca ws0 C ws Hp locs lsR _ hR hE hS hL hT) (fun h => kf (by first | exact fun q => h (i32_eqI.mpr q) | exact i32_eqI.mp h | exact i32_eqI.mp (Decidable.byContradiction h) | exact Int.not_lt.mp (fun q => h (i32_ltI.mpr q)) | exact Int.not_le.mp (fun q => h (i32_leI.mpr q))) p e s m args below meth c z D ca ws0 C ws Hp locs lsR _ hR hE hS hL hT)

theorem a_if_ge {x off : Int} {tgt : Nat} (hd : decode M.2.1 pc = .ok (.ifCond .ge off, 3)) (ht : (pc : Int) + off = (tgt : Int)) (kt : 0 ≤ x → AW l G M d mc ms Q (tgt) ls (st) cs sl H) (kf : x < 0 → AW l G M d mc ms Q (pc + 3) ls (st) cs sl H) : AW l G M d mc ms Q (pc) ls (vI x :: st) cs sl H := by
  intro p e s m args below meth c z D ca ws0 C ws Hp locs lsR stR hR hE hS hL hT
  obtain ⟨_, _, e0, hx, hT0⟩ := rvs_cons hT
  subst e0
  clear hT
  obtain ⟨x', rfl, rfl⟩ := rv_I hx
  have hT := hT0
  exact lv_if_ge C.1 C.2.1 hd ht (fun h => kt (by first | exact i32_eqI.mp h | exact fun q => h (i32_eqI.mpr q) | exact i32_ltI.mp h | exact i32_leI.mp h) p e s m args below meth c z D ca ws0 C ws Hp locs lsR _ hR hE hS hL hT) (fun h => kf (by first | exact fun q => h (i32_eqI.mpr q) | exact i32_eqI.mp h | exact i32_eqI.mp (Decidable.byContradiction h) | exact Int.not_lt.mp (fun q => h (i32_ltI.mpr q)) | exact Int.not_le.mp (fun q => h (i32_leI.mpr q))) p e s m args below meth c z D ca ws0 C ws Hp locs lsR _ hR hE hS hL hT)

theorem a_goto {off : Int} {tgt : Nat} (hd : decode M.2.1 pc = .ok (.goto off, 3)) (ht : (pc : Int) + off = (tgt : Int)) (k : AW l G M d mc ms Q (tgt) ls (st) cs sl H) : AW l G M d mc ms Q (pc) ls (st) cs sl H := by
  intro p e s m args below meth c z D ca ws0 C ws Hp locs lsR stR hR hE hS hL hT
  exact lv_goto C.1 C.2.1 hd ht (k p e s m args below meth c z D ca ws0 C ws Hp locs lsR stR hR hE hS hL hT)

def acmp (x y : Int) : Int := if x < y then -1 else if x = y then 0 else 1
theorem acmp_eq (x y : Int) : acmp x y = 0 ↔ x = y := by unfold acmp; split; omega; split <;> omega
theorem acmp_lt (x y : Int) : acmp x y < 0 ↔ x < y := by unfold acmp; split; omega; split <;> omega
theorem acmp_le (x y : Int) : acmp x y ≤ 0 ↔ x ≤ y := by unfold acmp; split; omega; split <;> omega
theorem acmp_gt (x y : Int) : 0 < acmp x y ↔ y < x := by unfold acmp; split; omega; split <;> omega
theorem acmp_ge (x y : Int) : 0 ≤ acmp x y ↔ y ≤ x := by unfold acmp; split; omega; split <;> omega
theorem acmp_cmp (x y : Int64) : (lg_cmp x y).toInt = acmp x.toInt y.toInt := by
  unfold lg_cmp acmp
  first
  | (simp only [Int64.lt_iff_toInt_lt, ← Int64.toInt_inj]; split <;> (try split) <;> (try split) <;> first | rfl | omega)

theorem a_lcmp {y : Int} {x : Int} (hd : decode M.2.1 pc = .ok (.lcmp, 1)) (k : AW l G M d mc ms Q (pc + 1) ls (vI (acmp x y) :: st) cs sl H) : AW l G M d mc ms Q (pc) ls (vJ y :: vJ x :: st) cs sl H := by
  intro p e s m args below meth c z D ca ws0 C ws Hp locs lsR stR hR hE hS hL hT
  obtain ⟨_, _, e0, hy, hT0⟩ := rvs_cons hT
  subst e0
  clear hT
  obtain ⟨y', rfl, rfl⟩ := rv_J hy
  obtain ⟨_, _, e1, hx, hT1⟩ := rvs_cons hT0
  subst e1
  clear hT0
  obtain ⟨x', rfl, rfl⟩ := rv_J hx
  have hT := hT1
  exact W.lcmp C.1 C.2.1 hd (k p e s m args below meth c z D ca ws0 C ws Hp locs lsR _ hR hE hS hL ⟨congrArg vI (acmp_cmp _ _).symm, hT⟩)

theorem a_lcmp_eq {x y off : Int} {tgt : Nat} (hd : decode M.2.1 pc = .ok (.lcmp, 1)) (hd2 : decode M.2.1 (pc + 1) = .ok (.ifCond .eq off, 3)) (ht : ((pc + 1 : Nat) : Int) + off = (tgt : Int)) (kt : x = y → AW l G M d mc ms Q (tgt) ls (st) cs sl H) (kf : ¬ x = y → AW l G M d mc ms Q (pc + 1 + 3) ls st cs sl H) : AW l G M d mc ms Q (pc) ls (vJ y :: vJ x :: st) cs sl H :=
  a_lcmp hd (a_if_eq hd2 ht (fun h => kt ((acmp_eq x y).mp h)) (fun h => kf (fun q => h ((acmp_eq x y).mpr q))))

theorem a_lcmp_ne {x y off : Int} {tgt : Nat} (hd : decode M.2.1 pc = .ok (.lcmp, 1)) (hd2 : decode M.2.1 (pc + 1) = .ok (.ifCond .ne off, 3)) (ht : ((pc + 1 : Nat) : Int) + off = (tgt : Int)) (kt : ¬ x = y → AW l G M d mc ms Q (tgt) ls (st) cs sl H) (kf : x = y → AW l G M d mc ms Q (pc + 1 + 3) ls st cs sl H) : AW l G M d mc ms Q (pc) ls (vJ y :: vJ x :: st) cs sl H :=
  a_lcmp hd (a_if_ne hd2 ht (fun h => kt (fun q => h ((acmp_eq x y).mpr q))) (fun h => kf ((acmp_eq x y).mp h)))

theorem a_lcmp_lt {x y off : Int} {tgt : Nat} (hd : decode M.2.1 pc = .ok (.lcmp, 1)) (hd2 : decode M.2.1 (pc + 1) = .ok (.ifCond .lt off, 3)) (ht : ((pc + 1 : Nat) : Int) + off = (tgt : Int)) (kt : x < y → AW l G M d mc ms Q (tgt) ls (st) cs sl H) (kf : y ≤ x → AW l G M d mc ms Q (pc + 1 + 3) ls st cs sl H) : AW l G M d mc ms Q (pc) ls (vJ y :: vJ x :: st) cs sl H :=
  a_lcmp hd (a_if_lt hd2 ht (fun h => kt ((acmp_lt x y).mp h)) (fun h => kf (Int.not_lt.mp (fun q => absurd ((acmp_lt x y).mpr q) (by omega)))))

theorem a_lcmp_le {x y off : Int} {tgt : Nat} (hd : decode M.2.1 pc = .ok (.lcmp, 1)) (hd2 : decode M.2.1 (pc + 1) = .ok (.ifCond .le off, 3)) (ht : ((pc + 1 : Nat) : Int) + off = (tgt : Int)) (kt : x ≤ y → AW l G M d mc ms Q (tgt) ls (st) cs sl H) (kf : y < x → AW l G M d mc ms Q (pc + 1 + 3) ls st cs sl H) : AW l G M d mc ms Q (pc) ls (vJ y :: vJ x :: st) cs sl H :=
  a_lcmp hd (a_if_le hd2 ht (fun h => kt ((acmp_le x y).mp h)) (fun h => kf (Int.not_le.mp (fun q => absurd ((acmp_le x y).mpr q) (by omega)))))

theorem a_lcmp_gt {x y off : Int} {tgt : Nat} (hd : decode M.2.1 pc = .ok (.lcmp, 1)) (hd2 : decode M.2.1 (pc + 1) = .ok (.ifCond .gt off, 3)) (ht : ((pc + 1 : Nat) : Int) + off = (tgt : Int)) (kt : y < x → AW l G M d mc ms Q (tgt) ls (st) cs sl H) (kf : x ≤ y → AW l G M d mc ms Q (pc + 1 + 3) ls st cs sl H) : AW l G M d mc ms Q (pc) ls (vJ y :: vJ x :: st) cs sl H :=
  a_lcmp hd (a_if_gt hd2 ht (fun h => kt ((acmp_gt x y).mp h)) (fun h => kf (Int.not_lt.mp (fun q => absurd ((acmp_gt x y).mpr q) (by omega)))))

theorem a_lcmp_ge {x y off : Int} {tgt : Nat} (hd : decode M.2.1 pc = .ok (.lcmp, 1)) (hd2 : decode M.2.1 (pc + 1) = .ok (.ifCond .ge off, 3)) (ht : ((pc + 1 : Nat) : Int) + off = (tgt : Int)) (kt : y ≤ x → AW l G M d mc ms Q (tgt) ls (st) cs sl H) (kf : x < y → AW l G M d mc ms Q (pc + 1 + 3) ls st cs sl H) : AW l G M d mc ms Q (pc) ls (vJ y :: vJ x :: st) cs sl H :=
  a_lcmp hd (a_if_ge hd2 ht (fun h => kt ((acmp_ge x y).mp h)) (fun h => kf (Int.not_le.mp (fun q => absurd ((acmp_ge x y).mpr q) (by omega)))))

theorem a_dup {a : AV} (hd : decode M.2.1 pc = .ok (.dup, 1)) (hc : cat2 a = false) (k : AW l G M d mc ms Q (pc + 1) ls (a :: a :: st) cs sl H) : AW l G M d mc ms Q (pc) ls (a :: st) cs sl H := by
  intro p e s m args below meth c z D ca ws0 C ws Hp locs lsR stR hR hE hS hL hT
  obtain ⟨v, _, e0, hx, hT0⟩ := rvs_cons hT
  subst e0
  clear hT
  have hT := hT0
  have hv : v.category = 1 := by
    rcases lv_cat v with h | h
    · exact h
    · have h9 := (rv_cat hx).mp h
      rw [hc] at h9
      cases h9
  exact lv_dup C.1 C.2.1 hd hv (k p e s m args below meth c z D ca ws0 C ws Hp locs lsR _ hR hE hS hL ⟨hx, hx, hT⟩)
theorem a_pop {a : AV} (hd : decode M.2.1 pc = .ok (.pop, 1)) (hc : cat2 a = false) (k : AW l G M d mc ms Q (pc + 1) ls (st) cs sl H) : AW l G M d mc ms Q (pc) ls (a :: st) cs sl H := by
  intro p e s m args below meth c z D ca ws0 C ws Hp locs lsR stR hR hE hS hL hT
  obtain ⟨v, _, e0, hx, hT0⟩ := rvs_cons hT
  subst e0
  clear hT
  have hT := hT0
  have hv : v.category = 1 := by
    rcases lv_cat v with h | h
    · exact h
    · have h9 := (rv_cat hx).mp h
      rw [hc] at h9
      cases h9
  exact lv_pop C.1 C.2.1 hd hv (k p e s m args below meth c z D ca ws0 C ws Hp locs lsR _ hR hE hS hL hT)
theorem a_pop2 {a : AV} (hd : decode M.2.1 pc = .ok (.pop2, 1)) (hc : cat2 a = true) (k : AW l G M d mc ms Q (pc + 1) ls (st) cs sl H) : AW l G M d mc ms Q (pc) ls (a :: st) cs sl H := by
  intro p e s m args below meth c z D ca ws0 C ws Hp locs lsR stR hR hE hS hL hT
  obtain ⟨v, _, e0, hx, hT0⟩ := rvs_cons hT
  subst e0
  clear hT
  have hT := hT0
  exact lv_pop2_2 C.1 C.2.1 hd ((rv_cat hx).mpr hc) (k p e s m args below meth c z D ca ws0 C ws Hp locs lsR _ hR hE hS hL hT)
theorem a_dup2 {a b : AV} (hd : decode M.2.1 pc = .ok (.dup2, 1)) (hc : cat2 a = false) (hc2 : cat2 b = false) (k : AW l G M d mc ms Q (pc + 1) ls (b :: a :: b :: a :: st) cs sl H) : AW l G M d mc ms Q (pc) ls (b :: a :: st) cs sl H := by
  intro p e s m args below meth c z D ca ws0 C ws Hp locs lsR stR hR hE hS hL hT
  obtain ⟨w, _, e1, hy, hT1⟩ := rvs_cons hT
  subst e1
  clear hT
  have hT := hT1
  obtain ⟨v, _, e0, hx, hT0⟩ := rvs_cons hT
  subst e0
  clear hT
  have hT := hT0
  have hv : v.category = 1 := by
    rcases lv_cat v with h | h
    · exact h
    · have h9 := (rv_cat hx).mp h
      rw [hc] at h9
      cases h9
  have hw : w.category = 1 := by
    rcases lv_cat w with h | h
    · exact h
    · have h9 := (rv_cat hy).mp h
      rw [hc2] at h9
      cases h9
  exact lv_dup2_11 C.1 C.2.1 hd hw hv (k p e s m args below meth c z D ca ws0 C ws Hp locs lsR _ hR hE hS hL ⟨hy, hx, hy, hx, hT⟩)
theorem a_ifnonnull {x off : Int} {tgt : Nat} (hd : decode M.2.1 pc = .ok (.ifnonnull off, 3)) (ht : (pc : Int) + off = (tgt : Int)) (kt : x ≠ 0 → AW l G M d mc ms Q (tgt) ls (st) cs sl H) (kf : x = 0 → AW l G M d mc ms Q (pc + 3) ls (st) cs sl H) : AW l G M d mc ms Q (pc) ls (vR x :: st) cs sl H := by
  intro p e s m args below meth c z D ca ws0 C ws Hp locs lsR stR hR hE hS hL hT
  obtain ⟨_, _, e0, hx, hT0⟩ := rvs_cons hT
  subst e0
  clear hT
  have hT := hT0
  rcases rv_R hx with ⟨rfl, rfl⟩ | ⟨p9, q9, e9, rfl, h3, rfl⟩
  · exact lv_ifnonnullN C.1 C.2.1 hd (kf rfl p e s m args below meth c z D ca ws0 C ws Hp locs lsR _ hR hE hS hL hT)
  · exact lv_ifnonnull C.1 C.2.1 hd ht (kt (by omega) p e s m args below meth c z D ca ws0 C ws Hp locs lsR _ hR hE hS hL hT)

end AROWS
