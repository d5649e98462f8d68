/-! floats: no NaN -/
theorem u32_and (r : UInt32) : (r &&& 0x7fffffff).toNat = r.toNat % 2 ^ 31 := by
  rw [UInt32.toNat_and]
  exact Nat.and_two_pow_sub_one_eq_mod r.toNat 31
theorem u64_and (r : UInt64) : (r &&& 0x7fffffffffffffff).toNat = r.toNat % 2 ^ 63 := by
  rw [UInt64.toNat_and]
  exact Nat.and_two_pow_sub_one_eq_mod r.toNat 63
theorem n32_of {r : UInt32} (h : FP.Core.fIsNaN r = false) : vf_n32 r := by
  have h1 := (FP.Core.ne_nan32 r).mp ((FP.Core.notNaN_iff32 r).mp h)
  show (r &&& 0x7fffffff).toNat ≤ _
  rw [u32_and]
  exact h1
theorem n64_of {r : UInt64} (h : FP.Core.dIsNaN r = false) : vf_n64 r := by
  have h1 := (FP.Core.ne_nan r).mp ((FP.Core.notNaN_iff r).mp h)
  show (r &&& 0x7fffffffffffffff).toNat ≤ _
  rw [u64_and]
  exact h1
theorem fdiv_ok {a b : UInt32} (ha : FP.Core.FFin a) (hb : FP.Core.FFin b) (hz : b.toNat % 2 ^ 31 ≠ 0) : vf_n32 (FP.fdiv a b) := n32_of (FP.Core.fdiv_out ha.notNaN hb (fun q => hz ((FP.Core.zero_bits232 b).mp q)))
theorem afok_k (x : Int) : afok (al2f x) 1148846080 := by
  unfold afok al2f
  rw [Int.toNat_natCast, UInt32.ofNat_toNat]
  exact fdiv_ok (FP.Core.l2f_fin _) ((FP.Core.fin_bits32 _).mpr (by decide)) (by decide)
theorem afok_n (x n : Int) (h : inI n) (h0 : n ≠ 0) : afok (al2f x) (ai2f n) := by
  unfold afok al2f ai2f
  rw [Int.toNat_natCast, UInt32.ofNat_toNat, Int.toNat_natCast, UInt32.ofNat_toNat]
  refine fdiv_ok (FP.Core.l2f_fin _) (FP.Core.i2f_fin _) (FP.Core.i2f_ne_zero fun q => h0 ?_)
  have h1 : (Int32.ofInt n).toInt = n := by rw [Int32.toInt_ofInt, bm32 h]
  rw [← h1, q]
  rfl
