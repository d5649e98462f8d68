theorem dX8_in_0 : decode cX8_in 0 = .ok (.iload_n 0, 1) := by decide +kernel
theorem dX8_in_1 : decode cX8_in 1 = .ok (.iload_n 1, 1) := by decide +kernel
theorem dX8_in_2 : decode cX8_in 2 = .ok (.if_icmp .lt 12, 3) := by decide +kernel
theorem dX8_in_5 : decode cX8_in 5 = .ok (.iload_n 0, 1) := by decide +kernel
theorem dX8_in_6 : decode cX8_in 6 = .ok (.iload_n 2, 1) := by decide +kernel
theorem dX8_in_7 : decode cX8_in 7 = .ok (.if_icmp .gt 7, 3) := by decide +kernel
theorem dX8_in_10 : decode cX8_in 10 = .ok (.iconst 1, 1) := by decide +kernel
theorem dX8_in_11 : decode cX8_in 11 = .ok (.goto 4, 3) := by decide +kernel
theorem dX8_in_14 : decode cX8_in 14 = .ok (.iconst 0, 1) := by decide +kernel
theorem dX8_in_15 : decode cX8_in 15 = .ok (.ireturn, 1) := by decide +kernel
set_option maxRecDepth 20000 in
theorem s_X8_in_0 {l : Launch} {G : GT} {d : Nat} {Q : AV → AH → Prop} {H : AH} {x0 x1 x2 : Int} (h : (x0 < x1 → Q (vI 0) H) ∧ (x1 ≤ x0 → (x2 < x0 → Q (vI 0) H) ∧ (x0 ≤ x2 → Q (vI 1) H))) : AW l G mX8_in d 0 0 Q 0 [vI x0, vI x1, vI x2] [] 0 0 H := by
  refine a_iload_n dX8_in_0 rfl rfl ?_
  refine a_iload_n dX8_in_1 rfl rfl ?_
  refine a_icmp_lt dX8_in_2 (tgt := 14) rfl (fun c2 => ?_) (fun c2 => ?_)
  · replace h := h.1 c2
    refine a_iconst dX8_in_14 ⟨by decide, by decide⟩ ?_
    exact a_zret dX8_in_15 rfl (by decide) (Nat.le_of_ble_eq_true rfl) (Nat.le_of_ble_eq_true rfl) h
  · replace h := h.2 c2
    refine a_iload_n dX8_in_5 rfl rfl ?_
    refine a_iload_n dX8_in_6 rfl rfl ?_
    refine a_icmp_gt dX8_in_7 (tgt := 14) rfl (fun c7 => ?_) (fun c7 => ?_)
    · replace h := h.1 c7
      refine a_iconst dX8_in_14 ⟨by decide, by decide⟩ ?_
      exact a_zret dX8_in_15 rfl (by decide) (Nat.le_of_ble_eq_true rfl) (Nat.le_of_ble_eq_true rfl) h
    · replace h := h.2 c7
      refine a_iconst dX8_in_10 ⟨by decide, by decide⟩ ?_
      refine a_goto dX8_in_11 (tgt := 15) rfl ?_
      exact a_zret dX8_in_15 rfl (by decide) (Nat.le_of_ble_eq_true rfl) (Nat.le_of_ble_eq_true rfl) h

theorem c_in {l : Launch} {G : GT} {d : Nat} {H : AH} {a b c : Int} : CL l G mX8_in d 0 0 [vI a, vI b, vI c] H (PQ (vI (bi (decide (b ≤ a ∧ a ≤ c)))) H) := by
  refine CL.of (by decide) rfl (Nat.le_of_ble_eq_true rfl) (s_X8_in_0 ⟨fun c1 => ⟨?_, rfl⟩, fun c1 => ⟨fun c2 => ⟨?_, rfl⟩, fun c2 => ⟨?_, rfl⟩⟩⟩)
  · rw [bi_f (by omega)]
  · rw [bi_f (by omega)]
  · rw [bi_t (by omega)]

theorem dX8_at_0 : decode cX8_at 0 = .ok (.bipush 56, 2) := by decide +kernel
theorem dX8_at_2 : decode cX8_at 2 = .ok (.bipush 16, 2) := by decide +kernel
theorem dX8_at_4 : decode cX8_at 4 = .ok (.iload_n 0, 1) := by decide +kernel
theorem dX8_at_5 : decode cX8_at 5 = .ok (.imul, 1) := by decide +kernel
theorem dX8_at_6 : decode cX8_at 6 = .ok (.iadd, 1) := by decide +kernel
theorem dX8_at_7 : decode cX8_at 7 = .ok (.iload_n 1, 1) := by decide +kernel
theorem dX8_at_8 : decode cX8_at 8 = .ok (.iadd, 1) := by decide +kernel
theorem dX8_at_9 : decode cX8_at 9 = .ok (.ireturn, 1) := by decide +kernel
set_option maxRecDepth 20000 in
theorem s_X8_at_0 {l : Launch} {G : GT} {d : Nat} {Q : AV → AH → Prop} {H : AH} {x0 x1 : Int} (h : (-2147483648 ≤ 16 * x0 ∧ 16 * x0 ≤ 2147483647) ∧ (-2147483648 ≤ 56 + (16 * x0) ∧ 56 + (16 * x0) ≤ 2147483647) ∧ (-2147483648 ≤ (56 + (16 * x0)) + x1 ∧ (56 + (16 * x0)) + x1 ≤ 2147483647) ∧ Q (vI ((56 + (16 * x0)) + x1)) H) : AW l G mX8_at d 0 0 Q 0 [vI x0, vI x1] [] 0 0 H := by
  refine a_bipush dX8_at_0 (by decide) ?_
  refine a_bipush dX8_at_2 (by decide) ?_
  refine a_iload_n dX8_at_4 rfl rfl ?_
  obtain ⟨q5_0, h⟩ := h
  refine a_imul dX8_at_5 q5_0 ?_
  obtain ⟨q6_0, h⟩ := h
  refine a_iadd dX8_at_6 q6_0 ?_
  refine a_iload_n dX8_at_7 rfl rfl ?_
  obtain ⟨q8_0, h⟩ := h
  refine a_iadd dX8_at_8 q8_0 ?_
  exact a_iret dX8_at_9 rfl (Nat.le_of_ble_eq_true rfl) (Nat.le_of_ble_eq_true rfl) h

theorem c_at {l : Launch} {G : GT} {d : Nat} {H : AH} {f w : Int} (h : 0 ≤ f ∧ f ≤ 30 ∧ 0 ≤ w ∧ w ≤ 30) : CL l G mX8_at d 0 0 [vI f, vI w] H (PQ (vI (56 + 16 * f + w)) H) := by
  exact CL.of (by decide) rfl (Nat.le_of_ble_eq_true rfl) (s_X8_at_0 ⟨by omega, by omega, by omega, rfl, rfl⟩)

theorem dX8_of_0 : decode cX8_of 0 = .ok (.aload_n 0, 1) := by decide +kernel
theorem dX8_of_1 : decode cX8_of 1 = .ok (.getfield 9, 3) := by decide +kernel
theorem dX8_of_4 : decode cX8_of 4 = .ok (.iload_n 1, 1) := by decide +kernel
theorem dX8_of_5 : decode cX8_of 5 = .ok (.iload_n 2, 1) := by decide +kernel
theorem dX8_of_6 : decode cX8_of 6 = .ok (.invokestatic 59, 3) := by decide +kernel
theorem dX8_of_9 : decode cX8_of 9 = .ok (.iaload, 1) := by decide +kernel
theorem dX8_of_10 : decode cX8_of 10 = .ok (.ireturn, 1) := by decide +kernel
set_option maxRecDepth 20000 in
theorem s_X8_of_0 {l : Launch} {G : GT} {d : Nat} {Q : AV → AH → Prop} {H : AH} {a0 x1 x2 : Int} (h_r0 : Lay LMod H a0) (h : (0 ≤ x1 ∧ x1 ≤ 30 ∧ 0 ≤ x2 ∧ x2 ≤ 30) ∧ (0 ≤ (56 + 16 * x1 + x2) ∧ (56 + 16 * x1 + x2) < 440) ∧ Q (vI (rowM H a0 (56 + 16 * x1 + x2))) H) : AW l G mX8_of (d + 1) 0 0 Q 0 [vR a0, vI x1, vI x2] [] 0 0 H := by
  refine a_aload_n dX8_of_0 rfl rfl ?_
  refine a_getR dX8_of_1 fw_RX8_9 rfl rfl (kMod_0 h_r0) (rMod_0_0 h_r0) ?_
  refine a_iload_n dX8_of_4 rfl rfl ?_
  refine a_iload_n dX8_of_5 rfl rfl ?_
  obtain ⟨q6_0, h⟩ := h
  refine a_callS dX8_of_6 cw_X8_of_6 (as := [vI x1, vI x2]) rfl rfl (Nat.le_refl _) (Nat.le_of_ble_eq_true rfl) (nocov rfl) (Nat.le_of_ble_eq_true rfl) (Nat.le_of_ble_eq_true rfl) (CL.mono (c_at  q6_0) (fun r9 H9 h9 => ?_))
  rw [h9.1, h9.2]
  show AW l G mX8_of (d + 1) 0 0 Q 9 [vR a0, vI x1, vI x2] [vI (56 + 16 * x1 + x2), vR (a0 + 1)] 0 0 H
  obtain ⟨q9_0, h⟩ := h
  refine b_iald dX8_of_9 (kMod_1 h_r0) (nMod_1 h_r0) q9_0 ?_
  exact a_iret dX8_of_10 rfl (Nat.le_of_ble_eq_true rfl) (Nat.le_of_ble_eq_true rfl) h

/-- what the row at hand tells of a flight -/
abbrev oF (H : AH) (a f w : Int) : Int := hg H (a + 1) (56 + 16 * f + w)
theorem c_of {l : Launch} {G : GT} {d : Nat} {H : AH} {a f w : Int} (hL : Lay LMod H a) (h : 0 ≤ f ∧ f < 24 ∧ 0 ≤ w ∧ w < 16) (hd : 1 ≤ d := by omega) : CL l G mX8_of d 0 0 [vR a, vI f, vI w] H (PQ (vI (ofM (rowM H a) f w)) H) := by
  obtain ⟨d, rfl⟩ : ∃ k, d = k + 1 := ⟨d - 1, by omega⟩
  exact CL.of (by decide) rfl (Nat.le_of_ble_eq_true rfl) (s_X8_of_0 hL ⟨by omega, by omega, rfl, rfl⟩)

theorem dX8_windowOf_0 : decode cX8_windowOf 0 = .ok (.bipush 7, 2) := by decide +kernel
theorem dX8_windowOf_2 : decode cX8_windowOf 2 = .ok (.iload_n 0, 1) := by decide +kernel
theorem dX8_windowOf_3 : decode cX8_windowOf 3 = .ok (.invokestatic 116, 3) := by decide +kernel
theorem dX8_windowOf_6 : decode cX8_windowOf 6 = .ok (.ireturn, 1) := by decide +kernel
set_option maxRecDepth 20000 in
theorem s_X8_windowOf_0 {l : Launch} {G : GT} {d : Nat} {Q : AV → AH → Prop} {H : AH} {x0 : Int} (h : Q (vI (min 7 x0)) H) : AW l G mX8_windowOf (d + 1) 0 0 Q 0 [vI x0] [] 0 0 H := by
  refine a_bipush dX8_windowOf_0 (by decide) ?_
  refine a_iload_n dX8_windowOf_2 rfl rfl ?_
  refine a_mmin dX8_windowOf_3 cw_X8_windowOf_3 (Nat.le_of_ble_eq_true rfl) (Nat.le_of_ble_eq_true rfl) (Nat.le_of_ble_eq_true rfl) ?_
  exact a_iret dX8_windowOf_6 rfl (Nat.le_of_ble_eq_true rfl) (Nat.le_of_ble_eq_true rfl) h

theorem c_windowOf {l : Launch} {G : GT} {d : Nat} {H : AH} {a : Int} (hd : 1 ≤ d := by omega) : CL l G mX8_windowOf d 0 0 [vI a] H (PQ (vI (min 7 a)) H) := by
  obtain ⟨d, rfl⟩ : ∃ k, d = k + 1 := ⟨d - 1, by omega⟩
  exact CL.of (by decide) rfl (Nat.le_of_ble_eq_true rfl) (s_X8_windowOf_0 ⟨rfl, rfl⟩)

theorem dX8_isClass_0 : decode cX8_isClass 0 = .ok (.iload_n 0, 1) := by decide +kernel
theorem dX8_isClass_1 : decode cX8_isClass 1 = .ok (.iconst 0, 1) := by decide +kernel
theorem dX8_isClass_2 : decode cX8_isClass 2 = .ok (.iconst 3, 1) := by decide +kernel
theorem dX8_isClass_3 : decode cX8_isClass 3 = .ok (.invokestatic 67, 3) := by decide +kernel
theorem dX8_isClass_6 : decode cX8_isClass 6 = .ok (.ireturn, 1) := by decide +kernel
set_option maxRecDepth 20000 in
theorem s_X8_isClass_0 {l : Launch} {G : GT} {d : Nat} {Q : AV → AH → Prop} {H : AH} {x0 : Int} (h : ((bi (decide (0 ≤ x0 ∧ x0 ≤ 3))) = 0 ∨ (bi (decide (0 ≤ x0 ∧ x0 ≤ 3))) = 1) ∧ Q (vI (bi (decide (0 ≤ x0 ∧ x0 ≤ 3)))) H) : AW l G mX8_isClass (d + 1) 0 0 Q 0 [vI x0] [] 0 0 H := by
  refine a_iload_n dX8_isClass_0 rfl rfl ?_
  refine a_iconst dX8_isClass_1 ⟨by decide, by decide⟩ ?_
  refine a_iconst dX8_isClass_2 ⟨by decide, by decide⟩ ?_
  refine a_callS dX8_isClass_3 cw_X8_isClass_3 (as := [vI x0, vI 0, vI 3]) rfl rfl (Nat.le_refl _) (Nat.le_of_ble_eq_true rfl) (nocov rfl) (Nat.le_of_ble_eq_true rfl) (Nat.le_of_ble_eq_true rfl) (CL.mono (c_in  ) (fun r9 H9 h9 => ?_))
  rw [h9.1, h9.2]
  show AW l G mX8_isClass (d + 1) 0 0 Q 6 [vI x0] [vI (bi (decide (0 ≤ x0 ∧ x0 ≤ 3)))] 0 0 H
  obtain ⟨q6_0, h⟩ := h
  exact a_zret dX8_isClass_6 rfl q6_0 (Nat.le_of_ble_eq_true rfl) (Nat.le_of_ble_eq_true rfl) h

theorem c_isClass {l : Launch} {G : GT} {d : Nat} {H : AH} {a : Int} (hd : 1 ≤ d := by omega) : CL l G mX8_isClass d 0 0 [vI a] H (PQ (vI (bi (decide (0 ≤ a ∧ a ≤ 3)))) H) := by
  obtain ⟨d, rfl⟩ : ∃ k, d = k + 1 := ⟨d - 1, by omega⟩
  exact CL.of (by decide) rfl (Nat.le_of_ble_eq_true rfl) (s_X8_isClass_0 ⟨bi_01 _, rfl, rfl⟩)

theorem dX8_wakeOf_0 : decode cX8_wakeOf 0 = .ok (.aload_n 0, 1) := by decide +kernel
theorem dX8_wakeOf_1 : decode cX8_wakeOf 1 = .ok (.getfield 9, 3) := by decide +kernel
theorem dX8_wakeOf_4 : decode cX8_wakeOf 4 = .ok (.bipush 8, 2) := by decide +kernel
theorem dX8_wakeOf_6 : decode cX8_wakeOf 6 = .ok (.iconst 4, 1) := by decide +kernel
theorem dX8_wakeOf_7 : decode cX8_wakeOf 7 = .ok (.iload_n 1, 1) := by decide +kernel
theorem dX8_wakeOf_8 : decode cX8_wakeOf 8 = .ok (.imul, 1) := by decide +kernel
theorem dX8_wakeOf_9 : decode cX8_wakeOf 9 = .ok (.iadd, 1) := by decide +kernel
theorem dX8_wakeOf_10 : decode cX8_wakeOf 10 = .ok (.iload_n 2, 1) := by decide +kernel
theorem dX8_wakeOf_11 : decode cX8_wakeOf 11 = .ok (.iadd, 1) := by decide +kernel
theorem dX8_wakeOf_12 : decode cX8_wakeOf 12 = .ok (.iaload, 1) := by decide +kernel
theorem dX8_wakeOf_13 : decode cX8_wakeOf 13 = .ok (.ireturn, 1) := by decide +kernel
set_option maxRecDepth 20000 in
theorem s_X8_wakeOf_0 {l : Launch} {G : GT} {d : Nat} {Q : AV → AH → Prop} {H : AH} {a0 x1 x2 : Int} (h_r0 : Lay LMod H a0) (h : (-2147483648 ≤ 4 * x1 ∧ 4 * x1 ≤ 2147483647) ∧ (-2147483648 ≤ 8 + (4 * x1) ∧ 8 + (4 * x1) ≤ 2147483647) ∧ (-2147483648 ≤ (8 + (4 * x1)) + x2 ∧ (8 + (4 * x1)) + x2 ≤ 2147483647) ∧ (0 ≤ ((8 + (4 * x1)) + x2) ∧ ((8 + (4 * x1)) + x2) < 440) ∧ Q (vI (rowM H a0 ((8 + (4 * x1)) + x2))) H) : AW l G mX8_wakeOf d 0 0 Q 0 [vR a0, vI x1, vI x2] [] 0 0 H := by
  refine a_aload_n dX8_wakeOf_0 rfl rfl ?_
  refine a_getR dX8_wakeOf_1 fw_RX8_9 rfl rfl (kMod_0 h_r0) (rMod_0_0 h_r0) ?_
  refine a_bipush dX8_wakeOf_4 (by decide) ?_
  refine a_iconst dX8_wakeOf_6 ⟨by decide, by decide⟩ ?_
  refine a_iload_n dX8_wakeOf_7 rfl rfl ?_
  obtain ⟨q8_0, h⟩ := h
  refine a_imul dX8_wakeOf_8 q8_0 ?_
  obtain ⟨q9_0, h⟩ := h
  refine a_iadd dX8_wakeOf_9 q9_0 ?_
  refine a_iload_n dX8_wakeOf_10 rfl rfl ?_
  obtain ⟨q11_0, h⟩ := h
  refine a_iadd dX8_wakeOf_11 q11_0 ?_
  obtain ⟨q12_0, h⟩ := h
  refine b_iald dX8_wakeOf_12 (kMod_1 h_r0) (nMod_1 h_r0) q12_0 ?_
  exact a_iret dX8_wakeOf_13 rfl (Nat.le_of_ble_eq_true rfl) (Nat.le_of_ble_eq_true rfl) h

theorem c_wakeOf {l : Launch} {G : GT} {d : Nat} {H : AH} {a x y : Int} (hL : Lay LMod H a) (h : 0 ≤ x ∧ x ≤ 3 ∧ 0 ≤ y ∧ y ≤ 3) : CL l G mX8_wakeOf d 0 0 [vR a, vI x, vI y] H (PQ (vI (rowM H a (8 + 4 * x + y))) H) := by
  exact CL.of (by decide) rfl (Nat.le_of_ble_eq_true rfl) (s_X8_wakeOf_0 hL ⟨by omega, by omega, by omega, by omega, rfl, rfl⟩)

