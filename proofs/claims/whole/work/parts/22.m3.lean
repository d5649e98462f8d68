theorem dX8_laysCome_0 : decode cX8_laysCome 0 = .ok (.aload_n 0, 1) := by decide +kernel
theorem dX8_laysCome_1 : decode cX8_laysCome 1 = .ok (.getfield 30, 3) := by decide +kernel
theorem dX8_laysCome_4 : decode cX8_laysCome 4 = .ok (.iload_n 1, 1) := by decide +kernel
theorem dX8_laysCome_5 : decode cX8_laysCome 5 = .ok (.iconst 0, 1) := by decide +kernel
theorem dX8_laysCome_6 : decode cX8_laysCome 6 = .ok (.iastore, 1) := by decide +kernel
theorem dX8_laysCome_7 : decode cX8_laysCome 7 = .ok (.iconst 0, 1) := by decide +kernel
theorem dX8_laysCome_8 : decode cX8_laysCome 8 = .ok (.istore_n 2, 1) := by decide +kernel
theorem dX8_laysCome_9 : decode cX8_laysCome 9 = .ok (.iload_n 2, 1) := by decide +kernel
theorem dX8_laysCome_10 : decode cX8_laysCome 10 = .ok (.aload_n 0, 1) := by decide +kernel
theorem dX8_laysCome_11 : decode cX8_laysCome 11 = .ok (.getfield 9, 3) := by decide +kernel
theorem dX8_laysCome_14 : decode cX8_laysCome 14 = .ok (.bipush 6, 2) := by decide +kernel
theorem dX8_laysCome_16 : decode cX8_laysCome 16 = .ok (.iaload, 1) := by decide +kernel
theorem dX8_laysCome_17 : decode cX8_laysCome 17 = .ok (.if_icmp .ge 112, 3) := by decide +kernel
theorem dX8_laysCome_20 : decode cX8_laysCome 20 = .ok (.aload_n 0, 1) := by decide +kernel
theorem dX8_laysCome_21 : decode cX8_laysCome 21 = .ok (.iload_n 2, 1) := by decide +kernel
theorem dX8_laysCome_22 : decode cX8_laysCome 22 = .ok (.iconst 0, 1) := by decide +kernel
theorem dX8_laysCome_23 : decode cX8_laysCome 23 = .ok (.iload_n 1, 1) := by decide +kernel
theorem dX8_laysCome_24 : decode cX8_laysCome 24 = .ok (.invokevirtual 210, 3) := by decide +kernel
theorem dX8_laysCome_27 : decode cX8_laysCome 27 = .ok (.ifCond .ne 6, 3) := by decide +kernel
theorem dX8_laysCome_30 : decode cX8_laysCome 30 = .ok (.goto 93, 3) := by decide +kernel
theorem dX8_laysCome_33 : decode cX8_laysCome 33 = .ok (.aload_n 0, 1) := by decide +kernel
theorem dX8_laysCome_34 : decode cX8_laysCome 34 = .ok (.getfield 30, 3) := by decide +kernel
theorem dX8_laysCome_37 : decode cX8_laysCome 37 = .ok (.iload_n 1, 1) := by decide +kernel
theorem dX8_laysCome_38 : decode cX8_laysCome 38 = .ok (.iaload, 1) := by decide +kernel
theorem dX8_laysCome_39 : decode cX8_laysCome 39 = .ok (.istore_n 3, 1) := by decide +kernel
theorem dX8_laysCome_40 : decode cX8_laysCome 40 = .ok (.iload_n 3, 1) := by decide +kernel
theorem dX8_laysCome_41 : decode cX8_laysCome 41 = .ok (.ifCond .le 60, 3) := by decide +kernel
theorem dX8_laysCome_44 : decode cX8_laysCome 44 = .ok (.aload_n 0, 1) := by decide +kernel
theorem dX8_laysCome_45 : decode cX8_laysCome 45 = .ok (.aload_n 0, 1) := by decide +kernel
theorem dX8_laysCome_46 : decode cX8_laysCome 46 = .ok (.getfield 33, 3) := by decide +kernel
theorem dX8_laysCome_49 : decode cX8_laysCome 49 = .ok (.bipush 24, 2) := by decide +kernel
theorem dX8_laysCome_51 : decode cX8_laysCome 51 = .ok (.iload_n 1, 1) := by decide +kernel
theorem dX8_laysCome_52 : decode cX8_laysCome 52 = .ok (.imul, 1) := by decide +kernel
theorem dX8_laysCome_53 : decode cX8_laysCome 53 = .ok (.iload_n 3, 1) := by decide +kernel
theorem dX8_laysCome_54 : decode cX8_laysCome 54 = .ok (.iadd, 1) := by decide +kernel
theorem dX8_laysCome_55 : decode cX8_laysCome 55 = .ok (.iconst 1, 1) := by decide +kernel
theorem dX8_laysCome_56 : decode cX8_laysCome 56 = .ok (.isub, 1) := by decide +kernel
theorem dX8_laysCome_57 : decode cX8_laysCome 57 = .ok (.iaload, 1) := by decide +kernel
theorem dX8_laysCome_58 : decode cX8_laysCome 58 = .ok (.iconst 3, 1) := by decide +kernel
theorem dX8_laysCome_59 : decode cX8_laysCome 59 = .ok (.invokevirtual 75, 3) := by decide +kernel
theorem dX8_laysCome_62 : decode cX8_laysCome 62 = .ok (.aload_n 0, 1) := by decide +kernel
theorem dX8_laysCome_63 : decode cX8_laysCome 63 = .ok (.iload_n 2, 1) := by decide +kernel
theorem dX8_laysCome_64 : decode cX8_laysCome 64 = .ok (.iconst 3, 1) := by decide +kernel
theorem dX8_laysCome_65 : decode cX8_laysCome 65 = .ok (.invokevirtual 75, 3) := by decide +kernel
theorem dX8_laysCome_68 : decode cX8_laysCome 68 = .ok (.if_icmp .le 33, 3) := by decide +kernel
theorem dX8_laysCome_71 : decode cX8_laysCome 71 = .ok (.aload_n 0, 1) := by decide +kernel
theorem dX8_laysCome_72 : decode cX8_laysCome 72 = .ok (.getfield 33, 3) := by decide +kernel
theorem dX8_laysCome_75 : decode cX8_laysCome 75 = .ok (.bipush 24, 2) := by decide +kernel
theorem dX8_laysCome_77 : decode cX8_laysCome 77 = .ok (.iload_n 1, 1) := by decide +kernel
theorem dX8_laysCome_78 : decode cX8_laysCome 78 = .ok (.imul, 1) := by decide +kernel
theorem dX8_laysCome_79 : decode cX8_laysCome 79 = .ok (.iload_n 3, 1) := by decide +kernel
theorem dX8_laysCome_80 : decode cX8_laysCome 80 = .ok (.iadd, 1) := by decide +kernel
theorem dX8_laysCome_81 : decode cX8_laysCome 81 = .ok (.aload_n 0, 1) := by decide +kernel
theorem dX8_laysCome_82 : decode cX8_laysCome 82 = .ok (.getfield 33, 3) := by decide +kernel
theorem dX8_laysCome_85 : decode cX8_laysCome 85 = .ok (.bipush 24, 2) := by decide +kernel
theorem dX8_laysCome_87 : decode cX8_laysCome 87 = .ok (.iload_n 1, 1) := by decide +kernel
theorem dX8_laysCome_88 : decode cX8_laysCome 88 = .ok (.imul, 1) := by decide +kernel
theorem dX8_laysCome_89 : decode cX8_laysCome 89 = .ok (.iload_n 3, 1) := by decide +kernel
theorem dX8_laysCome_90 : decode cX8_laysCome 90 = .ok (.iadd, 1) := by decide +kernel
theorem dX8_laysCome_91 : decode cX8_laysCome 91 = .ok (.iconst 1, 1) := by decide +kernel
theorem dX8_laysCome_92 : decode cX8_laysCome 92 = .ok (.isub, 1) := by decide +kernel
theorem dX8_laysCome_93 : decode cX8_laysCome 93 = .ok (.iaload, 1) := by decide +kernel
theorem dX8_laysCome_94 : decode cX8_laysCome 94 = .ok (.iastore, 1) := by decide +kernel
theorem dX8_laysCome_95 : decode cX8_laysCome 95 = .ok (.iinc 3 (-1), 3) := by decide +kernel
theorem dX8_laysCome_98 : decode cX8_laysCome 98 = .ok (.goto (-58), 3) := by decide +kernel
theorem dX8_laysCome_101 : decode cX8_laysCome 101 = .ok (.aload_n 0, 1) := by decide +kernel
theorem dX8_laysCome_102 : decode cX8_laysCome 102 = .ok (.getfield 33, 3) := by decide +kernel
theorem dX8_laysCome_105 : decode cX8_laysCome 105 = .ok (.bipush 24, 2) := by decide +kernel
theorem dX8_laysCome_107 : decode cX8_laysCome 107 = .ok (.iload_n 1, 1) := by decide +kernel
theorem dX8_laysCome_108 : decode cX8_laysCome 108 = .ok (.imul, 1) := by decide +kernel
theorem dX8_laysCome_109 : decode cX8_laysCome 109 = .ok (.iload_n 3, 1) := by decide +kernel
theorem dX8_laysCome_110 : decode cX8_laysCome 110 = .ok (.iadd, 1) := by decide +kernel
theorem dX8_laysCome_111 : decode cX8_laysCome 111 = .ok (.iload_n 2, 1) := by decide +kernel
theorem dX8_laysCome_112 : decode cX8_laysCome 112 = .ok (.iastore, 1) := by decide +kernel
theorem dX8_laysCome_113 : decode cX8_laysCome 113 = .ok (.aload_n 0, 1) := by decide +kernel
theorem dX8_laysCome_114 : decode cX8_laysCome 114 = .ok (.getfield 30, 3) := by decide +kernel
theorem dX8_laysCome_117 : decode cX8_laysCome 117 = .ok (.iload_n 1, 1) := by decide +kernel
theorem dX8_laysCome_118 : decode cX8_laysCome 118 = .ok (.dup2, 1) := by decide +kernel
theorem dX8_laysCome_119 : decode cX8_laysCome 119 = .ok (.iaload, 1) := by decide +kernel
theorem dX8_laysCome_120 : decode cX8_laysCome 120 = .ok (.iconst 1, 1) := by decide +kernel
theorem dX8_laysCome_121 : decode cX8_laysCome 121 = .ok (.iadd, 1) := by decide +kernel
theorem dX8_laysCome_122 : decode cX8_laysCome 122 = .ok (.iastore, 1) := by decide +kernel
theorem dX8_laysCome_123 : decode cX8_laysCome 123 = .ok (.iinc 2 1, 3) := by decide +kernel
theorem dX8_laysCome_126 : decode cX8_laysCome 126 = .ok (.goto (-117), 3) := by decide +kernel
theorem dX8_laysCome_129 : decode cX8_laysCome 129 = .ok (.return_, 1) := by decide +kernel
set_option maxRecDepth 20000 in
theorem s_X8_laysCome_0 {l : Launch} {G : GT} {d : Nat} {Q : AV → AH → Prop} {H : AH} {a0 x1 : Int} (h_r0 : Lay LMod H a0) (h : (0 ≤ x1 ∧ x1 < 3) ∧ ∀ H1 : AH, H1 = hs H (a0 + 7) x1 0 → AW l G mX8_laysCome (d + 1) 0 0 Q 9 [vR a0, vI x1, vI 0, vU] [] 0 0 H1) (hd : 2 ≤ d := by omega) : AW l G mX8_laysCome (d + 1) 0 0 Q 0 [vR a0, vI x1, vU, vU] [] 0 0 H := by
  refine a_aload_n dX8_laysCome_0 rfl rfl ?_
  refine a_getR dX8_laysCome_1 fw_RX8_30 rfl rfl (kMod_0 h_r0) (rMod_0_14 h_r0) ?_
  refine a_iload_n dX8_laysCome_4 rfl rfl ?_
  refine a_iconst dX8_laysCome_5 ⟨by decide, by decide⟩ ?_
  obtain ⟨q6_0, h⟩ := h
  refine b_iast dX8_laysCome_6 (kMod_7 h_r0) (nMod_7 h_r0) q6_0 ?_
  have h_r0_1 := Lay.wr h_r0 ok_Mod (nrf_arr (kMod_7 h_r0) (by decide) (by decide)) (i := x1) (x := 0)
  generalize e_H1 : hs H (a0 + 7) x1 0 = H1 at h_r0_1 ⊢
  replace h := h H1 e_H1.symm
  refine a_iconst dX8_laysCome_7 ⟨by decide, by decide⟩ ?_
  refine a_istore_n dX8_laysCome_8 rfl (Nat.le_of_ble_eq_true rfl) (ls' := [vR a0, vI x1, vI 0, vU]) rfl ?_
  exact h

set_option maxRecDepth 20000 in
theorem s_X8_laysCome_9 {l : Launch} {G : GT} {d : Nat} {Q : AV → AH → Prop} {H : AH} {a0 x1 x2 : Int} (h_r0 : Lay LMod H a0) (h : ((rowM H a0 6) ≤ x2 → Q vV H) ∧ (x2 < (rowM H a0 6) → (0 ≤ x2 ∧ x2 < 24) ∧ (ofM (rowM H a0) x2 7 = 0 ∧ ofM (rowM H a0) x2 6 = x1 → (0 ≤ x1 ∧ x1 < 3) ∧ AW l G mX8_laysCome (d + 1) 0 0 Q 40 [vR a0, vI x1, vI x2, vI (hg H (a0 + 7) x1)] [] 0 0 H) ∧ (¬ (ofM (rowM H a0) x2 7 = 0 ∧ ofM (rowM H a0) x2 6 = x1) → (-2147483648 ≤ x2 + 1 ∧ x2 + 1 ≤ 2147483647) ∧ AW l G mX8_laysCome (d + 1) 0 0 Q 9 [vR a0, vI x1, vI (x2 + 1), vU] [] 0 0 H))) (hd : 2 ≤ d := by omega) : AW l G mX8_laysCome (d + 1) 0 0 Q 9 [vR a0, vI x1, vI x2, vU] [] 0 0 H := by
  refine a_iload_n dX8_laysCome_9 rfl rfl ?_
  refine a_aload_n dX8_laysCome_10 rfl rfl ?_
  refine a_getR dX8_laysCome_11 fw_RX8_9 rfl rfl (kMod_0 h_r0) (rMod_0_0 h_r0) ?_
  refine a_bipush dX8_laysCome_14 (by decide) ?_
  refine b_iald dX8_laysCome_16 (kMod_1 h_r0) (nMod_1 h_r0) (⟨by decide, by decide⟩) ?_
  refine a_icmp_ge dX8_laysCome_17 (tgt := 129) rfl (fun c17 => ?_) (fun c17 => ?_)
  · replace h := h.1 c17
    exact a_vret dX8_laysCome_129 rfl (Nat.le_of_ble_eq_true rfl) (Nat.le_of_ble_eq_true rfl) h
  · replace h := h.2 c17
    refine a_aload_n dX8_laysCome_20 rfl rfl ?_
    refine a_iload_n dX8_laysCome_21 rfl rfl ?_
    refine a_iconst dX8_laysCome_22 ⟨by decide, by decide⟩ ?_
    refine a_iload_n dX8_laysCome_23 rfl rfl ?_
    obtain ⟨q24_0, h⟩ := h
    refine a_callV dX8_laysCome_24 cw_X8_laysCome_24 (as := [vI x2, vI 0, vI x1]) rfl rfl (kMod_0 h_r0) (Nat.le_refl _) (Nat.le_of_ble_eq_true rfl) (nocov rfl) (Nat.le_of_ble_eq_true rfl) (Nat.le_of_ble_eq_true rfl) (CL.mono (c_isOn h_r0 q24_0) (fun r9 H9 h9 => ?_))
    rw [h9.1, h9.2]
    show AW l G mX8_laysCome (d + 1) 0 0 Q 27 [vR a0, vI x1, vI x2, vU] [vI (bi (decide (ofM (rowM H a0) x2 7 = 0 ∧ ofM (rowM H a0) x2 6 = x1)))] 0 0 H
    refine a_if_ne dX8_laysCome_27 (tgt := 33) rfl (fun c27 => ?_) (fun c27 => ?_)
    · replace h := h.1 (bi_1 c27)
      refine a_aload_n dX8_laysCome_33 rfl rfl ?_
      refine a_getR dX8_laysCome_34 fw_RX8_30 rfl rfl (kMod_0 h_r0) (rMod_0_14 h_r0) ?_
      refine a_iload_n dX8_laysCome_37 rfl rfl ?_
      obtain ⟨q38_0, h⟩ := h
      refine b_iald dX8_laysCome_38 (kMod_7 h_r0) (nMod_7 h_r0) q38_0 ?_
      refine a_istore_n dX8_laysCome_39 rfl (Nat.le_of_ble_eq_true rfl) (ls' := [vR a0, vI x1, vI x2, vI (hg H (a0 + 7) x1)]) rfl ?_
      exact h
    · replace h := h.2 (bi_0 c27)
      refine a_goto dX8_laysCome_30 (tgt := 123) rfl ?_
      obtain ⟨q123_0, h⟩ := h
      refine a_iinc dX8_laysCome_123 rfl (Nat.le_of_ble_eq_true rfl) (by decide) q123_0 (ls' := [vR a0, vI x1, vI (x2 + 1), vU]) rfl ?_
      refine a_goto dX8_laysCome_126 (tgt := 9) rfl ?_
      exact h

set_option maxRecDepth 20000 in
theorem s_X8_laysCome_40 {l : Launch} {G : GT} {d : Nat} {Q : AV → AH → Prop} {H : AH} {a0 x1 x2 x3 : Int} (h_r0 : Lay LMod H a0) (h : (x3 ≤ 0 → (-2147483648 ≤ 24 * x1 ∧ 24 * x1 ≤ 2147483647) ∧ (-2147483648 ≤ (24 * x1) + x3 ∧ (24 * x1) + x3 ≤ 2147483647) ∧ (0 ≤ ((24 * x1) + x3) ∧ ((24 * x1) + x3) < 72) ∧ ∀ H1 : AH, H1 = hs H (a0 + 8) ((24 * x1) + x3) x2 → (0 ≤ x1 ∧ x1 < 3) ∧ (-2147483648 ≤ (hg H1 (a0 + 7) x1) + 1 ∧ (hg H1 (a0 + 7) x1) + 1 ≤ 2147483647) ∧ ∀ H2 : AH, H2 = hs H1 (a0 + 7) x1 ((hg H1 (a0 + 7) x1) + 1) → (-2147483648 ≤ x2 + 1 ∧ x2 + 1 ≤ 2147483647) ∧ AW l G mX8_laysCome (d + 1) 0 0 Q 9 [vR a0, vI x1, vI (x2 + 1), vU] [] 0 0 H2) ∧ (0 < x3 → (-2147483648 ≤ 24 * x1 ∧ 24 * x1 ≤ 2147483647) ∧ (-2147483648 ≤ (24 * x1) + x3 ∧ (24 * x1) + x3 ≤ 2147483647) ∧ (-2147483648 ≤ ((24 * x1) + x3) - 1 ∧ ((24 * x1) + x3) - 1 ≤ 2147483647) ∧ (0 ≤ (((24 * x1) + x3) - 1) ∧ (((24 * x1) + x3) - 1) < 72) ∧ (0 ≤ (hg H (a0 + 8) (((24 * x1) + x3) - 1)) ∧ (hg H (a0 + 8) (((24 * x1) + x3) - 1)) < 24) ∧ (0 ≤ x2 ∧ x2 < 24) ∧ ((ofM (rowM H a0) (hg H (a0 + 8) (((24 * x1) + x3) - 1)) 3) ≤ (ofM (rowM H a0) x2 3) → (0 ≤ ((24 * x1) + x3) ∧ ((24 * x1) + x3) < 72) ∧ ∀ H1 : AH, H1 = hs H (a0 + 8) ((24 * x1) + x3) x2 → (0 ≤ x1 ∧ x1 < 3) ∧ (-2147483648 ≤ (hg H1 (a0 + 7) x1) + 1 ∧ (hg H1 (a0 + 7) x1) + 1 ≤ 2147483647) ∧ ∀ H2 : AH, H2 = hs H1 (a0 + 7) x1 ((hg H1 (a0 + 7) x1) + 1) → (-2147483648 ≤ x2 + 1 ∧ x2 + 1 ≤ 2147483647) ∧ AW l G mX8_laysCome (d + 1) 0 0 Q 9 [vR a0, vI x1, vI (x2 + 1), vU] [] 0 0 H2) ∧ ((ofM (rowM H a0) x2 3) < (ofM (rowM H a0) (hg H (a0 + 8) (((24 * x1) + x3) - 1)) 3) → (0 ≤ ((24 * x1) + x3) ∧ ((24 * x1) + x3) < 72) ∧ ∀ H1 : AH, H1 = hs H (a0 + 8) ((24 * x1) + x3) (hg H (a0 + 8) (((24 * x1) + x3) - 1)) → (-2147483648 ≤ x3 + (-1) ∧ x3 + (-1) ≤ 2147483647) ∧ AW l G mX8_laysCome (d + 1) 0 0 Q 40 [vR a0, vI x1, vI x2, vI (x3 + (-1))] [] 0 0 H1))) (hd : 2 ≤ d := by omega) : AW l G mX8_laysCome (d + 1) 0 0 Q 40 [vR a0, vI x1, vI x2, vI x3] [] 0 0 H := by
  refine a_iload_n dX8_laysCome_40 rfl rfl ?_
  refine a_if_le dX8_laysCome_41 (tgt := 101) rfl (fun c41 => ?_) (fun c41 => ?_)
  · replace h := h.1 c41
    refine a_aload_n dX8_laysCome_101 rfl rfl ?_
    refine a_getR dX8_laysCome_102 fw_RX8_33 rfl rfl (kMod_0 h_r0) (rMod_0_15 h_r0) ?_
    refine a_bipush dX8_laysCome_105 (by decide) ?_
    refine a_iload_n dX8_laysCome_107 rfl rfl ?_
    obtain ⟨q108_0, h⟩ := h
    refine a_imul dX8_laysCome_108 q108_0 ?_
    refine a_iload_n dX8_laysCome_109 rfl rfl ?_
    obtain ⟨q110_0, h⟩ := h
    refine a_iadd dX8_laysCome_110 q110_0 ?_
    refine a_iload_n dX8_laysCome_111 rfl rfl ?_
    obtain ⟨q112_0, h⟩ := h
    refine b_iast dX8_laysCome_112 (kMod_8 h_r0) (nMod_8 h_r0) q112_0 ?_
    have h_r0_1 := Lay.wr h_r0 ok_Mod (nrf_arr (kMod_8 h_r0) (by decide) (by decide)) (i := ((24 * x1) + x3)) (x := x2)
    generalize e_H1 : hs H (a0 + 8) ((24 * x1) + x3) x2 = H1 at h_r0_1 ⊢
    replace h := h H1 e_H1.symm
    refine a_aload_n dX8_laysCome_113 rfl rfl ?_
    refine a_getR dX8_laysCome_114 fw_RX8_30 rfl rfl (kMod_0 h_r0_1) (rMod_0_14 h_r0_1) ?_
    refine a_iload_n dX8_laysCome_117 rfl rfl ?_
    refine a_dup2 dX8_laysCome_118 rfl rfl ?_
    obtain ⟨q119_0, h⟩ := h
    refine b_iald dX8_laysCome_119 (kMod_7 h_r0_1) (nMod_7 h_r0_1) q119_0 ?_
    refine a_iconst dX8_laysCome_120 ⟨by decide, by decide⟩ ?_
    obtain ⟨q121_0, h⟩ := h
    refine a_iadd dX8_laysCome_121 q121_0 ?_
    refine b_iast dX8_laysCome_122 (kMod_7 h_r0_1) (nMod_7 h_r0_1) q119_0 ?_
    have h_r0_2 := Lay.wr h_r0_1 ok_Mod (nrf_arr (kMod_7 h_r0_1) (by decide) (by decide)) (i := x1) (x := ((hg H1 (a0 + 7) x1) + 1))
    generalize e_H2 : hs H1 (a0 + 7) x1 ((hg H1 (a0 + 7) x1) + 1) = H2 at h_r0_2 ⊢
    replace h := h H2 e_H2.symm
    obtain ⟨q123_0, h⟩ := h
    refine a_iinc dX8_laysCome_123 rfl (Nat.le_of_ble_eq_true rfl) (by decide) q123_0 (ls' := [vR a0, vI x1, vI (x2 + 1), vI x3]) rfl ?_
    refine a_goto dX8_laysCome_126 (tgt := 9) rfl ?_
    exact a_weak (wk_e (wk_e (wk_e (wk_u wk_n)))) h
  · replace h := h.2 c41
    refine a_aload_n dX8_laysCome_44 rfl rfl ?_
    refine a_aload_n dX8_laysCome_45 rfl rfl ?_
    refine a_getR dX8_laysCome_46 fw_RX8_33 rfl rfl (kMod_0 h_r0) (rMod_0_15 h_r0) ?_
    refine a_bipush dX8_laysCome_49 (by decide) ?_
    refine a_iload_n dX8_laysCome_51 rfl rfl ?_
    obtain ⟨q52_0, h⟩ := h
    refine a_imul dX8_laysCome_52 q52_0 ?_
    refine a_iload_n dX8_laysCome_53 rfl rfl ?_
    obtain ⟨q54_0, h⟩ := h
    refine a_iadd dX8_laysCome_54 q54_0 ?_
    refine a_iconst dX8_laysCome_55 ⟨by decide, by decide⟩ ?_
    obtain ⟨q56_0, h⟩ := h
    refine a_isub dX8_laysCome_56 q56_0 ?_
    obtain ⟨q57_0, h⟩ := h
    refine b_iald dX8_laysCome_57 (kMod_8 h_r0) (nMod_8 h_r0) q57_0 ?_
    refine a_iconst dX8_laysCome_58 ⟨by decide, by decide⟩ ?_
    obtain ⟨q59_0, h⟩ := h
    refine a_callV dX8_laysCome_59 cw_X8_laysCome_59 (as := [vI (hg H (a0 + 8) (((24 * x1) + x3) - 1)), vI 3]) rfl rfl (kMod_0 h_r0) (Nat.le_refl _) (Nat.le_of_ble_eq_true rfl) (nocov rfl) (Nat.le_of_ble_eq_true rfl) (Nat.le_of_ble_eq_true rfl) (CL.mono (c_of h_r0 ⟨q59_0.1, q59_0.2, by decide, by decide⟩) (fun r9 H9 h9 => ?_))
    rw [h9.1, h9.2]
    show AW l G mX8_laysCome (d + 1) 0 0 Q 62 [vR a0, vI x1, vI x2, vI x3] [vI (ofM (rowM H a0) (hg H (a0 + 8) (((24 * x1) + x3) - 1)) 3)] 0 0 H
    refine a_aload_n dX8_laysCome_62 rfl rfl ?_
    refine a_iload_n dX8_laysCome_63 rfl rfl ?_
    refine a_iconst dX8_laysCome_64 ⟨by decide, by decide⟩ ?_
    obtain ⟨q65_0, h⟩ := h
    refine a_callV dX8_laysCome_65 cw_X8_laysCome_65 (as := [vI x2, vI 3]) rfl rfl (kMod_0 h_r0) (Nat.le_refl _) (Nat.le_of_ble_eq_true rfl) (nocov rfl) (Nat.le_of_ble_eq_true rfl) (Nat.le_of_ble_eq_true rfl) (CL.mono (c_of h_r0 ⟨q65_0.1, q65_0.2, by decide, by decide⟩) (fun r9 H9 h9 => ?_))
    rw [h9.1, h9.2]
    show AW l G mX8_laysCome (d + 1) 0 0 Q 68 [vR a0, vI x1, vI x2, vI x3] [vI (ofM (rowM H a0) x2 3), vI (ofM (rowM H a0) (hg H (a0 + 8) (((24 * x1) + x3) - 1)) 3)] 0 0 H
    refine a_icmp_le dX8_laysCome_68 (tgt := 101) rfl (fun c68 => ?_) (fun c68 => ?_)
    · replace h := h.1 c68
      refine a_aload_n dX8_laysCome_101 rfl rfl ?_
      refine a_getR dX8_laysCome_102 fw_RX8_33 rfl rfl (kMod_0 h_r0) (rMod_0_15 h_r0) ?_
      refine a_bipush dX8_laysCome_105 (by decide) ?_
      refine a_iload_n dX8_laysCome_107 rfl rfl ?_
      refine a_imul dX8_laysCome_108 q52_0 ?_
      refine a_iload_n dX8_laysCome_109 rfl rfl ?_
      refine a_iadd dX8_laysCome_110 q54_0 ?_
      refine a_iload_n dX8_laysCome_111 rfl rfl ?_
      obtain ⟨q112_0, h⟩ := h
      refine b_iast dX8_laysCome_112 (kMod_8 h_r0) (nMod_8 h_r0) q112_0 ?_
      have h_r0_1 := Lay.wr h_r0 ok_Mod (nrf_arr (kMod_8 h_r0) (by decide) (by decide)) (i := ((24 * x1) + x3)) (x := x2)
      generalize e_H1 : hs H (a0 + 8) ((24 * x1) + x3) x2 = H1 at h_r0_1 ⊢
      replace h := h H1 e_H1.symm
      refine a_aload_n dX8_laysCome_113 rfl rfl ?_
      refine a_getR dX8_laysCome_114 fw_RX8_30 rfl rfl (kMod_0 h_r0_1) (rMod_0_14 h_r0_1) ?_
      refine a_iload_n dX8_laysCome_117 rfl rfl ?_
      refine a_dup2 dX8_laysCome_118 rfl rfl ?_
      obtain ⟨q119_0, h⟩ := h
      refine b_iald dX8_laysCome_119 (kMod_7 h_r0_1) (nMod_7 h_r0_1) q119_0 ?_
      refine a_iconst dX8_laysCome_120 ⟨by decide, by decide⟩ ?_
      obtain ⟨q121_0, h⟩ := h
      refine a_iadd dX8_laysCome_121 q121_0 ?_
      refine b_iast dX8_laysCome_122 (kMod_7 h_r0_1) (nMod_7 h_r0_1) q119_0 ?_
      have h_r0_2 := Lay.wr h_r0_1 ok_Mod (nrf_arr (kMod_7 h_r0_1) (by decide) (by decide)) (i := x1) (x := ((hg H1 (a0 + 7) x1) + 1))
      generalize e_H2 : hs H1 (a0 + 7) x1 ((hg H1 (a0 + 7) x1) + 1) = H2 at h_r0_2 ⊢
      replace h := h H2 e_H2.symm
      obtain ⟨q123_0, h⟩ := h
      refine a_iinc dX8_laysCome_123 rfl (Nat.le_of_ble_eq_true rfl) (by decide) q123_0 (ls' := [vR a0, vI x1, vI (x2 + 1), vI x3]) rfl ?_
      refine a_goto dX8_laysCome_126 (tgt := 9) rfl ?_
      exact a_weak (wk_e (wk_e (wk_e (wk_u wk_n)))) h
    · replace h := h.2 c68
      refine a_aload_n dX8_laysCome_71 rfl rfl ?_
      refine a_getR dX8_laysCome_72 fw_RX8_33 rfl rfl (kMod_0 h_r0) (rMod_0_15 h_r0) ?_
      refine a_bipush dX8_laysCome_75 (by decide) ?_
      refine a_iload_n dX8_laysCome_77 rfl rfl ?_
      refine a_imul dX8_laysCome_78 q52_0 ?_
      refine a_iload_n dX8_laysCome_79 rfl rfl ?_
      refine a_iadd dX8_laysCome_80 q54_0 ?_
      refine a_aload_n dX8_laysCome_81 rfl rfl ?_
      refine a_getR dX8_laysCome_82 fw_RX8_33 rfl rfl (kMod_0 h_r0) (rMod_0_15 h_r0) ?_
      refine a_bipush dX8_laysCome_85 (by decide) ?_
      refine a_iload_n dX8_laysCome_87 rfl rfl ?_
      refine a_imul dX8_laysCome_88 q52_0 ?_
      refine a_iload_n dX8_laysCome_89 rfl rfl ?_
      refine a_iadd dX8_laysCome_90 q54_0 ?_
      refine a_iconst dX8_laysCome_91 ⟨by decide, by decide⟩ ?_
      refine a_isub dX8_laysCome_92 q56_0 ?_
      refine b_iald dX8_laysCome_93 (kMod_8 h_r0) (nMod_8 h_r0) q57_0 ?_
      obtain ⟨q94_0, h⟩ := h
      refine b_iast dX8_laysCome_94 (kMod_8 h_r0) (nMod_8 h_r0) q94_0 ?_
      have h_r0_1 := Lay.wr h_r0 ok_Mod (nrf_arr (kMod_8 h_r0) (by decide) (by decide)) (i := ((24 * x1) + x3)) (x := (hg H (a0 + 8) (((24 * x1) + x3) - 1)))
      generalize e_H1 : hs H (a0 + 8) ((24 * x1) + x3) (hg H (a0 + 8) (((24 * x1) + x3) - 1)) = H1 at h_r0_1 ⊢
      replace h := h H1 e_H1.symm
      obtain ⟨q95_0, h⟩ := h
      refine a_iinc dX8_laysCome_95 rfl (Nat.le_of_ble_eq_true rfl) (by decide) q95_0 (ls' := [vR a0, vI x1, vI x2, vI (x3 + (-1))]) rfl ?_
      refine a_goto dX8_laysCome_98 (tgt := 40) rfl ?_
      exact h


theorem dX8_laysBase_0 : decode cX8_laysBase 0 = .ok (.iconst 0, 1) := by decide +kernel
theorem dX8_laysBase_1 : decode cX8_laysBase 1 = .ok (.istore_n 2, 1) := by decide +kernel
theorem dX8_laysBase_2 : decode cX8_laysBase 2 = .ok (.iload_n 2, 1) := by decide +kernel
theorem dX8_laysBase_3 : decode cX8_laysBase 3 = .ok (.aload_n 0, 1) := by decide +kernel
theorem dX8_laysBase_4 : decode cX8_laysBase 4 = .ok (.getfield 30, 3) := by decide +kernel
theorem dX8_laysBase_7 : decode cX8_laysBase 7 = .ok (.iload_n 1, 1) := by decide +kernel
theorem dX8_laysBase_8 : decode cX8_laysBase 8 = .ok (.iaload, 1) := by decide +kernel
theorem dX8_laysBase_9 : decode cX8_laysBase 9 = .ok (.if_icmp .ge 112, 3) := by decide +kernel
theorem dX8_laysBase_12 : decode cX8_laysBase 12 = .ok (.aload_n 0, 1) := by decide +kernel
theorem dX8_laysBase_13 : decode cX8_laysBase 13 = .ok (.getfield 33, 3) := by decide +kernel
theorem dX8_laysBase_16 : decode cX8_laysBase 16 = .ok (.bipush 24, 2) := by decide +kernel
theorem dX8_laysBase_18 : decode cX8_laysBase 18 = .ok (.iload_n 1, 1) := by decide +kernel
theorem dX8_laysBase_19 : decode cX8_laysBase 19 = .ok (.imul, 1) := by decide +kernel
theorem dX8_laysBase_20 : decode cX8_laysBase 20 = .ok (.iload_n 2, 1) := by decide +kernel
theorem dX8_laysBase_21 : decode cX8_laysBase 21 = .ok (.iadd, 1) := by decide +kernel
theorem dX8_laysBase_22 : decode cX8_laysBase 22 = .ok (.iaload, 1) := by decide +kernel
theorem dX8_laysBase_23 : decode cX8_laysBase 23 = .ok (.istore_n 3, 1) := by decide +kernel
theorem dX8_laysBase_24 : decode cX8_laysBase 24 = .ok (.aload_n 0, 1) := by decide +kernel
theorem dX8_laysBase_25 : decode cX8_laysBase 25 = .ok (.getfield 9, 3) := by decide +kernel
theorem dX8_laysBase_28 : decode cX8_laysBase 28 = .ok (.iconst 0, 1) := by decide +kernel
theorem dX8_laysBase_29 : decode cX8_laysBase 29 = .ok (.iaload, 1) := by decide +kernel
theorem dX8_laysBase_30 : decode cX8_laysBase 30 = .ok (.aload_n 0, 1) := by decide +kernel
theorem dX8_laysBase_31 : decode cX8_laysBase 31 = .ok (.iload_n 3, 1) := by decide +kernel
theorem dX8_laysBase_32 : decode cX8_laysBase 32 = .ok (.iconst 2, 1) := by decide +kernel
theorem dX8_laysBase_33 : decode cX8_laysBase 33 = .ok (.invokevirtual 75, 3) := by decide +kernel
theorem dX8_laysBase_36 : decode cX8_laysBase 36 = .ok (.invokestatic 213, 3) := by decide +kernel
theorem dX8_laysBase_39 : decode cX8_laysBase 39 = .ok (.istore 4, 2) := by decide +kernel
theorem dX8_laysBase_41 : decode cX8_laysBase 41 = .ok (.iconst 0, 1) := by decide +kernel
theorem dX8_laysBase_42 : decode cX8_laysBase 42 = .ok (.istore 5, 2) := by decide +kernel
theorem dX8_laysBase_44 : decode cX8_laysBase 44 = .ok (.iload 5, 2) := by decide +kernel
theorem dX8_laysBase_46 : decode cX8_laysBase 46 = .ok (.aload_n 0, 1) := by decide +kernel
theorem dX8_laysBase_47 : decode cX8_laysBase 47 = .ok (.getfield 9, 3) := by decide +kernel
theorem dX8_laysBase_50 : decode cX8_laysBase 50 = .ok (.bipush 6, 2) := by decide +kernel
theorem dX8_laysBase_52 : decode cX8_laysBase 52 = .ok (.iaload, 1) := by decide +kernel
theorem dX8_laysBase_53 : decode cX8_laysBase 53 = .ok (.if_icmp .ge 54, 3) := by decide +kernel
theorem dX8_laysBase_56 : decode cX8_laysBase 56 = .ok (.aload_n 0, 1) := by decide +kernel
theorem dX8_laysBase_57 : decode cX8_laysBase 57 = .ok (.iload 5, 2) := by decide +kernel
theorem dX8_laysBase_59 : decode cX8_laysBase 59 = .ok (.iconst 1, 1) := by decide +kernel
theorem dX8_laysBase_60 : decode cX8_laysBase 60 = .ok (.iload_n 1, 1) := by decide +kernel
theorem dX8_laysBase_61 : decode cX8_laysBase 61 = .ok (.invokevirtual 210, 3) := by decide +kernel
theorem dX8_laysBase_64 : decode cX8_laysBase 64 = .ok (.ifCond .ne 14, 3) := by decide +kernel
theorem dX8_laysBase_67 : decode cX8_laysBase 67 = .ok (.aload_n 0, 1) := by decide +kernel
theorem dX8_laysBase_68 : decode cX8_laysBase 68 = .ok (.iload 5, 2) := by decide +kernel
theorem dX8_laysBase_70 : decode cX8_laysBase 70 = .ok (.iconst 2, 1) := by decide +kernel
theorem dX8_laysBase_71 : decode cX8_laysBase 71 = .ok (.iload_n 1, 1) := by decide +kernel
theorem dX8_laysBase_72 : decode cX8_laysBase 72 = .ok (.invokevirtual 210, 3) := by decide +kernel
theorem dX8_laysBase_75 : decode cX8_laysBase 75 = .ok (.ifCond .eq 26, 3) := by decide +kernel
theorem dX8_laysBase_78 : decode cX8_laysBase 78 = .ok (.iload 4, 2) := by decide +kernel
theorem dX8_laysBase_80 : decode cX8_laysBase 80 = .ok (.aload_n 0, 1) := by decide +kernel
theorem dX8_laysBase_81 : decode cX8_laysBase 81 = .ok (.iload 5, 2) := by decide +kernel
theorem dX8_laysBase_83 : decode cX8_laysBase 83 = .ok (.bipush 8, 2) := by decide +kernel
theorem dX8_laysBase_85 : decode cX8_laysBase 85 = .ok (.invokevirtual 75, 3) := by decide +kernel
theorem dX8_laysBase_88 : decode cX8_laysBase 88 = .ok (.aload_n 0, 1) := by decide +kernel
theorem dX8_laysBase_89 : decode cX8_laysBase 89 = .ok (.iload 5, 2) := by decide +kernel
theorem dX8_laysBase_91 : decode cX8_laysBase 91 = .ok (.iload_n 3, 1) := by decide +kernel
theorem dX8_laysBase_92 : decode cX8_laysBase 92 = .ok (.invokevirtual 207, 3) := by decide +kernel
theorem dX8_laysBase_95 : decode cX8_laysBase 95 = .ok (.iadd, 1) := by decide +kernel
theorem dX8_laysBase_96 : decode cX8_laysBase 96 = .ok (.invokestatic 213, 3) := by decide +kernel
theorem dX8_laysBase_99 : decode cX8_laysBase 99 = .ok (.istore 4, 2) := by decide +kernel
theorem dX8_laysBase_101 : decode cX8_laysBase 101 = .ok (.iinc 5 1, 3) := by decide +kernel
theorem dX8_laysBase_104 : decode cX8_laysBase 104 = .ok (.goto (-60), 3) := by decide +kernel
theorem dX8_laysBase_107 : decode cX8_laysBase 107 = .ok (.aload_n 0, 1) := by decide +kernel
theorem dX8_laysBase_108 : decode cX8_laysBase 108 = .ok (.getfield 42, 3) := by decide +kernel
theorem dX8_laysBase_111 : decode cX8_laysBase 111 = .ok (.iload_n 3, 1) := by decide +kernel
theorem dX8_laysBase_112 : decode cX8_laysBase 112 = .ok (.iload 4, 2) := by decide +kernel
theorem dX8_laysBase_114 : decode cX8_laysBase 114 = .ok (.iastore, 1) := by decide +kernel
theorem dX8_laysBase_115 : decode cX8_laysBase 115 = .ok (.iinc 2 1, 3) := by decide +kernel
theorem dX8_laysBase_118 : decode cX8_laysBase 118 = .ok (.goto (-116), 3) := by decide +kernel
theorem dX8_laysBase_121 : decode cX8_laysBase 121 = .ok (.return_, 1) := by decide +kernel
set_option maxRecDepth 20000 in
theorem s_X8_laysBase_0 {l : Launch} {G : GT} {d : Nat} {Q : AV → AH → Prop} {H : AH} {a0 x1 : Int} (h_r0 : Lay LMod H a0) (h : AW l G mX8_laysBase (d + 1) 0 0 Q 2 [vR a0, vI x1, vI 0, vU, vU, vU] [] 0 0 H) (hd : 2 ≤ d := by omega) : AW l G mX8_laysBase (d + 1) 0 0 Q 0 [vR a0, vI x1, vU, vU, vU, vU] [] 0 0 H := by
  refine a_iconst dX8_laysBase_0 ⟨by decide, by decide⟩ ?_
  refine a_istore_n dX8_laysBase_1 rfl (Nat.le_of_ble_eq_true rfl) (ls' := [vR a0, vI x1, vI 0, vU, vU, vU]) rfl ?_
  exact h

set_option maxRecDepth 20000 in
theorem s_X8_laysBase_2 {l : Launch} {G : GT} {d : Nat} {Q : AV → AH → Prop} {H : AH} {a0 x1 x2 : Int} (h_r0 : Lay LMod H a0) (h : (0 ≤ x1 ∧ x1 < 3) ∧ ((hg H (a0 + 7) x1) ≤ x2 → Q vV H) ∧ (x2 < (hg H (a0 + 7) x1) → (-2147483648 ≤ 24 * x1 ∧ 24 * x1 ≤ 2147483647) ∧ (-2147483648 ≤ (24 * x1) + x2 ∧ (24 * x1) + x2 ≤ 2147483647) ∧ (0 ≤ ((24 * x1) + x2) ∧ ((24 * x1) + x2) < 72) ∧ (0 ≤ (hg H (a0 + 8) ((24 * x1) + x2)) ∧ (hg H (a0 + 8) ((24 * x1) + x2)) < 24) ∧ AW l G mX8_laysBase (d + 1) 0 0 Q 44 [vR a0, vI x1, vI x2, vI (hg H (a0 + 8) ((24 * x1) + x2)), vI (max (rowM H a0 0) (ofM (rowM H a0) (hg H (a0 + 8) ((24 * x1) + x2)) 2)), vI 0] [] 0 0 H)) (hd : 2 ≤ d := by omega) : AW l G mX8_laysBase (d + 1) 0 0 Q 2 [vR a0, vI x1, vI x2, vU, vU, vU] [] 0 0 H := by
  refine a_iload_n dX8_laysBase_2 rfl rfl ?_
  refine a_aload_n dX8_laysBase_3 rfl rfl ?_
  refine a_getR dX8_laysBase_4 fw_RX8_30 rfl rfl (kMod_0 h_r0) (rMod_0_14 h_r0) ?_
  refine a_iload_n dX8_laysBase_7 rfl rfl ?_
  obtain ⟨q8_0, h⟩ := h
  refine b_iald dX8_laysBase_8 (kMod_7 h_r0) (nMod_7 h_r0) q8_0 ?_
  refine a_icmp_ge dX8_laysBase_9 (tgt := 121) rfl (fun c9 => ?_) (fun c9 => ?_)
  · replace h := h.1 c9
    exact a_vret dX8_laysBase_121 rfl (Nat.le_of_ble_eq_true rfl) (Nat.le_of_ble_eq_true rfl) h
  · replace h := h.2 c9
    refine a_aload_n dX8_laysBase_12 rfl rfl ?_
    refine a_getR dX8_laysBase_13 fw_RX8_33 rfl rfl (kMod_0 h_r0) (rMod_0_15 h_r0) ?_
    refine a_bipush dX8_laysBase_16 (by decide) ?_
    refine a_iload_n dX8_laysBase_18 rfl rfl ?_
    obtain ⟨q19_0, h⟩ := h
    refine a_imul dX8_laysBase_19 q19_0 ?_
    refine a_iload_n dX8_laysBase_20 rfl rfl ?_
    obtain ⟨q21_0, h⟩ := h
    refine a_iadd dX8_laysBase_21 q21_0 ?_
    obtain ⟨q22_0, h⟩ := h
    refine b_iald dX8_laysBase_22 (kMod_8 h_r0) (nMod_8 h_r0) q22_0 ?_
    refine a_istore_n dX8_laysBase_23 rfl (Nat.le_of_ble_eq_true rfl) (ls' := [vR a0, vI x1, vI x2, vI (hg H (a0 + 8) ((24 * x1) + x2)), vU, vU]) rfl ?_
    refine a_aload_n dX8_laysBase_24 rfl rfl ?_
    refine a_getR dX8_laysBase_25 fw_RX8_9 rfl rfl (kMod_0 h_r0) (rMod_0_0 h_r0) ?_
    refine a_iconst dX8_laysBase_28 ⟨by decide, by decide⟩ ?_
    refine b_iald dX8_laysBase_29 (kMod_1 h_r0) (nMod_1 h_r0) (⟨by decide, by decide⟩) ?_
    refine a_aload_n dX8_laysBase_30 rfl rfl ?_
    refine a_iload_n dX8_laysBase_31 rfl rfl ?_
    refine a_iconst dX8_laysBase_32 ⟨by decide, by decide⟩ ?_
    obtain ⟨q33_0, h⟩ := h
    refine a_callV dX8_laysBase_33 cw_X8_laysBase_33 (as := [vI (hg H (a0 + 8) ((24 * x1) + x2)), vI 2]) rfl rfl (kMod_0 h_r0) (Nat.le_refl _) (Nat.le_of_ble_eq_true rfl) (nocov rfl) (Nat.le_of_ble_eq_true rfl) (Nat.le_of_ble_eq_true rfl) (CL.mono (c_of h_r0 ⟨q33_0.1, q33_0.2, by decide, by decide⟩) (fun r9 H9 h9 => ?_))
    rw [h9.1, h9.2]
    show AW l G mX8_laysBase (d + 1) 0 0 Q 36 [vR a0, vI x1, vI x2, vI (hg H (a0 + 8) ((24 * x1) + x2)), vU, vU] [vI (ofM (rowM H a0) (hg H (a0 + 8) ((24 * x1) + x2)) 2), vI (rowM H a0 0)] 0 0 H
    refine a_mmax dX8_laysBase_36 cw_X8_laysBase_36 (Nat.le_of_ble_eq_true rfl) (Nat.le_of_ble_eq_true rfl) (Nat.le_of_ble_eq_true rfl) ?_
    refine a_istore dX8_laysBase_39 (Nat.le_of_ble_eq_true rfl) (ls' := [vR a0, vI x1, vI x2, vI (hg H (a0 + 8) ((24 * x1) + x2)), vI (max (rowM H a0 0) (ofM (rowM H a0) (hg H (a0 + 8) ((24 * x1) + x2)) 2)), vU]) rfl ?_
    refine a_iconst dX8_laysBase_41 ⟨by decide, by decide⟩ ?_
    refine a_istore dX8_laysBase_42 (Nat.le_of_ble_eq_true rfl) (ls' := [vR a0, vI x1, vI x2, vI (hg H (a0 + 8) ((24 * x1) + x2)), vI (max (rowM H a0 0) (ofM (rowM H a0) (hg H (a0 + 8) ((24 * x1) + x2)) 2)), vI 0]) rfl ?_
    exact h

set_option maxRecDepth 20000 in
theorem s_X8_laysBase_44 {l : Launch} {G : GT} {d : Nat} {Q : AV → AH → Prop} {H : AH} {a0 x1 x2 x3 x4 x5 : Int} (h_r0 : Lay LMod H a0) (h : ((rowM H a0 6) ≤ x5 → (0 ≤ x3 ∧ x3 < 24) ∧ ∀ H1 : AH, H1 = hs H (a0 + 11) x3 x4 → (-2147483648 ≤ x2 + 1 ∧ x2 + 1 ≤ 2147483647) ∧ AW l G mX8_laysBase (d + 1) 0 0 Q 2 [vR a0, vI x1, vI (x2 + 1), vU, vU, vU] [] 0 0 H1) ∧ (x5 < (rowM H a0 6) → (0 ≤ x5 ∧ x5 < 24) ∧ (ofM (rowM H a0) x5 7 = 1 ∧ ofM (rowM H a0) x5 6 = x1 → (0 ≤ x3 ∧ x3 < 24) ∧ (0 ≤ ofM (rowM H a0) x5 1 ∧ ofM (rowM H a0) x5 1 ≤ 3) ∧ (0 ≤ ofM (rowM H a0) x3 1 ∧ ofM (rowM H a0) x3 1 ≤ 3) ∧ (-2147483648 ≤ (ofM (rowM H a0) x5 8) + (apartM (rowM H a0) x5 x3) ∧ (ofM (rowM H a0) x5 8) + (apartM (rowM H a0) x5 x3) ≤ 2147483647) ∧ (-2147483648 ≤ x5 + 1 ∧ x5 + 1 ≤ 2147483647) ∧ AW l G mX8_laysBase (d + 1) 0 0 Q 44 [vR a0, vI x1, vI x2, vI x3, vI (max x4 ((ofM (rowM H a0) x5 8) + (apartM (rowM H a0) x5 x3))), vI (x5 + 1)] [] 0 0 H) ∧ (¬ (ofM (rowM H a0) x5 7 = 1 ∧ ofM (rowM H a0) x5 6 = x1) → (¬ (ofM (rowM H a0) x5 7 = 2 ∧ ofM (rowM H a0) x5 6 = x1) → (-2147483648 ≤ x5 + 1 ∧ x5 + 1 ≤ 2147483647) ∧ AW l G mX8_laysBase (d + 1) 0 0 Q 44 [vR a0, vI x1, vI x2, vI x3, vI x4, vI (x5 + 1)] [] 0 0 H) ∧ (ofM (rowM H a0) x5 7 = 2 ∧ ofM (rowM H a0) x5 6 = x1 → (0 ≤ x3 ∧ x3 < 24) ∧ (0 ≤ ofM (rowM H a0) x5 1 ∧ ofM (rowM H a0) x5 1 ≤ 3) ∧ (0 ≤ ofM (rowM H a0) x3 1 ∧ ofM (rowM H a0) x3 1 ≤ 3) ∧ (-2147483648 ≤ (ofM (rowM H a0) x5 8) + (apartM (rowM H a0) x5 x3) ∧ (ofM (rowM H a0) x5 8) + (apartM (rowM H a0) x5 x3) ≤ 2147483647) ∧ (-2147483648 ≤ x5 + 1 ∧ x5 + 1 ≤ 2147483647) ∧ AW l G mX8_laysBase (d + 1) 0 0 Q 44 [vR a0, vI x1, vI x2, vI x3, vI (max x4 ((ofM (rowM H a0) x5 8) + (apartM (rowM H a0) x5 x3))), vI (x5 + 1)] [] 0 0 H)))) (hd : 2 ≤ d := by omega) : AW l G mX8_laysBase (d + 1) 0 0 Q 44 [vR a0, vI x1, vI x2, vI x3, vI x4, vI x5] [] 0 0 H := by
  refine a_iload dX8_laysBase_44 rfl ?_
  refine a_aload_n dX8_laysBase_46 rfl rfl ?_
  refine a_getR dX8_laysBase_47 fw_RX8_9 rfl rfl (kMod_0 h_r0) (rMod_0_0 h_r0) ?_
  refine a_bipush dX8_laysBase_50 (by decide) ?_
  refine b_iald dX8_laysBase_52 (kMod_1 h_r0) (nMod_1 h_r0) (⟨by decide, by decide⟩) ?_
  refine a_icmp_ge dX8_laysBase_53 (tgt := 107) rfl (fun c53 => ?_) (fun c53 => ?_)
  · replace h := h.1 c53
    refine a_aload_n dX8_laysBase_107 rfl rfl ?_
    refine a_getR dX8_laysBase_108 fw_RX8_42 rfl rfl (kMod_0 h_r0) (rMod_0_18 h_r0) ?_
    refine a_iload_n dX8_laysBase_111 rfl rfl ?_
    refine a_iload dX8_laysBase_112 rfl ?_
    obtain ⟨q114_0, h⟩ := h
    refine b_iast dX8_laysBase_114 (kMod_11 h_r0) (nMod_11 h_r0) q114_0 ?_
    have h_r0_1 := Lay.wr h_r0 ok_Mod (nrf_arr (kMod_11 h_r0) (by decide) (by decide)) (i := x3) (x := x4)
    generalize e_H1 : hs H (a0 + 11) x3 x4 = H1 at h_r0_1 ⊢
    replace h := h H1 e_H1.symm
    obtain ⟨q115_0, h⟩ := h
    refine a_iinc dX8_laysBase_115 rfl (Nat.le_of_ble_eq_true rfl) (by decide) q115_0 (ls' := [vR a0, vI x1, vI (x2 + 1), vI x3, vI x4, vI x5]) rfl ?_
    refine a_goto dX8_laysBase_118 (tgt := 2) rfl ?_
    exact a_weak (wk_e (wk_e (wk_e (wk_u (wk_u (wk_u wk_n)))))) h
  · replace h := h.2 c53
    refine a_aload_n dX8_laysBase_56 rfl rfl ?_
    refine a_iload dX8_laysBase_57 rfl ?_
    refine a_iconst dX8_laysBase_59 ⟨by decide, by decide⟩ ?_
    refine a_iload_n dX8_laysBase_60 rfl rfl ?_
    obtain ⟨q61_0, h⟩ := h
    refine a_callV dX8_laysBase_61 cw_X8_laysBase_61 (as := [vI x5, vI 1, vI x1]) rfl rfl (kMod_0 h_r0) (Nat.le_refl _) (Nat.le_of_ble_eq_true rfl) (nocov rfl) (Nat.le_of_ble_eq_true rfl) (Nat.le_of_ble_eq_true rfl) (CL.mono (c_isOn h_r0 q61_0) (fun r9 H9 h9 => ?_))
    rw [h9.1, h9.2]
    show AW l G mX8_laysBase (d + 1) 0 0 Q 64 [vR a0, vI x1, vI x2, vI x3, vI x4, vI x5] [vI (bi (decide (ofM (rowM H a0) x5 7 = 1 ∧ ofM (rowM H a0) x5 6 = x1)))] 0 0 H
    refine a_if_ne dX8_laysBase_64 (tgt := 78) rfl (fun c64 => ?_) (fun c64 => ?_)
    · replace h := h.1 (bi_1 c64)
      refine a_iload dX8_laysBase_78 rfl ?_
      refine a_aload_n dX8_laysBase_80 rfl rfl ?_
      refine a_iload dX8_laysBase_81 rfl ?_
      refine a_bipush dX8_laysBase_83 (by decide) ?_
      refine a_callV dX8_laysBase_85 cw_X8_laysBase_85 (as := [vI x5, vI 8]) rfl rfl (kMod_0 h_r0) (Nat.le_refl _) (Nat.le_of_ble_eq_true rfl) (nocov rfl) (Nat.le_of_ble_eq_true rfl) (Nat.le_of_ble_eq_true rfl) (CL.mono (c_of h_r0 ⟨q61_0.1, q61_0.2, by decide, by decide⟩) (fun r9 H9 h9 => ?_))
      rw [h9.1, h9.2]
      show AW l G mX8_laysBase (d + 1) 0 0 Q 88 [vR a0, vI x1, vI x2, vI x3, vI x4, vI x5] [vI (ofM (rowM H a0) x5 8), vI x4] 0 0 H
      refine a_aload_n dX8_laysBase_88 rfl rfl ?_
      refine a_iload dX8_laysBase_89 rfl ?_
      refine a_iload_n dX8_laysBase_91 rfl rfl ?_
      obtain ⟨q92_1, h⟩ := h
      obtain ⟨q92_2, h⟩ := h
      obtain ⟨q92_3, h⟩ := h
      refine a_callV dX8_laysBase_92 cw_X8_laysBase_92 (as := [vI x5, vI x3]) rfl rfl (kMod_0 h_r0) (Nat.le_refl _) (Nat.le_of_ble_eq_true rfl) (nocov rfl) (Nat.le_of_ble_eq_true rfl) (Nat.le_of_ble_eq_true rfl) (CL.mono (c_apart h_r0 q61_0 q92_1 q92_2 q92_3) (fun r9 H9 h9 => ?_))
      rw [h9.1, h9.2]
      show AW l G mX8_laysBase (d + 1) 0 0 Q 95 [vR a0, vI x1, vI x2, vI x3, vI x4, vI x5] [vI (apartM (rowM H a0) x5 x3), vI (ofM (rowM H a0) x5 8), vI x4] 0 0 H
      obtain ⟨q95_0, h⟩ := h
      refine a_iadd dX8_laysBase_95 q95_0 ?_
      refine a_mmax dX8_laysBase_96 cw_X8_laysBase_96 (Nat.le_of_ble_eq_true rfl) (Nat.le_of_ble_eq_true rfl) (Nat.le_of_ble_eq_true rfl) ?_
      refine a_istore dX8_laysBase_99 (Nat.le_of_ble_eq_true rfl) (ls' := [vR a0, vI x1, vI x2, vI x3, vI (max x4 ((ofM (rowM H a0) x5 8) + (apartM (rowM H a0) x5 x3))), vI x5]) rfl ?_
      obtain ⟨q101_0, h⟩ := h
      refine a_iinc dX8_laysBase_101 rfl (Nat.le_of_ble_eq_true rfl) (by decide) q101_0 (ls' := [vR a0, vI x1, vI x2, vI x3, vI (max x4 ((ofM (rowM H a0) x5 8) + (apartM (rowM H a0) x5 x3))), vI (x5 + 1)]) rfl ?_
      refine a_goto dX8_laysBase_104 (tgt := 44) rfl ?_
      exact h
    · replace h := h.2 (bi_0 c64)
      refine a_aload_n dX8_laysBase_67 rfl rfl ?_
      refine a_iload dX8_laysBase_68 rfl ?_
      refine a_iconst dX8_laysBase_70 ⟨by decide, by decide⟩ ?_
      refine a_iload_n dX8_laysBase_71 rfl rfl ?_
      refine a_callV dX8_laysBase_72 cw_X8_laysBase_72 (as := [vI x5, vI 2, vI x1]) rfl rfl (kMod_0 h_r0) (Nat.le_refl _) (Nat.le_of_ble_eq_true rfl) (nocov rfl) (Nat.le_of_ble_eq_true rfl) (Nat.le_of_ble_eq_true rfl) (CL.mono (c_isOn h_r0 q61_0) (fun r9 H9 h9 => ?_))
      rw [h9.1, h9.2]
      show AW l G mX8_laysBase (d + 1) 0 0 Q 75 [vR a0, vI x1, vI x2, vI x3, vI x4, vI x5] [vI (bi (decide (ofM (rowM H a0) x5 7 = 2 ∧ ofM (rowM H a0) x5 6 = x1)))] 0 0 H
      refine a_if_eq dX8_laysBase_75 (tgt := 101) rfl (fun c75 => ?_) (fun c75 => ?_)
      · replace h := h.1 (bi_0 c75)
        obtain ⟨q101_0, h⟩ := h
        refine a_iinc dX8_laysBase_101 rfl (Nat.le_of_ble_eq_true rfl) (by decide) q101_0 (ls' := [vR a0, vI x1, vI x2, vI x3, vI x4, vI (x5 + 1)]) rfl ?_
        refine a_goto dX8_laysBase_104 (tgt := 44) rfl ?_
        exact h
      · replace h := h.2 (bi_1 c75)
        refine a_iload dX8_laysBase_78 rfl ?_
        refine a_aload_n dX8_laysBase_80 rfl rfl ?_
        refine a_iload dX8_laysBase_81 rfl ?_
        refine a_bipush dX8_laysBase_83 (by decide) ?_
        refine a_callV dX8_laysBase_85 cw_X8_laysBase_85 (as := [vI x5, vI 8]) rfl rfl (kMod_0 h_r0) (Nat.le_refl _) (Nat.le_of_ble_eq_true rfl) (nocov rfl) (Nat.le_of_ble_eq_true rfl) (Nat.le_of_ble_eq_true rfl) (CL.mono (c_of h_r0 ⟨q61_0.1, q61_0.2, by decide, by decide⟩) (fun r9 H9 h9 => ?_))
        rw [h9.1, h9.2]
        show AW l G mX8_laysBase (d + 1) 0 0 Q 88 [vR a0, vI x1, vI x2, vI x3, vI x4, vI x5] [vI (ofM (rowM H a0) x5 8), vI x4] 0 0 H
        refine a_aload_n dX8_laysBase_88 rfl rfl ?_
        refine a_iload dX8_laysBase_89 rfl ?_
        refine a_iload_n dX8_laysBase_91 rfl rfl ?_
        obtain ⟨q92_1, h⟩ := h
        obtain ⟨q92_2, h⟩ := h
        obtain ⟨q92_3, h⟩ := h
        refine a_callV dX8_laysBase_92 cw_X8_laysBase_92 (as := [vI x5, vI x3]) rfl rfl (kMod_0 h_r0) (Nat.le_refl _) (Nat.le_of_ble_eq_true rfl) (nocov rfl) (Nat.le_of_ble_eq_true rfl) (Nat.le_of_ble_eq_true rfl) (CL.mono (c_apart h_r0 q61_0 q92_1 q92_2 q92_3) (fun r9 H9 h9 => ?_))
        rw [h9.1, h9.2]
        show AW l G mX8_laysBase (d + 1) 0 0 Q 95 [vR a0, vI x1, vI x2, vI x3, vI x4, vI x5] [vI (apartM (rowM H a0) x5 x3), vI (ofM (rowM H a0) x5 8), vI x4] 0 0 H
        obtain ⟨q95_0, h⟩ := h
        refine a_iadd dX8_laysBase_95 q95_0 ?_
        refine a_mmax dX8_laysBase_96 cw_X8_laysBase_96 (Nat.le_of_ble_eq_true rfl) (Nat.le_of_ble_eq_true rfl) (Nat.le_of_ble_eq_true rfl) ?_
        refine a_istore dX8_laysBase_99 (Nat.le_of_ble_eq_true rfl) (ls' := [vR a0, vI x1, vI x2, vI x3, vI (max x4 ((ofM (rowM H a0) x5 8) + (apartM (rowM H a0) x5 x3))), vI x5]) rfl ?_
        obtain ⟨q101_0, h⟩ := h
        refine a_iinc dX8_laysBase_101 rfl (Nat.le_of_ble_eq_true rfl) (by decide) q101_0 (ls' := [vR a0, vI x1, vI x2, vI x3, vI (max x4 ((ofM (rowM H a0) x5 8) + (apartM (rowM H a0) x5 x3))), vI (x5 + 1)]) rfl ?_
        refine a_goto dX8_laysBase_104 (tgt := 44) rfl ?_
        exact h


theorem dX8_timeAt_0 : decode cX8_timeAt 0 = .ok (.aload_n 0, 1) := by decide +kernel
theorem dX8_timeAt_1 : decode cX8_timeAt 1 = .ok (.getfield 42, 3) := by decide +kernel
theorem dX8_timeAt_4 : decode cX8_timeAt 4 = .ok (.iload_n 1, 1) := by decide +kernel
theorem dX8_timeAt_5 : decode cX8_timeAt 5 = .ok (.iaload, 1) := by decide +kernel
theorem dX8_timeAt_6 : decode cX8_timeAt 6 = .ok (.istore_n 3, 1) := by decide +kernel
theorem dX8_timeAt_7 : decode cX8_timeAt 7 = .ok (.iconst 0, 1) := by decide +kernel
theorem dX8_timeAt_8 : decode cX8_timeAt 8 = .ok (.istore 4, 2) := by decide +kernel
theorem dX8_timeAt_10 : decode cX8_timeAt 10 = .ok (.iload 4, 2) := by decide +kernel
theorem dX8_timeAt_12 : decode cX8_timeAt 12 = .ok (.iload_n 2, 1) := by decide +kernel
theorem dX8_timeAt_13 : decode cX8_timeAt 13 = .ok (.if_icmp .ge 34, 3) := by decide +kernel
theorem dX8_timeAt_16 : decode cX8_timeAt 16 = .ok (.iload_n 3, 1) := by decide +kernel
theorem dX8_timeAt_17 : decode cX8_timeAt 17 = .ok (.aload_n 0, 1) := by decide +kernel
theorem dX8_timeAt_18 : decode cX8_timeAt 18 = .ok (.getfield 48, 3) := by decide +kernel
theorem dX8_timeAt_21 : decode cX8_timeAt 21 = .ok (.iload 4, 2) := by decide +kernel
theorem dX8_timeAt_23 : decode cX8_timeAt 23 = .ok (.iaload, 1) := by decide +kernel
theorem dX8_timeAt_24 : decode cX8_timeAt 24 = .ok (.aload_n 0, 1) := by decide +kernel
theorem dX8_timeAt_25 : decode cX8_timeAt 25 = .ok (.aload_n 0, 1) := by decide +kernel
theorem dX8_timeAt_26 : decode cX8_timeAt 26 = .ok (.getfield 45, 3) := by decide +kernel
theorem dX8_timeAt_29 : decode cX8_timeAt 29 = .ok (.iload 4, 2) := by decide +kernel
theorem dX8_timeAt_31 : decode cX8_timeAt 31 = .ok (.iaload, 1) := by decide +kernel
theorem dX8_timeAt_32 : decode cX8_timeAt 32 = .ok (.iload_n 1, 1) := by decide +kernel
theorem dX8_timeAt_33 : decode cX8_timeAt 33 = .ok (.invokevirtual 207, 3) := by decide +kernel
theorem dX8_timeAt_36 : decode cX8_timeAt 36 = .ok (.iadd, 1) := by decide +kernel
theorem dX8_timeAt_37 : decode cX8_timeAt 37 = .ok (.invokestatic 213, 3) := by decide +kernel
theorem dX8_timeAt_40 : decode cX8_timeAt 40 = .ok (.istore_n 3, 1) := by decide +kernel
theorem dX8_timeAt_41 : decode cX8_timeAt 41 = .ok (.iinc 4 1, 3) := by decide +kernel
theorem dX8_timeAt_44 : decode cX8_timeAt 44 = .ok (.goto (-34), 3) := by decide +kernel
theorem dX8_timeAt_47 : decode cX8_timeAt 47 = .ok (.iload_n 3, 1) := by decide +kernel
theorem dX8_timeAt_48 : decode cX8_timeAt 48 = .ok (.ireturn, 1) := by decide +kernel
set_option maxRecDepth 20000 in
theorem s_X8_timeAt_0 {l : Launch} {G : GT} {d : Nat} {Q : AV → AH → Prop} {H : AH} {a0 x1 x2 : Int} (h_r0 : Lay LMod H a0) (h : (0 ≤ x1 ∧ x1 < 24) ∧ AW l G mX8_timeAt (d + 1) 0 0 Q 10 [vR a0, vI x1, vI x2, vI (hg H (a0 + 11) x1), vI 0] [] 0 0 H) (hd : 2 ≤ d := by omega) : AW l G mX8_timeAt (d + 1) 0 0 Q 0 [vR a0, vI x1, vI x2, vU, vU] [] 0 0 H := by
  refine a_aload_n dX8_timeAt_0 rfl rfl ?_
  refine a_getR dX8_timeAt_1 fw_RX8_42 rfl rfl (kMod_0 h_r0) (rMod_0_18 h_r0) ?_
  refine a_iload_n dX8_timeAt_4 rfl rfl ?_
  obtain ⟨q5_0, h⟩ := h
  refine b_iald dX8_timeAt_5 (kMod_11 h_r0) (nMod_11 h_r0) q5_0 ?_
  refine a_istore_n dX8_timeAt_6 rfl (Nat.le_of_ble_eq_true rfl) (ls' := [vR a0, vI x1, vI x2, vI (hg H (a0 + 11) x1), vU]) rfl ?_
  refine a_iconst dX8_timeAt_7 ⟨by decide, by decide⟩ ?_
  refine a_istore dX8_timeAt_8 (Nat.le_of_ble_eq_true rfl) (ls' := [vR a0, vI x1, vI x2, vI (hg H (a0 + 11) x1), vI 0]) rfl ?_
  exact h

set_option maxRecDepth 20000 in
theorem s_X8_timeAt_10 {l : Launch} {G : GT} {d : Nat} {Q : AV → AH → Prop} {H : AH} {a0 x1 x2 x3 x4 : Int} (h_r0 : Lay LMod H a0) (h : (x2 ≤ x4 → Q (vI x3) H) ∧ (x4 < x2 → (0 ≤ x4 ∧ x4 < 24) ∧ (0 ≤ (hg H (a0 + 12) x4) ∧ (hg H (a0 + 12) x4) < 24) ∧ (0 ≤ x1 ∧ x1 < 24) ∧ (0 ≤ ofM (rowM H a0) (hg H (a0 + 12) x4) 1 ∧ ofM (rowM H a0) (hg H (a0 + 12) x4) 1 ≤ 3) ∧ (0 ≤ ofM (rowM H a0) x1 1 ∧ ofM (rowM H a0) x1 1 ≤ 3) ∧ (-2147483648 ≤ (hg H (a0 + 13) x4) + (apartM (rowM H a0) (hg H (a0 + 12) x4) x1) ∧ (hg H (a0 + 13) x4) + (apartM (rowM H a0) (hg H (a0 + 12) x4) x1) ≤ 2147483647) ∧ (-2147483648 ≤ x4 + 1 ∧ x4 + 1 ≤ 2147483647) ∧ AW l G mX8_timeAt (d + 1) 0 0 Q 10 [vR a0, vI x1, vI x2, vI (max x3 ((hg H (a0 + 13) x4) + (apartM (rowM H a0) (hg H (a0 + 12) x4) x1))), vI (x4 + 1)] [] 0 0 H)) (hd : 2 ≤ d := by omega) : AW l G mX8_timeAt (d + 1) 0 0 Q 10 [vR a0, vI x1, vI x2, vI x3, vI x4] [] 0 0 H := by
  refine a_iload dX8_timeAt_10 rfl ?_
  refine a_iload_n dX8_timeAt_12 rfl rfl ?_
  refine a_icmp_ge dX8_timeAt_13 (tgt := 47) rfl (fun c13 => ?_) (fun c13 => ?_)
  · replace h := h.1 c13
    refine a_iload_n dX8_timeAt_47 rfl rfl ?_
    exact a_iret dX8_timeAt_48 rfl (Nat.le_of_ble_eq_true rfl) (Nat.le_of_ble_eq_true rfl) h
  · replace h := h.2 c13
    refine a_iload_n dX8_timeAt_16 rfl rfl ?_
    refine a_aload_n dX8_timeAt_17 rfl rfl ?_
    refine a_getR dX8_timeAt_18 fw_RX8_48 rfl rfl (kMod_0 h_r0) (rMod_0_20 h_r0) ?_
    refine a_iload dX8_timeAt_21 rfl ?_
    obtain ⟨q23_0, h⟩ := h
    refine b_iald dX8_timeAt_23 (kMod_13 h_r0) (nMod_13 h_r0) q23_0 ?_
    refine a_aload_n dX8_timeAt_24 rfl rfl ?_
    refine a_aload_n dX8_timeAt_25 rfl rfl ?_
    refine a_getR dX8_timeAt_26 fw_RX8_45 rfl rfl (kMod_0 h_r0) (rMod_0_19 h_r0) ?_
    refine a_iload dX8_timeAt_29 rfl ?_
    refine b_iald dX8_timeAt_31 (kMod_12 h_r0) (nMod_12 h_r0) q23_0 ?_
    refine a_iload_n dX8_timeAt_32 rfl rfl ?_
    obtain ⟨q33_0, h⟩ := h
    obtain ⟨q33_1, h⟩ := h
    obtain ⟨q33_2, h⟩ := h
    obtain ⟨q33_3, h⟩ := h
    refine a_callV dX8_timeAt_33 cw_X8_timeAt_33 (as := [vI (hg H (a0 + 12) x4), vI x1]) rfl rfl (kMod_0 h_r0) (Nat.le_refl _) (Nat.le_of_ble_eq_true rfl) (nocov rfl) (Nat.le_of_ble_eq_true rfl) (Nat.le_of_ble_eq_true rfl) (CL.mono (c_apart h_r0 q33_0 q33_1 q33_2 q33_3) (fun r9 H9 h9 => ?_))
    rw [h9.1, h9.2]
    show AW l G mX8_timeAt (d + 1) 0 0 Q 36 [vR a0, vI x1, vI x2, vI x3, vI x4] [vI (apartM (rowM H a0) (hg H (a0 + 12) x4) x1), vI (hg H (a0 + 13) x4), vI x3] 0 0 H
    obtain ⟨q36_0, h⟩ := h
    refine a_iadd dX8_timeAt_36 q36_0 ?_
    refine a_mmax dX8_timeAt_37 cw_X8_timeAt_37 (Nat.le_of_ble_eq_true rfl) (Nat.le_of_ble_eq_true rfl) (Nat.le_of_ble_eq_true rfl) ?_
    refine a_istore_n dX8_timeAt_40 rfl (Nat.le_of_ble_eq_true rfl) (ls' := [vR a0, vI x1, vI x2, vI (max x3 ((hg H (a0 + 13) x4) + (apartM (rowM H a0) (hg H (a0 + 12) x4) x1))), vI x4]) rfl ?_
    obtain ⟨q41_0, h⟩ := h
    refine a_iinc dX8_timeAt_41 rfl (Nat.le_of_ble_eq_true rfl) (by decide) q41_0 (ls' := [vR a0, vI x1, vI x2, vI (max x3 ((hg H (a0 + 13) x4) + (apartM (rowM H a0) (hg H (a0 + 12) x4) x1))), vI (x4 + 1)]) rfl ?_
    refine a_goto dX8_timeAt_44 (tgt := 10) rfl ?_
    exact h


theorem dX8_nextAt_0 : decode cX8_nextAt 0 = .ok (.iconst (-1), 1) := by decide +kernel
theorem dX8_nextAt_1 : decode cX8_nextAt 1 = .ok (.istore 5, 2) := by decide +kernel
theorem dX8_nextAt_3 : decode cX8_nextAt 3 = .ok (.iconst 0, 1) := by decide +kernel
theorem dX8_nextAt_4 : decode cX8_nextAt 4 = .ok (.istore 6, 2) := by decide +kernel
theorem dX8_nextAt_6 : decode cX8_nextAt 6 = .ok (.iload 6, 2) := by decide +kernel
theorem dX8_nextAt_8 : decode cX8_nextAt 8 = .ok (.aload_n 0, 1) := by decide +kernel
theorem dX8_nextAt_9 : decode cX8_nextAt 9 = .ok (.getfield 30, 3) := by decide +kernel
theorem dX8_nextAt_12 : decode cX8_nextAt 12 = .ok (.iload_n 1, 1) := by decide +kernel
theorem dX8_nextAt_13 : decode cX8_nextAt 13 = .ok (.iaload, 1) := by decide +kernel
theorem dX8_nextAt_14 : decode cX8_nextAt 14 = .ok (.invokestatic 218, 3) := by decide +kernel
theorem dX8_nextAt_17 : decode cX8_nextAt 17 = .ok (.if_icmp .ge 94, 3) := by decide +kernel
theorem dX8_nextAt_20 : decode cX8_nextAt 20 = .ok (.aload_n 0, 1) := by decide +kernel
theorem dX8_nextAt_21 : decode cX8_nextAt 21 = .ok (.getfield 33, 3) := by decide +kernel
theorem dX8_nextAt_24 : decode cX8_nextAt 24 = .ok (.bipush 24, 2) := by decide +kernel
theorem dX8_nextAt_26 : decode cX8_nextAt 26 = .ok (.iload_n 1, 1) := by decide +kernel
theorem dX8_nextAt_27 : decode cX8_nextAt 27 = .ok (.imul, 1) := by decide +kernel
theorem dX8_nextAt_28 : decode cX8_nextAt 28 = .ok (.iload 6, 2) := by decide +kernel
theorem dX8_nextAt_30 : decode cX8_nextAt 30 = .ok (.iadd, 1) := by decide +kernel
theorem dX8_nextAt_31 : decode cX8_nextAt 31 = .ok (.iaload, 1) := by decide +kernel
theorem dX8_nextAt_32 : decode cX8_nextAt 32 = .ok (.istore 7, 2) := by decide +kernel
theorem dX8_nextAt_34 : decode cX8_nextAt 34 = .ok (.iload_n 3, 1) := by decide +kernel
theorem dX8_nextAt_35 : decode cX8_nextAt 35 = .ok (.iload 6, 2) := by decide +kernel
theorem dX8_nextAt_37 : decode cX8_nextAt 37 = .ok (.ishr, 1) := by decide +kernel
theorem dX8_nextAt_38 : decode cX8_nextAt 38 = .ok (.iconst 1, 1) := by decide +kernel
theorem dX8_nextAt_39 : decode cX8_nextAt 39 = .ok (.iand, 1) := by decide +kernel
theorem dX8_nextAt_40 : decode cX8_nextAt 40 = .ok (.ifCond .ne 30, 3) := by decide +kernel
theorem dX8_nextAt_43 : decode cX8_nextAt 43 = .ok (.iload 6, 2) := by decide +kernel
theorem dX8_nextAt_45 : decode cX8_nextAt 45 = .ok (.iload_n 2, 1) := by decide +kernel
theorem dX8_nextAt_46 : decode cX8_nextAt 46 = .ok (.isub, 1) := by decide +kernel
theorem dX8_nextAt_47 : decode cX8_nextAt 47 = .ok (.invokestatic 222, 3) := by decide +kernel
theorem dX8_nextAt_50 : decode cX8_nextAt 50 = .ok (.aload_n 0, 1) := by decide +kernel
theorem dX8_nextAt_51 : decode cX8_nextAt 51 = .ok (.getfield 9, 3) := by decide +kernel
theorem dX8_nextAt_54 : decode cX8_nextAt 54 = .ok (.iconst 1, 1) := by decide +kernel
theorem dX8_nextAt_55 : decode cX8_nextAt 55 = .ok (.iaload, 1) := by decide +kernel
theorem dX8_nextAt_56 : decode cX8_nextAt 56 = .ok (.if_icmp .gt 14, 3) := by decide +kernel
theorem dX8_nextAt_59 : decode cX8_nextAt 59 = .ok (.iload 7, 2) := by decide +kernel
theorem dX8_nextAt_61 : decode cX8_nextAt 61 = .ok (.iload 4, 2) := by decide +kernel
theorem dX8_nextAt_63 : decode cX8_nextAt 63 = .ok (.if_icmp .le 7, 3) := by decide +kernel
theorem dX8_nextAt_66 : decode cX8_nextAt 66 = .ok (.iconst 1, 1) := by decide +kernel
theorem dX8_nextAt_67 : decode cX8_nextAt 67 = .ok (.goto 4, 3) := by decide +kernel
theorem dX8_nextAt_70 : decode cX8_nextAt 70 = .ok (.iconst 0, 1) := by decide +kernel
theorem dX8_nextAt_71 : decode cX8_nextAt 71 = .ok (.istore 8, 2) := by decide +kernel
theorem dX8_nextAt_73 : decode cX8_nextAt 73 = .ok (.iload 8, 2) := by decide +kernel
theorem dX8_nextAt_75 : decode cX8_nextAt 75 = .ok (.ifCond .eq 30, 3) := by decide +kernel
theorem dX8_nextAt_78 : decode cX8_nextAt 78 = .ok (.iload 5, 2) := by decide +kernel
theorem dX8_nextAt_80 : decode cX8_nextAt 80 = .ok (.iconst (-1), 1) := by decide +kernel
theorem dX8_nextAt_81 : decode cX8_nextAt 81 = .ok (.if_icmp .eq 20, 3) := by decide +kernel
theorem dX8_nextAt_84 : decode cX8_nextAt 84 = .ok (.iload 7, 2) := by decide +kernel
theorem dX8_nextAt_86 : decode cX8_nextAt 86 = .ok (.aload_n 0, 1) := by decide +kernel
theorem dX8_nextAt_87 : decode cX8_nextAt 87 = .ok (.getfield 33, 3) := by decide +kernel
theorem dX8_nextAt_90 : decode cX8_nextAt 90 = .ok (.bipush 24, 2) := by decide +kernel
theorem dX8_nextAt_92 : decode cX8_nextAt 92 = .ok (.iload_n 1, 1) := by decide +kernel
theorem dX8_nextAt_93 : decode cX8_nextAt 93 = .ok (.imul, 1) := by decide +kernel
theorem dX8_nextAt_94 : decode cX8_nextAt 94 = .ok (.iload 5, 2) := by decide +kernel
theorem dX8_nextAt_96 : decode cX8_nextAt 96 = .ok (.iadd, 1) := by decide +kernel
theorem dX8_nextAt_97 : decode cX8_nextAt 97 = .ok (.iaload, 1) := by decide +kernel
theorem dX8_nextAt_98 : decode cX8_nextAt 98 = .ok (.if_icmp .ge 7, 3) := by decide +kernel
theorem dX8_nextAt_101 : decode cX8_nextAt 101 = .ok (.iload 6, 2) := by decide +kernel
theorem dX8_nextAt_103 : decode cX8_nextAt 103 = .ok (.istore 5, 2) := by decide +kernel
theorem dX8_nextAt_105 : decode cX8_nextAt 105 = .ok (.iinc 6 1, 3) := by decide +kernel
theorem dX8_nextAt_108 : decode cX8_nextAt 108 = .ok (.goto (-102), 3) := by decide +kernel
theorem dX8_nextAt_111 : decode cX8_nextAt 111 = .ok (.iload 5, 2) := by decide +kernel
theorem dX8_nextAt_113 : decode cX8_nextAt 113 = .ok (.ireturn, 1) := by decide +kernel
set_option maxRecDepth 20000 in
theorem s_X8_nextAt_0 {l : Launch} {G : GT} {d : Nat} {Q : AV → AH → Prop} {H : AH} {a0 x1 x2 x3 x4 : Int} (h_r0 : Lay LMod H a0) (h : AW l G mX8_nextAt (d + 1) 0 0 Q 6 [vR a0, vI x1, vI x2, vI x3, vI x4, vI (-1), vI 0, vU, vU] [] 0 0 H) (hd : 1 ≤ d := by omega) : AW l G mX8_nextAt (d + 1) 0 0 Q 0 [vR a0, vI x1, vI x2, vI x3, vI x4, vU, vU, vU, vU] [] 0 0 H := by
  refine a_iconst dX8_nextAt_0 ⟨by decide, by decide⟩ ?_
  refine a_istore dX8_nextAt_1 (Nat.le_of_ble_eq_true rfl) (ls' := [vR a0, vI x1, vI x2, vI x3, vI x4, vI (-1), vU, vU, vU]) rfl ?_
  refine a_iconst dX8_nextAt_3 ⟨by decide, by decide⟩ ?_
  refine a_istore dX8_nextAt_4 (Nat.le_of_ble_eq_true rfl) (ls' := [vR a0, vI x1, vI x2, vI x3, vI x4, vI (-1), vI 0, vU, vU]) rfl ?_
  exact h

set_option maxRecDepth 20000 in
theorem s_X8_nextAt_6 {l : Launch} {G : GT} {d : Nat} {Q : AV → AH → Prop} {H : AH} {a0 x1 x2 x3 x4 x5 x6 : Int} (h_r0 : Lay LMod H a0) (h : (0 ≤ x1 ∧ x1 < 3) ∧ ((min 7 (hg H (a0 + 7) x1)) ≤ x6 → Q (vI x5) H) ∧ (x6 < (min 7 (hg H (a0 + 7) x1)) → (-2147483648 ≤ 24 * x1 ∧ 24 * x1 ≤ 2147483647) ∧ (-2147483648 ≤ (24 * x1) + x6 ∧ (24 * x1) + x6 ≤ 2147483647) ∧ (0 ≤ ((24 * x1) + x6) ∧ ((24 * x1) + x6) < 72) ∧ (0 ≤ x6 ∧ x6 ≤ 31) ∧ (¬ ((shr x3 x6) % 2) = 0 → (-2147483648 ≤ x6 + 1 ∧ x6 + 1 ≤ 2147483647) ∧ AW l G mX8_nextAt (d + 1) 0 0 Q 6 [vR a0, vI x1, vI x2, vI x3, vI x4, vI x5, vI (x6 + 1), vU, vU] [] 0 0 H) ∧ (((shr x3 x6) % 2) = 0 → (-2147483648 ≤ x6 - x2 ∧ x6 - x2 ≤ 2147483647) ∧ (-1000000 ≤ (x6 - x2) ∧ (x6 - x2) ≤ 1000000) ∧ ((rowM H a0 1) < (ab (x6 - x2)) → (-2147483648 ≤ x6 + 1 ∧ x6 + 1 ≤ 2147483647) ∧ AW l G mX8_nextAt (d + 1) 0 0 Q 6 [vR a0, vI x1, vI x2, vI x3, vI x4, vI x5, vI (x6 + 1), vU, vU] [] 0 0 H) ∧ ((ab (x6 - x2)) ≤ (rowM H a0 1) → ((hg H (a0 + 8) ((24 * x1) + x6)) ≤ x4 → (-2147483648 ≤ x6 + 1 ∧ x6 + 1 ≤ 2147483647) ∧ AW l G mX8_nextAt (d + 1) 0 0 Q 6 [vR a0, vI x1, vI x2, vI x3, vI x4, vI x5, vI (x6 + 1), vU, vU] [] 0 0 H) ∧ (x4 < (hg H (a0 + 8) ((24 * x1) + x6)) → (x5 = (-1) → (-2147483648 ≤ x6 + 1 ∧ x6 + 1 ≤ 2147483647) ∧ AW l G mX8_nextAt (d + 1) 0 0 Q 6 [vR a0, vI x1, vI x2, vI x3, vI x4, vI x6, vI (x6 + 1), vU, vU] [] 0 0 H) ∧ (¬ x5 = (-1) → (-2147483648 ≤ (24 * x1) + x5 ∧ (24 * x1) + x5 ≤ 2147483647) ∧ (0 ≤ ((24 * x1) + x5) ∧ ((24 * x1) + x5) < 72) ∧ ((hg H (a0 + 8) ((24 * x1) + x5)) ≤ (hg H (a0 + 8) ((24 * x1) + x6)) → (-2147483648 ≤ x6 + 1 ∧ x6 + 1 ≤ 2147483647) ∧ AW l G mX8_nextAt (d + 1) 0 0 Q 6 [vR a0, vI x1, vI x2, vI x3, vI x4, vI x5, vI (x6 + 1), vU, vU] [] 0 0 H) ∧ ((hg H (a0 + 8) ((24 * x1) + x6)) < (hg H (a0 + 8) ((24 * x1) + x5)) → (-2147483648 ≤ x6 + 1 ∧ x6 + 1 ≤ 2147483647) ∧ AW l G mX8_nextAt (d + 1) 0 0 Q 6 [vR a0, vI x1, vI x2, vI x3, vI x4, vI x6, vI (x6 + 1), vU, vU] [] 0 0 H))))))) (hd : 1 ≤ d := by omega) : AW l G mX8_nextAt (d + 1) 0 0 Q 6 [vR a0, vI x1, vI x2, vI x3, vI x4, vI x5, vI x6, vU, vU] [] 0 0 H := by
  refine a_iload dX8_nextAt_6 rfl ?_
  refine a_aload_n dX8_nextAt_8 rfl rfl ?_
  refine a_getR dX8_nextAt_9 fw_RX8_30 rfl rfl (kMod_0 h_r0) (rMod_0_14 h_r0) ?_
  refine a_iload_n dX8_nextAt_12 rfl rfl ?_
  obtain ⟨q13_0, h⟩ := h
  refine b_iald dX8_nextAt_13 (kMod_7 h_r0) (nMod_7 h_r0) q13_0 ?_
  refine a_callS dX8_nextAt_14 cw_X8_nextAt_14 (as := [vI (hg H (a0 + 7) x1)]) rfl rfl (Nat.le_refl _) (Nat.le_of_ble_eq_true rfl) (nocov rfl) (Nat.le_of_ble_eq_true rfl) (Nat.le_of_ble_eq_true rfl) (CL.mono (c_windowOf  ) (fun r9 H9 h9 => ?_))
  rw [h9.1, h9.2]
  show AW l G mX8_nextAt (d + 1) 0 0 Q 17 [vR a0, vI x1, vI x2, vI x3, vI x4, vI x5, vI x6, vU, vU] [vI (min 7 (hg H (a0 + 7) x1)), vI x6] 0 0 H
  refine a_icmp_ge dX8_nextAt_17 (tgt := 111) rfl (fun c17 => ?_) (fun c17 => ?_)
  · replace h := h.1 c17
    refine a_iload dX8_nextAt_111 rfl ?_
    exact a_iret dX8_nextAt_113 rfl (Nat.le_of_ble_eq_true rfl) (Nat.le_of_ble_eq_true rfl) h
  · replace h := h.2 c17
    refine a_aload_n dX8_nextAt_20 rfl rfl ?_
    refine a_getR dX8_nextAt_21 fw_RX8_33 rfl rfl (kMod_0 h_r0) (rMod_0_15 h_r0) ?_
    refine a_bipush dX8_nextAt_24 (by decide) ?_
    refine a_iload_n dX8_nextAt_26 rfl rfl ?_
    obtain ⟨q27_0, h⟩ := h
    refine a_imul dX8_nextAt_27 q27_0 ?_
    refine a_iload dX8_nextAt_28 rfl ?_
    obtain ⟨q30_0, h⟩ := h
    refine a_iadd dX8_nextAt_30 q30_0 ?_
    obtain ⟨q31_0, h⟩ := h
    refine b_iald dX8_nextAt_31 (kMod_8 h_r0) (nMod_8 h_r0) q31_0 ?_
    refine a_istore dX8_nextAt_32 (Nat.le_of_ble_eq_true rfl) (ls' := [vR a0, vI x1, vI x2, vI x3, vI x4, vI x5, vI x6, vI (hg H (a0 + 8) ((24 * x1) + x6)), vU]) rfl ?_
    refine a_iload_n dX8_nextAt_34 rfl rfl ?_
    refine a_iload dX8_nextAt_35 rfl ?_
    obtain ⟨q37_0, h⟩ := h
    refine a_ishr dX8_nextAt_37 q37_0 ?_
    refine a_iconst dX8_nextAt_38 ⟨by decide, by decide⟩ ?_
    refine a_iand1 dX8_nextAt_39 ?_
    refine a_if_ne dX8_nextAt_40 (tgt := 70) rfl (fun c40 => ?_) (fun c40 => ?_)
    · replace h := h.1 c40
      refine a_iconst dX8_nextAt_70 ⟨by decide, by decide⟩ ?_
      refine a_istore dX8_nextAt_71 (Nat.le_of_ble_eq_true rfl) (ls' := [vR a0, vI x1, vI x2, vI x3, vI x4, vI x5, vI x6, vI (hg H (a0 + 8) ((24 * x1) + x6)), vI 0]) rfl ?_
      refine a_iload dX8_nextAt_73 rfl ?_
      refine a_if_eq dX8_nextAt_75 (tgt := 105) rfl (fun _ => ?_) (fun c9 => absurd (by decide) c9)
      obtain ⟨q105_0, h⟩ := h
      refine a_iinc dX8_nextAt_105 rfl (Nat.le_of_ble_eq_true rfl) (by decide) q105_0 (ls' := [vR a0, vI x1, vI x2, vI x3, vI x4, vI x5, vI (x6 + 1), vI (hg H (a0 + 8) ((24 * x1) + x6)), vI 0]) rfl ?_
      refine a_goto dX8_nextAt_108 (tgt := 6) rfl ?_
      exact a_weak (wk_e (wk_e (wk_e (wk_e (wk_e (wk_e (wk_e (wk_u (wk_u wk_n))))))))) h
    · replace h := h.2 c40
      refine a_iload dX8_nextAt_43 rfl ?_
      refine a_iload_n dX8_nextAt_45 rfl rfl ?_
      obtain ⟨q46_0, h⟩ := h
      refine a_isub dX8_nextAt_46 q46_0 ?_
      obtain ⟨q47_0, h⟩ := h
      refine a_mabs dX8_nextAt_47 cw_X8_nextAt_47 q47_0 (Nat.le_of_ble_eq_true rfl) (Nat.le_of_ble_eq_true rfl) (Nat.le_of_ble_eq_true rfl) ?_
      refine a_aload_n dX8_nextAt_50 rfl rfl ?_
      refine a_getR dX8_nextAt_51 fw_RX8_9 rfl rfl (kMod_0 h_r0) (rMod_0_0 h_r0) ?_
      refine a_iconst dX8_nextAt_54 ⟨by decide, by decide⟩ ?_
      refine b_iald dX8_nextAt_55 (kMod_1 h_r0) (nMod_1 h_r0) (⟨by decide, by decide⟩) ?_
      refine a_icmp_gt dX8_nextAt_56 (tgt := 70) rfl (fun c56 => ?_) (fun c56 => ?_)
      · replace h := h.1 c56
        refine a_iconst dX8_nextAt_70 ⟨by decide, by decide⟩ ?_
        refine a_istore dX8_nextAt_71 (Nat.le_of_ble_eq_true rfl) (ls' := [vR a0, vI x1, vI x2, vI x3, vI x4, vI x5, vI x6, vI (hg H (a0 + 8) ((24 * x1) + x6)), vI 0]) rfl ?_
        refine a_iload dX8_nextAt_73 rfl ?_
        refine a_if_eq dX8_nextAt_75 (tgt := 105) rfl (fun _ => ?_) (fun c9 => absurd (by decide) c9)
        obtain ⟨q105_0, h⟩ := h
        refine a_iinc dX8_nextAt_105 rfl (Nat.le_of_ble_eq_true rfl) (by decide) q105_0 (ls' := [vR a0, vI x1, vI x2, vI x3, vI x4, vI x5, vI (x6 + 1), vI (hg H (a0 + 8) ((24 * x1) + x6)), vI 0]) rfl ?_
        refine a_goto dX8_nextAt_108 (tgt := 6) rfl ?_
        exact a_weak (wk_e (wk_e (wk_e (wk_e (wk_e (wk_e (wk_e (wk_u (wk_u wk_n))))))))) h
      · replace h := h.2 c56
        refine a_iload dX8_nextAt_59 rfl ?_
        refine a_iload dX8_nextAt_61 rfl ?_
        refine a_icmp_le dX8_nextAt_63 (tgt := 70) rfl (fun c63 => ?_) (fun c63 => ?_)
        · replace h := h.1 c63
          refine a_iconst dX8_nextAt_70 ⟨by decide, by decide⟩ ?_
          refine a_istore dX8_nextAt_71 (Nat.le_of_ble_eq_true rfl) (ls' := [vR a0, vI x1, vI x2, vI x3, vI x4, vI x5, vI x6, vI (hg H (a0 + 8) ((24 * x1) + x6)), vI 0]) rfl ?_
          refine a_iload dX8_nextAt_73 rfl ?_
          refine a_if_eq dX8_nextAt_75 (tgt := 105) rfl (fun _ => ?_) (fun c9 => absurd (by decide) c9)
          obtain ⟨q105_0, h⟩ := h
          refine a_iinc dX8_nextAt_105 rfl (Nat.le_of_ble_eq_true rfl) (by decide) q105_0 (ls' := [vR a0, vI x1, vI x2, vI x3, vI x4, vI x5, vI (x6 + 1), vI (hg H (a0 + 8) ((24 * x1) + x6)), vI 0]) rfl ?_
          refine a_goto dX8_nextAt_108 (tgt := 6) rfl ?_
          exact a_weak (wk_e (wk_e (wk_e (wk_e (wk_e (wk_e (wk_e (wk_u (wk_u wk_n))))))))) h
        · replace h := h.2 c63
          refine a_iconst dX8_nextAt_66 ⟨by decide, by decide⟩ ?_
          refine a_goto dX8_nextAt_67 (tgt := 71) rfl ?_
          refine a_istore dX8_nextAt_71 (Nat.le_of_ble_eq_true rfl) (ls' := [vR a0, vI x1, vI x2, vI x3, vI x4, vI x5, vI x6, vI (hg H (a0 + 8) ((24 * x1) + x6)), vI 1]) rfl ?_
          refine a_iload dX8_nextAt_73 rfl ?_
          refine a_if_eq dX8_nextAt_75 (tgt := 105) rfl (fun c9 => absurd c9 (by decide)) (fun _ => ?_)
          refine a_iload dX8_nextAt_78 rfl ?_
          refine a_iconst dX8_nextAt_80 ⟨by decide, by decide⟩ ?_
          refine a_icmp_eq dX8_nextAt_81 (tgt := 101) rfl (fun c81 => ?_) (fun c81 => ?_)
          · replace h := h.1 c81
            refine a_iload dX8_nextAt_101 rfl ?_
            refine a_istore dX8_nextAt_103 (Nat.le_of_ble_eq_true rfl) (ls' := [vR a0, vI x1, vI x2, vI x3, vI x4, vI x6, vI x6, vI (hg H (a0 + 8) ((24 * x1) + x6)), vI 1]) rfl ?_
            obtain ⟨q105_0, h⟩ := h
            refine a_iinc dX8_nextAt_105 rfl (Nat.le_of_ble_eq_true rfl) (by decide) q105_0 (ls' := [vR a0, vI x1, vI x2, vI x3, vI x4, vI x6, vI (x6 + 1), vI (hg H (a0 + 8) ((24 * x1) + x6)), vI 1]) rfl ?_
            refine a_goto dX8_nextAt_108 (tgt := 6) rfl ?_
            exact a_weak (wk_e (wk_e (wk_e (wk_e (wk_e (wk_e (wk_e (wk_u (wk_u wk_n))))))))) h
          · replace h := h.2 c81
            refine a_iload dX8_nextAt_84 rfl ?_
            refine a_aload_n dX8_nextAt_86 rfl rfl ?_
            refine a_getR dX8_nextAt_87 fw_RX8_33 rfl rfl (kMod_0 h_r0) (rMod_0_15 h_r0) ?_
            refine a_bipush dX8_nextAt_90 (by decide) ?_
            refine a_iload_n dX8_nextAt_92 rfl rfl ?_
            refine a_imul dX8_nextAt_93 q27_0 ?_
            refine a_iload dX8_nextAt_94 rfl ?_
            obtain ⟨q96_0, h⟩ := h
            refine a_iadd dX8_nextAt_96 q96_0 ?_
            obtain ⟨q97_0, h⟩ := h
            refine b_iald dX8_nextAt_97 (kMod_8 h_r0) (nMod_8 h_r0) q97_0 ?_
            refine a_icmp_ge dX8_nextAt_98 (tgt := 105) rfl (fun c98 => ?_) (fun c98 => ?_)
            · replace h := h.1 c98
              obtain ⟨q105_0, h⟩ := h
              refine a_iinc dX8_nextAt_105 rfl (Nat.le_of_ble_eq_true rfl) (by decide) q105_0 (ls' := [vR a0, vI x1, vI x2, vI x3, vI x4, vI x5, vI (x6 + 1), vI (hg H (a0 + 8) ((24 * x1) + x6)), vI 1]) rfl ?_
              refine a_goto dX8_nextAt_108 (tgt := 6) rfl ?_
              exact a_weak (wk_e (wk_e (wk_e (wk_e (wk_e (wk_e (wk_e (wk_u (wk_u wk_n))))))))) h
            · replace h := h.2 c98
              refine a_iload dX8_nextAt_101 rfl ?_
              refine a_istore dX8_nextAt_103 (Nat.le_of_ble_eq_true rfl) (ls' := [vR a0, vI x1, vI x2, vI x3, vI x4, vI x6, vI x6, vI (hg H (a0 + 8) ((24 * x1) + x6)), vI 1]) rfl ?_
              obtain ⟨q105_0, h⟩ := h
              refine a_iinc dX8_nextAt_105 rfl (Nat.le_of_ble_eq_true rfl) (by decide) q105_0 (ls' := [vR a0, vI x1, vI x2, vI x3, vI x4, vI x6, vI (x6 + 1), vI (hg H (a0 + 8) ((24 * x1) + x6)), vI 1]) rfl ?_
              refine a_goto dX8_nextAt_108 (tgt := 6) rfl ?_
              exact a_weak (wk_e (wk_e (wk_e (wk_e (wk_e (wk_e (wk_e (wk_u (wk_u wk_n))))))))) h


theorem dX8_goes_0 : decode cX8_goes 0 = .ok (.lload 4, 2) := by decide +kernel
theorem dX8_goes_2 : decode cX8_goes 2 = .ok (.aload_n 0, 1) := by decide +kernel
theorem dX8_goes_3 : decode cX8_goes 3 = .ok (.getfield 225, 3) := by decide +kernel
theorem dX8_goes_6 : decode cX8_goes 6 = .ok (.lcmp, 1) := by decide +kernel
theorem dX8_goes_7 : decode cX8_goes 7 = .ok (.ifCond .lt 4, 3) := by decide +kernel
theorem dX8_goes_10 : decode cX8_goes 10 = .ok (.return_, 1) := by decide +kernel
theorem dX8_goes_11 : decode cX8_goes 11 = .ok (.iload_n 2, 1) := by decide +kernel
theorem dX8_goes_12 : decode cX8_goes 12 = .ok (.aload_n 0, 1) := by decide +kernel
theorem dX8_goes_13 : decode cX8_goes 13 = .ok (.getfield 30, 3) := by decide +kernel
theorem dX8_goes_16 : decode cX8_goes 16 = .ok (.iload_n 1, 1) := by decide +kernel
theorem dX8_goes_17 : decode cX8_goes 17 = .ok (.iaload, 1) := by decide +kernel
theorem dX8_goes_18 : decode cX8_goes 18 = .ok (.invokestatic 218, 3) := by decide +kernel
theorem dX8_goes_21 : decode cX8_goes 21 = .ok (.if_icmp .ne 44, 3) := by decide +kernel
theorem dX8_goes_24 : decode cX8_goes 24 = .ok (.aload_n 0, 1) := by decide +kernel
theorem dX8_goes_25 : decode cX8_goes 25 = .ok (.lload 4, 2) := by decide +kernel
theorem dX8_goes_27 : decode cX8_goes 27 = .ok (.putfield 225, 3) := by decide +kernel
theorem dX8_goes_30 : decode cX8_goes 30 = .ok (.iconst 0, 1) := by decide +kernel
theorem dX8_goes_31 : decode cX8_goes 31 = .ok (.istore 6, 2) := by decide +kernel
theorem dX8_goes_33 : decode cX8_goes 33 = .ok (.iload 6, 2) := by decide +kernel
theorem dX8_goes_35 : decode cX8_goes 35 = .ok (.iload_n 2, 1) := by decide +kernel
theorem dX8_goes_36 : decode cX8_goes 36 = .ok (.if_icmp .ge 28, 3) := by decide +kernel
theorem dX8_goes_39 : decode cX8_goes 39 = .ok (.aload_n 0, 1) := by decide +kernel
theorem dX8_goes_40 : decode cX8_goes 40 = .ok (.getfield 36, 3) := by decide +kernel
theorem dX8_goes_43 : decode cX8_goes 43 = .ok (.bipush 24, 2) := by decide +kernel
theorem dX8_goes_45 : decode cX8_goes 45 = .ok (.iload_n 1, 1) := by decide +kernel
theorem dX8_goes_46 : decode cX8_goes 46 = .ok (.imul, 1) := by decide +kernel
theorem dX8_goes_47 : decode cX8_goes 47 = .ok (.iload 6, 2) := by decide +kernel
theorem dX8_goes_49 : decode cX8_goes 49 = .ok (.iadd, 1) := by decide +kernel
theorem dX8_goes_50 : decode cX8_goes 50 = .ok (.aload_n 0, 1) := by decide +kernel
theorem dX8_goes_51 : decode cX8_goes 51 = .ok (.getfield 45, 3) := by decide +kernel
theorem dX8_goes_54 : decode cX8_goes 54 = .ok (.iload 6, 2) := by decide +kernel
theorem dX8_goes_56 : decode cX8_goes 56 = .ok (.iaload, 1) := by decide +kernel
theorem dX8_goes_57 : decode cX8_goes 57 = .ok (.iastore, 1) := by decide +kernel
theorem dX8_goes_58 : decode cX8_goes 58 = .ok (.iinc 6 1, 3) := by decide +kernel
theorem dX8_goes_61 : decode cX8_goes 61 = .ok (.goto (-28), 3) := by decide +kernel
theorem dX8_goes_64 : decode cX8_goes 64 = .ok (.return_, 1) := by decide +kernel
theorem dX8_goes_65 : decode cX8_goes 65 = .ok (.iconst (-1), 1) := by decide +kernel
theorem dX8_goes_66 : decode cX8_goes 66 = .ok (.istore 6, 2) := by decide +kernel
theorem dX8_goes_68 : decode cX8_goes 68 = .ok (.aload_n 0, 1) := by decide +kernel
theorem dX8_goes_69 : decode cX8_goes 69 = .ok (.iload_n 1, 1) := by decide +kernel
theorem dX8_goes_70 : decode cX8_goes 70 = .ok (.iload_n 2, 1) := by decide +kernel
theorem dX8_goes_71 : decode cX8_goes 71 = .ok (.iload_n 3, 1) := by decide +kernel
theorem dX8_goes_72 : decode cX8_goes 72 = .ok (.iload 6, 2) := by decide +kernel
theorem dX8_goes_74 : decode cX8_goes 74 = .ok (.invokevirtual 229, 3) := by decide +kernel
theorem dX8_goes_77 : decode cX8_goes 77 = .ok (.istore 7, 2) := by decide +kernel
theorem dX8_goes_79 : decode cX8_goes 79 = .ok (.iload 7, 2) := by decide +kernel
theorem dX8_goes_81 : decode cX8_goes 81 = .ok (.iconst (-1), 1) := by decide +kernel
theorem dX8_goes_82 : decode cX8_goes 82 = .ok (.if_icmp .eq 81, 3) := by decide +kernel
theorem dX8_goes_85 : decode cX8_goes 85 = .ok (.aload_n 0, 1) := by decide +kernel
theorem dX8_goes_86 : decode cX8_goes 86 = .ok (.getfield 33, 3) := by decide +kernel
theorem dX8_goes_89 : decode cX8_goes 89 = .ok (.bipush 24, 2) := by decide +kernel
theorem dX8_goes_91 : decode cX8_goes 91 = .ok (.iload_n 1, 1) := by decide +kernel
theorem dX8_goes_92 : decode cX8_goes 92 = .ok (.imul, 1) := by decide +kernel
theorem dX8_goes_93 : decode cX8_goes 93 = .ok (.iload 7, 2) := by decide +kernel
theorem dX8_goes_95 : decode cX8_goes 95 = .ok (.iadd, 1) := by decide +kernel
theorem dX8_goes_96 : decode cX8_goes 96 = .ok (.iaload, 1) := by decide +kernel
theorem dX8_goes_97 : decode cX8_goes 97 = .ok (.istore 6, 2) := by decide +kernel
theorem dX8_goes_99 : decode cX8_goes 99 = .ok (.aload_n 0, 1) := by decide +kernel
theorem dX8_goes_100 : decode cX8_goes 100 = .ok (.getfield 45, 3) := by decide +kernel
theorem dX8_goes_103 : decode cX8_goes 103 = .ok (.iload_n 2, 1) := by decide +kernel
theorem dX8_goes_104 : decode cX8_goes 104 = .ok (.iload 6, 2) := by decide +kernel
theorem dX8_goes_106 : decode cX8_goes 106 = .ok (.iastore, 1) := by decide +kernel
theorem dX8_goes_107 : decode cX8_goes 107 = .ok (.aload_n 0, 1) := by decide +kernel
theorem dX8_goes_108 : decode cX8_goes 108 = .ok (.getfield 48, 3) := by decide +kernel
theorem dX8_goes_111 : decode cX8_goes 111 = .ok (.iload_n 2, 1) := by decide +kernel
theorem dX8_goes_112 : decode cX8_goes 112 = .ok (.aload_n 0, 1) := by decide +kernel
theorem dX8_goes_113 : decode cX8_goes 113 = .ok (.iload 6, 2) := by decide +kernel
theorem dX8_goes_115 : decode cX8_goes 115 = .ok (.iload_n 2, 1) := by decide +kernel
theorem dX8_goes_116 : decode cX8_goes 116 = .ok (.invokevirtual 233, 3) := by decide +kernel
theorem dX8_goes_119 : decode cX8_goes 119 = .ok (.iastore, 1) := by decide +kernel
theorem dX8_goes_120 : decode cX8_goes 120 = .ok (.aload_n 0, 1) := by decide +kernel
theorem dX8_goes_121 : decode cX8_goes 121 = .ok (.iload_n 1, 1) := by decide +kernel
theorem dX8_goes_122 : decode cX8_goes 122 = .ok (.iload_n 2, 1) := by decide +kernel
theorem dX8_goes_123 : decode cX8_goes 123 = .ok (.iconst 1, 1) := by decide +kernel
theorem dX8_goes_124 : decode cX8_goes 124 = .ok (.iadd, 1) := by decide +kernel
theorem dX8_goes_125 : decode cX8_goes 125 = .ok (.iload_n 3, 1) := by decide +kernel
theorem dX8_goes_126 : decode cX8_goes 126 = .ok (.iconst 1, 1) := by decide +kernel
theorem dX8_goes_127 : decode cX8_goes 127 = .ok (.iload 7, 2) := by decide +kernel
theorem dX8_goes_129 : decode cX8_goes 129 = .ok (.ishl, 1) := by decide +kernel
theorem dX8_goes_130 : decode cX8_goes 130 = .ok (.ior, 1) := by decide +kernel
theorem dX8_goes_131 : decode cX8_goes 131 = .ok (.lload 4, 2) := by decide +kernel
theorem dX8_goes_133 : decode cX8_goes 133 = .ok (.aload_n 0, 1) := by decide +kernel
theorem dX8_goes_134 : decode cX8_goes 134 = .ok (.iload 6, 2) := by decide +kernel
theorem dX8_goes_136 : decode cX8_goes 136 = .ok (.aload_n 0, 1) := by decide +kernel
theorem dX8_goes_137 : decode cX8_goes 137 = .ok (.getfield 48, 3) := by decide +kernel
theorem dX8_goes_140 : decode cX8_goes 140 = .ok (.iload_n 2, 1) := by decide +kernel
theorem dX8_goes_141 : decode cX8_goes 141 = .ok (.iaload, 1) := by decide +kernel
theorem dX8_goes_142 : decode cX8_goes 142 = .ok (.invokevirtual 236, 3) := by decide +kernel
theorem dX8_goes_145 : decode cX8_goes 145 = .ok (.ladd, 1) := by decide +kernel
theorem dX8_goes_146 : decode cX8_goes 146 = .ok (.invokevirtual 240, 3) := by decide +kernel
theorem dX8_goes_149 : decode cX8_goes 149 = .ok (.aload_n 0, 1) := by decide +kernel
theorem dX8_goes_150 : decode cX8_goes 150 = .ok (.iload_n 1, 1) := by decide +kernel
theorem dX8_goes_151 : decode cX8_goes 151 = .ok (.iload_n 2, 1) := by decide +kernel
theorem dX8_goes_152 : decode cX8_goes 152 = .ok (.iload_n 3, 1) := by decide +kernel
theorem dX8_goes_153 : decode cX8_goes 153 = .ok (.iload 6, 2) := by decide +kernel
theorem dX8_goes_155 : decode cX8_goes 155 = .ok (.invokevirtual 229, 3) := by decide +kernel
theorem dX8_goes_158 : decode cX8_goes 158 = .ok (.istore 7, 2) := by decide +kernel
theorem dX8_goes_160 : decode cX8_goes 160 = .ok (.goto (-81), 3) := by decide +kernel
theorem dX8_goes_163 : decode cX8_goes 163 = .ok (.return_, 1) := by decide +kernel
set_option maxRecDepth 20000 in
theorem s_X8_goes_0 {l : Launch} {G : GT} {d : Nat} {Q : AV → AH → Prop} {H : AH} {a0 x1 x2 x3 x4 : Int} (h_r0 : Lay LMod H a0) (h : (x4 < (hg H a0 21) → (0 ≤ x1 ∧ x1 < 3) ∧ (¬ x2 = (min 7 (hg H (a0 + 7) x1)) → CL l G mX8_nextAt d 0 0 [vR a0, vI x1, vI x2, vI x3, vI (-1)] H (fun r9 H1 => Lay LMod H1 a0 ∧ ∃ y1 : Int, r9 = vI y1 ∧ AW l G mX8_goes (d + 1) 0 0 Q 79 [vR a0, vI x1, vI x2, vI x3, vJ x4, vU, vI (-1), vI y1] [] 0 0 H1)) ∧ (x2 = (min 7 (hg H (a0 + 7) x1)) → ∀ H1 : AH, H1 = hs H a0 21 x4 → AW l G mX8_goes (d + 1) 0 0 Q 33 [vR a0, vI x1, vI x2, vI x3, vJ x4, vU, vI 0, vU] [] 0 0 H1)) ∧ ((hg H a0 21) ≤ x4 → Q vV H)) (hd : 2 ≤ d := by omega) : AW l G mX8_goes (d + 1) 0 0 Q 0 [vR a0, vI x1, vI x2, vI x3, vJ x4, vU, vU, vU] [] 0 0 H := by
  refine a_lload dX8_goes_0 rfl ?_
  refine a_aload_n dX8_goes_2 rfl rfl ?_
  refine a_getJ dX8_goes_3 fw_RX8_225 rfl rfl (kMod_0 h_r0) ?_
  refine a_lcmp_lt dX8_goes_6 dX8_goes_7 (tgt := 11) rfl (fun c6 => ?_) (fun c6 => ?_)
  · replace h := h.1 c6
    refine a_iload_n dX8_goes_11 rfl rfl ?_
    refine a_aload_n dX8_goes_12 rfl rfl ?_
    refine a_getR dX8_goes_13 fw_RX8_30 rfl rfl (kMod_0 h_r0) (rMod_0_14 h_r0) ?_
    refine a_iload_n dX8_goes_16 rfl rfl ?_
    obtain ⟨q17_0, h⟩ := h
    refine b_iald dX8_goes_17 (kMod_7 h_r0) (nMod_7 h_r0) q17_0 ?_
    refine a_callS dX8_goes_18 cw_X8_goes_18 (as := [vI (hg H (a0 + 7) x1)]) rfl rfl (Nat.le_refl _) (Nat.le_of_ble_eq_true rfl) (nocov rfl) (Nat.le_of_ble_eq_true rfl) (Nat.le_of_ble_eq_true rfl) (CL.mono (c_windowOf  ) (fun r9 H9 h9 => ?_))
    rw [h9.1, h9.2]
    show AW l G mX8_goes (d + 1) 0 0 Q 21 [vR a0, vI x1, vI x2, vI x3, vJ x4, vU, vU, vU] [vI (min 7 (hg H (a0 + 7) x1)), vI x2] 0 0 H
    refine a_icmp_ne dX8_goes_21 (tgt := 65) rfl (fun c21 => ?_) (fun c21 => ?_)
    · replace h := h.1 c21
      refine a_iconst dX8_goes_65 ⟨by decide, by decide⟩ ?_
      refine a_istore dX8_goes_66 (Nat.le_of_ble_eq_true rfl) (ls' := [vR a0, vI x1, vI x2, vI x3, vJ x4, vU, vI (-1), vU]) rfl ?_
      refine a_aload_n dX8_goes_68 rfl rfl ?_
      refine a_iload_n dX8_goes_69 rfl rfl ?_
      refine a_iload_n dX8_goes_70 rfl rfl ?_
      refine a_iload_n dX8_goes_71 rfl rfl ?_
      refine a_iload dX8_goes_72 rfl ?_
      refine a_callV dX8_goes_74 cw_X8_goes_74 (as := [vI x1, vI x2, vI x3, vI (-1)]) rfl rfl (kMod_0 h_r0) (Nat.le_refl _) (Nat.le_of_ble_eq_true rfl) (nocov rfl) (Nat.le_of_ble_eq_true rfl) (Nat.le_of_ble_eq_true rfl) (CL.mono h (fun r9 H1 h => ?_))
      obtain ⟨h_r0_1, y1, e9, h⟩ := h
      rw [e9]
      show AW l G mX8_goes (d + 1) 0 0 Q 77 [vR a0, vI x1, vI x2, vI x3, vJ x4, vU, vI (-1), vU] [vI y1] 0 0 H1
      refine a_istore dX8_goes_77 (Nat.le_of_ble_eq_true rfl) (ls' := [vR a0, vI x1, vI x2, vI x3, vJ x4, vU, vI (-1), vI y1]) rfl ?_
      exact h
    · replace h := h.2 c21
      refine a_aload_n dX8_goes_24 rfl rfl ?_
      refine a_lload dX8_goes_25 rfl ?_
      refine a_putJ dX8_goes_27 fp_RX8_225 rfl rfl (kMod_0 h_r0) ?_
      have h_r0_1 := Lay.wr h_r0 ok_Mod (nrf_fld 21 (kMod_0 h_r0) (by decide) (by decide)) (i := 21) (x := x4)
      generalize e_H1 : hs H a0 21 x4 = H1 at h_r0_1 ⊢
      replace h := h H1 e_H1.symm
      refine a_iconst dX8_goes_30 ⟨by decide, by decide⟩ ?_
      refine a_istore dX8_goes_31 (Nat.le_of_ble_eq_true rfl) (ls' := [vR a0, vI x1, vI x2, vI x3, vJ x4, vU, vI 0, vU]) rfl ?_
      exact h
  · replace h := h.2 c6
    exact a_vret dX8_goes_10 rfl (Nat.le_of_ble_eq_true rfl) (Nat.le_of_ble_eq_true rfl) h

set_option maxRecDepth 20000 in
theorem s_X8_goes_33 {l : Launch} {G : GT} {d : Nat} {Q : AV → AH → Prop} {H : AH} {a0 x1 x2 x3 x4 x6 : Int} (h_r0 : Lay LMod H a0) (h : (x2 ≤ x6 → Q vV H) ∧ (x6 < x2 → (-2147483648 ≤ 24 * x1 ∧ 24 * x1 ≤ 2147483647) ∧ (-2147483648 ≤ (24 * x1) + x6 ∧ (24 * x1) + x6 ≤ 2147483647) ∧ (0 ≤ x6 ∧ x6 < 24) ∧ (0 ≤ ((24 * x1) + x6) ∧ ((24 * x1) + x6) < 72) ∧ ∀ H1 : AH, H1 = hs H (a0 + 9) ((24 * x1) + x6) (hg H (a0 + 12) x6) → (-2147483648 ≤ x6 + 1 ∧ x6 + 1 ≤ 2147483647) ∧ AW l G mX8_goes (d + 1) 0 0 Q 33 [vR a0, vI x1, vI x2, vI x3, vJ x4, vU, vI (x6 + 1), vU] [] 0 0 H1)) (hd : 2 ≤ d := by omega) : AW l G mX8_goes (d + 1) 0 0 Q 33 [vR a0, vI x1, vI x2, vI x3, vJ x4, vU, vI x6, vU] [] 0 0 H := by
  refine a_iload dX8_goes_33 rfl ?_
  refine a_iload_n dX8_goes_35 rfl rfl ?_
  refine a_icmp_ge dX8_goes_36 (tgt := 64) rfl (fun c36 => ?_) (fun c36 => ?_)
  · replace h := h.1 c36
    exact a_vret dX8_goes_64 rfl (Nat.le_of_ble_eq_true rfl) (Nat.le_of_ble_eq_true rfl) h
  · replace h := h.2 c36
    refine a_aload_n dX8_goes_39 rfl rfl ?_
    refine a_getR dX8_goes_40 fw_RX8_36 rfl rfl (kMod_0 h_r0) (rMod_0_16 h_r0) ?_
    refine a_bipush dX8_goes_43 (by decide) ?_
    refine a_iload_n dX8_goes_45 rfl rfl ?_
    obtain ⟨q46_0, h⟩ := h
    refine a_imul dX8_goes_46 q46_0 ?_
    refine a_iload dX8_goes_47 rfl ?_
    obtain ⟨q49_0, h⟩ := h
    refine a_iadd dX8_goes_49 q49_0 ?_
    refine a_aload_n dX8_goes_50 rfl rfl ?_
    refine a_getR dX8_goes_51 fw_RX8_45 rfl rfl (kMod_0 h_r0) (rMod_0_19 h_r0) ?_
    refine a_iload dX8_goes_54 rfl ?_
    obtain ⟨q56_0, h⟩ := h
    refine b_iald dX8_goes_56 (kMod_12 h_r0) (nMod_12 h_r0) q56_0 ?_
    obtain ⟨q57_0, h⟩ := h
    refine b_iast dX8_goes_57 (kMod_9 h_r0) (nMod_9 h_r0) q57_0 ?_
    have h_r0_1 := Lay.wr h_r0 ok_Mod (nrf_arr (kMod_9 h_r0) (by decide) (by decide)) (i := ((24 * x1) + x6)) (x := (hg H (a0 + 12) x6))
    generalize e_H1 : hs H (a0 + 9) ((24 * x1) + x6) (hg H (a0 + 12) x6) = H1 at h_r0_1 ⊢
    replace h := h H1 e_H1.symm
    obtain ⟨q58_0, h⟩ := h
    refine a_iinc dX8_goes_58 rfl (Nat.le_of_ble_eq_true rfl) (by decide) q58_0 (ls' := [vR a0, vI x1, vI x2, vI x3, vJ x4, vU, vI (x6 + 1), vU]) rfl ?_
    refine a_goto dX8_goes_61 (tgt := 33) rfl ?_
    exact h

set_option maxRecDepth 20000 in
theorem s_X8_goes_79 {l : Launch} {G : GT} {d : Nat} {Q : AV → AH → Prop} {H : AH} {a0 x1 x2 x3 x4 x6 x7 : Int} (h_r0 : Lay LMod H a0) (h : (x7 = (-1) → Q vV H) ∧ (¬ x7 = (-1) → (-2147483648 ≤ 24 * x1 ∧ 24 * x1 ≤ 2147483647) ∧ (-2147483648 ≤ (24 * x1) + x7 ∧ (24 * x1) + x7 ≤ 2147483647) ∧ (0 ≤ ((24 * x1) + x7) ∧ ((24 * x1) + x7) < 72) ∧ (0 ≤ x2 ∧ x2 < 24) ∧ ∀ H1 : AH, H1 = hs H (a0 + 12) x2 (hg H (a0 + 8) ((24 * x1) + x7)) → CL l G mX8_timeAt d 0 0 [vR a0, vI (hg H (a0 + 8) ((24 * x1) + x7)), vI x2] H1 (fun r9 H2 => Lay LMod H2 a0 ∧ ∃ y2 : Int, r9 = vI y2 ∧ ∀ H3 : AH, H3 = hs H2 (a0 + 13) x2 y2 → (-2147483648 ≤ x2 + 1 ∧ x2 + 1 ≤ 2147483647) ∧ (0 ≤ x7 ∧ x7 ≤ 30) ∧ (0 ≤ x3 ∧ 0 ≤ (pw x7)) ∧ (okM (rowM H3 a0)) ∧ (0 ≤ (hg H (a0 + 8) ((24 * x1) + x7)) ∧ (hg H (a0 + 8) ((24 * x1) + x7)) < rowM H3 a0 6) ∧ (0 ≤ (hg H3 (a0 + 13) x2) ∧ (hg H3 (a0 + 13) x2) ≤ 400000) ∧ (-9223372036854775808 ≤ x4 + (costM (rowM H3 a0) (hg H (a0 + 8) ((24 * x1) + x7)) (hg H3 (a0 + 13) x2)) ∧ x4 + (costM (rowM H3 a0) (hg H (a0 + 8) ((24 * x1) + x7)) (hg H3 (a0 + 13) x2)) ≤ 9223372036854775807) ∧ CL l G mX8_goes d 0 0 [vR a0, vI x1, vI (x2 + 1), vI (ior x3 (pw x7)), vJ (x4 + (costM (rowM H3 a0) (hg H (a0 + 8) ((24 * x1) + x7)) (hg H3 (a0 + 13) x2)))] H3 (fun r9 H4 => Lay LMod H4 a0 ∧ r9 = vV ∧ CL l G mX8_nextAt d 0 0 [vR a0, vI x1, vI x2, vI x3, vI (hg H (a0 + 8) ((24 * x1) + x7))] H4 (fun r9 H5 => Lay LMod H5 a0 ∧ ∃ y5 : Int, r9 = vI y5 ∧ AW l G mX8_goes (d + 1) 0 0 Q 79 [vR a0, vI x1, vI x2, vI x3, vJ x4, vU, vI (hg H (a0 + 8) ((24 * x1) + x7)), vI y5] [] 0 0 H5))))) (hd : 2 ≤ d := by omega) : AW l G mX8_goes (d + 1) 0 0 Q 79 [vR a0, vI x1, vI x2, vI x3, vJ x4, vU, vI x6, vI x7] [] 0 0 H := by
  refine a_iload dX8_goes_79 rfl ?_
  refine a_iconst dX8_goes_81 ⟨by decide, by decide⟩ ?_
  refine a_icmp_eq dX8_goes_82 (tgt := 163) rfl (fun c82 => ?_) (fun c82 => ?_)
  · replace h := h.1 c82
    exact a_vret dX8_goes_163 rfl (Nat.le_of_ble_eq_true rfl) (Nat.le_of_ble_eq_true rfl) h
  · replace h := h.2 c82
    refine a_aload_n dX8_goes_85 rfl rfl ?_
    refine a_getR dX8_goes_86 fw_RX8_33 rfl rfl (kMod_0 h_r0) (rMod_0_15 h_r0) ?_
    refine a_bipush dX8_goes_89 (by decide) ?_
    refine a_iload_n dX8_goes_91 rfl rfl ?_
    obtain ⟨q92_0, h⟩ := h
    refine a_imul dX8_goes_92 q92_0 ?_
    refine a_iload dX8_goes_93 rfl ?_
    obtain ⟨q95_0, h⟩ := h
    refine a_iadd dX8_goes_95 q95_0 ?_
    obtain ⟨q96_0, h⟩ := h
    refine b_iald dX8_goes_96 (kMod_8 h_r0) (nMod_8 h_r0) q96_0 ?_
    refine a_istore dX8_goes_97 (Nat.le_of_ble_eq_true rfl) (ls' := [vR a0, vI x1, vI x2, vI x3, vJ x4, vU, vI (hg H (a0 + 8) ((24 * x1) + x7)), vI x7]) rfl ?_
    refine a_aload_n dX8_goes_99 rfl rfl ?_
    refine a_getR dX8_goes_100 fw_RX8_45 rfl rfl (kMod_0 h_r0) (rMod_0_19 h_r0) ?_
    refine a_iload_n dX8_goes_103 rfl rfl ?_
    refine a_iload dX8_goes_104 rfl ?_
    obtain ⟨q106_0, h⟩ := h
    refine b_iast dX8_goes_106 (kMod_12 h_r0) (nMod_12 h_r0) q106_0 ?_
    have h_r0_1 := Lay.wr h_r0 ok_Mod (nrf_arr (kMod_12 h_r0) (by decide) (by decide)) (i := x2) (x := (hg H (a0 + 8) ((24 * x1) + x7)))
    generalize e_H1 : hs H (a0 + 12) x2 (hg H (a0 + 8) ((24 * x1) + x7)) = H1 at h_r0_1 ⊢
    replace h := h H1 e_H1.symm
    refine a_aload_n dX8_goes_107 rfl rfl ?_
    refine a_getR dX8_goes_108 fw_RX8_48 rfl rfl (kMod_0 h_r0_1) (rMod_0_20 h_r0_1) ?_
    refine a_iload_n dX8_goes_111 rfl rfl ?_
    refine a_aload_n dX8_goes_112 rfl rfl ?_
    refine a_iload dX8_goes_113 rfl ?_
    refine a_iload_n dX8_goes_115 rfl rfl ?_
    refine a_callV dX8_goes_116 cw_X8_goes_116 (as := [vI (hg H (a0 + 8) ((24 * x1) + x7)), vI x2]) rfl rfl (kMod_0 h_r0_1) (Nat.le_refl _) (Nat.le_of_ble_eq_true rfl) (nocov rfl) (Nat.le_of_ble_eq_true rfl) (Nat.le_of_ble_eq_true rfl) (CL.mono h (fun r9 H2 h => ?_))
    obtain ⟨h_r0_2, y2, e9, h⟩ := h
    rw [e9]
    show AW l G mX8_goes (d + 1) 0 0 Q 119 [vR a0, vI x1, vI x2, vI x3, vJ x4, vU, vI (hg H (a0 + 8) ((24 * x1) + x7)), vI x7] [vI y2, vI x2, vR (a0 + 13)] 0 0 H2
    refine b_iast dX8_goes_119 (kMod_13 h_r0_2) (nMod_13 h_r0_2) q106_0 ?_
    have h_r0_3 := Lay.wr h_r0_2 ok_Mod (nrf_arr (kMod_13 h_r0_2) (by decide) (by decide)) (i := x2) (x := y2)
    generalize e_H3 : hs H2 (a0 + 13) x2 y2 = H3 at h_r0_3 ⊢
    replace h := h H3 e_H3.symm
    refine a_aload_n dX8_goes_120 rfl rfl ?_
    refine a_iload_n dX8_goes_121 rfl rfl ?_
    refine a_iload_n dX8_goes_122 rfl rfl ?_
    refine a_iconst dX8_goes_123 ⟨by decide, by decide⟩ ?_
    obtain ⟨q124_0, h⟩ := h
    refine a_iadd dX8_goes_124 q124_0 ?_
    refine a_iload_n dX8_goes_125 rfl rfl ?_
    refine a_iconst dX8_goes_126 ⟨by decide, by decide⟩ ?_
    refine a_iload dX8_goes_127 rfl ?_
    obtain ⟨q129_0, h⟩ := h
    refine a_ishl dX8_goes_129 q129_0 ?_
    obtain ⟨q130_0, h⟩ := h
    refine a_ior dX8_goes_130 q130_0 ?_
    refine a_lload dX8_goes_131 rfl ?_
    refine a_aload_n dX8_goes_133 rfl rfl ?_
    refine a_iload dX8_goes_134 rfl ?_
    refine a_aload_n dX8_goes_136 rfl rfl ?_
    refine a_getR dX8_goes_137 fw_RX8_48 rfl rfl (kMod_0 h_r0_3) (rMod_0_20 h_r0_3) ?_
    refine a_iload_n dX8_goes_140 rfl rfl ?_
    refine b_iald dX8_goes_141 (kMod_13 h_r0_3) (nMod_13 h_r0_3) q106_0 ?_
    obtain ⟨q142_0, h⟩ := h
    obtain ⟨q142_1, h⟩ := h
    obtain ⟨q142_2, h⟩ := h
    refine a_callV dX8_goes_142 cw_X8_goes_142 (as := [vI (hg H (a0 + 8) ((24 * x1) + x7)), vI (hg H3 (a0 + 13) x2)]) rfl rfl (kMod_0 h_r0_3) (Nat.le_refl _) (Nat.le_of_ble_eq_true rfl) (nocov rfl) (Nat.le_of_ble_eq_true rfl) (Nat.le_of_ble_eq_true rfl) (CL.mono (c_costAt h_r0_3 q142_0 q142_1 q142_2) (fun r9 H9 h9 => ?_))
    rw [h9.1, h9.2]
    show AW l G mX8_goes (d + 1) 0 0 Q 145 [vR a0, vI x1, vI x2, vI x3, vJ x4, vU, vI (hg H (a0 + 8) ((24 * x1) + x7)), vI x7] [vJ (costM (rowM H3 a0) (hg H (a0 + 8) ((24 * x1) + x7)) (hg H3 (a0 + 13) x2)), vJ x4, vI (ior x3 (pw x7)), vI (x2 + 1), vI x1, vR a0] 0 0 H3
    obtain ⟨q145_0, h⟩ := h
    refine a_ladd dX8_goes_145 q145_0 ?_
    refine a_callV dX8_goes_146 cw_X8_goes_146 (as := [vI x1, vI (x2 + 1), vI (ior x3 (pw x7)), vJ (x4 + (costM (rowM H3 a0) (hg H (a0 + 8) ((24 * x1) + x7)) (hg H3 (a0 + 13) x2)))]) rfl rfl (kMod_0 h_r0_3) (Nat.le_refl _) (Nat.le_of_ble_eq_true rfl) (nocov rfl) (Nat.le_of_ble_eq_true rfl) (Nat.le_of_ble_eq_true rfl) (CL.mono h (fun r9 H4 h => ?_))
    obtain ⟨h_r0_4, e9, h⟩ := h
    rw [e9]
    show AW l G mX8_goes (d + 1) 0 0 Q 149 [vR a0, vI x1, vI x2, vI x3, vJ x4, vU, vI (hg H (a0 + 8) ((24 * x1) + x7)), vI x7] [] 0 0 H4
    refine a_aload_n dX8_goes_149 rfl rfl ?_
    refine a_iload_n dX8_goes_150 rfl rfl ?_
    refine a_iload_n dX8_goes_151 rfl rfl ?_
    refine a_iload_n dX8_goes_152 rfl rfl ?_
    refine a_iload dX8_goes_153 rfl ?_
    refine a_callV dX8_goes_155 cw_X8_goes_155 (as := [vI x1, vI x2, vI x3, vI (hg H (a0 + 8) ((24 * x1) + x7))]) rfl rfl (kMod_0 h_r0_4) (Nat.le_refl _) (Nat.le_of_ble_eq_true rfl) (nocov rfl) (Nat.le_of_ble_eq_true rfl) (Nat.le_of_ble_eq_true rfl) (CL.mono h (fun r9 H5 h => ?_))
    obtain ⟨h_r0_5, y5, e9, h⟩ := h
    rw [e9]
    show AW l G mX8_goes (d + 1) 0 0 Q 158 [vR a0, vI x1, vI x2, vI x3, vJ x4, vU, vI (hg H (a0 + 8) ((24 * x1) + x7)), vI x7] [vI y5] 0 0 H5
    refine a_istore dX8_goes_158 (Nat.le_of_ble_eq_true rfl) (ls' := [vR a0, vI x1, vI x2, vI x3, vJ x4, vU, vI (hg H (a0 + 8) ((24 * x1) + x7)), vI y5]) rfl ?_
    refine a_goto dX8_goes_160 (tgt := 79) rfl ?_
    exact h


theorem dX8_laysTimes_0 : decode cX8_laysTimes 0 = .ok (.lconst 0, 1) := by decide +kernel
theorem dX8_laysTimes_1 : decode cX8_laysTimes 1 = .ok (.lstore_n 3, 1) := by decide +kernel
theorem dX8_laysTimes_2 : decode cX8_laysTimes 2 = .ok (.iconst 0, 1) := by decide +kernel
theorem dX8_laysTimes_3 : decode cX8_laysTimes 3 = .ok (.istore 5, 2) := by decide +kernel
theorem dX8_laysTimes_5 : decode cX8_laysTimes 5 = .ok (.iload 5, 2) := by decide +kernel
theorem dX8_laysTimes_7 : decode cX8_laysTimes 7 = .ok (.aload_n 0, 1) := by decide +kernel
theorem dX8_laysTimes_8 : decode cX8_laysTimes 8 = .ok (.getfield 30, 3) := by decide +kernel
theorem dX8_laysTimes_11 : decode cX8_laysTimes 11 = .ok (.iload_n 1, 1) := by decide +kernel
theorem dX8_laysTimes_12 : decode cX8_laysTimes 12 = .ok (.iaload, 1) := by decide +kernel
theorem dX8_laysTimes_13 : decode cX8_laysTimes 13 = .ok (.if_icmp .ge 60, 3) := by decide +kernel
theorem dX8_laysTimes_16 : decode cX8_laysTimes 16 = .ok (.aload_n 2, 1) := by decide +kernel
theorem dX8_laysTimes_17 : decode cX8_laysTimes 17 = .ok (.bipush 24, 2) := by decide +kernel
theorem dX8_laysTimes_19 : decode cX8_laysTimes 19 = .ok (.iload_n 1, 1) := by decide +kernel
theorem dX8_laysTimes_20 : decode cX8_laysTimes 20 = .ok (.imul, 1) := by decide +kernel
theorem dX8_laysTimes_21 : decode cX8_laysTimes 21 = .ok (.iload 5, 2) := by decide +kernel
theorem dX8_laysTimes_23 : decode cX8_laysTimes 23 = .ok (.iadd, 1) := by decide +kernel
theorem dX8_laysTimes_24 : decode cX8_laysTimes 24 = .ok (.iaload, 1) := by decide +kernel
theorem dX8_laysTimes_25 : decode cX8_laysTimes 25 = .ok (.istore 6, 2) := by decide +kernel
theorem dX8_laysTimes_27 : decode cX8_laysTimes 27 = .ok (.aload_n 0, 1) := by decide +kernel
theorem dX8_laysTimes_28 : decode cX8_laysTimes 28 = .ok (.getfield 48, 3) := by decide +kernel
theorem dX8_laysTimes_31 : decode cX8_laysTimes 31 = .ok (.iload 5, 2) := by decide +kernel
theorem dX8_laysTimes_33 : decode cX8_laysTimes 33 = .ok (.aload_n 0, 1) := by decide +kernel
theorem dX8_laysTimes_34 : decode cX8_laysTimes 34 = .ok (.iload 6, 2) := by decide +kernel
theorem dX8_laysTimes_36 : decode cX8_laysTimes 36 = .ok (.iload 5, 2) := by decide +kernel
theorem dX8_laysTimes_38 : decode cX8_laysTimes 38 = .ok (.invokevirtual 233, 3) := by decide +kernel
theorem dX8_laysTimes_41 : decode cX8_laysTimes 41 = .ok (.iastore, 1) := by decide +kernel
theorem dX8_laysTimes_42 : decode cX8_laysTimes 42 = .ok (.aload_n 0, 1) := by decide +kernel
theorem dX8_laysTimes_43 : decode cX8_laysTimes 43 = .ok (.getfield 45, 3) := by decide +kernel
theorem dX8_laysTimes_46 : decode cX8_laysTimes 46 = .ok (.iload 5, 2) := by decide +kernel
theorem dX8_laysTimes_48 : decode cX8_laysTimes 48 = .ok (.iload 6, 2) := by decide +kernel
theorem dX8_laysTimes_50 : decode cX8_laysTimes 50 = .ok (.iastore, 1) := by decide +kernel
theorem dX8_laysTimes_51 : decode cX8_laysTimes 51 = .ok (.lload_n 3, 1) := by decide +kernel
theorem dX8_laysTimes_52 : decode cX8_laysTimes 52 = .ok (.aload_n 0, 1) := by decide +kernel
theorem dX8_laysTimes_53 : decode cX8_laysTimes 53 = .ok (.iload 6, 2) := by decide +kernel
theorem dX8_laysTimes_55 : decode cX8_laysTimes 55 = .ok (.aload_n 0, 1) := by decide +kernel
theorem dX8_laysTimes_56 : decode cX8_laysTimes 56 = .ok (.getfield 48, 3) := by decide +kernel
theorem dX8_laysTimes_59 : decode cX8_laysTimes 59 = .ok (.iload 5, 2) := by decide +kernel
theorem dX8_laysTimes_61 : decode cX8_laysTimes 61 = .ok (.iaload, 1) := by decide +kernel
theorem dX8_laysTimes_62 : decode cX8_laysTimes 62 = .ok (.invokevirtual 236, 3) := by decide +kernel
theorem dX8_laysTimes_65 : decode cX8_laysTimes 65 = .ok (.ladd, 1) := by decide +kernel
theorem dX8_laysTimes_66 : decode cX8_laysTimes 66 = .ok (.lstore_n 3, 1) := by decide +kernel
theorem dX8_laysTimes_67 : decode cX8_laysTimes 67 = .ok (.iinc 5 1, 3) := by decide +kernel
theorem dX8_laysTimes_70 : decode cX8_laysTimes 70 = .ok (.goto (-65), 3) := by decide +kernel
theorem dX8_laysTimes_73 : decode cX8_laysTimes 73 = .ok (.lload_n 3, 1) := by decide +kernel
theorem dX8_laysTimes_74 : decode cX8_laysTimes 74 = .ok (.lreturn, 1) := by decide +kernel
set_option maxRecDepth 20000 in
theorem s_X8_laysTimes_0 {l : Launch} {G : GT} {d : Nat} {Q : AV → AH → Prop} {H : AH} {a0 a2 x1 : Int} (h_r0 : Lay LMod H a0) (h_r2 : Lay (LArr 10 72) H a2) (h : AW l G mX8_laysTimes (d + 1) 0 0 Q 5 [vR a0, vI x1, vR a2, vJ 0, vU, vI 0, vU] [] 0 0 H) (hd : 2 ≤ d := by omega) : AW l G mX8_laysTimes (d + 1) 0 0 Q 0 [vR a0, vI x1, vR a2, vU, vU, vU, vU] [] 0 0 H := by
  refine a_lconst dX8_laysTimes_0 ?_
  show AW l G mX8_laysTimes (d + 1) 0 0 Q 1 [vR a0, vI x1, vR a2, vU, vU, vU, vU] [vJ 0] 0 0 H
  refine a_lstore_n dX8_laysTimes_1 rfl (Nat.le_of_ble_eq_true rfl) (ls' := [vR a0, vI x1, vR a2, vJ 0, vU, vU, vU]) rfl ?_
  refine a_iconst dX8_laysTimes_2 ⟨by decide, by decide⟩ ?_
  refine a_istore dX8_laysTimes_3 (Nat.le_of_ble_eq_true rfl) (ls' := [vR a0, vI x1, vR a2, vJ 0, vU, vI 0, vU]) rfl ?_
  exact h

set_option maxRecDepth 20000 in
theorem s_X8_laysTimes_5 {l : Launch} {G : GT} {d : Nat} {Q : AV → AH → Prop} {H : AH} {a0 a2 x1 x3 x5 : Int} (h_r0 : Lay LMod H a0) (h_r2 : Lay (LArr 10 72) H a2) (h : (0 ≤ x1 ∧ x1 < 3) ∧ ((hg H (a0 + 7) x1) ≤ x5 → Q (vJ x3) H) ∧ (x5 < (hg H (a0 + 7) x1) → (-2147483648 ≤ 24 * x1 ∧ 24 * x1 ≤ 2147483647) ∧ (-2147483648 ≤ (24 * x1) + x5 ∧ (24 * x1) + x5 ≤ 2147483647) ∧ (0 ≤ ((24 * x1) + x5) ∧ ((24 * x1) + x5) < 72) ∧ CL l G mX8_timeAt d 0 0 [vR a0, vI (hg H a2 ((24 * x1) + x5)), vI x5] H (fun r9 H1 => Lay LMod H1 a0 ∧ Lay (LArr 10 72) H1 a2 ∧ ∃ y1 : Int, r9 = vI y1 ∧ (0 ≤ x5 ∧ x5 < 24) ∧ ∀ H2 : AH, H2 = hs H1 (a0 + 13) x5 y1 → ∀ H3 : AH, H3 = hs H2 (a0 + 12) x5 (hg H a2 ((24 * x1) + x5)) → (okM (rowM H3 a0)) ∧ (0 ≤ (hg H a2 ((24 * x1) + x5)) ∧ (hg H a2 ((24 * x1) + x5)) < rowM H3 a0 6) ∧ (0 ≤ (hg H3 (a0 + 13) x5) ∧ (hg H3 (a0 + 13) x5) ≤ 400000) ∧ (-9223372036854775808 ≤ x3 + (costM (rowM H3 a0) (hg H a2 ((24 * x1) + x5)) (hg H3 (a0 + 13) x5)) ∧ x3 + (costM (rowM H3 a0) (hg H a2 ((24 * x1) + x5)) (hg H3 (a0 + 13) x5)) ≤ 9223372036854775807) ∧ (-2147483648 ≤ x5 + 1 ∧ x5 + 1 ≤ 2147483647) ∧ AW l G mX8_laysTimes (d + 1) 0 0 Q 5 [vR a0, vI x1, vR a2, vJ (x3 + (costM (rowM H3 a0) (hg H a2 ((24 * x1) + x5)) (hg H3 (a0 + 13) x5))), vU, vI (x5 + 1), vU] [] 0 0 H3))) (hd : 2 ≤ d := by omega) : AW l G mX8_laysTimes (d + 1) 0 0 Q 5 [vR a0, vI x1, vR a2, vJ x3, vU, vI x5, vU] [] 0 0 H := by
  refine a_iload dX8_laysTimes_5 rfl ?_
  refine a_aload_n dX8_laysTimes_7 rfl rfl ?_
  refine a_getR dX8_laysTimes_8 fw_RX8_30 rfl rfl (kMod_0 h_r0) (rMod_0_14 h_r0) ?_
  refine a_iload_n dX8_laysTimes_11 rfl rfl ?_
  obtain ⟨q12_0, h⟩ := h
  refine b_iald dX8_laysTimes_12 (kMod_7 h_r0) (nMod_7 h_r0) q12_0 ?_
  refine a_icmp_ge dX8_laysTimes_13 (tgt := 73) rfl (fun c13 => ?_) (fun c13 => ?_)
  · replace h := h.1 c13
    refine a_lload_n dX8_laysTimes_73 rfl rfl ?_
    exact a_lret dX8_laysTimes_74 rfl (Nat.le_of_ble_eq_true rfl) (Nat.le_of_ble_eq_true rfl) h
  · replace h := h.2 c13
    refine a_aload_n dX8_laysTimes_16 rfl rfl ?_
    refine a_bipush dX8_laysTimes_17 (by decide) ?_
    refine a_iload_n dX8_laysTimes_19 rfl rfl ?_
    obtain ⟨q20_0, h⟩ := h
    refine a_imul dX8_laysTimes_20 q20_0 ?_
    refine a_iload dX8_laysTimes_21 rfl ?_
    obtain ⟨q23_0, h⟩ := h
    refine a_iadd dX8_laysTimes_23 q23_0 ?_
    obtain ⟨q24_0, h⟩ := h
    refine b_iald dX8_laysTimes_24 (kArr_0 h_r2) (nArr_0 h_r2) q24_0 ?_
    refine a_istore dX8_laysTimes_25 (Nat.le_of_ble_eq_true rfl) (ls' := [vR a0, vI x1, vR a2, vJ x3, vU, vI x5, vI (hg H a2 ((24 * x1) + x5))]) rfl ?_
    refine a_aload_n dX8_laysTimes_27 rfl rfl ?_
    refine a_getR dX8_laysTimes_28 fw_RX8_48 rfl rfl (kMod_0 h_r0) (rMod_0_20 h_r0) ?_
    refine a_iload dX8_laysTimes_31 rfl ?_
    refine a_aload_n dX8_laysTimes_33 rfl rfl ?_
    refine a_iload dX8_laysTimes_34 rfl ?_
    refine a_iload dX8_laysTimes_36 rfl ?_
    refine a_callV dX8_laysTimes_38 cw_X8_laysTimes_38 (as := [vI (hg H a2 ((24 * x1) + x5)), vI x5]) rfl rfl (kMod_0 h_r0) (Nat.le_refl _) (Nat.le_of_ble_eq_true rfl) (nocov rfl) (Nat.le_of_ble_eq_true rfl) (Nat.le_of_ble_eq_true rfl) (CL.mono h (fun r9 H1 h => ?_))
    obtain ⟨h_r0_1, h_r2_1, y1, e9, h⟩ := h
    rw [e9]
    show AW l G mX8_laysTimes (d + 1) 0 0 Q 41 [vR a0, vI x1, vR a2, vJ x3, vU, vI x5, vI (hg H a2 ((24 * x1) + x5))] [vI y1, vI x5, vR (a0 + 13)] 0 0 H1
    obtain ⟨q41_0, h⟩ := h
    refine b_iast dX8_laysTimes_41 (kMod_13 h_r0_1) (nMod_13 h_r0_1) q41_0 ?_
    have h_r0_2 := Lay.wr h_r0_1 ok_Mod (nrf_arr (kMod_13 h_r0_1) (by decide) (by decide)) (i := x5) (x := y1)
    have h_r2_2 := Lay.wr h_r2_1 ok_Arr (nrf_arr (kMod_13 h_r0_1) (by decide) (by decide)) (i := x5) (x := y1)
    generalize e_H2 : hs H1 (a0 + 13) x5 y1 = H2 at h_r0_2 h_r2_2 ⊢
    replace h := h H2 e_H2.symm
    refine a_aload_n dX8_laysTimes_42 rfl rfl ?_
    refine a_getR dX8_laysTimes_43 fw_RX8_45 rfl rfl (kMod_0 h_r0_2) (rMod_0_19 h_r0_2) ?_
    refine a_iload dX8_laysTimes_46 rfl ?_
    refine a_iload dX8_laysTimes_48 rfl ?_
    refine b_iast dX8_laysTimes_50 (kMod_12 h_r0_2) (nMod_12 h_r0_2) q41_0 ?_
    have h_r0_3 := Lay.wr h_r0_2 ok_Mod (nrf_arr (kMod_12 h_r0_2) (by decide) (by decide)) (i := x5) (x := (hg H a2 ((24 * x1) + x5)))
    have h_r2_3 := Lay.wr h_r2_2 ok_Arr (nrf_arr (kMod_12 h_r0_2) (by decide) (by decide)) (i := x5) (x := (hg H a2 ((24 * x1) + x5)))
    generalize e_H3 : hs H2 (a0 + 12) x5 (hg H a2 ((24 * x1) + x5)) = H3 at h_r0_3 h_r2_3 ⊢
    replace h := h H3 e_H3.symm
    refine a_lload_n dX8_laysTimes_51 rfl rfl ?_
    refine a_aload_n dX8_laysTimes_52 rfl rfl ?_
    refine a_iload dX8_laysTimes_53 rfl ?_
    refine a_aload_n dX8_laysTimes_55 rfl rfl ?_
    refine a_getR dX8_laysTimes_56 fw_RX8_48 rfl rfl (kMod_0 h_r0_3) (rMod_0_20 h_r0_3) ?_
    refine a_iload dX8_laysTimes_59 rfl ?_
    refine b_iald dX8_laysTimes_61 (kMod_13 h_r0_3) (nMod_13 h_r0_3) q41_0 ?_
    obtain ⟨q62_0, h⟩ := h
    obtain ⟨q62_1, h⟩ := h
    obtain ⟨q62_2, h⟩ := h
    refine a_callV dX8_laysTimes_62 cw_X8_laysTimes_62 (as := [vI (hg H a2 ((24 * x1) + x5)), vI (hg H3 (a0 + 13) x5)]) rfl rfl (kMod_0 h_r0_3) (Nat.le_refl _) (Nat.le_of_ble_eq_true rfl) (nocov rfl) (Nat.le_of_ble_eq_true rfl) (Nat.le_of_ble_eq_true rfl) (CL.mono (c_costAt h_r0_3 q62_0 q62_1 q62_2) (fun r9 H9 h9 => ?_))
    rw [h9.1, h9.2]
    show AW l G mX8_laysTimes (d + 1) 0 0 Q 65 [vR a0, vI x1, vR a2, vJ x3, vU, vI x5, vI (hg H a2 ((24 * x1) + x5))] [vJ (costM (rowM H3 a0) (hg H a2 ((24 * x1) + x5)) (hg H3 (a0 + 13) x5)), vJ x3] 0 0 H3
    obtain ⟨q65_0, h⟩ := h
    refine a_ladd dX8_laysTimes_65 q65_0 ?_
    refine a_lstore_n dX8_laysTimes_66 rfl (Nat.le_of_ble_eq_true rfl) (ls' := [vR a0, vI x1, vR a2, vJ (x3 + (costM (rowM H3 a0) (hg H a2 ((24 * x1) + x5)) (hg H3 (a0 + 13) x5))), vU, vI x5, vI (hg H a2 ((24 * x1) + x5))]) rfl ?_
    obtain ⟨q67_0, h⟩ := h
    refine a_iinc dX8_laysTimes_67 rfl (Nat.le_of_ble_eq_true rfl) (by decide) q67_0 (ls' := [vR a0, vI x1, vR a2, vJ (x3 + (costM (rowM H3 a0) (hg H a2 ((24 * x1) + x5)) (hg H3 (a0 + 13) x5))), vU, vI (x5 + 1), vI (hg H a2 ((24 * x1) + x5))]) rfl ?_
    refine a_goto dX8_laysTimes_70 (tgt := 5) rfl ?_
    exact a_weak (wk_e (wk_e (wk_e (wk_e (wk_u (wk_e (wk_u wk_n))))))) h


theorem dX8_makesPlan_0 : decode cX8_makesPlan 0 = .ok (.aload_n 0, 1) := by decide +kernel
theorem dX8_makesPlan_1 : decode cX8_makesPlan 1 = .ok (.iload_n 1, 1) := by decide +kernel
theorem dX8_makesPlan_2 : decode cX8_makesPlan 2 = .ok (.invokevirtual 244, 3) := by decide +kernel
theorem dX8_makesPlan_5 : decode cX8_makesPlan 5 = .ok (.aload_n 0, 1) := by decide +kernel
theorem dX8_makesPlan_6 : decode cX8_makesPlan 6 = .ok (.iload_n 1, 1) := by decide +kernel
theorem dX8_makesPlan_7 : decode cX8_makesPlan 7 = .ok (.invokevirtual 247, 3) := by decide +kernel
theorem dX8_makesPlan_10 : decode cX8_makesPlan 10 = .ok (.aload_n 0, 1) := by decide +kernel
theorem dX8_makesPlan_11 : decode cX8_makesPlan 11 = .ok (.ldc2_w 252, 3) := by decide +kernel
theorem dX8_makesPlan_14 : decode cX8_makesPlan 14 = .ok (.putfield 225, 3) := by decide +kernel
theorem dX8_makesPlan_17 : decode cX8_makesPlan 17 = .ok (.aload_n 0, 1) := by decide +kernel
theorem dX8_makesPlan_18 : decode cX8_makesPlan 18 = .ok (.iload_n 1, 1) := by decide +kernel
theorem dX8_makesPlan_19 : decode cX8_makesPlan 19 = .ok (.iconst 0, 1) := by decide +kernel
theorem dX8_makesPlan_20 : decode cX8_makesPlan 20 = .ok (.iconst 0, 1) := by decide +kernel
theorem dX8_makesPlan_21 : decode cX8_makesPlan 21 = .ok (.lconst 0, 1) := by decide +kernel
theorem dX8_makesPlan_22 : decode cX8_makesPlan 22 = .ok (.invokevirtual 240, 3) := by decide +kernel
theorem dX8_makesPlan_25 : decode cX8_makesPlan 25 = .ok (.aload_n 0, 1) := by decide +kernel
theorem dX8_makesPlan_26 : decode cX8_makesPlan 26 = .ok (.getfield 30, 3) := by decide +kernel
theorem dX8_makesPlan_29 : decode cX8_makesPlan 29 = .ok (.iload_n 1, 1) := by decide +kernel
theorem dX8_makesPlan_30 : decode cX8_makesPlan 30 = .ok (.iaload, 1) := by decide +kernel
theorem dX8_makesPlan_31 : decode cX8_makesPlan 31 = .ok (.invokestatic 218, 3) := by decide +kernel
theorem dX8_makesPlan_34 : decode cX8_makesPlan 34 = .ok (.istore_n 2, 1) := by decide +kernel
theorem dX8_makesPlan_35 : decode cX8_makesPlan 35 = .ok (.iload_n 2, 1) := by decide +kernel
theorem dX8_makesPlan_36 : decode cX8_makesPlan 36 = .ok (.aload_n 0, 1) := by decide +kernel
theorem dX8_makesPlan_37 : decode cX8_makesPlan 37 = .ok (.getfield 30, 3) := by decide +kernel
theorem dX8_makesPlan_40 : decode cX8_makesPlan 40 = .ok (.iload_n 1, 1) := by decide +kernel
theorem dX8_makesPlan_41 : decode cX8_makesPlan 41 = .ok (.iaload, 1) := by decide +kernel
theorem dX8_makesPlan_42 : decode cX8_makesPlan 42 = .ok (.if_icmp .ge 31, 3) := by decide +kernel
theorem dX8_makesPlan_45 : decode cX8_makesPlan 45 = .ok (.aload_n 0, 1) := by decide +kernel
theorem dX8_makesPlan_46 : decode cX8_makesPlan 46 = .ok (.getfield 36, 3) := by decide +kernel
theorem dX8_makesPlan_49 : decode cX8_makesPlan 49 = .ok (.bipush 24, 2) := by decide +kernel
theorem dX8_makesPlan_51 : decode cX8_makesPlan 51 = .ok (.iload_n 1, 1) := by decide +kernel
theorem dX8_makesPlan_52 : decode cX8_makesPlan 52 = .ok (.imul, 1) := by decide +kernel
theorem dX8_makesPlan_53 : decode cX8_makesPlan 53 = .ok (.iload_n 2, 1) := by decide +kernel
theorem dX8_makesPlan_54 : decode cX8_makesPlan 54 = .ok (.iadd, 1) := by decide +kernel
theorem dX8_makesPlan_55 : decode cX8_makesPlan 55 = .ok (.aload_n 0, 1) := by decide +kernel
theorem dX8_makesPlan_56 : decode cX8_makesPlan 56 = .ok (.getfield 33, 3) := by decide +kernel
theorem dX8_makesPlan_59 : decode cX8_makesPlan 59 = .ok (.bipush 24, 2) := by decide +kernel
theorem dX8_makesPlan_61 : decode cX8_makesPlan 61 = .ok (.iload_n 1, 1) := by decide +kernel
theorem dX8_makesPlan_62 : decode cX8_makesPlan 62 = .ok (.imul, 1) := by decide +kernel
theorem dX8_makesPlan_63 : decode cX8_makesPlan 63 = .ok (.iload_n 2, 1) := by decide +kernel
theorem dX8_makesPlan_64 : decode cX8_makesPlan 64 = .ok (.iadd, 1) := by decide +kernel
theorem dX8_makesPlan_65 : decode cX8_makesPlan 65 = .ok (.iaload, 1) := by decide +kernel
theorem dX8_makesPlan_66 : decode cX8_makesPlan 66 = .ok (.iastore, 1) := by decide +kernel
theorem dX8_makesPlan_67 : decode cX8_makesPlan 67 = .ok (.iinc 2 1, 3) := by decide +kernel
theorem dX8_makesPlan_70 : decode cX8_makesPlan 70 = .ok (.goto (-35), 3) := by decide +kernel
theorem dX8_makesPlan_73 : decode cX8_makesPlan 73 = .ok (.aload_n 0, 1) := by decide +kernel
theorem dX8_makesPlan_74 : decode cX8_makesPlan 74 = .ok (.iload_n 1, 1) := by decide +kernel
theorem dX8_makesPlan_75 : decode cX8_makesPlan 75 = .ok (.aload_n 0, 1) := by decide +kernel
theorem dX8_makesPlan_76 : decode cX8_makesPlan 76 = .ok (.getfield 36, 3) := by decide +kernel
theorem dX8_makesPlan_79 : decode cX8_makesPlan 79 = .ok (.invokevirtual 254, 3) := by decide +kernel
theorem dX8_makesPlan_82 : decode cX8_makesPlan 82 = .ok (.pop2, 1) := by decide +kernel
theorem dX8_makesPlan_83 : decode cX8_makesPlan 83 = .ok (.iconst 0, 1) := by decide +kernel
theorem dX8_makesPlan_84 : decode cX8_makesPlan 84 = .ok (.istore_n 2, 1) := by decide +kernel
theorem dX8_makesPlan_85 : decode cX8_makesPlan 85 = .ok (.iload_n 2, 1) := by decide +kernel
theorem dX8_makesPlan_86 : decode cX8_makesPlan 86 = .ok (.aload_n 0, 1) := by decide +kernel
theorem dX8_makesPlan_87 : decode cX8_makesPlan 87 = .ok (.getfield 30, 3) := by decide +kernel
theorem dX8_makesPlan_90 : decode cX8_makesPlan 90 = .ok (.iload_n 1, 1) := by decide +kernel
theorem dX8_makesPlan_91 : decode cX8_makesPlan 91 = .ok (.iaload, 1) := by decide +kernel
theorem dX8_makesPlan_92 : decode cX8_makesPlan 92 = .ok (.if_icmp .ge 26, 3) := by decide +kernel
theorem dX8_makesPlan_95 : decode cX8_makesPlan 95 = .ok (.aload_n 0, 1) := by decide +kernel
theorem dX8_makesPlan_96 : decode cX8_makesPlan 96 = .ok (.getfield 39, 3) := by decide +kernel
theorem dX8_makesPlan_99 : decode cX8_makesPlan 99 = .ok (.aload_n 0, 1) := by decide +kernel
theorem dX8_makesPlan_100 : decode cX8_makesPlan 100 = .ok (.getfield 45, 3) := by decide +kernel
theorem dX8_makesPlan_103 : decode cX8_makesPlan 103 = .ok (.iload_n 2, 1) := by decide +kernel
theorem dX8_makesPlan_104 : decode cX8_makesPlan 104 = .ok (.iaload, 1) := by decide +kernel
theorem dX8_makesPlan_105 : decode cX8_makesPlan 105 = .ok (.aload_n 0, 1) := by decide +kernel
theorem dX8_makesPlan_106 : decode cX8_makesPlan 106 = .ok (.getfield 48, 3) := by decide +kernel
theorem dX8_makesPlan_109 : decode cX8_makesPlan 109 = .ok (.iload_n 2, 1) := by decide +kernel
theorem dX8_makesPlan_110 : decode cX8_makesPlan 110 = .ok (.iaload, 1) := by decide +kernel
theorem dX8_makesPlan_111 : decode cX8_makesPlan 111 = .ok (.iastore, 1) := by decide +kernel
theorem dX8_makesPlan_112 : decode cX8_makesPlan 112 = .ok (.iinc 2 1, 3) := by decide +kernel
theorem dX8_makesPlan_115 : decode cX8_makesPlan 115 = .ok (.goto (-30), 3) := by decide +kernel
theorem dX8_makesPlan_118 : decode cX8_makesPlan 118 = .ok (.return_, 1) := by decide +kernel
set_option maxRecDepth 20000 in
theorem s_X8_makesPlan_0 {l : Launch} {G : GT} {d : Nat} {Q : AV → AH → Prop} {H : AH} {a0 x1 : Int} (h_r0 : Lay LMod H a0) (h : CL l G mX8_laysCome d 0 0 [vR a0, vI x1] H (fun r9 H1 => Lay LMod H1 a0 ∧ r9 = vV ∧ CL l G mX8_laysBase d 0 0 [vR a0, vI x1] H1 (fun r9 H2 => Lay LMod H2 a0 ∧ r9 = vV ∧ ∀ H3 : AH, H3 = hs H2 a0 21 9223372036854775807 → CL l G mX8_goes d 0 0 [vR a0, vI x1, vI 0, vI 0, vJ 0] H3 (fun r9 H4 => Lay LMod H4 a0 ∧ r9 = vV ∧ (0 ≤ x1 ∧ x1 < 3) ∧ AW l G mX8_makesPlan (d + 1) 0 0 Q 35 [vR a0, vI x1, vI (min 7 (hg H4 (a0 + 7) x1))] [] 0 0 H4)))) (hd : 1 ≤ d := by omega) : AW l G mX8_makesPlan (d + 1) 0 0 Q 0 [vR a0, vI x1, vU] [] 0 0 H := by
  refine a_aload_n dX8_makesPlan_0 rfl rfl ?_
  refine a_iload_n dX8_makesPlan_1 rfl rfl ?_
  refine a_callV dX8_makesPlan_2 cw_X8_makesPlan_2 (as := [vI x1]) rfl rfl (kMod_0 h_r0) (Nat.le_refl _) (Nat.le_of_ble_eq_true rfl) (nocov rfl) (Nat.le_of_ble_eq_true rfl) (Nat.le_of_ble_eq_true rfl) (CL.mono h (fun r9 H1 h => ?_))
  obtain ⟨h_r0_1, e9, h⟩ := h
  rw [e9]
  show AW l G mX8_makesPlan (d + 1) 0 0 Q 5 [vR a0, vI x1, vU] [] 0 0 H1
  refine a_aload_n dX8_makesPlan_5 rfl rfl ?_
  refine a_iload_n dX8_makesPlan_6 rfl rfl ?_
  refine a_callV dX8_makesPlan_7 cw_X8_makesPlan_7 (as := [vI x1]) rfl rfl (kMod_0 h_r0_1) (Nat.le_refl _) (Nat.le_of_ble_eq_true rfl) (nocov rfl) (Nat.le_of_ble_eq_true rfl) (Nat.le_of_ble_eq_true rfl) (CL.mono h (fun r9 H2 h => ?_))
  obtain ⟨h_r0_2, e9, h⟩ := h
  rw [e9]
  show AW l G mX8_makesPlan (d + 1) 0 0 Q 10 [vR a0, vI x1, vU] [] 0 0 H2
  refine a_aload_n dX8_makesPlan_10 rfl rfl ?_
  refine a_ldc2 dX8_makesPlan_11 (w_1524) ?_
  show AW l G mX8_makesPlan (d + 1) 0 0 Q 14 [vR a0, vI x1, vU] [vJ 9223372036854775807, vR a0] 0 0 H2
  refine a_putJ dX8_makesPlan_14 fp_RX8_225 rfl rfl (kMod_0 h_r0_2) ?_
  have h_r0_3 := Lay.wr h_r0_2 ok_Mod (nrf_fld 21 (kMod_0 h_r0_2) (by decide) (by decide)) (i := 21) (x := 9223372036854775807)
  generalize e_H3 : hs H2 a0 21 9223372036854775807 = H3 at h_r0_3 ⊢
  replace h := h H3 e_H3.symm
  refine a_aload_n dX8_makesPlan_17 rfl rfl ?_
  refine a_iload_n dX8_makesPlan_18 rfl rfl ?_
  refine a_iconst dX8_makesPlan_19 ⟨by decide, by decide⟩ ?_
  refine a_iconst dX8_makesPlan_20 ⟨by decide, by decide⟩ ?_
  refine a_lconst dX8_makesPlan_21 ?_
  show AW l G mX8_makesPlan (d + 1) 0 0 Q 22 [vR a0, vI x1, vU] [vJ 0, vI 0, vI 0, vI x1, vR a0] 0 0 H3
  refine a_callV dX8_makesPlan_22 cw_X8_makesPlan_22 (as := [vI x1, vI 0, vI 0, vJ 0]) rfl rfl (kMod_0 h_r0_3) (Nat.le_refl _) (Nat.le_of_ble_eq_true rfl) (nocov rfl) (Nat.le_of_ble_eq_true rfl) (Nat.le_of_ble_eq_true rfl) (CL.mono h (fun r9 H4 h => ?_))
  obtain ⟨h_r0_4, e9, h⟩ := h
  rw [e9]
  show AW l G mX8_makesPlan (d + 1) 0 0 Q 25 [vR a0, vI x1, vU] [] 0 0 H4
  refine a_aload_n dX8_makesPlan_25 rfl rfl ?_
  refine a_getR dX8_makesPlan_26 fw_RX8_30 rfl rfl (kMod_0 h_r0_4) (rMod_0_14 h_r0_4) ?_
  refine a_iload_n dX8_makesPlan_29 rfl rfl ?_
  obtain ⟨q30_0, h⟩ := h
  refine b_iald dX8_makesPlan_30 (kMod_7 h_r0_4) (nMod_7 h_r0_4) q30_0 ?_
  refine a_callS dX8_makesPlan_31 cw_X8_makesPlan_31 (as := [vI (hg H4 (a0 + 7) x1)]) rfl rfl (Nat.le_refl _) (Nat.le_of_ble_eq_true rfl) (nocov rfl) (Nat.le_of_ble_eq_true rfl) (Nat.le_of_ble_eq_true rfl) (CL.mono (c_windowOf  ) (fun r9 H9 h9 => ?_))
  rw [h9.1, h9.2]
  show AW l G mX8_makesPlan (d + 1) 0 0 Q 34 [vR a0, vI x1, vU] [vI (min 7 (hg H4 (a0 + 7) x1))] 0 0 H4
  refine a_istore_n dX8_makesPlan_34 rfl (Nat.le_of_ble_eq_true rfl) (ls' := [vR a0, vI x1, vI (min 7 (hg H4 (a0 + 7) x1))]) rfl ?_
  exact h

set_option maxRecDepth 20000 in
theorem s_X8_makesPlan_35 {l : Launch} {G : GT} {d : Nat} {Q : AV → AH → Prop} {H : AH} {a0 x1 x2 : Int} (h_r0 : Lay LMod H a0) (h : (0 ≤ x1 ∧ x1 < 3) ∧ ((hg H (a0 + 7) x1) ≤ x2 → CL l G mX8_laysTimes d 0 0 [vR a0, vI x1, vR (a0 + 9)] H (fun r9 H1 => Lay LMod H1 a0 ∧ ∃ y1 : Int, r9 = vJ y1 ∧ AW l G mX8_makesPlan (d + 1) 0 0 Q 85 [vR a0, vI x1, vI 0] [] 0 0 H1)) ∧ (x2 < (hg H (a0 + 7) x1) → (-2147483648 ≤ 24 * x1 ∧ 24 * x1 ≤ 2147483647) ∧ (-2147483648 ≤ (24 * x1) + x2 ∧ (24 * x1) + x2 ≤ 2147483647) ∧ (0 ≤ ((24 * x1) + x2) ∧ ((24 * x1) + x2) < 72) ∧ ∀ H1 : AH, H1 = hs H (a0 + 9) ((24 * x1) + x2) (hg H (a0 + 8) ((24 * x1) + x2)) → (-2147483648 ≤ x2 + 1 ∧ x2 + 1 ≤ 2147483647) ∧ AW l G mX8_makesPlan (d + 1) 0 0 Q 35 [vR a0, vI x1, vI (x2 + 1)] [] 0 0 H1)) (hd : 1 ≤ d := by omega) : AW l G mX8_makesPlan (d + 1) 0 0 Q 35 [vR a0, vI x1, vI x2] [] 0 0 H := by
  refine a_iload_n dX8_makesPlan_35 rfl rfl ?_
  refine a_aload_n dX8_makesPlan_36 rfl rfl ?_
  refine a_getR dX8_makesPlan_37 fw_RX8_30 rfl rfl (kMod_0 h_r0) (rMod_0_14 h_r0) ?_
  refine a_iload_n dX8_makesPlan_40 rfl rfl ?_
  obtain ⟨q41_0, h⟩ := h
  refine b_iald dX8_makesPlan_41 (kMod_7 h_r0) (nMod_7 h_r0) q41_0 ?_
  refine a_icmp_ge dX8_makesPlan_42 (tgt := 73) rfl (fun c42 => ?_) (fun c42 => ?_)
  · replace h := h.1 c42
    refine a_aload_n dX8_makesPlan_73 rfl rfl ?_
    refine a_iload_n dX8_makesPlan_74 rfl rfl ?_
    refine a_aload_n dX8_makesPlan_75 rfl rfl ?_
    refine a_getR dX8_makesPlan_76 fw_RX8_36 rfl rfl (kMod_0 h_r0) (rMod_0_16 h_r0) ?_
    refine a_callV dX8_makesPlan_79 cw_X8_makesPlan_79 (as := [vI x1, vR (a0 + 9)]) rfl rfl (kMod_0 h_r0) (Nat.le_refl _) (Nat.le_of_ble_eq_true rfl) (nocov rfl) (Nat.le_of_ble_eq_true rfl) (Nat.le_of_ble_eq_true rfl) (CL.mono h (fun r9 H1 h => ?_))
    obtain ⟨h_r0_1, y1, e9, h⟩ := h
    rw [e9]
    show AW l G mX8_makesPlan (d + 1) 0 0 Q 82 [vR a0, vI x1, vI x2] [vJ y1] 0 0 H1
    refine a_pop2 dX8_makesPlan_82 rfl ?_
    refine a_iconst dX8_makesPlan_83 ⟨by decide, by decide⟩ ?_
    refine a_istore_n dX8_makesPlan_84 rfl (Nat.le_of_ble_eq_true rfl) (ls' := [vR a0, vI x1, vI 0]) rfl ?_
    exact h
  · replace h := h.2 c42
    refine a_aload_n dX8_makesPlan_45 rfl rfl ?_
    refine a_getR dX8_makesPlan_46 fw_RX8_36 rfl rfl (kMod_0 h_r0) (rMod_0_16 h_r0) ?_
    refine a_bipush dX8_makesPlan_49 (by decide) ?_
    refine a_iload_n dX8_makesPlan_51 rfl rfl ?_
    obtain ⟨q52_0, h⟩ := h
    refine a_imul dX8_makesPlan_52 q52_0 ?_
    refine a_iload_n dX8_makesPlan_53 rfl rfl ?_
    obtain ⟨q54_0, h⟩ := h
    refine a_iadd dX8_makesPlan_54 q54_0 ?_
    refine a_aload_n dX8_makesPlan_55 rfl rfl ?_
    refine a_getR dX8_makesPlan_56 fw_RX8_33 rfl rfl (kMod_0 h_r0) (rMod_0_15 h_r0) ?_
    refine a_bipush dX8_makesPlan_59 (by decide) ?_
    refine a_iload_n dX8_makesPlan_61 rfl rfl ?_
    refine a_imul dX8_makesPlan_62 q52_0 ?_
    refine a_iload_n dX8_makesPlan_63 rfl rfl ?_
    refine a_iadd dX8_makesPlan_64 q54_0 ?_
    obtain ⟨q65_0, h⟩ := h
    refine b_iald dX8_makesPlan_65 (kMod_8 h_r0) (nMod_8 h_r0) q65_0 ?_
    refine b_iast dX8_makesPlan_66 (kMod_9 h_r0) (nMod_9 h_r0) q65_0 ?_
    have h_r0_1 := Lay.wr h_r0 ok_Mod (nrf_arr (kMod_9 h_r0) (by decide) (by decide)) (i := ((24 * x1) + x2)) (x := (hg H (a0 + 8) ((24 * x1) + x2)))
    generalize e_H1 : hs H (a0 + 9) ((24 * x1) + x2) (hg H (a0 + 8) ((24 * x1) + x2)) = H1 at h_r0_1 ⊢
    replace h := h H1 e_H1.symm
    obtain ⟨q67_0, h⟩ := h
    refine a_iinc dX8_makesPlan_67 rfl (Nat.le_of_ble_eq_true rfl) (by decide) q67_0 (ls' := [vR a0, vI x1, vI (x2 + 1)]) rfl ?_
    refine a_goto dX8_makesPlan_70 (tgt := 35) rfl ?_
    exact h

set_option maxRecDepth 20000 in
theorem s_X8_makesPlan_85 {l : Launch} {G : GT} {d : Nat} {Q : AV → AH → Prop} {H : AH} {a0 x1 x2 : Int} (h_r0 : Lay LMod H a0) (h : (0 ≤ x1 ∧ x1 < 3) ∧ ((hg H (a0 + 7) x1) ≤ x2 → Q vV H) ∧ (x2 < (hg H (a0 + 7) x1) → (0 ≤ x2 ∧ x2 < 24) ∧ (0 ≤ (hg H (a0 + 12) x2) ∧ (hg H (a0 + 12) x2) < 24) ∧ ∀ H1 : AH, H1 = hs H (a0 + 10) (hg H (a0 + 12) x2) (hg H (a0 + 13) x2) → (-2147483648 ≤ x2 + 1 ∧ x2 + 1 ≤ 2147483647) ∧ AW l G mX8_makesPlan (d + 1) 0 0 Q 85 [vR a0, vI x1, vI (x2 + 1)] [] 0 0 H1)) (hd : 1 ≤ d := by omega) : AW l G mX8_makesPlan (d + 1) 0 0 Q 85 [vR a0, vI x1, vI x2] [] 0 0 H := by
  refine a_iload_n dX8_makesPlan_85 rfl rfl ?_
  refine a_aload_n dX8_makesPlan_86 rfl rfl ?_
  refine a_getR dX8_makesPlan_87 fw_RX8_30 rfl rfl (kMod_0 h_r0) (rMod_0_14 h_r0) ?_
  refine a_iload_n dX8_makesPlan_90 rfl rfl ?_
  obtain ⟨q91_0, h⟩ := h
  refine b_iald dX8_makesPlan_91 (kMod_7 h_r0) (nMod_7 h_r0) q91_0 ?_
  refine a_icmp_ge dX8_makesPlan_92 (tgt := 118) rfl (fun c92 => ?_) (fun c92 => ?_)
  · replace h := h.1 c92
    exact a_vret dX8_makesPlan_118 rfl (Nat.le_of_ble_eq_true rfl) (Nat.le_of_ble_eq_true rfl) h
  · replace h := h.2 c92
    refine a_aload_n dX8_makesPlan_95 rfl rfl ?_
    refine a_getR dX8_makesPlan_96 fw_RX8_39 rfl rfl (kMod_0 h_r0) (rMod_0_17 h_r0) ?_
    refine a_aload_n dX8_makesPlan_99 rfl rfl ?_
    refine a_getR dX8_makesPlan_100 fw_RX8_45 rfl rfl (kMod_0 h_r0) (rMod_0_19 h_r0) ?_
    refine a_iload_n dX8_makesPlan_103 rfl rfl ?_
    obtain ⟨q104_0, h⟩ := h
    refine b_iald dX8_makesPlan_104 (kMod_12 h_r0) (nMod_12 h_r0) q104_0 ?_
    refine a_aload_n dX8_makesPlan_105 rfl rfl ?_
    refine a_getR dX8_makesPlan_106 fw_RX8_48 rfl rfl (kMod_0 h_r0) (rMod_0_20 h_r0) ?_
    refine a_iload_n dX8_makesPlan_109 rfl rfl ?_
    refine b_iald dX8_makesPlan_110 (kMod_13 h_r0) (nMod_13 h_r0) q104_0 ?_
    obtain ⟨q111_0, h⟩ := h
    refine b_iast dX8_makesPlan_111 (kMod_10 h_r0) (nMod_10 h_r0) q111_0 ?_
    have h_r0_1 := Lay.wr h_r0 ok_Mod (nrf_arr (kMod_10 h_r0) (by decide) (by decide)) (i := (hg H (a0 + 12) x2)) (x := (hg H (a0 + 13) x2))
    generalize e_H1 : hs H (a0 + 10) (hg H (a0 + 12) x2) (hg H (a0 + 13) x2) = H1 at h_r0_1 ⊢
    replace h := h H1 e_H1.symm
    obtain ⟨q112_0, h⟩ := h
    refine a_iinc dX8_makesPlan_112 rfl (Nat.le_of_ble_eq_true rfl) (by decide) q112_0 (ls' := [vR a0, vI x1, vI (x2 + 1)]) rfl ?_
    refine a_goto dX8_makesPlan_115 (tgt := 85) rfl ?_
    exact h


theorem dX8_makes_0 : decode cX8_makes 0 = .ok (.aload_n 0, 1) := by decide +kernel
theorem dX8_makes_1 : decode cX8_makes 1 = .ok (.getfield 63, 3) := by decide +kernel
theorem dX8_makes_4 : decode cX8_makes 4 = .ok (.ifCond .eq 4, 3) := by decide +kernel
theorem dX8_makes_7 : decode cX8_makes 7 = .ok (.return_, 1) := by decide +kernel
theorem dX8_makes_8 : decode cX8_makes 8 = .ok (.aload_n 0, 1) := by decide +kernel
theorem dX8_makes_9 : decode cX8_makes 9 = .ok (.iconst 1, 1) := by decide +kernel
theorem dX8_makes_10 : decode cX8_makes 10 = .ok (.putfield 63, 3) := by decide +kernel
theorem dX8_makes_13 : decode cX8_makes 13 = .ok (.iconst 0, 1) := by decide +kernel
theorem dX8_makes_14 : decode cX8_makes 14 = .ok (.istore_n 1, 1) := by decide +kernel
theorem dX8_makes_15 : decode cX8_makes 15 = .ok (.iload_n 1, 1) := by decide +kernel
theorem dX8_makes_16 : decode cX8_makes 16 = .ok (.aload_n 0, 1) := by decide +kernel
theorem dX8_makes_17 : decode cX8_makes 17 = .ok (.getfield 9, 3) := by decide +kernel
theorem dX8_makes_20 : decode cX8_makes 20 = .ok (.iconst 5, 1) := by decide +kernel
theorem dX8_makes_21 : decode cX8_makes 21 = .ok (.iaload, 1) := by decide +kernel
theorem dX8_makes_22 : decode cX8_makes 22 = .ok (.if_icmp .ge 14, 3) := by decide +kernel
theorem dX8_makes_25 : decode cX8_makes 25 = .ok (.aload_n 0, 1) := by decide +kernel
theorem dX8_makes_26 : decode cX8_makes 26 = .ok (.iload_n 1, 1) := by decide +kernel
theorem dX8_makes_27 : decode cX8_makes 27 = .ok (.invokevirtual 258, 3) := by decide +kernel
theorem dX8_makes_30 : decode cX8_makes 30 = .ok (.iinc 1 1, 3) := by decide +kernel
theorem dX8_makes_33 : decode cX8_makes 33 = .ok (.goto (-18), 3) := by decide +kernel
theorem dX8_makes_36 : decode cX8_makes 36 = .ok (.return_, 1) := by decide +kernel
set_option maxRecDepth 20000 in
theorem s_X8_makes_0 {l : Launch} {G : GT} {d : Nat} {Q : AV → AH → Prop} {H : AH} {a0 : Int} (h_r0 : Lay LMod H a0) (h : ((hg H a0 13) = 0 → ∀ H1 : AH, H1 = hs H a0 13 1 → AW l G mX8_makes (d + 1) 0 0 Q 15 [vR a0, vI 0] [] 0 0 H1) ∧ (¬ (hg H a0 13) = 0 → Q vV H)) : AW l G mX8_makes (d + 1) 0 0 Q 0 [vR a0, vU] [] 0 0 H := by
  refine a_aload_n dX8_makes_0 rfl rfl ?_
  refine a_getI dX8_makes_1 fw_RX8_63 rfl rfl (kMod_0 h_r0) ?_
  refine a_if_eq dX8_makes_4 (tgt := 8) rfl (fun c4 => ?_) (fun c4 => ?_)
  · replace h := h.1 c4
    refine a_aload_n dX8_makes_8 rfl rfl ?_
    refine a_iconst dX8_makes_9 ⟨by decide, by decide⟩ ?_
    refine a_putZ dX8_makes_10 fp_RX8_63 rfl rfl (kMod_0 h_r0) (by decide) ?_
    have h_r0_1 := Lay.wr h_r0 ok_Mod (nrf_fld 13 (kMod_0 h_r0) (by decide) (by decide)) (i := 13) (x := 1)
    generalize e_H1 : hs H a0 13 1 = H1 at h_r0_1 ⊢
    replace h := h H1 e_H1.symm
    refine a_iconst dX8_makes_13 ⟨by decide, by decide⟩ ?_
    refine a_istore_n dX8_makes_14 rfl (Nat.le_of_ble_eq_true rfl) (ls' := [vR a0, vI 0]) rfl ?_
    exact h
  · replace h := h.2 c4
    exact a_vret dX8_makes_7 rfl (Nat.le_of_ble_eq_true rfl) (Nat.le_of_ble_eq_true rfl) h

set_option maxRecDepth 20000 in
theorem s_X8_makes_15 {l : Launch} {G : GT} {d : Nat} {Q : AV → AH → Prop} {H : AH} {a0 x1 : Int} (h_r0 : Lay LMod H a0) (h : ((rowM H a0 5) ≤ x1 → Q vV H) ∧ (x1 < (rowM H a0 5) → CL l G mX8_makesPlan d 0 0 [vR a0, vI x1] H (fun r9 H1 => Lay LMod H1 a0 ∧ r9 = vV ∧ (-2147483648 ≤ x1 + 1 ∧ x1 + 1 ≤ 2147483647) ∧ AW l G mX8_makes (d + 1) 0 0 Q 15 [vR a0, vI (x1 + 1)] [] 0 0 H1))) : AW l G mX8_makes (d + 1) 0 0 Q 15 [vR a0, vI x1] [] 0 0 H := by
  refine a_iload_n dX8_makes_15 rfl rfl ?_
  refine a_aload_n dX8_makes_16 rfl rfl ?_
  refine a_getR dX8_makes_17 fw_RX8_9 rfl rfl (kMod_0 h_r0) (rMod_0_0 h_r0) ?_
  refine a_iconst dX8_makes_20 ⟨by decide, by decide⟩ ?_
  refine b_iald dX8_makes_21 (kMod_1 h_r0) (nMod_1 h_r0) (⟨by decide, by decide⟩) ?_
  refine a_icmp_ge dX8_makes_22 (tgt := 36) rfl (fun c22 => ?_) (fun c22 => ?_)
  · replace h := h.1 c22
    exact a_vret dX8_makes_36 rfl (Nat.le_of_ble_eq_true rfl) (Nat.le_of_ble_eq_true rfl) h
  · replace h := h.2 c22
    refine a_aload_n dX8_makes_25 rfl rfl ?_
    refine a_iload_n dX8_makes_26 rfl rfl ?_
    refine a_callV dX8_makes_27 cw_X8_makes_27 (as := [vI x1]) rfl rfl (kMod_0 h_r0) (Nat.le_refl _) (Nat.le_of_ble_eq_true rfl) (nocov rfl) (Nat.le_of_ble_eq_true rfl) (Nat.le_of_ble_eq_true rfl) (CL.mono h (fun r9 H1 h => ?_))
    obtain ⟨h_r0_1, e9, h⟩ := h
    rw [e9]
    show AW l G mX8_makes (d + 1) 0 0 Q 30 [vR a0, vI x1] [] 0 0 H1
    obtain ⟨q30_0, h⟩ := h
    refine a_iinc dX8_makes_30 rfl (Nat.le_of_ble_eq_true rfl) (by decide) q30_0 (ls' := [vR a0, vI (x1 + 1)]) rfl ?_
    refine a_goto dX8_makes_33 (tgt := 15) rfl ?_
    exact h


