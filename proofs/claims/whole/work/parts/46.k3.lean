theorem dX2_lineUp_0 : decode cX2_lineUp 0 = .ok (.iconst 0, 1) := by decide +kernel
theorem dX2_lineUp_1 : decode cX2_lineUp 1 = .ok (.istore_n 3, 1) := by decide +kernel
theorem dX2_lineUp_2 : decode cX2_lineUp 2 = .ok (.iconst 0, 1) := by decide +kernel
theorem dX2_lineUp_3 : decode cX2_lineUp 3 = .ok (.istore 4, 2) := by decide +kernel
theorem dX2_lineUp_5 : decode cX2_lineUp 5 = .ok (.iload 4, 2) := by decide +kernel
theorem dX2_lineUp_7 : decode cX2_lineUp 7 = .ok (.aload_n 1, 1) := by decide +kernel
theorem dX2_lineUp_8 : decode cX2_lineUp 8 = .ok (.getfield 34, 3) := by decide +kernel
theorem dX2_lineUp_11 : decode cX2_lineUp 11 = .ok (.getfield 40, 3) := by decide +kernel
theorem dX2_lineUp_14 : decode cX2_lineUp 14 = .ok (.if_icmp .ge 93, 3) := by decide +kernel
theorem dX2_lineUp_17 : decode cX2_lineUp 17 = .ok (.aload_n 1, 1) := by decide +kernel
theorem dX2_lineUp_18 : decode cX2_lineUp 18 = .ok (.getfield 46, 3) := by decide +kernel
theorem dX2_lineUp_21 : decode cX2_lineUp 21 = .ok (.iload 4, 2) := by decide +kernel
theorem dX2_lineUp_23 : decode cX2_lineUp 23 = .ok (.iaload, 1) := by decide +kernel
theorem dX2_lineUp_24 : decode cX2_lineUp 24 = .ok (.ifCond .ne 77, 3) := by decide +kernel
theorem dX2_lineUp_27 : decode cX2_lineUp 27 = .ok (.aload_n 1, 1) := by decide +kernel
theorem dX2_lineUp_28 : decode cX2_lineUp 28 = .ok (.getfield 49, 3) := by decide +kernel
theorem dX2_lineUp_31 : decode cX2_lineUp 31 = .ok (.iload 4, 2) := by decide +kernel
theorem dX2_lineUp_33 : decode cX2_lineUp 33 = .ok (.iaload, 1) := by decide +kernel
theorem dX2_lineUp_34 : decode cX2_lineUp 34 = .ok (.iload_n 2, 1) := by decide +kernel
theorem dX2_lineUp_35 : decode cX2_lineUp 35 = .ok (.if_icmp .ne 66, 3) := by decide +kernel
theorem dX2_lineUp_38 : decode cX2_lineUp 38 = .ok (.iload_n 3, 1) := by decide +kernel
theorem dX2_lineUp_39 : decode cX2_lineUp 39 = .ok (.istore 5, 2) := by decide +kernel
theorem dX2_lineUp_41 : decode cX2_lineUp 41 = .ok (.iload 5, 2) := by decide +kernel
theorem dX2_lineUp_43 : decode cX2_lineUp 43 = .ok (.ifCond .le 46, 3) := by decide +kernel
theorem dX2_lineUp_46 : decode cX2_lineUp 46 = .ok (.aload_n 1, 1) := by decide +kernel
theorem dX2_lineUp_47 : decode cX2_lineUp 47 = .ok (.getfield 34, 3) := by decide +kernel
theorem dX2_lineUp_50 : decode cX2_lineUp 50 = .ok (.iload 4, 2) := by decide +kernel
theorem dX2_lineUp_52 : decode cX2_lineUp 52 = .ok (.aload_n 0, 1) := by decide +kernel
theorem dX2_lineUp_53 : decode cX2_lineUp 53 = .ok (.getfield 18, 3) := by decide +kernel
theorem dX2_lineUp_56 : decode cX2_lineUp 56 = .ok (.iload 5, 2) := by decide +kernel
theorem dX2_lineUp_58 : decode cX2_lineUp 58 = .ok (.iconst 1, 1) := by decide +kernel
theorem dX2_lineUp_59 : decode cX2_lineUp 59 = .ok (.isub, 1) := by decide +kernel
theorem dX2_lineUp_60 : decode cX2_lineUp 60 = .ok (.iaload, 1) := by decide +kernel
theorem dX2_lineUp_61 : decode cX2_lineUp 61 = .ok (.invokevirtual 52, 3) := by decide +kernel
theorem dX2_lineUp_64 : decode cX2_lineUp 64 = .ok (.ifCond .eq 25, 3) := by decide +kernel
theorem dX2_lineUp_67 : decode cX2_lineUp 67 = .ok (.aload_n 0, 1) := by decide +kernel
theorem dX2_lineUp_68 : decode cX2_lineUp 68 = .ok (.getfield 18, 3) := by decide +kernel
theorem dX2_lineUp_71 : decode cX2_lineUp 71 = .ok (.iload 5, 2) := by decide +kernel
theorem dX2_lineUp_73 : decode cX2_lineUp 73 = .ok (.aload_n 0, 1) := by decide +kernel
theorem dX2_lineUp_74 : decode cX2_lineUp 74 = .ok (.getfield 18, 3) := by decide +kernel
theorem dX2_lineUp_77 : decode cX2_lineUp 77 = .ok (.iload 5, 2) := by decide +kernel
theorem dX2_lineUp_79 : decode cX2_lineUp 79 = .ok (.iconst 1, 1) := by decide +kernel
theorem dX2_lineUp_80 : decode cX2_lineUp 80 = .ok (.isub, 1) := by decide +kernel
theorem dX2_lineUp_81 : decode cX2_lineUp 81 = .ok (.iaload, 1) := by decide +kernel
theorem dX2_lineUp_82 : decode cX2_lineUp 82 = .ok (.iastore, 1) := by decide +kernel
theorem dX2_lineUp_83 : decode cX2_lineUp 83 = .ok (.iinc 5 (-1), 3) := by decide +kernel
theorem dX2_lineUp_86 : decode cX2_lineUp 86 = .ok (.goto (-45), 3) := by decide +kernel
theorem dX2_lineUp_89 : decode cX2_lineUp 89 = .ok (.aload_n 0, 1) := by decide +kernel
theorem dX2_lineUp_90 : decode cX2_lineUp 90 = .ok (.getfield 18, 3) := by decide +kernel
theorem dX2_lineUp_93 : decode cX2_lineUp 93 = .ok (.iload 5, 2) := by decide +kernel
theorem dX2_lineUp_95 : decode cX2_lineUp 95 = .ok (.iload 4, 2) := by decide +kernel
theorem dX2_lineUp_97 : decode cX2_lineUp 97 = .ok (.iastore, 1) := by decide +kernel
theorem dX2_lineUp_98 : decode cX2_lineUp 98 = .ok (.iinc 3 1, 3) := by decide +kernel
theorem dX2_lineUp_101 : decode cX2_lineUp 101 = .ok (.iinc 4 1, 3) := by decide +kernel
theorem dX2_lineUp_104 : decode cX2_lineUp 104 = .ok (.goto (-99), 3) := by decide +kernel
theorem dX2_lineUp_107 : decode cX2_lineUp 107 = .ok (.iload_n 3, 1) := by decide +kernel
theorem dX2_lineUp_108 : decode cX2_lineUp 108 = .ok (.ireturn, 1) := by decide +kernel
set_option maxRecDepth 20000 in
theorem s_X2_lineUp_0 {l : Launch} {G : GT} {d : Nat} {Q : AV → AH → Prop} {H : AH} {a0 a1 x2 : Int} {M : Row} (hS : SK H a1 M) (h_r0 : Lay LPla H a0) (hsep : a1 + 23 ≤ a0 ∨ a0 + 17 ≤ a1) (h : AW l G mX2_lineUp (d + 1) 0 0 Q 5 [vR a0, vR a1, vI x2, vI 0, vI 0, vU] [] 0 0 H) : AW l G mX2_lineUp (d + 1) 0 0 Q 0 [vR a0, vR a1, vI x2, vU, vU, vU] [] 0 0 H := by
  refine a_iconst dX2_lineUp_0 ⟨by decide, by decide⟩ ?_
  refine a_istore_n dX2_lineUp_1 rfl (Nat.le_of_ble_eq_true rfl) (ls' := [vR a0, vR a1, vI x2, vI 0, vU, vU]) rfl ?_
  refine a_iconst dX2_lineUp_2 ⟨by decide, by decide⟩ ?_
  refine a_istore dX2_lineUp_3 (Nat.le_of_ble_eq_true rfl) (ls' := [vR a0, vR a1, vI x2, vI 0, vI 0, vU]) rfl ?_
  exact h

set_option maxRecDepth 20000 in
theorem s_X2_lineUp_5 {l : Launch} {G : GT} {d : Nat} {Q : AV → AH → Prop} {H : AH} {a0 a1 x2 x3 x4 : Int} {M : Row} (hS : SK H a1 M) (h_r0 : Lay LPla H a0) (hsep : a1 + 23 ≤ a0 ∨ a0 + 17 ≤ a1) (h : ((M 6) ≤ x4 → Q (vI x3) H) ∧ (x4 < (M 6) → (0 ≤ x4 ∧ x4 < M 6) ∧ (¬ (ofM M x4 7) = 0 → (-2147483648 ≤ x4 + 1 ∧ x4 + 1 ≤ 2147483647) ∧ AW l G mX2_lineUp (d + 1) 0 0 Q 5 [vR a0, vR a1, vI x2, vI x3, vI (x4 + 1), vU] [] 0 0 H) ∧ ((ofM M x4 7) = 0 → (¬ (ofM M x4 6) = x2 → (-2147483648 ≤ x4 + 1 ∧ x4 + 1 ≤ 2147483647) ∧ AW l G mX2_lineUp (d + 1) 0 0 Q 5 [vR a0, vR a1, vI x2, vI x3, vI (x4 + 1), vU] [] 0 0 H) ∧ ((ofM M x4 6) = x2 → AW l G mX2_lineUp (d + 1) 0 0 Q 41 [vR a0, vR a1, vI x2, vI x3, vI x4, vI x3] [] 0 0 H)))) : AW l G mX2_lineUp (d + 1) 0 0 Q 5 [vR a0, vR a1, vI x2, vI x3, vI x4, vU] [] 0 0 H := by
  refine a_iload dX2_lineUp_5 rfl ?_
  refine a_aload_n dX2_lineUp_7 rfl rfl ?_
  refine a_getR dX2_lineUp_8 fw_RX2_34 rfl rfl (kSta_0 hS.1) (rSta_0_1 hS.1) ?_
  refine a_getIV dX2_lineUp_11 fw_RX2_40 rfl rfl (kSta_5 hS.1) (sk_5_0 hS) ?_
  refine a_icmp_ge dX2_lineUp_14 (tgt := 107) rfl (fun c14 => ?_) (fun c14 => ?_)
  · replace h := h.1 c14
    refine a_iload_n dX2_lineUp_107 rfl rfl ?_
    exact a_iret dX2_lineUp_108 rfl (Nat.le_of_ble_eq_true rfl) (Nat.le_of_ble_eq_true rfl) h
  · replace h := h.2 c14
    refine a_aload_n dX2_lineUp_17 rfl rfl ?_
    refine a_getR dX2_lineUp_18 fw_RX2_46 rfl rfl (kSta_0 hS.1) (rSta_0_4 hS.1) ?_
    refine a_iload dX2_lineUp_21 rfl ?_
    obtain ⟨q23_0, h⟩ := h
    refine b_ialdV dX2_lineUp_23 (kSta_15 hS.1) (nSta_15 hS.1) (sk_lt hS q23_0) (sk_15 hS q23_0) ?_
    refine a_if_ne dX2_lineUp_24 (tgt := 101) rfl (fun c24 => ?_) (fun c24 => ?_)
    · replace h := h.1 c24
      obtain ⟨q101_0, h⟩ := h
      refine a_iinc dX2_lineUp_101 rfl (Nat.le_of_ble_eq_true rfl) (by decide) q101_0 (ls' := [vR a0, vR a1, vI x2, vI x3, vI (x4 + 1), vU]) rfl ?_
      refine a_goto dX2_lineUp_104 (tgt := 5) rfl ?_
      exact h
    · replace h := h.2 c24
      refine a_aload_n dX2_lineUp_27 rfl rfl ?_
      refine a_getR dX2_lineUp_28 fw_RX2_49 rfl rfl (kSta_0 hS.1) (rSta_0_3 hS.1) ?_
      refine a_iload dX2_lineUp_31 rfl ?_
      refine b_ialdV dX2_lineUp_33 (kSta_14 hS.1) (nSta_14 hS.1) (sk_lt hS q23_0) (sk_14 hS q23_0) ?_
      refine a_iload_n dX2_lineUp_34 rfl rfl ?_
      refine a_icmp_ne dX2_lineUp_35 (tgt := 101) rfl (fun c35 => ?_) (fun c35 => ?_)
      · replace h := h.1 c35
        obtain ⟨q101_0, h⟩ := h
        refine a_iinc dX2_lineUp_101 rfl (Nat.le_of_ble_eq_true rfl) (by decide) q101_0 (ls' := [vR a0, vR a1, vI x2, vI x3, vI (x4 + 1), vU]) rfl ?_
        refine a_goto dX2_lineUp_104 (tgt := 5) rfl ?_
        exact h
      · replace h := h.2 c35
        refine a_iload_n dX2_lineUp_38 rfl rfl ?_
        refine a_istore dX2_lineUp_39 (Nat.le_of_ble_eq_true rfl) (ls' := [vR a0, vR a1, vI x2, vI x3, vI x4, vI x3]) rfl ?_
        exact h

set_option maxRecDepth 20000 in
theorem s_X2_lineUp_41 {l : Launch} {G : GT} {d : Nat} {Q : AV → AH → Prop} {H : AH} {a0 a1 x2 x3 x4 x5 : Int} {M : Row} (hS : SK H a1 M) (h_r0 : Lay LPla H a0) (hsep : a1 + 23 ≤ a0 ∨ a0 + 17 ≤ a1) (h : (x5 ≤ 0 → (0 ≤ x5 ∧ x5 < 24) ∧ ∀ H1 : AH, H1 = hs H (a0 + 12) x5 x4 → (-2147483648 ≤ x3 + 1 ∧ x3 + 1 ≤ 2147483647) ∧ (-2147483648 ≤ x4 + 1 ∧ x4 + 1 ≤ 2147483647) ∧ AW l G mX2_lineUp (d + 1) 0 0 Q 5 [vR a0, vR a1, vI x2, vI (x3 + 1), vI (x4 + 1), vU] [] 0 0 H1) ∧ (0 < x5 → (-2147483648 ≤ x5 - 1 ∧ x5 - 1 ≤ 2147483647) ∧ (0 ≤ (x5 - 1) ∧ (x5 - 1) < 24) ∧ (fl M x4) ∧ (fl M (hg H (a0 + 12) (x5 - 1))) ∧ (¬ (cbf M x4 (hg H (a0 + 12) (x5 - 1))) → (0 ≤ x5 ∧ x5 < 24) ∧ ∀ H1 : AH, H1 = hs H (a0 + 12) x5 x4 → (-2147483648 ≤ x3 + 1 ∧ x3 + 1 ≤ 2147483647) ∧ (-2147483648 ≤ x4 + 1 ∧ x4 + 1 ≤ 2147483647) ∧ AW l G mX2_lineUp (d + 1) 0 0 Q 5 [vR a0, vR a1, vI x2, vI (x3 + 1), vI (x4 + 1), vU] [] 0 0 H1) ∧ (cbf M x4 (hg H (a0 + 12) (x5 - 1)) → (0 ≤ x5 ∧ x5 < 24) ∧ ∀ H1 : AH, H1 = hs H (a0 + 12) x5 (hg H (a0 + 12) (x5 - 1)) → (-2147483648 ≤ x5 + (-1) ∧ x5 + (-1) ≤ 2147483647) ∧ AW l G mX2_lineUp (d + 1) 0 0 Q 41 [vR a0, vR a1, vI x2, vI x3, vI x4, vI (x5 + (-1))] [] 0 0 H1))) : AW l G mX2_lineUp (d + 1) 0 0 Q 41 [vR a0, vR a1, vI x2, vI x3, vI x4, vI x5] [] 0 0 H := by
  refine a_iload dX2_lineUp_41 rfl ?_
  refine a_if_le dX2_lineUp_43 (tgt := 89) rfl (fun c43 => ?_) (fun c43 => ?_)
  · replace h := h.1 c43
    refine a_aload_n dX2_lineUp_89 rfl rfl ?_
    refine a_getR dX2_lineUp_90 fw_RX2_18 rfl rfl (kPla_0 h_r0) (rPla_0_1 h_r0) ?_
    refine a_iload dX2_lineUp_93 rfl ?_
    refine a_iload dX2_lineUp_95 rfl ?_
    obtain ⟨q97_0, h⟩ := h
    refine b_iast dX2_lineUp_97 (kPla_12 h_r0) (nPla_12 h_r0) q97_0 ?_
    have h_r0_1 := Lay.wr h_r0 ok_Pla (nrf_arr (kPla_12 h_r0) (by decide) (by decide)) (i := x5) (x := x4)
    have h_r1_1 := Lay.wr hS.1 ok_Sta (nrf_arr (kPla_12 h_r0) (by decide) (by decide)) (i := x5) (x := x4)
    generalize e_H1 : hs H (a0 + 12) x5 x4 = H1 at h_r0_1 h_r1_1 ⊢
    replace h := h H1 e_H1.symm
    have hSr1_0_1 : SK H1 a1 M := by rw [← e_H1]; exact SK.wr hS (nrf_arr (kPla_12 h_r0) (by decide) (by decide)) (by omega)
    obtain ⟨q98_0, h⟩ := h
    refine a_iinc dX2_lineUp_98 rfl (Nat.le_of_ble_eq_true rfl) (by decide) q98_0 (ls' := [vR a0, vR a1, vI x2, vI (x3 + 1), vI x4, vI x5]) rfl ?_
    obtain ⟨q101_0, h⟩ := h
    refine a_iinc dX2_lineUp_101 rfl (Nat.le_of_ble_eq_true rfl) (by decide) q101_0 (ls' := [vR a0, vR a1, vI x2, vI (x3 + 1), vI (x4 + 1), vI x5]) rfl ?_
    refine a_goto dX2_lineUp_104 (tgt := 5) rfl ?_
    exact a_weak (wk_e (wk_e (wk_e (wk_e (wk_e (wk_u wk_n)))))) h
  · replace h := h.2 c43
    refine a_aload_n dX2_lineUp_46 rfl rfl ?_
    refine a_getR dX2_lineUp_47 fw_RX2_34 rfl rfl (kSta_0 hS.1) (rSta_0_1 hS.1) ?_
    refine a_iload dX2_lineUp_50 rfl ?_
    refine a_aload_n dX2_lineUp_52 rfl rfl ?_
    refine a_getR dX2_lineUp_53 fw_RX2_18 rfl rfl (kPla_0 h_r0) (rPla_0_1 h_r0) ?_
    refine a_iload dX2_lineUp_56 rfl ?_
    refine a_iconst dX2_lineUp_58 ⟨by decide, by decide⟩ ?_
    obtain ⟨q59_0, h⟩ := h
    refine a_isub dX2_lineUp_59 q59_0 ?_
    obtain ⟨q60_0, h⟩ := h
    refine b_iald dX2_lineUp_60 (kPla_12 h_r0) (nPla_12 h_r0) q60_0 ?_
    obtain ⟨q61_0, h⟩ := h
    obtain ⟨q61_1, h⟩ := h
    refine a_callV dX2_lineUp_61 cw_X2_lineUp_61 (as := [vI x4, vI (hg H (a0 + 12) (x5 - 1))]) rfl rfl (kSta_5 hS.1) (Nat.le_refl _) (Nat.le_of_ble_eq_true rfl) (nocov rfl) (Nat.le_of_ble_eq_true rfl) (Nat.le_of_ble_eq_true rfl) (CL.mono (k_comesBefore hS  q61_0 q61_1) (fun r9 H9 h9 => ?_))
    rw [h9.1, h9.2]
    show AW l G mX2_lineUp (d + 1) 0 0 Q 64 [vR a0, vR a1, vI x2, vI x3, vI x4, vI x5] [vI (bi (decide (cbf M x4 (hg H (a0 + 12) (x5 - 1)))))] 0 0 H
    refine a_if_eq dX2_lineUp_64 (tgt := 89) rfl (fun c64 => ?_) (fun c64 => ?_)
    · replace h := h.1 (bi_0 c64)
      refine a_aload_n dX2_lineUp_89 rfl rfl ?_
      refine a_getR dX2_lineUp_90 fw_RX2_18 rfl rfl (kPla_0 h_r0) (rPla_0_1 h_r0) ?_
      refine a_iload dX2_lineUp_93 rfl ?_
      refine a_iload dX2_lineUp_95 rfl ?_
      obtain ⟨q97_0, h⟩ := h
      refine b_iast dX2_lineUp_97 (kPla_12 h_r0) (nPla_12 h_r0) q97_0 ?_
      have h_r0_1 := Lay.wr h_r0 ok_Pla (nrf_arr (kPla_12 h_r0) (by decide) (by decide)) (i := x5) (x := x4)
      have h_r1_1 := Lay.wr hS.1 ok_Sta (nrf_arr (kPla_12 h_r0) (by decide) (by decide)) (i := x5) (x := x4)
      generalize e_H1 : hs H (a0 + 12) x5 x4 = H1 at h_r0_1 h_r1_1 ⊢
      replace h := h H1 e_H1.symm
      have hSr1_0_1 : SK H1 a1 M := by rw [← e_H1]; exact SK.wr hS (nrf_arr (kPla_12 h_r0) (by decide) (by decide)) (by omega)
      obtain ⟨q98_0, h⟩ := h
      refine a_iinc dX2_lineUp_98 rfl (Nat.le_of_ble_eq_true rfl) (by decide) q98_0 (ls' := [vR a0, vR a1, vI x2, vI (x3 + 1), vI x4, vI x5]) rfl ?_
      obtain ⟨q101_0, h⟩ := h
      refine a_iinc dX2_lineUp_101 rfl (Nat.le_of_ble_eq_true rfl) (by decide) q101_0 (ls' := [vR a0, vR a1, vI x2, vI (x3 + 1), vI (x4 + 1), vI x5]) rfl ?_
      refine a_goto dX2_lineUp_104 (tgt := 5) rfl ?_
      exact a_weak (wk_e (wk_e (wk_e (wk_e (wk_e (wk_u wk_n)))))) h
    · replace h := h.2 (bi_1 c64)
      refine a_aload_n dX2_lineUp_67 rfl rfl ?_
      refine a_getR dX2_lineUp_68 fw_RX2_18 rfl rfl (kPla_0 h_r0) (rPla_0_1 h_r0) ?_
      refine a_iload dX2_lineUp_71 rfl ?_
      refine a_aload_n dX2_lineUp_73 rfl rfl ?_
      refine a_getR dX2_lineUp_74 fw_RX2_18 rfl rfl (kPla_0 h_r0) (rPla_0_1 h_r0) ?_
      refine a_iload dX2_lineUp_77 rfl ?_
      refine a_iconst dX2_lineUp_79 ⟨by decide, by decide⟩ ?_
      refine a_isub dX2_lineUp_80 q59_0 ?_
      refine b_iald dX2_lineUp_81 (kPla_12 h_r0) (nPla_12 h_r0) q60_0 ?_
      obtain ⟨q82_0, h⟩ := h
      refine b_iast dX2_lineUp_82 (kPla_12 h_r0) (nPla_12 h_r0) q82_0 ?_
      have h_r0_1 := Lay.wr h_r0 ok_Pla (nrf_arr (kPla_12 h_r0) (by decide) (by decide)) (i := x5) (x := (hg H (a0 + 12) (x5 - 1)))
      have h_r1_1 := Lay.wr hS.1 ok_Sta (nrf_arr (kPla_12 h_r0) (by decide) (by decide)) (i := x5) (x := (hg H (a0 + 12) (x5 - 1)))
      generalize e_H1 : hs H (a0 + 12) x5 (hg H (a0 + 12) (x5 - 1)) = H1 at h_r0_1 h_r1_1 ⊢
      replace h := h H1 e_H1.symm
      have hSr1_0_1 : SK H1 a1 M := by rw [← e_H1]; exact SK.wr hS (nrf_arr (kPla_12 h_r0) (by decide) (by decide)) (by omega)
      obtain ⟨q83_0, h⟩ := h
      refine a_iinc dX2_lineUp_83 rfl (Nat.le_of_ble_eq_true rfl) (by decide) q83_0 (ls' := [vR a0, vR a1, vI x2, vI x3, vI x4, vI (x5 + (-1))]) rfl ?_
      refine a_goto dX2_lineUp_86 (tgt := 41) rfl ?_
      exact h


theorem dX2_setBases_0 : decode cX2_setBases 0 = .ok (.iconst 0, 1) := by decide +kernel
theorem dX2_setBases_1 : decode cX2_setBases 1 = .ok (.istore 4, 2) := by decide +kernel
theorem dX2_setBases_3 : decode cX2_setBases 3 = .ok (.iconst 0, 1) := by decide +kernel
theorem dX2_setBases_4 : decode cX2_setBases 4 = .ok (.istore 5, 2) := by decide +kernel
theorem dX2_setBases_6 : decode cX2_setBases 6 = .ok (.iload 5, 2) := by decide +kernel
theorem dX2_setBases_8 : decode cX2_setBases 8 = .ok (.aload_n 1, 1) := by decide +kernel
theorem dX2_setBases_9 : decode cX2_setBases 9 = .ok (.getfield 34, 3) := by decide +kernel
theorem dX2_setBases_12 : decode cX2_setBases 12 = .ok (.getfield 40, 3) := by decide +kernel
theorem dX2_setBases_15 : decode cX2_setBases 15 = .ok (.if_icmp .ge 41, 3) := by decide +kernel
theorem dX2_setBases_18 : decode cX2_setBases 18 = .ok (.aload_n 1, 1) := by decide +kernel
theorem dX2_setBases_19 : decode cX2_setBases 19 = .ok (.getfield 49, 3) := by decide +kernel
theorem dX2_setBases_22 : decode cX2_setBases 22 = .ok (.iload 5, 2) := by decide +kernel
theorem dX2_setBases_24 : decode cX2_setBases 24 = .ok (.iaload, 1) := by decide +kernel
theorem dX2_setBases_25 : decode cX2_setBases 25 = .ok (.iload_n 2, 1) := by decide +kernel
theorem dX2_setBases_26 : decode cX2_setBases 26 = .ok (.if_icmp .ne 24, 3) := by decide +kernel
theorem dX2_setBases_29 : decode cX2_setBases 29 = .ok (.aload_n 1, 1) := by decide +kernel
theorem dX2_setBases_30 : decode cX2_setBases 30 = .ok (.iload 5, 2) := by decide +kernel
theorem dX2_setBases_32 : decode cX2_setBases 32 = .ok (.invokevirtual 56, 3) := by decide +kernel
theorem dX2_setBases_35 : decode cX2_setBases 35 = .ok (.ifCond .eq 15, 3) := by decide +kernel
theorem dX2_setBases_38 : decode cX2_setBases 38 = .ok (.aload_n 0, 1) := by decide +kernel
theorem dX2_setBases_39 : decode cX2_setBases 39 = .ok (.getfield 22, 3) := by decide +kernel
theorem dX2_setBases_42 : decode cX2_setBases 42 = .ok (.iload 4, 2) := by decide +kernel
theorem dX2_setBases_44 : decode cX2_setBases 44 = .ok (.iload 5, 2) := by decide +kernel
theorem dX2_setBases_46 : decode cX2_setBases 46 = .ok (.iastore, 1) := by decide +kernel
theorem dX2_setBases_47 : decode cX2_setBases 47 = .ok (.iinc 4 1, 3) := by decide +kernel
theorem dX2_setBases_50 : decode cX2_setBases 50 = .ok (.iinc 5 1, 3) := by decide +kernel
theorem dX2_setBases_53 : decode cX2_setBases 53 = .ok (.goto (-47), 3) := by decide +kernel
theorem dX2_setBases_56 : decode cX2_setBases 56 = .ok (.ldc 60, 2) := by decide +kernel
theorem dX2_setBases_58 : decode cX2_setBases 58 = .ok (.istore 5, 2) := by decide +kernel
theorem dX2_setBases_60 : decode cX2_setBases 60 = .ok (.iconst 0, 1) := by decide +kernel
theorem dX2_setBases_61 : decode cX2_setBases 61 = .ok (.istore 6, 2) := by decide +kernel
theorem dX2_setBases_63 : decode cX2_setBases 63 = .ok (.iload 6, 2) := by decide +kernel
theorem dX2_setBases_65 : decode cX2_setBases 65 = .ok (.iload_n 3, 1) := by decide +kernel
theorem dX2_setBases_66 : decode cX2_setBases 66 = .ok (.if_icmp .ge 139, 3) := by decide +kernel
theorem dX2_setBases_69 : decode cX2_setBases 69 = .ok (.aload_n 0, 1) := by decide +kernel
theorem dX2_setBases_70 : decode cX2_setBases 70 = .ok (.getfield 18, 3) := by decide +kernel
theorem dX2_setBases_73 : decode cX2_setBases 73 = .ok (.iload 6, 2) := by decide +kernel
theorem dX2_setBases_75 : decode cX2_setBases 75 = .ok (.iaload, 1) := by decide +kernel
theorem dX2_setBases_76 : decode cX2_setBases 76 = .ok (.istore 7, 2) := by decide +kernel
theorem dX2_setBases_78 : decode cX2_setBases 78 = .ok (.aload_n 1, 1) := by decide +kernel
theorem dX2_setBases_79 : decode cX2_setBases 79 = .ok (.getfield 34, 3) := by decide +kernel
theorem dX2_setBases_82 : decode cX2_setBases 82 = .ok (.getfield 61, 3) := by decide +kernel
theorem dX2_setBases_85 : decode cX2_setBases 85 = .ok (.iload 7, 2) := by decide +kernel
theorem dX2_setBases_87 : decode cX2_setBases 87 = .ok (.iaload, 1) := by decide +kernel
theorem dX2_setBases_88 : decode cX2_setBases 88 = .ok (.aload_n 1, 1) := by decide +kernel
theorem dX2_setBases_89 : decode cX2_setBases 89 = .ok (.getfield 64, 3) := by decide +kernel
theorem dX2_setBases_92 : decode cX2_setBases 92 = .ok (.if_icmp .le 16, 3) := by decide +kernel
theorem dX2_setBases_95 : decode cX2_setBases 95 = .ok (.aload_n 1, 1) := by decide +kernel
theorem dX2_setBases_96 : decode cX2_setBases 96 = .ok (.getfield 34, 3) := by decide +kernel
theorem dX2_setBases_99 : decode cX2_setBases 99 = .ok (.getfield 61, 3) := by decide +kernel
theorem dX2_setBases_102 : decode cX2_setBases 102 = .ok (.iload 7, 2) := by decide +kernel
theorem dX2_setBases_104 : decode cX2_setBases 104 = .ok (.iaload, 1) := by decide +kernel
theorem dX2_setBases_105 : decode cX2_setBases 105 = .ok (.goto 7, 3) := by decide +kernel
theorem dX2_setBases_108 : decode cX2_setBases 108 = .ok (.aload_n 1, 1) := by decide +kernel
theorem dX2_setBases_109 : decode cX2_setBases 109 = .ok (.getfield 64, 3) := by decide +kernel
theorem dX2_setBases_112 : decode cX2_setBases 112 = .ok (.istore 8, 2) := by decide +kernel
theorem dX2_setBases_114 : decode cX2_setBases 114 = .ok (.iconst 0, 1) := by decide +kernel
theorem dX2_setBases_115 : decode cX2_setBases 115 = .ok (.istore 9, 2) := by decide +kernel
theorem dX2_setBases_117 : decode cX2_setBases 117 = .ok (.iload 9, 2) := by decide +kernel
theorem dX2_setBases_119 : decode cX2_setBases 119 = .ok (.iload 4, 2) := by decide +kernel
theorem dX2_setBases_121 : decode cX2_setBases 121 = .ok (.if_icmp .ge 53, 3) := by decide +kernel
theorem dX2_setBases_124 : decode cX2_setBases 124 = .ok (.aload_n 1, 1) := by decide +kernel
theorem dX2_setBases_125 : decode cX2_setBases 125 = .ok (.getfield 67, 3) := by decide +kernel
theorem dX2_setBases_128 : decode cX2_setBases 128 = .ok (.aload_n 0, 1) := by decide +kernel
theorem dX2_setBases_129 : decode cX2_setBases 129 = .ok (.getfield 22, 3) := by decide +kernel
theorem dX2_setBases_132 : decode cX2_setBases 132 = .ok (.iload 9, 2) := by decide +kernel
theorem dX2_setBases_134 : decode cX2_setBases 134 = .ok (.iaload, 1) := by decide +kernel
theorem dX2_setBases_135 : decode cX2_setBases 135 = .ok (.iaload, 1) := by decide +kernel
theorem dX2_setBases_136 : decode cX2_setBases 136 = .ok (.aload_n 1, 1) := by decide +kernel
theorem dX2_setBases_137 : decode cX2_setBases 137 = .ok (.aload_n 0, 1) := by decide +kernel
theorem dX2_setBases_138 : decode cX2_setBases 138 = .ok (.getfield 22, 3) := by decide +kernel
theorem dX2_setBases_141 : decode cX2_setBases 141 = .ok (.iload 9, 2) := by decide +kernel
theorem dX2_setBases_143 : decode cX2_setBases 143 = .ok (.iaload, 1) := by decide +kernel
theorem dX2_setBases_144 : decode cX2_setBases 144 = .ok (.iload 7, 2) := by decide +kernel
theorem dX2_setBases_146 : decode cX2_setBases 146 = .ok (.invokevirtual 70, 3) := by decide +kernel
theorem dX2_setBases_149 : decode cX2_setBases 149 = .ok (.iadd, 1) := by decide +kernel
theorem dX2_setBases_150 : decode cX2_setBases 150 = .ok (.istore 10, 2) := by decide +kernel
theorem dX2_setBases_152 : decode cX2_setBases 152 = .ok (.iload 10, 2) := by decide +kernel
theorem dX2_setBases_154 : decode cX2_setBases 154 = .ok (.iload 8, 2) := by decide +kernel
theorem dX2_setBases_156 : decode cX2_setBases 156 = .ok (.if_icmp .le 8, 3) := by decide +kernel
theorem dX2_setBases_159 : decode cX2_setBases 159 = .ok (.iload 10, 2) := by decide +kernel
theorem dX2_setBases_161 : decode cX2_setBases 161 = .ok (.goto 5, 3) := by decide +kernel
theorem dX2_setBases_164 : decode cX2_setBases 164 = .ok (.iload 8, 2) := by decide +kernel
theorem dX2_setBases_166 : decode cX2_setBases 166 = .ok (.istore 8, 2) := by decide +kernel
theorem dX2_setBases_168 : decode cX2_setBases 168 = .ok (.iinc 9 1, 3) := by decide +kernel
theorem dX2_setBases_171 : decode cX2_setBases 171 = .ok (.goto (-54), 3) := by decide +kernel
theorem dX2_setBases_174 : decode cX2_setBases 174 = .ok (.aload_n 0, 1) := by decide +kernel
theorem dX2_setBases_175 : decode cX2_setBases 175 = .ok (.getfield 25, 3) := by decide +kernel
theorem dX2_setBases_178 : decode cX2_setBases 178 = .ok (.iload 7, 2) := by decide +kernel
theorem dX2_setBases_180 : decode cX2_setBases 180 = .ok (.iload 8, 2) := by decide +kernel
theorem dX2_setBases_182 : decode cX2_setBases 182 = .ok (.iastore, 1) := by decide +kernel
theorem dX2_setBases_183 : decode cX2_setBases 183 = .ok (.iload 8, 2) := by decide +kernel
theorem dX2_setBases_185 : decode cX2_setBases 185 = .ok (.iload 5, 2) := by decide +kernel
theorem dX2_setBases_187 : decode cX2_setBases 187 = .ok (.if_icmp .ge 8, 3) := by decide +kernel
theorem dX2_setBases_190 : decode cX2_setBases 190 = .ok (.iload 8, 2) := by decide +kernel
theorem dX2_setBases_192 : decode cX2_setBases 192 = .ok (.goto 5, 3) := by decide +kernel
theorem dX2_setBases_195 : decode cX2_setBases 195 = .ok (.iload 5, 2) := by decide +kernel
theorem dX2_setBases_197 : decode cX2_setBases 197 = .ok (.istore 5, 2) := by decide +kernel
theorem dX2_setBases_199 : decode cX2_setBases 199 = .ok (.iinc 6 1, 3) := by decide +kernel
theorem dX2_setBases_202 : decode cX2_setBases 202 = .ok (.goto (-139), 3) := by decide +kernel
theorem dX2_setBases_205 : decode cX2_setBases 205 = .ok (.iload 5, 2) := by decide +kernel
theorem dX2_setBases_207 : decode cX2_setBases 207 = .ok (.ireturn, 1) := by decide +kernel
set_option maxRecDepth 20000 in
theorem s_X2_setBases_0 {l : Launch} {G : GT} {d : Nat} {Q : AV → AH → Prop} {H : AH} {a0 a1 x2 x3 : Int} {M : Row} (hS : SK H a1 M) (h_r0 : Lay LPla H a0) (hsep : a1 + 23 ≤ a0 ∨ a0 + 17 ≤ a1) (h : AW l G mX2_setBases (d + 1) 0 0 Q 6 [vR a0, vR a1, vI x2, vI x3, vI 0, vI 0, vU, vU, vU, vU, vU] [] 0 0 H) : AW l G mX2_setBases (d + 1) 0 0 Q 0 [vR a0, vR a1, vI x2, vI x3, vU, vU, vU, vU, vU, vU, vU] [] 0 0 H := by
  refine a_iconst dX2_setBases_0 ⟨by decide, by decide⟩ ?_
  refine a_istore dX2_setBases_1 (Nat.le_of_ble_eq_true rfl) (ls' := [vR a0, vR a1, vI x2, vI x3, vI 0, vU, vU, vU, vU, vU, vU]) rfl ?_
  refine a_iconst dX2_setBases_3 ⟨by decide, by decide⟩ ?_
  refine a_istore dX2_setBases_4 (Nat.le_of_ble_eq_true rfl) (ls' := [vR a0, vR a1, vI x2, vI x3, vI 0, vI 0, vU, vU, vU, vU, vU]) rfl ?_
  exact h

set_option maxRecDepth 20000 in
theorem s_X2_setBases_6 {l : Launch} {G : GT} {d : Nat} {Q : AV → AH → Prop} {H : AH} {a0 a1 x2 x3 x4 x5 : Int} {M : Row} (hS : SK H a1 M) (h_r0 : Lay LPla H a0) (hsep : a1 + 23 ≤ a0 ∨ a0 + 17 ≤ a1) (h : ((M 6) ≤ x5 → AW l G mX2_setBases (d + 1) 0 0 Q 63 [vR a0, vR a1, vI x2, vI x3, vI x4, vI 2147483647, vI 0, vU, vU, vU, vU] [] 0 0 H) ∧ (x5 < (M 6) → (0 ≤ x5 ∧ x5 < M 6) ∧ (¬ (ofM M x5 6) = x2 → (-2147483648 ≤ x5 + 1 ∧ x5 + 1 ≤ 2147483647) ∧ AW l G mX2_setBases (d + 1) 0 0 Q 6 [vR a0, vR a1, vI x2, vI x3, vI x4, vI (x5 + 1), vU, vU, vU, vU, vU] [] 0 0 H) ∧ ((ofM M x5 6) = x2 → (fl M x5) ∧ (¬ (ofM M x5 7 = 1 ∨ ofM M x5 7 = 2) → (-2147483648 ≤ x5 + 1 ∧ x5 + 1 ≤ 2147483647) ∧ AW l G mX2_setBases (d + 1) 0 0 Q 6 [vR a0, vR a1, vI x2, vI x3, vI x4, vI (x5 + 1), vU, vU, vU, vU, vU] [] 0 0 H) ∧ (ofM M x5 7 = 1 ∨ ofM M x5 7 = 2 → (0 ≤ x4 ∧ x4 < 24) ∧ ∀ H1 : AH, H1 = hs H (a0 + 13) x4 x5 → (-2147483648 ≤ x4 + 1 ∧ x4 + 1 ≤ 2147483647) ∧ (-2147483648 ≤ x5 + 1 ∧ x5 + 1 ≤ 2147483647) ∧ AW l G mX2_setBases (d + 1) 0 0 Q 6 [vR a0, vR a1, vI x2, vI x3, vI (x4 + 1), vI (x5 + 1), vU, vU, vU, vU, vU] [] 0 0 H1)))) : AW l G mX2_setBases (d + 1) 0 0 Q 6 [vR a0, vR a1, vI x2, vI x3, vI x4, vI x5, vU, vU, vU, vU, vU] [] 0 0 H := by
  refine a_iload dX2_setBases_6 rfl ?_
  refine a_aload_n dX2_setBases_8 rfl rfl ?_
  refine a_getR dX2_setBases_9 fw_RX2_34 rfl rfl (kSta_0 hS.1) (rSta_0_1 hS.1) ?_
  refine a_getIV dX2_setBases_12 fw_RX2_40 rfl rfl (kSta_5 hS.1) (sk_5_0 hS) ?_
  refine a_icmp_ge dX2_setBases_15 (tgt := 56) rfl (fun c15 => ?_) (fun c15 => ?_)
  · replace h := h.1 c15
    refine a_ldc dX2_setBases_56 (w_594) ?_
    show AW l G mX2_setBases (d + 1) 0 0 Q 58 [vR a0, vR a1, vI x2, vI x3, vI x4, vI x5, vU, vU, vU, vU, vU] [vI 2147483647] 0 0 H
    refine a_istore dX2_setBases_58 (Nat.le_of_ble_eq_true rfl) (ls' := [vR a0, vR a1, vI x2, vI x3, vI x4, vI 2147483647, vU, vU, vU, vU, vU]) rfl ?_
    refine a_iconst dX2_setBases_60 ⟨by decide, by decide⟩ ?_
    refine a_istore dX2_setBases_61 (Nat.le_of_ble_eq_true rfl) (ls' := [vR a0, vR a1, vI x2, vI x3, vI x4, vI 2147483647, vI 0, vU, vU, vU, vU]) rfl ?_
    exact h
  · replace h := h.2 c15
    refine a_aload_n dX2_setBases_18 rfl rfl ?_
    refine a_getR dX2_setBases_19 fw_RX2_49 rfl rfl (kSta_0 hS.1) (rSta_0_3 hS.1) ?_
    refine a_iload dX2_setBases_22 rfl ?_
    obtain ⟨q24_0, h⟩ := h
    refine b_ialdV dX2_setBases_24 (kSta_14 hS.1) (nSta_14 hS.1) (sk_lt hS q24_0) (sk_14 hS q24_0) ?_
    refine a_iload_n dX2_setBases_25 rfl rfl ?_
    refine a_icmp_ne dX2_setBases_26 (tgt := 50) rfl (fun c26 => ?_) (fun c26 => ?_)
    · replace h := h.1 c26
      obtain ⟨q50_0, h⟩ := h
      refine a_iinc dX2_setBases_50 rfl (Nat.le_of_ble_eq_true rfl) (by decide) q50_0 (ls' := [vR a0, vR a1, vI x2, vI x3, vI x4, vI (x5 + 1), vU, vU, vU, vU, vU]) rfl ?_
      refine a_goto dX2_setBases_53 (tgt := 6) rfl ?_
      exact h
    · replace h := h.2 c26
      refine a_aload_n dX2_setBases_29 rfl rfl ?_
      refine a_iload dX2_setBases_30 rfl ?_
      obtain ⟨q32_0, h⟩ := h
      refine a_callV dX2_setBases_32 cw_X2_setBases_32 (as := [vI x5]) rfl rfl (kSta_0 hS.1) (Nat.le_refl _) (Nat.le_of_ble_eq_true rfl) (nocov rfl) (Nat.le_of_ble_eq_true rfl) (Nat.le_of_ble_eq_true rfl) (CL.mono (k_isFixed hS  q32_0) (fun r9 H9 h9 => ?_))
      rw [h9.1, h9.2]
      show AW l G mX2_setBases (d + 1) 0 0 Q 35 [vR a0, vR a1, vI x2, vI x3, vI x4, vI x5, vU, vU, vU, vU, vU] [vI (bi (decide (ofM M x5 7 = 1 ∨ ofM M x5 7 = 2)))] 0 0 H
      refine a_if_eq dX2_setBases_35 (tgt := 50) rfl (fun c35 => ?_) (fun c35 => ?_)
      · replace h := h.1 (bi_0 c35)
        obtain ⟨q50_0, h⟩ := h
        refine a_iinc dX2_setBases_50 rfl (Nat.le_of_ble_eq_true rfl) (by decide) q50_0 (ls' := [vR a0, vR a1, vI x2, vI x3, vI x4, vI (x5 + 1), vU, vU, vU, vU, vU]) rfl ?_
        refine a_goto dX2_setBases_53 (tgt := 6) rfl ?_
        exact h
      · replace h := h.2 (bi_1 c35)
        refine a_aload_n dX2_setBases_38 rfl rfl ?_
        refine a_getR dX2_setBases_39 fw_RX2_22 rfl rfl (kPla_0 h_r0) (rPla_0_2 h_r0) ?_
        refine a_iload dX2_setBases_42 rfl ?_
        refine a_iload dX2_setBases_44 rfl ?_
        obtain ⟨q46_0, h⟩ := h
        refine b_iast dX2_setBases_46 (kPla_13 h_r0) (nPla_13 h_r0) q46_0 ?_
        have h_r0_1 := Lay.wr h_r0 ok_Pla (nrf_arr (kPla_13 h_r0) (by decide) (by decide)) (i := x4) (x := x5)
        have h_r1_1 := Lay.wr hS.1 ok_Sta (nrf_arr (kPla_13 h_r0) (by decide) (by decide)) (i := x4) (x := x5)
        generalize e_H1 : hs H (a0 + 13) x4 x5 = H1 at h_r0_1 h_r1_1 ⊢
        replace h := h H1 e_H1.symm
        have hSr1_0_1 : SK H1 a1 M := by rw [← e_H1]; exact SK.wr hS (nrf_arr (kPla_13 h_r0) (by decide) (by decide)) (by omega)
        obtain ⟨q47_0, h⟩ := h
        refine a_iinc dX2_setBases_47 rfl (Nat.le_of_ble_eq_true rfl) (by decide) q47_0 (ls' := [vR a0, vR a1, vI x2, vI x3, vI (x4 + 1), vI x5, vU, vU, vU, vU, vU]) rfl ?_
        obtain ⟨q50_0, h⟩ := h
        refine a_iinc dX2_setBases_50 rfl (Nat.le_of_ble_eq_true rfl) (by decide) q50_0 (ls' := [vR a0, vR a1, vI x2, vI x3, vI (x4 + 1), vI (x5 + 1), vU, vU, vU, vU, vU]) rfl ?_
        refine a_goto dX2_setBases_53 (tgt := 6) rfl ?_
        exact h

set_option maxRecDepth 20000 in
theorem s_X2_setBases_63 {l : Launch} {G : GT} {d : Nat} {Q : AV → AH → Prop} {H : AH} {a0 a1 x2 x3 x4 x5 x6 : Int} {M : Row} (hS : SK H a1 M) (h_r0 : Lay LPla H a0) (hsep : a1 + 23 ≤ a0 ∨ a0 + 17 ≤ a1) (h : (x3 ≤ x6 → Q (vI x5) H) ∧ (x6 < x3 → (0 ≤ x6 ∧ x6 < 24) ∧ (0 ≤ (hg H (a0 + 12) x6) ∧ (hg H (a0 + 12) x6) < M 6) ∧ ((ofM M (hg H (a0 + 12) x6) 2) ≤ (M 0) → AW l G mX2_setBases (d + 1) 0 0 Q 117 [vR a0, vR a1, vI x2, vI x3, vI x4, vI x5, vI x6, vI (hg H (a0 + 12) x6), vI (M 0), vI 0, vU] [] 0 0 H) ∧ ((M 0) < (ofM M (hg H (a0 + 12) x6) 2) → AW l G mX2_setBases (d + 1) 0 0 Q 117 [vR a0, vR a1, vI x2, vI x3, vI x4, vI x5, vI x6, vI (hg H (a0 + 12) x6), vI (ofM M (hg H (a0 + 12) x6) 2), vI 0, vU] [] 0 0 H))) : AW l G mX2_setBases (d + 1) 0 0 Q 63 [vR a0, vR a1, vI x2, vI x3, vI x4, vI x5, vI x6, vU, vU, vU, vU] [] 0 0 H := by
  refine a_iload dX2_setBases_63 rfl ?_
  refine a_iload_n dX2_setBases_65 rfl rfl ?_
  refine a_icmp_ge dX2_setBases_66 (tgt := 205) rfl (fun c66 => ?_) (fun c66 => ?_)
  · replace h := h.1 c66
    refine a_iload dX2_setBases_205 rfl ?_
    exact a_iret dX2_setBases_207 rfl (Nat.le_of_ble_eq_true rfl) (Nat.le_of_ble_eq_true rfl) h
  · replace h := h.2 c66
    refine a_aload_n dX2_setBases_69 rfl rfl ?_
    refine a_getR dX2_setBases_70 fw_RX2_18 rfl rfl (kPla_0 h_r0) (rPla_0_1 h_r0) ?_
    refine a_iload dX2_setBases_73 rfl ?_
    obtain ⟨q75_0, h⟩ := h
    refine b_iald dX2_setBases_75 (kPla_12 h_r0) (nPla_12 h_r0) q75_0 ?_
    refine a_istore dX2_setBases_76 (Nat.le_of_ble_eq_true rfl) (ls' := [vR a0, vR a1, vI x2, vI x3, vI x4, vI x5, vI x6, vI (hg H (a0 + 12) x6), vU, vU, vU]) rfl ?_
    refine a_aload_n dX2_setBases_78 rfl rfl ?_
    refine a_getR dX2_setBases_79 fw_RX2_34 rfl rfl (kSta_0 hS.1) (rSta_0_1 hS.1) ?_
    refine a_getR dX2_setBases_82 fw_RX2_61 rfl rfl (kSta_5 hS.1) (rSta_5_5 hS.1) ?_
    refine a_iload dX2_setBases_85 rfl ?_
    obtain ⟨q87_0, h⟩ := h
    refine b_ialdV dX2_setBases_87 (kSta_10 hS.1) (nSta_10 hS.1) (sk_lt hS q87_0) (sk_10 hS q87_0) ?_
    refine a_aload_n dX2_setBases_88 rfl rfl ?_
    refine a_getIV dX2_setBases_89 fw_RX2_64 rfl rfl (kSta_0 hS.1) (sk_0_2 hS) ?_
    refine a_icmp_le dX2_setBases_92 (tgt := 108) rfl (fun c92 => ?_) (fun c92 => ?_)
    · replace h := h.1 c92
      refine a_aload_n dX2_setBases_108 rfl rfl ?_
      refine a_getIV dX2_setBases_109 fw_RX2_64 rfl rfl (kSta_0 hS.1) (sk_0_2 hS) ?_
      refine a_istore dX2_setBases_112 (Nat.le_of_ble_eq_true rfl) (ls' := [vR a0, vR a1, vI x2, vI x3, vI x4, vI x5, vI x6, vI (hg H (a0 + 12) x6), vI (M 0), vU, vU]) rfl ?_
      refine a_iconst dX2_setBases_114 ⟨by decide, by decide⟩ ?_
      refine a_istore dX2_setBases_115 (Nat.le_of_ble_eq_true rfl) (ls' := [vR a0, vR a1, vI x2, vI x3, vI x4, vI x5, vI x6, vI (hg H (a0 + 12) x6), vI (M 0), vI 0, vU]) rfl ?_
      exact h
    · replace h := h.2 c92
      refine a_aload_n dX2_setBases_95 rfl rfl ?_
      refine a_getR dX2_setBases_96 fw_RX2_34 rfl rfl (kSta_0 hS.1) (rSta_0_1 hS.1) ?_
      refine a_getR dX2_setBases_99 fw_RX2_61 rfl rfl (kSta_5 hS.1) (rSta_5_5 hS.1) ?_
      refine a_iload dX2_setBases_102 rfl ?_
      refine b_ialdV dX2_setBases_104 (kSta_10 hS.1) (nSta_10 hS.1) (sk_lt hS q87_0) (sk_10 hS q87_0) ?_
      refine a_goto dX2_setBases_105 (tgt := 112) rfl ?_
      refine a_istore dX2_setBases_112 (Nat.le_of_ble_eq_true rfl) (ls' := [vR a0, vR a1, vI x2, vI x3, vI x4, vI x5, vI x6, vI (hg H (a0 + 12) x6), vI (ofM M (hg H (a0 + 12) x6) 2), vU, vU]) rfl ?_
      refine a_iconst dX2_setBases_114 ⟨by decide, by decide⟩ ?_
      refine a_istore dX2_setBases_115 (Nat.le_of_ble_eq_true rfl) (ls' := [vR a0, vR a1, vI x2, vI x3, vI x4, vI x5, vI x6, vI (hg H (a0 + 12) x6), vI (ofM M (hg H (a0 + 12) x6) 2), vI 0, vU]) rfl ?_
      exact h

set_option maxRecDepth 20000 in
theorem s_X2_setBases_117 {l : Launch} {G : GT} {d : Nat} {Q : AV → AH → Prop} {H : AH} {a0 a1 x2 x3 x4 x5 x6 x7 x8 x9 : Int} {M : Row} (hS : SK H a1 M) (h_r0 : Lay LPla H a0) (hsep : a1 + 23 ≤ a0 ∨ a0 + 17 ≤ a1) (h : (x4 ≤ x9 → (0 ≤ x7 ∧ x7 < 24) ∧ ∀ H1 : AH, H1 = hs H (a0 + 14) x7 x8 → (x5 ≤ x8 → (-2147483648 ≤ x6 + 1 ∧ x6 + 1 ≤ 2147483647) ∧ AW l G mX2_setBases (d + 1) 0 0 Q 63 [vR a0, vR a1, vI x2, vI x3, vI x4, vI x5, vI (x6 + 1), vU, vU, vU, vU] [] 0 0 H1) ∧ (x8 < x5 → (-2147483648 ≤ x6 + 1 ∧ x6 + 1 ≤ 2147483647) ∧ AW l G mX2_setBases (d + 1) 0 0 Q 63 [vR a0, vR a1, vI x2, vI x3, vI x4, vI x8, vI (x6 + 1), vU, vU, vU, vU] [] 0 0 H1)) ∧ (x9 < x4 → (0 ≤ x9 ∧ x9 < 24) ∧ (0 ≤ (hg H (a0 + 13) x9) ∧ (hg H (a0 + 13) x9) < 24) ∧ (fl M (hg H (a0 + 13) x9)) ∧ (fl M x7) ∧ (-2147483648 ≤ (hg H (a1 + 16) (hg H (a0 + 13) x9)) + (apartM M (hg H (a0 + 13) x9) x7) ∧ (hg H (a1 + 16) (hg H (a0 + 13) x9)) + (apartM M (hg H (a0 + 13) x9) x7) ≤ 2147483647) ∧ (((hg H (a1 + 16) (hg H (a0 + 13) x9)) + (apartM M (hg H (a0 + 13) x9) x7)) ≤ x8 → (-2147483648 ≤ x9 + 1 ∧ x9 + 1 ≤ 2147483647) ∧ AW l G mX2_setBases (d + 1) 0 0 Q 117 [vR a0, vR a1, vI x2, vI x3, vI x4, vI x5, vI x6, vI x7, vI x8, vI (x9 + 1), vU] [] 0 0 H) ∧ (x8 < ((hg H (a1 + 16) (hg H (a0 + 13) x9)) + (apartM M (hg H (a0 + 13) x9) x7)) → (-2147483648 ≤ x9 + 1 ∧ x9 + 1 ≤ 2147483647) ∧ AW l G mX2_setBases (d + 1) 0 0 Q 117 [vR a0, vR a1, vI x2, vI x3, vI x4, vI x5, vI x6, vI x7, vI ((hg H (a1 + 16) (hg H (a0 + 13) x9)) + (apartM M (hg H (a0 + 13) x9) x7)), vI (x9 + 1), vU] [] 0 0 H))) : AW l G mX2_setBases (d + 1) 0 0 Q 117 [vR a0, vR a1, vI x2, vI x3, vI x4, vI x5, vI x6, vI x7, vI x8, vI x9, vU] [] 0 0 H := by
  refine a_iload dX2_setBases_117 rfl ?_
  refine a_iload dX2_setBases_119 rfl ?_
  refine a_icmp_ge dX2_setBases_121 (tgt := 174) rfl (fun c121 => ?_) (fun c121 => ?_)
  · replace h := h.1 c121
    refine a_aload_n dX2_setBases_174 rfl rfl ?_
    refine a_getR dX2_setBases_175 fw_RX2_25 rfl rfl (kPla_0 h_r0) (rPla_0_3 h_r0) ?_
    refine a_iload dX2_setBases_178 rfl ?_
    refine a_iload dX2_setBases_180 rfl ?_
    obtain ⟨q182_0, h⟩ := h
    refine b_iast dX2_setBases_182 (kPla_14 h_r0) (nPla_14 h_r0) q182_0 ?_
    have h_r0_1 := Lay.wr h_r0 ok_Pla (nrf_arr (kPla_14 h_r0) (by decide) (by decide)) (i := x7) (x := x8)
    have h_r1_1 := Lay.wr hS.1 ok_Sta (nrf_arr (kPla_14 h_r0) (by decide) (by decide)) (i := x7) (x := x8)
    generalize e_H1 : hs H (a0 + 14) x7 x8 = H1 at h_r0_1 h_r1_1 ⊢
    replace h := h H1 e_H1.symm
    have hSr1_0_1 : SK H1 a1 M := by rw [← e_H1]; exact SK.wr hS (nrf_arr (kPla_14 h_r0) (by decide) (by decide)) (by omega)
    refine a_iload dX2_setBases_183 rfl ?_
    refine a_iload dX2_setBases_185 rfl ?_
    refine a_icmp_ge dX2_setBases_187 (tgt := 195) rfl (fun c187 => ?_) (fun c187 => ?_)
    · replace h := h.1 c187
      refine a_iload dX2_setBases_195 rfl ?_
      refine a_istore dX2_setBases_197 (Nat.le_of_ble_eq_true rfl) (ls' := [vR a0, vR a1, vI x2, vI x3, vI x4, vI x5, vI x6, vI x7, vI x8, vI x9, vU]) rfl ?_
      obtain ⟨q199_0, h⟩ := h
      refine a_iinc dX2_setBases_199 rfl (Nat.le_of_ble_eq_true rfl) (by decide) q199_0 (ls' := [vR a0, vR a1, vI x2, vI x3, vI x4, vI x5, vI (x6 + 1), vI x7, vI x8, vI x9, vU]) rfl ?_
      refine a_goto dX2_setBases_202 (tgt := 63) rfl ?_
      exact a_weak (wk_e (wk_e (wk_e (wk_e (wk_e (wk_e (wk_e (wk_u (wk_u (wk_u (wk_u wk_n))))))))))) h
    · replace h := h.2 c187
      refine a_iload dX2_setBases_190 rfl ?_
      refine a_goto dX2_setBases_192 (tgt := 197) rfl ?_
      refine a_istore dX2_setBases_197 (Nat.le_of_ble_eq_true rfl) (ls' := [vR a0, vR a1, vI x2, vI x3, vI x4, vI x8, vI x6, vI x7, vI x8, vI x9, vU]) rfl ?_
      obtain ⟨q199_0, h⟩ := h
      refine a_iinc dX2_setBases_199 rfl (Nat.le_of_ble_eq_true rfl) (by decide) q199_0 (ls' := [vR a0, vR a1, vI x2, vI x3, vI x4, vI x8, vI (x6 + 1), vI x7, vI x8, vI x9, vU]) rfl ?_
      refine a_goto dX2_setBases_202 (tgt := 63) rfl ?_
      exact a_weak (wk_e (wk_e (wk_e (wk_e (wk_e (wk_e (wk_e (wk_u (wk_u (wk_u (wk_u wk_n))))))))))) h
  · replace h := h.2 c121
    refine a_aload_n dX2_setBases_124 rfl rfl ?_
    refine a_getR dX2_setBases_125 fw_RX2_67 rfl rfl (kSta_0 hS.1) (rSta_0_5 hS.1) ?_
    refine a_aload_n dX2_setBases_128 rfl rfl ?_
    refine a_getR dX2_setBases_129 fw_RX2_22 rfl rfl (kPla_0 h_r0) (rPla_0_2 h_r0) ?_
    refine a_iload dX2_setBases_132 rfl ?_
    obtain ⟨q134_0, h⟩ := h
    refine b_iald dX2_setBases_134 (kPla_13 h_r0) (nPla_13 h_r0) q134_0 ?_
    obtain ⟨q135_0, h⟩ := h
    refine b_iald dX2_setBases_135 (kSta_16 hS.1) (nSta_16 hS.1) q135_0 ?_
    refine a_aload_n dX2_setBases_136 rfl rfl ?_
    refine a_aload_n dX2_setBases_137 rfl rfl ?_
    refine a_getR dX2_setBases_138 fw_RX2_22 rfl rfl (kPla_0 h_r0) (rPla_0_2 h_r0) ?_
    refine a_iload dX2_setBases_141 rfl ?_
    refine b_iald dX2_setBases_143 (kPla_13 h_r0) (nPla_13 h_r0) q134_0 ?_
    refine a_iload dX2_setBases_144 rfl ?_
    obtain ⟨q146_0, h⟩ := h
    obtain ⟨q146_1, h⟩ := h
    refine a_callV dX2_setBases_146 cw_X2_setBases_146 (as := [vI (hg H (a0 + 13) x9), vI x7]) rfl rfl (kSta_0 hS.1) (Nat.le_refl _) (Nat.le_of_ble_eq_true rfl) (nocov rfl) (Nat.le_of_ble_eq_true rfl) (Nat.le_of_ble_eq_true rfl) (CL.mono (k_gapOf hS  q146_0 q146_1) (fun r9 H9 h9 => ?_))
    rw [h9.1, h9.2]
    show AW l G mX2_setBases (d + 1) 0 0 Q 149 [vR a0, vR a1, vI x2, vI x3, vI x4, vI x5, vI x6, vI x7, vI x8, vI x9, vU] [vI (apartM M (hg H (a0 + 13) x9) x7), vI (hg H (a1 + 16) (hg H (a0 + 13) x9))] 0 0 H
    obtain ⟨q149_0, h⟩ := h
    refine a_iadd dX2_setBases_149 q149_0 ?_
    refine a_istore dX2_setBases_150 (Nat.le_of_ble_eq_true rfl) (ls' := [vR a0, vR a1, vI x2, vI x3, vI x4, vI x5, vI x6, vI x7, vI x8, vI x9, vI ((hg H (a1 + 16) (hg H (a0 + 13) x9)) + (apartM M (hg H (a0 + 13) x9) x7))]) rfl ?_
    refine a_iload dX2_setBases_152 rfl ?_
    refine a_iload dX2_setBases_154 rfl ?_
    refine a_icmp_le dX2_setBases_156 (tgt := 164) rfl (fun c156 => ?_) (fun c156 => ?_)
    · replace h := h.1 c156
      refine a_iload dX2_setBases_164 rfl ?_
      refine a_istore dX2_setBases_166 (Nat.le_of_ble_eq_true rfl) (ls' := [vR a0, vR a1, vI x2, vI x3, vI x4, vI x5, vI x6, vI x7, vI x8, vI x9, vI ((hg H (a1 + 16) (hg H (a0 + 13) x9)) + (apartM M (hg H (a0 + 13) x9) x7))]) rfl ?_
      obtain ⟨q168_0, h⟩ := h
      refine a_iinc dX2_setBases_168 rfl (Nat.le_of_ble_eq_true rfl) (by decide) q168_0 (ls' := [vR a0, vR a1, vI x2, vI x3, vI x4, vI x5, vI x6, vI x7, vI x8, vI (x9 + 1), vI ((hg H (a1 + 16) (hg H (a0 + 13) x9)) + (apartM M (hg H (a0 + 13) x9) x7))]) rfl ?_
      refine a_goto dX2_setBases_171 (tgt := 117) rfl ?_
      exact a_weak (wk_e (wk_e (wk_e (wk_e (wk_e (wk_e (wk_e (wk_e (wk_e (wk_e (wk_u wk_n))))))))))) h
    · replace h := h.2 c156
      refine a_iload dX2_setBases_159 rfl ?_
      refine a_goto dX2_setBases_161 (tgt := 166) rfl ?_
      refine a_istore dX2_setBases_166 (Nat.le_of_ble_eq_true rfl) (ls' := [vR a0, vR a1, vI x2, vI x3, vI x4, vI x5, vI x6, vI x7, vI ((hg H (a1 + 16) (hg H (a0 + 13) x9)) + (apartM M (hg H (a0 + 13) x9) x7)), vI x9, vI ((hg H (a1 + 16) (hg H (a0 + 13) x9)) + (apartM M (hg H (a0 + 13) x9) x7))]) rfl ?_
      obtain ⟨q168_0, h⟩ := h
      refine a_iinc dX2_setBases_168 rfl (Nat.le_of_ble_eq_true rfl) (by decide) q168_0 (ls' := [vR a0, vR a1, vI x2, vI x3, vI x4, vI x5, vI x6, vI x7, vI ((hg H (a1 + 16) (hg H (a0 + 13) x9)) + (apartM M (hg H (a0 + 13) x9) x7)), vI (x9 + 1), vI ((hg H (a1 + 16) (hg H (a0 + 13) x9)) + (apartM M (hg H (a0 + 13) x9) x7))]) rfl ?_
      refine a_goto dX2_setBases_171 (tgt := 117) rfl ?_
      exact a_weak (wk_e (wk_e (wk_e (wk_e (wk_e (wk_e (wk_e (wk_e (wk_e (wk_e (wk_u wk_n))))))))))) h


theorem dX2_setTimes_0 : decode cX2_setTimes 0 = .ok (.iload_n 3, 1) := by decide +kernel
theorem dX2_setTimes_1 : decode cX2_setTimes 1 = .ok (.istore 6, 2) := by decide +kernel
theorem dX2_setTimes_3 : decode cX2_setTimes 3 = .ok (.iload 6, 2) := by decide +kernel
theorem dX2_setTimes_5 : decode cX2_setTimes 5 = .ok (.iload_n 3, 1) := by decide +kernel
theorem dX2_setTimes_6 : decode cX2_setTimes 6 = .ok (.iload 4, 2) := by decide +kernel
theorem dX2_setTimes_8 : decode cX2_setTimes 8 = .ok (.iadd, 1) := by decide +kernel
theorem dX2_setTimes_9 : decode cX2_setTimes 9 = .ok (.if_icmp .ge 83, 3) := by decide +kernel
theorem dX2_setTimes_12 : decode cX2_setTimes 12 = .ok (.aload_n 2, 1) := by decide +kernel
theorem dX2_setTimes_13 : decode cX2_setTimes 13 = .ok (.iload 6, 2) := by decide +kernel
theorem dX2_setTimes_15 : decode cX2_setTimes 15 = .ok (.iaload, 1) := by decide +kernel
theorem dX2_setTimes_16 : decode cX2_setTimes 16 = .ok (.istore 7, 2) := by decide +kernel
theorem dX2_setTimes_18 : decode cX2_setTimes 18 = .ok (.aload_n 0, 1) := by decide +kernel
theorem dX2_setTimes_19 : decode cX2_setTimes 19 = .ok (.getfield 25, 3) := by decide +kernel
theorem dX2_setTimes_22 : decode cX2_setTimes 22 = .ok (.iload 7, 2) := by decide +kernel
theorem dX2_setTimes_24 : decode cX2_setTimes 24 = .ok (.iaload, 1) := by decide +kernel
theorem dX2_setTimes_25 : decode cX2_setTimes 25 = .ok (.istore 8, 2) := by decide +kernel
theorem dX2_setTimes_27 : decode cX2_setTimes 27 = .ok (.iload_n 3, 1) := by decide +kernel
theorem dX2_setTimes_28 : decode cX2_setTimes 28 = .ok (.istore 9, 2) := by decide +kernel
theorem dX2_setTimes_30 : decode cX2_setTimes 30 = .ok (.iload 9, 2) := by decide +kernel
theorem dX2_setTimes_32 : decode cX2_setTimes 32 = .ok (.iload 6, 2) := by decide +kernel
theorem dX2_setTimes_34 : decode cX2_setTimes 34 = .ok (.if_icmp .ge 45, 3) := by decide +kernel
theorem dX2_setTimes_37 : decode cX2_setTimes 37 = .ok (.aload 5, 2) := by decide +kernel
theorem dX2_setTimes_39 : decode cX2_setTimes 39 = .ok (.aload_n 2, 1) := by decide +kernel
theorem dX2_setTimes_40 : decode cX2_setTimes 40 = .ok (.iload 9, 2) := by decide +kernel
theorem dX2_setTimes_42 : decode cX2_setTimes 42 = .ok (.iaload, 1) := by decide +kernel
theorem dX2_setTimes_43 : decode cX2_setTimes 43 = .ok (.iaload, 1) := by decide +kernel
theorem dX2_setTimes_44 : decode cX2_setTimes 44 = .ok (.aload_n 1, 1) := by decide +kernel
theorem dX2_setTimes_45 : decode cX2_setTimes 45 = .ok (.aload_n 2, 1) := by decide +kernel
theorem dX2_setTimes_46 : decode cX2_setTimes 46 = .ok (.iload 9, 2) := by decide +kernel
theorem dX2_setTimes_48 : decode cX2_setTimes 48 = .ok (.iaload, 1) := by decide +kernel
theorem dX2_setTimes_49 : decode cX2_setTimes 49 = .ok (.iload 7, 2) := by decide +kernel
theorem dX2_setTimes_51 : decode cX2_setTimes 51 = .ok (.invokevirtual 70, 3) := by decide +kernel
theorem dX2_setTimes_54 : decode cX2_setTimes 54 = .ok (.iadd, 1) := by decide +kernel
theorem dX2_setTimes_55 : decode cX2_setTimes 55 = .ok (.istore 10, 2) := by decide +kernel
theorem dX2_setTimes_57 : decode cX2_setTimes 57 = .ok (.iload 10, 2) := by decide +kernel
theorem dX2_setTimes_59 : decode cX2_setTimes 59 = .ok (.iload 8, 2) := by decide +kernel
theorem dX2_setTimes_61 : decode cX2_setTimes 61 = .ok (.if_icmp .le 8, 3) := by decide +kernel
theorem dX2_setTimes_64 : decode cX2_setTimes 64 = .ok (.iload 10, 2) := by decide +kernel
theorem dX2_setTimes_66 : decode cX2_setTimes 66 = .ok (.goto 5, 3) := by decide +kernel
theorem dX2_setTimes_69 : decode cX2_setTimes 69 = .ok (.iload 8, 2) := by decide +kernel
theorem dX2_setTimes_71 : decode cX2_setTimes 71 = .ok (.istore 8, 2) := by decide +kernel
theorem dX2_setTimes_73 : decode cX2_setTimes 73 = .ok (.iinc 9 1, 3) := by decide +kernel
theorem dX2_setTimes_76 : decode cX2_setTimes 76 = .ok (.goto (-46), 3) := by decide +kernel
theorem dX2_setTimes_79 : decode cX2_setTimes 79 = .ok (.aload 5, 2) := by decide +kernel
theorem dX2_setTimes_81 : decode cX2_setTimes 81 = .ok (.iload 7, 2) := by decide +kernel
theorem dX2_setTimes_83 : decode cX2_setTimes 83 = .ok (.iload 8, 2) := by decide +kernel
theorem dX2_setTimes_85 : decode cX2_setTimes 85 = .ok (.iastore, 1) := by decide +kernel
theorem dX2_setTimes_86 : decode cX2_setTimes 86 = .ok (.iinc 6 1, 3) := by decide +kernel
theorem dX2_setTimes_89 : decode cX2_setTimes 89 = .ok (.goto (-86), 3) := by decide +kernel
theorem dX2_setTimes_92 : decode cX2_setTimes 92 = .ok (.return_, 1) := by decide +kernel
set_option maxRecDepth 20000 in
theorem s_X2_setTimes_0 {l : Launch} {G : GT} {d : Nat} {Q : AV → AH → Prop} {H : AH} {a0 a1 a2 a5 n2 x3 x4 : Int} {M : Row} (hS : SK H a1 M) (h_r0 : Lay LPla H a0) (h_r2 : Lay (LArr 10 n2) H a2) (h_r5 : Lay (LArr 10 24) H a5) (hsep : (a1 + 23 ≤ a0 ∨ a0 + 17 ≤ a1) ∧ (a5 < a1 ∨ a1 + 23 ≤ a5 ∨ a5 = a1 + 16)) (h : AW l G mX2_setTimes (d + 1) 0 0 Q 3 [vR a0, vR a1, vR a2, vI x3, vI x4, vR a5, vI x3, vU, vU, vU, vU] [] 0 0 H) : AW l G mX2_setTimes (d + 1) 0 0 Q 0 [vR a0, vR a1, vR a2, vI x3, vI x4, vR a5, vU, vU, vU, vU, vU] [] 0 0 H := by
  refine a_iload_n dX2_setTimes_0 rfl rfl ?_
  refine a_istore dX2_setTimes_1 (Nat.le_of_ble_eq_true rfl) (ls' := [vR a0, vR a1, vR a2, vI x3, vI x4, vR a5, vI x3, vU, vU, vU, vU]) rfl ?_
  exact h

set_option maxRecDepth 20000 in
theorem s_X2_setTimes_3 {l : Launch} {G : GT} {d : Nat} {Q : AV → AH → Prop} {H : AH} {a0 a1 a2 a5 n2 x3 x4 x6 : Int} {M : Row} (hS : SK H a1 M) (h_r0 : Lay LPla H a0) (h_r2 : Lay (LArr 10 n2) H a2) (h_r5 : Lay (LArr 10 24) H a5) (hsep : (a1 + 23 ≤ a0 ∨ a0 + 17 ≤ a1) ∧ (a5 < a1 ∨ a1 + 23 ≤ a5 ∨ a5 = a1 + 16)) (h : (-2147483648 ≤ x3 + x4 ∧ x3 + x4 ≤ 2147483647) ∧ ((x3 + x4) ≤ x6 → Q vV H) ∧ (x6 < (x3 + x4) → (0 ≤ x6 ∧ x6 < n2) ∧ (0 ≤ (hg H a2 x6) ∧ (hg H a2 x6) < 24) ∧ AW l G mX2_setTimes (d + 1) 0 0 Q 30 [vR a0, vR a1, vR a2, vI x3, vI x4, vR a5, vI x6, vI (hg H a2 x6), vI (hg H (a0 + 14) (hg H a2 x6)), vI x3, vU] [] 0 0 H)) : AW l G mX2_setTimes (d + 1) 0 0 Q 3 [vR a0, vR a1, vR a2, vI x3, vI x4, vR a5, vI x6, vU, vU, vU, vU] [] 0 0 H := by
  refine a_iload dX2_setTimes_3 rfl ?_
  refine a_iload_n dX2_setTimes_5 rfl rfl ?_
  refine a_iload dX2_setTimes_6 rfl ?_
  obtain ⟨q8_0, h⟩ := h
  refine a_iadd dX2_setTimes_8 q8_0 ?_
  refine a_icmp_ge dX2_setTimes_9 (tgt := 92) rfl (fun c9 => ?_) (fun c9 => ?_)
  · replace h := h.1 c9
    exact a_vret dX2_setTimes_92 rfl (Nat.le_of_ble_eq_true rfl) (Nat.le_of_ble_eq_true rfl) h
  · replace h := h.2 c9
    refine a_aload_n dX2_setTimes_12 rfl rfl ?_
    refine a_iload dX2_setTimes_13 rfl ?_
    obtain ⟨q15_0, h⟩ := h
    refine b_iald dX2_setTimes_15 (kArr_0 h_r2) (nArr_0 h_r2) q15_0 ?_
    refine a_istore dX2_setTimes_16 (Nat.le_of_ble_eq_true rfl) (ls' := [vR a0, vR a1, vR a2, vI x3, vI x4, vR a5, vI x6, vI (hg H a2 x6), vU, vU, vU]) rfl ?_
    refine a_aload_n dX2_setTimes_18 rfl rfl ?_
    refine a_getR dX2_setTimes_19 fw_RX2_25 rfl rfl (kPla_0 h_r0) (rPla_0_3 h_r0) ?_
    refine a_iload dX2_setTimes_22 rfl ?_
    obtain ⟨q24_0, h⟩ := h
    refine b_iald dX2_setTimes_24 (kPla_14 h_r0) (nPla_14 h_r0) q24_0 ?_
    refine a_istore dX2_setTimes_25 (Nat.le_of_ble_eq_true rfl) (ls' := [vR a0, vR a1, vR a2, vI x3, vI x4, vR a5, vI x6, vI (hg H a2 x6), vI (hg H (a0 + 14) (hg H a2 x6)), vU, vU]) rfl ?_
    refine a_iload_n dX2_setTimes_27 rfl rfl ?_
    refine a_istore dX2_setTimes_28 (Nat.le_of_ble_eq_true rfl) (ls' := [vR a0, vR a1, vR a2, vI x3, vI x4, vR a5, vI x6, vI (hg H a2 x6), vI (hg H (a0 + 14) (hg H a2 x6)), vI x3, vU]) rfl ?_
    exact h

set_option maxRecDepth 20000 in
theorem s_X2_setTimes_30 {l : Launch} {G : GT} {d : Nat} {Q : AV → AH → Prop} {H : AH} {a0 a1 a2 a5 n2 x3 x4 x6 x7 x8 x9 : Int} {M : Row} (hS : SK H a1 M) (h_r0 : Lay LPla H a0) (h_r2 : Lay (LArr 10 n2) H a2) (h_r5 : Lay (LArr 10 24) H a5) (hsep : (a1 + 23 ≤ a0 ∨ a0 + 17 ≤ a1) ∧ (a5 < a1 ∨ a1 + 23 ≤ a5 ∨ a5 = a1 + 16)) (h : (x6 ≤ x9 → (0 ≤ x7 ∧ x7 < 24) ∧ ∀ H1 : AH, H1 = hs H a5 x7 x8 → (-2147483648 ≤ x6 + 1 ∧ x6 + 1 ≤ 2147483647) ∧ AW l G mX2_setTimes (d + 1) 0 0 Q 3 [vR a0, vR a1, vR a2, vI x3, vI x4, vR a5, vI (x6 + 1), vU, vU, vU, vU] [] 0 0 H1) ∧ (x9 < x6 → (0 ≤ x9 ∧ x9 < n2) ∧ (0 ≤ (hg H a2 x9) ∧ (hg H a2 x9) < 24) ∧ (fl M (hg H a2 x9)) ∧ (fl M x7) ∧ (-2147483648 ≤ (hg H a5 (hg H a2 x9)) + (apartM M (hg H a2 x9) x7) ∧ (hg H a5 (hg H a2 x9)) + (apartM M (hg H a2 x9) x7) ≤ 2147483647) ∧ (((hg H a5 (hg H a2 x9)) + (apartM M (hg H a2 x9) x7)) ≤ x8 → (-2147483648 ≤ x9 + 1 ∧ x9 + 1 ≤ 2147483647) ∧ AW l G mX2_setTimes (d + 1) 0 0 Q 30 [vR a0, vR a1, vR a2, vI x3, vI x4, vR a5, vI x6, vI x7, vI x8, vI (x9 + 1), vU] [] 0 0 H) ∧ (x8 < ((hg H a5 (hg H a2 x9)) + (apartM M (hg H a2 x9) x7)) → (-2147483648 ≤ x9 + 1 ∧ x9 + 1 ≤ 2147483647) ∧ AW l G mX2_setTimes (d + 1) 0 0 Q 30 [vR a0, vR a1, vR a2, vI x3, vI x4, vR a5, vI x6, vI x7, vI ((hg H a5 (hg H a2 x9)) + (apartM M (hg H a2 x9) x7)), vI (x9 + 1), vU] [] 0 0 H))) : AW l G mX2_setTimes (d + 1) 0 0 Q 30 [vR a0, vR a1, vR a2, vI x3, vI x4, vR a5, vI x6, vI x7, vI x8, vI x9, vU] [] 0 0 H := by
  refine a_iload dX2_setTimes_30 rfl ?_
  refine a_iload dX2_setTimes_32 rfl ?_
  refine a_icmp_ge dX2_setTimes_34 (tgt := 79) rfl (fun c34 => ?_) (fun c34 => ?_)
  · replace h := h.1 c34
    refine a_aload dX2_setTimes_79 rfl ?_
    refine a_iload dX2_setTimes_81 rfl ?_
    refine a_iload dX2_setTimes_83 rfl ?_
    obtain ⟨q85_0, h⟩ := h
    refine b_iast dX2_setTimes_85 (kArr_0 h_r5) (nArr_0 h_r5) q85_0 ?_
    have h_r0_1 := Lay.wr h_r0 ok_Pla (nrf_arr (kArr_0 h_r5) (by decide) (by decide)) (i := x7) (x := x8)
    have h_r1_1 := Lay.wr hS.1 ok_Sta (nrf_arr (kArr_0 h_r5) (by decide) (by decide)) (i := x7) (x := x8)
    have h_r2_1 := Lay.wr h_r2 ok_Arr (nrf_arr (kArr_0 h_r5) (by decide) (by decide)) (i := x7) (x := x8)
    have h_r5_1 := Lay.wr h_r5 ok_Arr (nrf_arr (kArr_0 h_r5) (by decide) (by decide)) (i := x7) (x := x8)
    generalize e_H1 : hs H a5 x7 x8 = H1 at h_r0_1 h_r1_1 h_r2_1 h_r5_1 ⊢
    replace h := h H1 e_H1.symm
    have hSr1_0_1 : SK H1 a1 M := by rw [← e_H1]; exact SK.wr hS (nrf_arr (kArr_0 h_r5) (by decide) (by decide)) (by omega)
    obtain ⟨q86_0, h⟩ := h
    refine a_iinc dX2_setTimes_86 rfl (Nat.le_of_ble_eq_true rfl) (by decide) q86_0 (ls' := [vR a0, vR a1, vR a2, vI x3, vI x4, vR a5, vI (x6 + 1), vI x7, vI x8, vI x9, vU]) rfl ?_
    refine a_goto dX2_setTimes_89 (tgt := 3) rfl ?_
    exact a_weak (wk_e (wk_e (wk_e (wk_e (wk_e (wk_e (wk_e (wk_u (wk_u (wk_u (wk_u wk_n))))))))))) h
  · replace h := h.2 c34
    refine a_aload dX2_setTimes_37 rfl ?_
    refine a_aload_n dX2_setTimes_39 rfl rfl ?_
    refine a_iload dX2_setTimes_40 rfl ?_
    obtain ⟨q42_0, h⟩ := h
    refine b_iald dX2_setTimes_42 (kArr_0 h_r2) (nArr_0 h_r2) q42_0 ?_
    obtain ⟨q43_0, h⟩ := h
    refine b_iald dX2_setTimes_43 (kArr_0 h_r5) (nArr_0 h_r5) q43_0 ?_
    refine a_aload_n dX2_setTimes_44 rfl rfl ?_
    refine a_aload_n dX2_setTimes_45 rfl rfl ?_
    refine a_iload dX2_setTimes_46 rfl ?_
    refine b_iald dX2_setTimes_48 (kArr_0 h_r2) (nArr_0 h_r2) q42_0 ?_
    refine a_iload dX2_setTimes_49 rfl ?_
    obtain ⟨q51_0, h⟩ := h
    obtain ⟨q51_1, h⟩ := h
    refine a_callV dX2_setTimes_51 cw_X2_setTimes_51 (as := [vI (hg H a2 x9), vI x7]) rfl rfl (kSta_0 hS.1) (Nat.le_refl _) (Nat.le_of_ble_eq_true rfl) (nocov rfl) (Nat.le_of_ble_eq_true rfl) (Nat.le_of_ble_eq_true rfl) (CL.mono (k_gapOf hS  q51_0 q51_1) (fun r9 H9 h9 => ?_))
    rw [h9.1, h9.2]
    show AW l G mX2_setTimes (d + 1) 0 0 Q 54 [vR a0, vR a1, vR a2, vI x3, vI x4, vR a5, vI x6, vI x7, vI x8, vI x9, vU] [vI (apartM M (hg H a2 x9) x7), vI (hg H a5 (hg H a2 x9))] 0 0 H
    obtain ⟨q54_0, h⟩ := h
    refine a_iadd dX2_setTimes_54 q54_0 ?_
    refine a_istore dX2_setTimes_55 (Nat.le_of_ble_eq_true rfl) (ls' := [vR a0, vR a1, vR a2, vI x3, vI x4, vR a5, vI x6, vI x7, vI x8, vI x9, vI ((hg H a5 (hg H a2 x9)) + (apartM M (hg H a2 x9) x7))]) rfl ?_
    refine a_iload dX2_setTimes_57 rfl ?_
    refine a_iload dX2_setTimes_59 rfl ?_
    refine a_icmp_le dX2_setTimes_61 (tgt := 69) rfl (fun c61 => ?_) (fun c61 => ?_)
    · replace h := h.1 c61
      refine a_iload dX2_setTimes_69 rfl ?_
      refine a_istore dX2_setTimes_71 (Nat.le_of_ble_eq_true rfl) (ls' := [vR a0, vR a1, vR a2, vI x3, vI x4, vR a5, vI x6, vI x7, vI x8, vI x9, vI ((hg H a5 (hg H a2 x9)) + (apartM M (hg H a2 x9) x7))]) rfl ?_
      obtain ⟨q73_0, h⟩ := h
      refine a_iinc dX2_setTimes_73 rfl (Nat.le_of_ble_eq_true rfl) (by decide) q73_0 (ls' := [vR a0, vR a1, vR a2, vI x3, vI x4, vR a5, vI x6, vI x7, vI x8, vI (x9 + 1), vI ((hg H a5 (hg H a2 x9)) + (apartM M (hg H a2 x9) x7))]) rfl ?_
      refine a_goto dX2_setTimes_76 (tgt := 30) rfl ?_
      exact a_weak (wk_e (wk_e (wk_e (wk_e (wk_e (wk_e (wk_e (wk_e (wk_e (wk_e (wk_u wk_n))))))))))) h
    · replace h := h.2 c61
      refine a_iload dX2_setTimes_64 rfl ?_
      refine a_goto dX2_setTimes_66 (tgt := 71) rfl ?_
      refine a_istore dX2_setTimes_71 (Nat.le_of_ble_eq_true rfl) (ls' := [vR a0, vR a1, vR a2, vI x3, vI x4, vR a5, vI x6, vI x7, vI ((hg H a5 (hg H a2 x9)) + (apartM M (hg H a2 x9) x7)), vI x9, vI ((hg H a5 (hg H a2 x9)) + (apartM M (hg H a2 x9) x7))]) rfl ?_
      obtain ⟨q73_0, h⟩ := h
      refine a_iinc dX2_setTimes_73 rfl (Nat.le_of_ble_eq_true rfl) (by decide) q73_0 (ls' := [vR a0, vR a1, vR a2, vI x3, vI x4, vR a5, vI x6, vI x7, vI ((hg H a5 (hg H a2 x9)) + (apartM M (hg H a2 x9) x7)), vI (x9 + 1), vI ((hg H a5 (hg H a2 x9)) + (apartM M (hg H a2 x9) x7))]) rfl ?_
      refine a_goto dX2_setTimes_76 (tgt := 30) rfl ?_
      exact a_weak (wk_e (wk_e (wk_e (wk_e (wk_e (wk_e (wk_e (wk_e (wk_e (wk_e (wk_u wk_n))))))))))) h


theorem dX6_costAlong_0 : decode cX6_costAlong 0 = .ok (.lconst 0, 1) := by decide +kernel
theorem dX6_costAlong_1 : decode cX6_costAlong 1 = .ok (.lstore 5, 2) := by decide +kernel
theorem dX6_costAlong_3 : decode cX6_costAlong 3 = .ok (.iload_n 2, 1) := by decide +kernel
theorem dX6_costAlong_4 : decode cX6_costAlong 4 = .ok (.istore 7, 2) := by decide +kernel
theorem dX6_costAlong_6 : decode cX6_costAlong 6 = .ok (.iload 7, 2) := by decide +kernel
theorem dX6_costAlong_8 : decode cX6_costAlong 8 = .ok (.iload_n 2, 1) := by decide +kernel
theorem dX6_costAlong_9 : decode cX6_costAlong 9 = .ok (.iload_n 3, 1) := by decide +kernel
theorem dX6_costAlong_10 : decode cX6_costAlong 10 = .ok (.iadd, 1) := by decide +kernel
theorem dX6_costAlong_11 : decode cX6_costAlong 11 = .ok (.if_icmp .ge 29, 3) := by decide +kernel
theorem dX6_costAlong_14 : decode cX6_costAlong 14 = .ok (.lload 5, 2) := by decide +kernel
theorem dX6_costAlong_16 : decode cX6_costAlong 16 = .ok (.aload_n 0, 1) := by decide +kernel
theorem dX6_costAlong_17 : decode cX6_costAlong 17 = .ok (.aload_n 1, 1) := by decide +kernel
theorem dX6_costAlong_18 : decode cX6_costAlong 18 = .ok (.iload 7, 2) := by decide +kernel
theorem dX6_costAlong_20 : decode cX6_costAlong 20 = .ok (.iaload, 1) := by decide +kernel
theorem dX6_costAlong_21 : decode cX6_costAlong 21 = .ok (.aload 4, 2) := by decide +kernel
theorem dX6_costAlong_23 : decode cX6_costAlong 23 = .ok (.aload_n 1, 1) := by decide +kernel
theorem dX6_costAlong_24 : decode cX6_costAlong 24 = .ok (.iload 7, 2) := by decide +kernel
theorem dX6_costAlong_26 : decode cX6_costAlong 26 = .ok (.iaload, 1) := by decide +kernel
theorem dX6_costAlong_27 : decode cX6_costAlong 27 = .ok (.iaload, 1) := by decide +kernel
theorem dX6_costAlong_28 : decode cX6_costAlong 28 = .ok (.invokevirtual 123, 3) := by decide +kernel
theorem dX6_costAlong_31 : decode cX6_costAlong 31 = .ok (.ladd, 1) := by decide +kernel
theorem dX6_costAlong_32 : decode cX6_costAlong 32 = .ok (.lstore 5, 2) := by decide +kernel
theorem dX6_costAlong_34 : decode cX6_costAlong 34 = .ok (.iinc 7 1, 3) := by decide +kernel
theorem dX6_costAlong_37 : decode cX6_costAlong 37 = .ok (.goto (-31), 3) := by decide +kernel
theorem dX6_costAlong_40 : decode cX6_costAlong 40 = .ok (.lload 5, 2) := by decide +kernel
theorem dX6_costAlong_42 : decode cX6_costAlong 42 = .ok (.lreturn, 1) := by decide +kernel
set_option maxRecDepth 20000 in
theorem s_X6_costAlong_0 {l : Launch} {G : GT} {d : Nat} {Q : AV → AH → Prop} {H : AH} {a0 a1 a4 n1 x2 x3 : Int} {M : Row} (hS : SK H a0 M) (h_r1 : Lay (LArr 10 n1) H a1) (h_r4 : Lay (LArr 10 24) H a4) (h : AW l G mX6_costAlong (d + 1) 0 0 Q 6 [vR a0, vR a1, vI x2, vI x3, vR a4, vJ 0, vU, vI x2] [] 0 0 H) : AW l G mX6_costAlong (d + 1) 0 0 Q 0 [vR a0, vR a1, vI x2, vI x3, vR a4, vU, vU, vU] [] 0 0 H := by
  refine a_lconst dX6_costAlong_0 ?_
  show AW l G mX6_costAlong (d + 1) 0 0 Q 1 [vR a0, vR a1, vI x2, vI x3, vR a4, vU, vU, vU] [vJ 0] 0 0 H
  refine a_lstore dX6_costAlong_1 (Nat.le_of_ble_eq_true rfl) (ls' := [vR a0, vR a1, vI x2, vI x3, vR a4, vJ 0, vU, vU]) rfl ?_
  refine a_iload_n dX6_costAlong_3 rfl rfl ?_
  refine a_istore dX6_costAlong_4 (Nat.le_of_ble_eq_true rfl) (ls' := [vR a0, vR a1, vI x2, vI x3, vR a4, vJ 0, vU, vI x2]) rfl ?_
  exact h

set_option maxRecDepth 20000 in
theorem s_X6_costAlong_6 {l : Launch} {G : GT} {d : Nat} {Q : AV → AH → Prop} {H : AH} {a0 a1 a4 n1 x2 x3 x5 x7 : Int} {M : Row} (hS : SK H a0 M) (h_r1 : Lay (LArr 10 n1) H a1) (h_r4 : Lay (LArr 10 24) H a4) (h : (-2147483648 ≤ x2 + x3 ∧ x2 + x3 ≤ 2147483647) ∧ ((x2 + x3) ≤ x7 → Q (vJ x5) H) ∧ (x7 < (x2 + x3) → (0 ≤ x7 ∧ x7 < n1) ∧ (0 ≤ (hg H a1 x7) ∧ (hg H a1 x7) < 24) ∧ (fl M (hg H a1 x7)) ∧ (0 ≤ (hg H a4 (hg H a1 x7)) ∧ (hg H a4 (hg H a1 x7)) ≤ 400000) ∧ (-9223372036854775808 ≤ x5 + (costM M (hg H a1 x7) (hg H a4 (hg H a1 x7))) ∧ x5 + (costM M (hg H a1 x7) (hg H a4 (hg H a1 x7))) ≤ 9223372036854775807) ∧ (-2147483648 ≤ x7 + 1 ∧ x7 + 1 ≤ 2147483647) ∧ AW l G mX6_costAlong (d + 1) 0 0 Q 6 [vR a0, vR a1, vI x2, vI x3, vR a4, vJ (x5 + (costM M (hg H a1 x7) (hg H a4 (hg H a1 x7)))), vU, vI (x7 + 1)] [] 0 0 H)) : AW l G mX6_costAlong (d + 1) 0 0 Q 6 [vR a0, vR a1, vI x2, vI x3, vR a4, vJ x5, vU, vI x7] [] 0 0 H := by
  refine a_iload dX6_costAlong_6 rfl ?_
  refine a_iload_n dX6_costAlong_8 rfl rfl ?_
  refine a_iload_n dX6_costAlong_9 rfl rfl ?_
  obtain ⟨q10_0, h⟩ := h
  refine a_iadd dX6_costAlong_10 q10_0 ?_
  refine a_icmp_ge dX6_costAlong_11 (tgt := 40) rfl (fun c11 => ?_) (fun c11 => ?_)
  · replace h := h.1 c11
    refine a_lload dX6_costAlong_40 rfl ?_
    exact a_lret dX6_costAlong_42 rfl (Nat.le_of_ble_eq_true rfl) (Nat.le_of_ble_eq_true rfl) h
  · replace h := h.2 c11
    refine a_lload dX6_costAlong_14 rfl ?_
    refine a_aload_n dX6_costAlong_16 rfl rfl ?_
    refine a_aload_n dX6_costAlong_17 rfl rfl ?_
    refine a_iload dX6_costAlong_18 rfl ?_
    obtain ⟨q20_0, h⟩ := h
    refine b_iald dX6_costAlong_20 (kArr_0 h_r1) (nArr_0 h_r1) q20_0 ?_
    refine a_aload dX6_costAlong_21 rfl ?_
    refine a_aload_n dX6_costAlong_23 rfl rfl ?_
    refine a_iload dX6_costAlong_24 rfl ?_
    refine b_iald dX6_costAlong_26 (kArr_0 h_r1) (nArr_0 h_r1) q20_0 ?_
    obtain ⟨q27_0, h⟩ := h
    refine b_iald dX6_costAlong_27 (kArr_0 h_r4) (nArr_0 h_r4) q27_0 ?_
    obtain ⟨q28_0, h⟩ := h
    obtain ⟨q28_1, h⟩ := h
    refine a_callV dX6_costAlong_28 cw_X6_costAlong_28 (as := [vI (hg H a1 x7), vI (hg H a4 (hg H a1 x7))]) rfl rfl (kSta_0 hS.1) (Nat.le_refl _) (Nat.le_of_ble_eq_true rfl) (nocov rfl) (Nat.le_of_ble_eq_true rfl) (Nat.le_of_ble_eq_true rfl) (CL.mono (k_costAt hS  q28_0 q28_1) (fun r9 H9 h9 => ?_))
    rw [h9.1, h9.2]
    show AW l G mX6_costAlong (d + 1) 0 0 Q 31 [vR a0, vR a1, vI x2, vI x3, vR a4, vJ x5, vU, vI x7] [vJ (costM M (hg H a1 x7) (hg H a4 (hg H a1 x7))), vJ x5] 0 0 H
    obtain ⟨q31_0, h⟩ := h
    refine a_ladd dX6_costAlong_31 q31_0 ?_
    refine a_lstore dX6_costAlong_32 (Nat.le_of_ble_eq_true rfl) (ls' := [vR a0, vR a1, vI x2, vI x3, vR a4, vJ (x5 + (costM M (hg H a1 x7) (hg H a4 (hg H a1 x7)))), vU, vI x7]) rfl ?_
    obtain ⟨q34_0, h⟩ := h
    refine a_iinc dX6_costAlong_34 rfl (Nat.le_of_ble_eq_true rfl) (by decide) q34_0 (ls' := [vR a0, vR a1, vI x2, vI x3, vR a4, vJ (x5 + (costM M (hg H a1 x7) (hg H a4 (hg H a1 x7)))), vU, vI (x7 + 1)]) rfl ?_
    refine a_goto dX6_costAlong_37 (tgt := 6) rfl ?_
    exact h


theorem dX2_refresh_0 : decode cX2_refresh 0 = .ok (.aload_n 1, 1) := by decide +kernel
theorem dX2_refresh_1 : decode cX2_refresh 1 = .ok (.getfield 74, 3) := by decide +kernel
theorem dX2_refresh_4 : decode cX2_refresh 4 = .ok (.iload_n 2, 1) := by decide +kernel
theorem dX2_refresh_5 : decode cX2_refresh 5 = .ok (.baload, 1) := by decide +kernel
theorem dX2_refresh_6 : decode cX2_refresh 6 = .ok (.ifCond .eq 4, 3) := by decide +kernel
theorem dX2_refresh_9 : decode cX2_refresh 9 = .ok (.return_, 1) := by decide +kernel
theorem dX2_refresh_10 : decode cX2_refresh 10 = .ok (.aload_n 0, 1) := by decide +kernel
theorem dX2_refresh_11 : decode cX2_refresh 11 = .ok (.aload_n 1, 1) := by decide +kernel
theorem dX2_refresh_12 : decode cX2_refresh 12 = .ok (.iload_n 2, 1) := by decide +kernel
theorem dX2_refresh_13 : decode cX2_refresh 13 = .ok (.invokevirtual 78, 3) := by decide +kernel
theorem dX2_refresh_16 : decode cX2_refresh 16 = .ok (.istore_n 3, 1) := by decide +kernel
theorem dX2_refresh_17 : decode cX2_refresh 17 = .ok (.aload_n 1, 1) := by decide +kernel
theorem dX2_refresh_18 : decode cX2_refresh 18 = .ok (.getfield 82, 3) := by decide +kernel
theorem dX2_refresh_21 : decode cX2_refresh 21 = .ok (.iload_n 2, 1) := by decide +kernel
theorem dX2_refresh_22 : decode cX2_refresh 22 = .ok (.aload_n 0, 1) := by decide +kernel
theorem dX2_refresh_23 : decode cX2_refresh 23 = .ok (.aload_n 1, 1) := by decide +kernel
theorem dX2_refresh_24 : decode cX2_refresh 24 = .ok (.iload_n 2, 1) := by decide +kernel
theorem dX2_refresh_25 : decode cX2_refresh 25 = .ok (.iload_n 3, 1) := by decide +kernel
theorem dX2_refresh_26 : decode cX2_refresh 26 = .ok (.invokevirtual 85, 3) := by decide +kernel
theorem dX2_refresh_29 : decode cX2_refresh 29 = .ok (.iastore, 1) := by decide +kernel
theorem dX2_refresh_30 : decode cX2_refresh 30 = .ok (.aload_n 0, 1) := by decide +kernel
theorem dX2_refresh_31 : decode cX2_refresh 31 = .ok (.getfield 12, 3) := by decide +kernel
theorem dX2_refresh_34 : decode cX2_refresh 34 = .ok (.aload_n 1, 1) := by decide +kernel
theorem dX2_refresh_35 : decode cX2_refresh 35 = .ok (.aload_n 0, 1) := by decide +kernel
theorem dX2_refresh_36 : decode cX2_refresh 36 = .ok (.getfield 18, 3) := by decide +kernel
theorem dX2_refresh_39 : decode cX2_refresh 39 = .ok (.iload_n 3, 1) := by decide +kernel
theorem dX2_refresh_40 : decode cX2_refresh 40 = .ok (.aload_n 0, 1) := by decide +kernel
theorem dX2_refresh_41 : decode cX2_refresh 41 = .ok (.getfield 25, 3) := by decide +kernel
theorem dX2_refresh_44 : decode cX2_refresh 44 = .ok (.invokevirtual 89, 3) := by decide +kernel
theorem dX2_refresh_47 : decode cX2_refresh 47 = .ok (.aload_n 0, 1) := by decide +kernel
theorem dX2_refresh_48 : decode cX2_refresh 48 = .ok (.getfield 12, 3) := by decide +kernel
theorem dX2_refresh_51 : decode cX2_refresh 51 = .ok (.invokevirtual 93, 3) := by decide +kernel
theorem dX2_refresh_54 : decode cX2_refresh 54 = .ok (.iload_n 2, 1) := by decide +kernel
theorem dX2_refresh_55 : decode cX2_refresh 55 = .ok (.bipush 24, 2) := by decide +kernel
theorem dX2_refresh_57 : decode cX2_refresh 57 = .ok (.imul, 1) := by decide +kernel
theorem dX2_refresh_58 : decode cX2_refresh 58 = .ok (.istore 4, 2) := by decide +kernel
theorem dX2_refresh_60 : decode cX2_refresh 60 = .ok (.iconst 0, 1) := by decide +kernel
theorem dX2_refresh_61 : decode cX2_refresh 61 = .ok (.istore 5, 2) := by decide +kernel
theorem dX2_refresh_63 : decode cX2_refresh 63 = .ok (.iload 5, 2) := by decide +kernel
theorem dX2_refresh_65 : decode cX2_refresh 65 = .ok (.iload_n 3, 1) := by decide +kernel
theorem dX2_refresh_66 : decode cX2_refresh 66 = .ok (.if_icmp .ge 56, 3) := by decide +kernel
theorem dX2_refresh_69 : decode cX2_refresh 69 = .ok (.aload_n 1, 1) := by decide +kernel
theorem dX2_refresh_70 : decode cX2_refresh 70 = .ok (.getfield 96, 3) := by decide +kernel
theorem dX2_refresh_73 : decode cX2_refresh 73 = .ok (.iload 4, 2) := by decide +kernel
theorem dX2_refresh_75 : decode cX2_refresh 75 = .ok (.iload 5, 2) := by decide +kernel
theorem dX2_refresh_77 : decode cX2_refresh 77 = .ok (.iadd, 1) := by decide +kernel
theorem dX2_refresh_78 : decode cX2_refresh 78 = .ok (.iload 5, 2) := by decide +kernel
theorem dX2_refresh_80 : decode cX2_refresh 80 = .ok (.aload_n 0, 1) := by decide +kernel
theorem dX2_refresh_81 : decode cX2_refresh 81 = .ok (.getfield 12, 3) := by decide +kernel
theorem dX2_refresh_84 : decode cX2_refresh 84 = .ok (.getfield 99, 3) := by decide +kernel
theorem dX2_refresh_87 : decode cX2_refresh 87 = .ok (.if_icmp .ge 21, 3) := by decide +kernel
theorem dX2_refresh_90 : decode cX2_refresh 90 = .ok (.aload_n 0, 1) := by decide +kernel
theorem dX2_refresh_91 : decode cX2_refresh 91 = .ok (.getfield 18, 3) := by decide +kernel
theorem dX2_refresh_94 : decode cX2_refresh 94 = .ok (.aload_n 0, 1) := by decide +kernel
theorem dX2_refresh_95 : decode cX2_refresh 95 = .ok (.getfield 12, 3) := by decide +kernel
theorem dX2_refresh_98 : decode cX2_refresh 98 = .ok (.getfield 102, 3) := by decide +kernel
theorem dX2_refresh_101 : decode cX2_refresh 101 = .ok (.iload 5, 2) := by decide +kernel
theorem dX2_refresh_103 : decode cX2_refresh 103 = .ok (.iaload, 1) := by decide +kernel
theorem dX2_refresh_104 : decode cX2_refresh 104 = .ok (.iaload, 1) := by decide +kernel
theorem dX2_refresh_105 : decode cX2_refresh 105 = .ok (.goto 10, 3) := by decide +kernel
theorem dX2_refresh_108 : decode cX2_refresh 108 = .ok (.aload_n 0, 1) := by decide +kernel
theorem dX2_refresh_109 : decode cX2_refresh 109 = .ok (.getfield 18, 3) := by decide +kernel
theorem dX2_refresh_112 : decode cX2_refresh 112 = .ok (.iload 5, 2) := by decide +kernel
theorem dX2_refresh_114 : decode cX2_refresh 114 = .ok (.iaload, 1) := by decide +kernel
theorem dX2_refresh_115 : decode cX2_refresh 115 = .ok (.iastore, 1) := by decide +kernel
theorem dX2_refresh_116 : decode cX2_refresh 116 = .ok (.iinc 5 1, 3) := by decide +kernel
theorem dX2_refresh_119 : decode cX2_refresh 119 = .ok (.goto (-56), 3) := by decide +kernel
theorem dX2_refresh_122 : decode cX2_refresh 122 = .ok (.aload_n 1, 1) := by decide +kernel
theorem dX2_refresh_123 : decode cX2_refresh 123 = .ok (.getfield 105, 3) := by decide +kernel
theorem dX2_refresh_126 : decode cX2_refresh 126 = .ok (.iload_n 2, 1) := by decide +kernel
theorem dX2_refresh_127 : decode cX2_refresh 127 = .ok (.iload_n 3, 1) := by decide +kernel
theorem dX2_refresh_128 : decode cX2_refresh 128 = .ok (.iastore, 1) := by decide +kernel
theorem dX2_refresh_129 : decode cX2_refresh 129 = .ok (.aload_n 0, 1) := by decide +kernel
theorem dX2_refresh_130 : decode cX2_refresh 130 = .ok (.aload_n 1, 1) := by decide +kernel
theorem dX2_refresh_131 : decode cX2_refresh 131 = .ok (.aload_n 1, 1) := by decide +kernel
theorem dX2_refresh_132 : decode cX2_refresh 132 = .ok (.getfield 96, 3) := by decide +kernel
theorem dX2_refresh_135 : decode cX2_refresh 135 = .ok (.iload 4, 2) := by decide +kernel
theorem dX2_refresh_137 : decode cX2_refresh 137 = .ok (.iload_n 3, 1) := by decide +kernel
theorem dX2_refresh_138 : decode cX2_refresh 138 = .ok (.aload_n 1, 1) := by decide +kernel
theorem dX2_refresh_139 : decode cX2_refresh 139 = .ok (.getfield 67, 3) := by decide +kernel
theorem dX2_refresh_142 : decode cX2_refresh 142 = .ok (.invokevirtual 108, 3) := by decide +kernel
theorem dX2_refresh_145 : decode cX2_refresh 145 = .ok (.aload_n 1, 1) := by decide +kernel
theorem dX2_refresh_146 : decode cX2_refresh 146 = .ok (.getfield 74, 3) := by decide +kernel
theorem dX2_refresh_149 : decode cX2_refresh 149 = .ok (.iload_n 2, 1) := by decide +kernel
theorem dX2_refresh_150 : decode cX2_refresh 150 = .ok (.iconst 1, 1) := by decide +kernel
theorem dX2_refresh_151 : decode cX2_refresh 151 = .ok (.bastore, 1) := by decide +kernel
theorem dX2_refresh_152 : decode cX2_refresh 152 = .ok (.return_, 1) := by decide +kernel
set_option maxRecDepth 20000 in
theorem s_X2_refresh_0 {l : Launch} {G : GT} {d : Nat} {Q : AV → AH → Prop} {H : AH} {a0 a1 x2 : Int} {M : Row} (hS : SK H a1 M) (h_r0 : Lay LPla H a0) (hsep : a1 + 23 ≤ a0 ∨ a0 + 17 ≤ a1) (h : (0 ≤ x2 ∧ x2 < 3) ∧ ((hg H (a1 + 21) x2) = 0 → CL l G mX2_lineUp d 0 0 [vR a0, vR a1, vI x2] H (fun r9 H1 => Lay LPla H1 a0 ∧ Lay LSta H1 a1 ∧ SK H1 a1 M ∧ ∃ y1 : Int, r9 = vI y1 ∧ CL l G mX2_setBases d 0 0 [vR a0, vR a1, vI x2, vI y1] H1 (fun r9 H2 => Lay LPla H2 a0 ∧ Lay LSta H2 a1 ∧ SK H2 a1 M ∧ ∃ y2 : Int, r9 = vI y2 ∧ ∀ H3 : AH, H3 = hs H2 (a1 + 22) x2 y2 → CL l G mX5_prepare d 0 0 [vR (a0 + 1), vR a1, vR (a0 + 12), vI y1, vR (a0 + 14)] H3 (fun r9 H4 => Lay LPla H4 a0 ∧ Lay LSta H4 a1 ∧ SK H4 a1 M ∧ r9 = vV ∧ CL l G mX5_findBest d 0 0 [vR (a0 + 1)] H4 (fun r9 H5 => Lay LPla H5 a0 ∧ Lay LSta H5 a1 ∧ SK H5 a1 M ∧ r9 = vV ∧ (-2147483648 ≤ x2 * 24 ∧ x2 * 24 ≤ 2147483647) ∧ AW l G mX2_refresh (d + 1) 0 0 Q 63 [vR a0, vR a1, vI x2, vI y1, vI (x2 * 24), vI 0] [] 0 0 H5))))) ∧ (¬ (hg H (a1 + 21) x2) = 0 → Q vV H)) : AW l G mX2_refresh (d + 1) 0 0 Q 0 [vR a0, vR a1, vI x2, vU, vU, vU] [] 0 0 H := by
  refine a_aload_n dX2_refresh_0 rfl rfl ?_
  refine a_getR dX2_refresh_1 fw_RX2_74 rfl rfl (kSta_0 hS.1) (rSta_0_11 hS.1) ?_
  refine a_iload_n dX2_refresh_4 rfl rfl ?_
  obtain ⟨q5_0, h⟩ := h
  refine b_zald dX2_refresh_5 (kSta_21 hS.1) (nSta_21 hS.1) q5_0 ?_
  refine a_if_eq dX2_refresh_6 (tgt := 10) rfl (fun c6 => ?_) (fun c6 => ?_)
  · replace h := h.1 c6
    refine a_aload_n dX2_refresh_10 rfl rfl ?_
    refine a_aload_n dX2_refresh_11 rfl rfl ?_
    refine a_iload_n dX2_refresh_12 rfl rfl ?_
    refine a_callV dX2_refresh_13 cw_X2_refresh_13 (as := [vR a1, vI x2]) rfl rfl (kPla_0 h_r0) (Nat.le_refl _) (Nat.le_of_ble_eq_true rfl) (nocov rfl) (Nat.le_of_ble_eq_true rfl) (Nat.le_of_ble_eq_true rfl) (CL.mono h (fun r9 H1 h => ?_))
    obtain ⟨h_r0_1, h_r1_1, hSr1_0_1, y1, e9, h⟩ := h
    rw [e9]
    show AW l G mX2_refresh (d + 1) 0 0 Q 16 [vR a0, vR a1, vI x2, vU, vU, vU] [vI y1] 0 0 H1
    refine a_istore_n dX2_refresh_16 rfl (Nat.le_of_ble_eq_true rfl) (ls' := [vR a0, vR a1, vI x2, vI y1, vU, vU]) rfl ?_
    refine a_aload_n dX2_refresh_17 rfl rfl ?_
    refine a_getR dX2_refresh_18 fw_RX2_82 rfl rfl (kSta_0 h_r1_1) (rSta_0_12 h_r1_1) ?_
    refine a_iload_n dX2_refresh_21 rfl rfl ?_
    refine a_aload_n dX2_refresh_22 rfl rfl ?_
    refine a_aload_n dX2_refresh_23 rfl rfl ?_
    refine a_iload_n dX2_refresh_24 rfl rfl ?_
    refine a_iload_n dX2_refresh_25 rfl rfl ?_
    refine a_callV dX2_refresh_26 cw_X2_refresh_26 (as := [vR a1, vI x2, vI y1]) rfl rfl (kPla_0 h_r0_1) (Nat.le_refl _) (Nat.le_of_ble_eq_true rfl) (nocov rfl) (Nat.le_of_ble_eq_true rfl) (Nat.le_of_ble_eq_true rfl) (CL.mono h (fun r9 H2 h => ?_))
    obtain ⟨h_r0_2, h_r1_2, hSr1_0_2, y2, e9, h⟩ := h
    rw [e9]
    show AW l G mX2_refresh (d + 1) 0 0 Q 29 [vR a0, vR a1, vI x2, vI y1, vU, vU] [vI y2, vI x2, vR (a1 + 22)] 0 0 H2
    refine b_iast dX2_refresh_29 (kSta_22 h_r1_2) (nSta_22 h_r1_2) q5_0 ?_
    have h_r0_3 := Lay.wr h_r0_2 ok_Pla (nrf_arr (kSta_22 h_r1_2) (by decide) (by decide)) (i := x2) (x := y2)
    have h_r1_3 := Lay.wr h_r1_2 ok_Sta (nrf_arr (kSta_22 h_r1_2) (by decide) (by decide)) (i := x2) (x := y2)
    generalize e_H3 : hs H2 (a1 + 22) x2 y2 = H3 at h_r0_3 h_r1_3 ⊢
    replace h := h H3 e_H3.symm
    have hSr1_0_3 : SK H3 a1 M := by rw [← e_H3]; exact SK.wr hSr1_0_2 (nrf_arr (kSta_22 h_r1_2) (by decide) (by decide)) (by omega)
    refine a_aload_n dX2_refresh_30 rfl rfl ?_
    refine a_getR dX2_refresh_31 fw_RX2_12 rfl rfl (kPla_0 h_r0_3) (rPla_0_0 h_r0_3) ?_
    refine a_aload_n dX2_refresh_34 rfl rfl ?_
    refine a_aload_n dX2_refresh_35 rfl rfl ?_
    refine a_getR dX2_refresh_36 fw_RX2_18 rfl rfl (kPla_0 h_r0_3) (rPla_0_1 h_r0_3) ?_
    refine a_iload_n dX2_refresh_39 rfl rfl ?_
    refine a_aload_n dX2_refresh_40 rfl rfl ?_
    refine a_getR dX2_refresh_41 fw_RX2_25 rfl rfl (kPla_0 h_r0_3) (rPla_0_3 h_r0_3) ?_
    refine a_callV dX2_refresh_44 cw_X2_refresh_44 (as := [vR a1, vR (a0 + 12), vI y1, vR (a0 + 14)]) rfl rfl (kPla_1 h_r0_3) (Nat.le_refl _) (Nat.le_of_ble_eq_true rfl) (nocov rfl) (Nat.le_of_ble_eq_true rfl) (Nat.le_of_ble_eq_true rfl) (CL.mono h (fun r9 H4 h => ?_))
    obtain ⟨h_r0_4, h_r1_4, hSr1_0_4, e9, h⟩ := h
    rw [e9]
    show AW l G mX2_refresh (d + 1) 0 0 Q 47 [vR a0, vR a1, vI x2, vI y1, vU, vU] [] 0 0 H4
    refine a_aload_n dX2_refresh_47 rfl rfl ?_
    refine a_getR dX2_refresh_48 fw_RX2_12 rfl rfl (kPla_0 h_r0_4) (rPla_0_0 h_r0_4) ?_
    refine a_callV dX2_refresh_51 cw_X2_refresh_51 (as := []) rfl rfl (kPla_1 h_r0_4) (Nat.le_refl _) (Nat.le_of_ble_eq_true rfl) (nocov rfl) (Nat.le_of_ble_eq_true rfl) (Nat.le_of_ble_eq_true rfl) (CL.mono h (fun r9 H5 h => ?_))
    obtain ⟨h_r0_5, h_r1_5, hSr1_0_5, e9, h⟩ := h
    rw [e9]
    show AW l G mX2_refresh (d + 1) 0 0 Q 54 [vR a0, vR a1, vI x2, vI y1, vU, vU] [] 0 0 H5
    refine a_iload_n dX2_refresh_54 rfl rfl ?_
    refine a_bipush dX2_refresh_55 (by decide) ?_
    obtain ⟨q57_0, h⟩ := h
    refine a_imul dX2_refresh_57 q57_0 ?_
    refine a_istore dX2_refresh_58 (Nat.le_of_ble_eq_true rfl) (ls' := [vR a0, vR a1, vI x2, vI y1, vI (x2 * 24), vU]) rfl ?_
    refine a_iconst dX2_refresh_60 ⟨by decide, by decide⟩ ?_
    refine a_istore dX2_refresh_61 (Nat.le_of_ble_eq_true rfl) (ls' := [vR a0, vR a1, vI x2, vI y1, vI (x2 * 24), vI 0]) rfl ?_
    exact h
  · replace h := h.2 c6
    exact a_vret dX2_refresh_9 rfl (Nat.le_of_ble_eq_true rfl) (Nat.le_of_ble_eq_true rfl) h

set_option maxRecDepth 20000 in
theorem s_X2_refresh_63 {l : Launch} {G : GT} {d : Nat} {Q : AV → AH → Prop} {H : AH} {a0 a1 x2 x3 x4 x5 : Int} {M : Row} (hS : SK H a1 M) (h_r0 : Lay LPla H a0) (hsep : a1 + 23 ≤ a0 ∨ a0 + 17 ≤ a1) (h : (x3 ≤ x5 → (0 ≤ x2 ∧ x2 < 3) ∧ ∀ H1 : AH, H1 = hs H (a1 + 20) x2 x3 → CL l G mX2_setTimes d 0 0 [vR a0, vR a1, vR (a1 + 19), vI x4, vI x3, vR (a1 + 16)] H1 (fun r9 H2 => Lay LPla H2 a0 ∧ Lay LSta H2 a1 ∧ SK H2 a1 M ∧ r9 = vV ∧ ∀ H3 : AH, H3 = hs H2 (a1 + 21) x2 1 → Q vV H3)) ∧ (x5 < x3 → (-2147483648 ≤ x4 + x5 ∧ x4 + x5 ≤ 2147483647) ∧ ((hg H (a0 + 1) 0) ≤ x5 → (0 ≤ x5 ∧ x5 < 24) ∧ (0 ≤ (x4 + x5) ∧ (x4 + x5) < 72) ∧ ∀ H1 : AH, H1 = hs H (a1 + 19) (x4 + x5) (hg H (a0 + 12) x5) → (-2147483648 ≤ x5 + 1 ∧ x5 + 1 ≤ 2147483647) ∧ AW l G mX2_refresh (d + 1) 0 0 Q 63 [vR a0, vR a1, vI x2, vI x3, vI x4, vI (x5 + 1)] [] 0 0 H1) ∧ (x5 < (hg H (a0 + 1) 0) → (0 ≤ x5 ∧ x5 < 7) ∧ (0 ≤ (hg H (a0 + 11) x5) ∧ (hg H (a0 + 11) x5) < 24) ∧ (0 ≤ (x4 + x5) ∧ (x4 + x5) < 72) ∧ ∀ H1 : AH, H1 = hs H (a1 + 19) (x4 + x5) (hg H (a0 + 12) (hg H (a0 + 11) x5)) → (-2147483648 ≤ x5 + 1 ∧ x5 + 1 ≤ 2147483647) ∧ AW l G mX2_refresh (d + 1) 0 0 Q 63 [vR a0, vR a1, vI x2, vI x3, vI x4, vI (x5 + 1)] [] 0 0 H1))) : AW l G mX2_refresh (d + 1) 0 0 Q 63 [vR a0, vR a1, vI x2, vI x3, vI x4, vI x5] [] 0 0 H := by
  refine a_iload dX2_refresh_63 rfl ?_
  refine a_iload_n dX2_refresh_65 rfl rfl ?_
  refine a_icmp_ge dX2_refresh_66 (tgt := 122) rfl (fun c66 => ?_) (fun c66 => ?_)
  · replace h := h.1 c66
    refine a_aload_n dX2_refresh_122 rfl rfl ?_
    refine a_getR dX2_refresh_123 fw_RX2_105 rfl rfl (kSta_0 hS.1) (rSta_0_10 hS.1) ?_
    refine a_iload_n dX2_refresh_126 rfl rfl ?_
    refine a_iload_n dX2_refresh_127 rfl rfl ?_
    obtain ⟨q128_0, h⟩ := h
    refine b_iast dX2_refresh_128 (kSta_20 hS.1) (nSta_20 hS.1) q128_0 ?_
    have h_r0_1 := Lay.wr h_r0 ok_Pla (nrf_arr (kSta_20 hS.1) (by decide) (by decide)) (i := x2) (x := x3)
    have h_r1_1 := Lay.wr hS.1 ok_Sta (nrf_arr (kSta_20 hS.1) (by decide) (by decide)) (i := x2) (x := x3)
    generalize e_H1 : hs H (a1 + 20) x2 x3 = H1 at h_r0_1 h_r1_1 ⊢
    replace h := h H1 e_H1.symm
    have hSr1_0_1 : SK H1 a1 M := by rw [← e_H1]; exact SK.wr hS (nrf_arr (kSta_20 hS.1) (by decide) (by decide)) (by omega)
    refine a_aload_n dX2_refresh_129 rfl rfl ?_
    refine a_aload_n dX2_refresh_130 rfl rfl ?_
    refine a_aload_n dX2_refresh_131 rfl rfl ?_
    refine a_getR dX2_refresh_132 fw_RX2_96 rfl rfl (kSta_0 h_r1_1) (rSta_0_9 h_r1_1) ?_
    refine a_iload dX2_refresh_135 rfl ?_
    refine a_iload_n dX2_refresh_137 rfl rfl ?_
    refine a_aload_n dX2_refresh_138 rfl rfl ?_
    refine a_getR dX2_refresh_139 fw_RX2_67 rfl rfl (kSta_0 h_r1_1) (rSta_0_5 h_r1_1) ?_
    refine a_callV dX2_refresh_142 cw_X2_refresh_142 (as := [vR a1, vR (a1 + 19), vI x4, vI x3, vR (a1 + 16)]) rfl rfl (kPla_0 h_r0_1) (Nat.le_refl _) (Nat.le_of_ble_eq_true rfl) (nocov rfl) (Nat.le_of_ble_eq_true rfl) (Nat.le_of_ble_eq_true rfl) (CL.mono h (fun r9 H2 h => ?_))
    obtain ⟨h_r0_2, h_r1_2, hSr1_0_2, e9, h⟩ := h
    rw [e9]
    show AW l G mX2_refresh (d + 1) 0 0 Q 145 [vR a0, vR a1, vI x2, vI x3, vI x4, vI x5] [] 0 0 H2
    refine a_aload_n dX2_refresh_145 rfl rfl ?_
    refine a_getR dX2_refresh_146 fw_RX2_74 rfl rfl (kSta_0 h_r1_2) (rSta_0_11 h_r1_2) ?_
    refine a_iload_n dX2_refresh_149 rfl rfl ?_
    refine a_iconst dX2_refresh_150 ⟨by decide, by decide⟩ ?_
    refine b_zast dX2_refresh_151 (kSta_21 h_r1_2) (nSta_21 h_r1_2) q128_0 (by decide) ?_
    have h_r0_3 := Lay.wr h_r0_2 ok_Pla (nrf_arr (kSta_21 h_r1_2) (by decide) (by decide)) (i := x2) (x := 1)
    have h_r1_3 := Lay.wr h_r1_2 ok_Sta (nrf_arr (kSta_21 h_r1_2) (by decide) (by decide)) (i := x2) (x := 1)
    generalize e_H3 : hs H2 (a1 + 21) x2 1 = H3 at h_r0_3 h_r1_3 ⊢
    replace h := h H3 e_H3.symm
    have hSr1_0_3 : SK H3 a1 M := by rw [← e_H3]; exact SK.wr hSr1_0_2 (nrf_arr (kSta_21 h_r1_2) (by decide) (by decide)) (by omega)
    exact a_vret dX2_refresh_152 rfl (Nat.le_of_ble_eq_true rfl) (Nat.le_of_ble_eq_true rfl) h
  · replace h := h.2 c66
    refine a_aload_n dX2_refresh_69 rfl rfl ?_
    refine a_getR dX2_refresh_70 fw_RX2_96 rfl rfl (kSta_0 hS.1) (rSta_0_9 hS.1) ?_
    refine a_iload dX2_refresh_73 rfl ?_
    refine a_iload dX2_refresh_75 rfl ?_
    obtain ⟨q77_0, h⟩ := h
    refine a_iadd dX2_refresh_77 q77_0 ?_
    refine a_iload dX2_refresh_78 rfl ?_
    refine a_aload_n dX2_refresh_80 rfl rfl ?_
    refine a_getR dX2_refresh_81 fw_RX2_12 rfl rfl (kPla_0 h_r0) (rPla_0_0 h_r0) ?_
    refine a_getI dX2_refresh_84 fw_RX2_99 rfl rfl (kPla_1 h_r0) ?_
    refine a_icmp_ge dX2_refresh_87 (tgt := 108) rfl (fun c87 => ?_) (fun c87 => ?_)
    · replace h := h.1 c87
      refine a_aload_n dX2_refresh_108 rfl rfl ?_
      refine a_getR dX2_refresh_109 fw_RX2_18 rfl rfl (kPla_0 h_r0) (rPla_0_1 h_r0) ?_
      refine a_iload dX2_refresh_112 rfl ?_
      obtain ⟨q114_0, h⟩ := h
      refine b_iald dX2_refresh_114 (kPla_12 h_r0) (nPla_12 h_r0) q114_0 ?_
      obtain ⟨q115_0, h⟩ := h
      refine b_iast dX2_refresh_115 (kSta_19 hS.1) (nSta_19 hS.1) q115_0 ?_
      have h_r0_1 := Lay.wr h_r0 ok_Pla (nrf_arr (kSta_19 hS.1) (by decide) (by decide)) (i := (x4 + x5)) (x := (hg H (a0 + 12) x5))
      have h_r1_1 := Lay.wr hS.1 ok_Sta (nrf_arr (kSta_19 hS.1) (by decide) (by decide)) (i := (x4 + x5)) (x := (hg H (a0 + 12) x5))
      generalize e_H1 : hs H (a1 + 19) (x4 + x5) (hg H (a0 + 12) x5) = H1 at h_r0_1 h_r1_1 ⊢
      replace h := h H1 e_H1.symm
      have hSr1_0_1 : SK H1 a1 M := by rw [← e_H1]; exact SK.wr hS (nrf_arr (kSta_19 hS.1) (by decide) (by decide)) (by omega)
      obtain ⟨q116_0, h⟩ := h
      refine a_iinc dX2_refresh_116 rfl (Nat.le_of_ble_eq_true rfl) (by decide) q116_0 (ls' := [vR a0, vR a1, vI x2, vI x3, vI x4, vI (x5 + 1)]) rfl ?_
      refine a_goto dX2_refresh_119 (tgt := 63) rfl ?_
      exact h
    · replace h := h.2 c87
      refine a_aload_n dX2_refresh_90 rfl rfl ?_
      refine a_getR dX2_refresh_91 fw_RX2_18 rfl rfl (kPla_0 h_r0) (rPla_0_1 h_r0) ?_
      refine a_aload_n dX2_refresh_94 rfl rfl ?_
      refine a_getR dX2_refresh_95 fw_RX2_12 rfl rfl (kPla_0 h_r0) (rPla_0_0 h_r0) ?_
      refine a_getR dX2_refresh_98 fw_RX2_102 rfl rfl (kPla_1 h_r0) (rPla_1_11 h_r0) ?_
      refine a_iload dX2_refresh_101 rfl ?_
      obtain ⟨q103_0, h⟩ := h
      refine b_iald dX2_refresh_103 (kPla_11 h_r0) (nPla_11 h_r0) q103_0 ?_
      obtain ⟨q104_0, h⟩ := h
      refine b_iald dX2_refresh_104 (kPla_12 h_r0) (nPla_12 h_r0) q104_0 ?_
      refine a_goto dX2_refresh_105 (tgt := 115) rfl ?_
      obtain ⟨q115_0, h⟩ := h
      refine b_iast dX2_refresh_115 (kSta_19 hS.1) (nSta_19 hS.1) q115_0 ?_
      have h_r0_1 := Lay.wr h_r0 ok_Pla (nrf_arr (kSta_19 hS.1) (by decide) (by decide)) (i := (x4 + x5)) (x := (hg H (a0 + 12) (hg H (a0 + 11) x5)))
      have h_r1_1 := Lay.wr hS.1 ok_Sta (nrf_arr (kSta_19 hS.1) (by decide) (by decide)) (i := (x4 + x5)) (x := (hg H (a0 + 12) (hg H (a0 + 11) x5)))
      generalize e_H1 : hs H (a1 + 19) (x4 + x5) (hg H (a0 + 12) (hg H (a0 + 11) x5)) = H1 at h_r0_1 h_r1_1 ⊢
      replace h := h H1 e_H1.symm
      have hSr1_0_1 : SK H1 a1 M := by rw [← e_H1]; exact SK.wr hS (nrf_arr (kSta_19 hS.1) (by decide) (by decide)) (by omega)
      obtain ⟨q116_0, h⟩ := h
      refine a_iinc dX2_refresh_116 rfl (Nat.le_of_ble_eq_true rfl) (by decide) q116_0 (ls' := [vR a0, vR a1, vI x2, vI x3, vI x4, vI (x5 + 1)]) rfl ?_
      refine a_goto dX2_refresh_119 (tgt := 63) rfl ?_
      exact h


theorem dX2_refreshAll_0 : decode cX2_refreshAll 0 = .ok (.iconst 0, 1) := by decide +kernel
theorem dX2_refreshAll_1 : decode cX2_refreshAll 1 = .ok (.istore_n 2, 1) := by decide +kernel
theorem dX2_refreshAll_2 : decode cX2_refreshAll 2 = .ok (.iload_n 2, 1) := by decide +kernel
theorem dX2_refreshAll_3 : decode cX2_refreshAll 3 = .ok (.aload_n 1, 1) := by decide +kernel
theorem dX2_refreshAll_4 : decode cX2_refreshAll 4 = .ok (.getfield 112, 3) := by decide +kernel
theorem dX2_refreshAll_7 : decode cX2_refreshAll 7 = .ok (.getfield 116, 3) := by decide +kernel
theorem dX2_refreshAll_10 : decode cX2_refreshAll 10 = .ok (.if_icmp .ge 15, 3) := by decide +kernel
theorem dX2_refreshAll_13 : decode cX2_refreshAll 13 = .ok (.aload_n 0, 1) := by decide +kernel
theorem dX2_refreshAll_14 : decode cX2_refreshAll 14 = .ok (.aload_n 1, 1) := by decide +kernel
theorem dX2_refreshAll_15 : decode cX2_refreshAll 15 = .ok (.iload_n 2, 1) := by decide +kernel
theorem dX2_refreshAll_16 : decode cX2_refreshAll 16 = .ok (.invokevirtual 121, 3) := by decide +kernel
theorem dX2_refreshAll_19 : decode cX2_refreshAll 19 = .ok (.iinc 2 1, 3) := by decide +kernel
theorem dX2_refreshAll_22 : decode cX2_refreshAll 22 = .ok (.goto (-20), 3) := by decide +kernel
theorem dX2_refreshAll_25 : decode cX2_refreshAll 25 = .ok (.return_, 1) := by decide +kernel
set_option maxRecDepth 20000 in
theorem s_X2_refreshAll_0 {l : Launch} {G : GT} {d : Nat} {Q : AV → AH → Prop} {H : AH} {a0 a1 : Int} {M : Row} (hS : SK H a1 M) (h_r0 : Lay LPla H a0) (hsep : a1 + 23 ≤ a0 ∨ a0 + 17 ≤ a1) (h : AW l G mX2_refreshAll (d + 1) 0 0 Q 2 [vR a0, vR a1, vI 0] [] 0 0 H) : AW l G mX2_refreshAll (d + 1) 0 0 Q 0 [vR a0, vR a1, vU] [] 0 0 H := by
  refine a_iconst dX2_refreshAll_0 ⟨by decide, by decide⟩ ?_
  refine a_istore_n dX2_refreshAll_1 rfl (Nat.le_of_ble_eq_true rfl) (ls' := [vR a0, vR a1, vI 0]) rfl ?_
  exact h

set_option maxRecDepth 20000 in
theorem s_X2_refreshAll_2 {l : Launch} {G : GT} {d : Nat} {Q : AV → AH → Prop} {H : AH} {a0 a1 x2 : Int} {M : Row} (hS : SK H a1 M) (h_r0 : Lay LPla H a0) (hsep : a1 + 23 ≤ a0 ∨ a0 + 17 ≤ a1) (h : ((M 5) ≤ x2 → Q vV H) ∧ (x2 < (M 5) → CL l G mX2_refresh d 0 0 [vR a0, vR a1, vI x2] H (fun r9 H1 => Lay LPla H1 a0 ∧ Lay LSta H1 a1 ∧ SK H1 a1 M ∧ r9 = vV ∧ (-2147483648 ≤ x2 + 1 ∧ x2 + 1 ≤ 2147483647) ∧ AW l G mX2_refreshAll (d + 1) 0 0 Q 2 [vR a0, vR a1, vI (x2 + 1)] [] 0 0 H1))) : AW l G mX2_refreshAll (d + 1) 0 0 Q 2 [vR a0, vR a1, vI x2] [] 0 0 H := by
  refine a_iload_n dX2_refreshAll_2 rfl rfl ?_
  refine a_aload_n dX2_refreshAll_3 rfl rfl ?_
  refine a_getR dX2_refreshAll_4 fw_RX2_112 rfl rfl (kSta_0 hS.1) (rSta_0_0 hS.1) ?_
  refine a_getIV dX2_refreshAll_7 fw_RX2_116 rfl rfl (kSta_1 hS.1) (sk_1_0 hS) ?_
  refine a_icmp_ge dX2_refreshAll_10 (tgt := 25) rfl (fun c10 => ?_) (fun c10 => ?_)
  · replace h := h.1 c10
    exact a_vret dX2_refreshAll_25 rfl (Nat.le_of_ble_eq_true rfl) (Nat.le_of_ble_eq_true rfl) h
  · replace h := h.2 c10
    refine a_aload_n dX2_refreshAll_13 rfl rfl ?_
    refine a_aload_n dX2_refreshAll_14 rfl rfl ?_
    refine a_iload_n dX2_refreshAll_15 rfl rfl ?_
    refine a_callV dX2_refreshAll_16 cw_X2_refreshAll_16 (as := [vR a1, vI x2]) rfl rfl (kPla_0 h_r0) (Nat.le_refl _) (Nat.le_of_ble_eq_true rfl) (nocov rfl) (Nat.le_of_ble_eq_true rfl) (Nat.le_of_ble_eq_true rfl) (CL.mono h (fun r9 H1 h => ?_))
    obtain ⟨h_r0_1, h_r1_1, hSr1_0_1, e9, h⟩ := h
    rw [e9]
    show AW l G mX2_refreshAll (d + 1) 0 0 Q 19 [vR a0, vR a1, vI x2] [] 0 0 H1
    obtain ⟨q19_0, h⟩ := h
    refine a_iinc dX2_refreshAll_19 rfl (Nat.le_of_ble_eq_true rfl) (by decide) q19_0 (ls' := [vR a0, vR a1, vI (x2 + 1)]) rfl ?_
    refine a_goto dX2_refreshAll_22 (tgt := 2) rfl ?_
    exact h


theorem dX2_timeIn_0 : decode cX2_timeIn 0 = .ok (.aload_n 1, 1) := by decide +kernel
theorem dX2_timeIn_1 : decode cX2_timeIn 1 = .ok (.getfield 46, 3) := by decide +kernel
theorem dX2_timeIn_4 : decode cX2_timeIn 4 = .ok (.iload_n 2, 1) := by decide +kernel
theorem dX2_timeIn_5 : decode cX2_timeIn 5 = .ok (.iaload, 1) := by decide +kernel
theorem dX2_timeIn_6 : decode cX2_timeIn 6 = .ok (.ifCond .ne 14, 3) := by decide +kernel
theorem dX2_timeIn_9 : decode cX2_timeIn 9 = .ok (.aload_n 0, 1) := by decide +kernel
theorem dX2_timeIn_10 : decode cX2_timeIn 10 = .ok (.aload_n 1, 1) := by decide +kernel
theorem dX2_timeIn_11 : decode cX2_timeIn 11 = .ok (.aload_n 1, 1) := by decide +kernel
theorem dX2_timeIn_12 : decode cX2_timeIn 12 = .ok (.getfield 49, 3) := by decide +kernel
theorem dX2_timeIn_15 : decode cX2_timeIn 15 = .ok (.iload_n 2, 1) := by decide +kernel
theorem dX2_timeIn_16 : decode cX2_timeIn 16 = .ok (.iaload, 1) := by decide +kernel
theorem dX2_timeIn_17 : decode cX2_timeIn 17 = .ok (.invokevirtual 121, 3) := by decide +kernel
theorem dX2_timeIn_20 : decode cX2_timeIn 20 = .ok (.aload_n 1, 1) := by decide +kernel
theorem dX2_timeIn_21 : decode cX2_timeIn 21 = .ok (.getfield 67, 3) := by decide +kernel
theorem dX2_timeIn_24 : decode cX2_timeIn 24 = .ok (.iload_n 2, 1) := by decide +kernel
theorem dX2_timeIn_25 : decode cX2_timeIn 25 = .ok (.iaload, 1) := by decide +kernel
theorem dX2_timeIn_26 : decode cX2_timeIn 26 = .ok (.ireturn, 1) := by decide +kernel
set_option maxRecDepth 20000 in
theorem s_X2_timeIn_0 {l : Launch} {G : GT} {d : Nat} {Q : AV → AH → Prop} {H : AH} {a0 a1 x2 : Int} {M : Row} (hS : SK H a1 M) (h_r0 : Lay LPla H a0) (hsep : a1 + 23 ≤ a0 ∨ a0 + 17 ≤ a1) (h : (0 ≤ x2 ∧ x2 < M 6) ∧ (¬ (ofM M x2 7) = 0 → (0 ≤ x2 ∧ x2 < 24) ∧ Q (vI (hg H (a1 + 16) x2)) H) ∧ ((ofM M x2 7) = 0 → CL l G mX2_refresh d 0 0 [vR a0, vR a1, vI (ofM M x2 6)] H (fun r9 H1 => Lay LPla H1 a0 ∧ Lay LSta H1 a1 ∧ SK H1 a1 M ∧ r9 = vV ∧ (0 ≤ x2 ∧ x2 < 24) ∧ Q (vI (hg H1 (a1 + 16) x2)) H1))) : AW l G mX2_timeIn (d + 1) 0 0 Q 0 [vR a0, vR a1, vI x2] [] 0 0 H := by
  refine a_aload_n dX2_timeIn_0 rfl rfl ?_
  refine a_getR dX2_timeIn_1 fw_RX2_46 rfl rfl (kSta_0 hS.1) (rSta_0_4 hS.1) ?_
  refine a_iload_n dX2_timeIn_4 rfl rfl ?_
  obtain ⟨q5_0, h⟩ := h
  refine b_ialdV dX2_timeIn_5 (kSta_15 hS.1) (nSta_15 hS.1) (sk_lt hS q5_0) (sk_15 hS q5_0) ?_
  refine a_if_ne dX2_timeIn_6 (tgt := 20) rfl (fun c6 => ?_) (fun c6 => ?_)
  · replace h := h.1 c6
    refine a_aload_n dX2_timeIn_20 rfl rfl ?_
    refine a_getR dX2_timeIn_21 fw_RX2_67 rfl rfl (kSta_0 hS.1) (rSta_0_5 hS.1) ?_
    refine a_iload_n dX2_timeIn_24 rfl rfl ?_
    obtain ⟨q25_0, h⟩ := h
    refine b_iald dX2_timeIn_25 (kSta_16 hS.1) (nSta_16 hS.1) q25_0 ?_
    exact a_iret dX2_timeIn_26 rfl (Nat.le_of_ble_eq_true rfl) (Nat.le_of_ble_eq_true rfl) h
  · replace h := h.2 c6
    refine a_aload_n dX2_timeIn_9 rfl rfl ?_
    refine a_aload_n dX2_timeIn_10 rfl rfl ?_
    refine a_aload_n dX2_timeIn_11 rfl rfl ?_
    refine a_getR dX2_timeIn_12 fw_RX2_49 rfl rfl (kSta_0 hS.1) (rSta_0_3 hS.1) ?_
    refine a_iload_n dX2_timeIn_15 rfl rfl ?_
    refine b_ialdV dX2_timeIn_16 (kSta_14 hS.1) (nSta_14 hS.1) (sk_lt hS q5_0) (sk_14 hS q5_0) ?_
    refine a_callV dX2_timeIn_17 cw_X2_timeIn_17 (as := [vR a1, vI (ofM M x2 6)]) rfl rfl (kPla_0 h_r0) (Nat.le_refl _) (Nat.le_of_ble_eq_true rfl) (nocov rfl) (Nat.le_of_ble_eq_true rfl) (Nat.le_of_ble_eq_true rfl) (CL.mono h (fun r9 H1 h => ?_))
    obtain ⟨h_r0_1, h_r1_1, hSr1_0_1, e9, h⟩ := h
    rw [e9]
    show AW l G mX2_timeIn (d + 1) 0 0 Q 20 [vR a0, vR a1, vI x2] [] 0 0 H1
    refine a_aload_n dX2_timeIn_20 rfl rfl ?_
    refine a_getR dX2_timeIn_21 fw_RX2_67 rfl rfl (kSta_0 h_r1_1) (rSta_0_5 h_r1_1) ?_
    refine a_iload_n dX2_timeIn_24 rfl rfl ?_
    obtain ⟨q25_0, h⟩ := h
    refine b_iald dX2_timeIn_25 (kSta_16 h_r1_1) (nSta_16 h_r1_1) q25_0 ?_
    exact a_iret dX2_timeIn_26 rfl (Nat.le_of_ble_eq_true rfl) (Nat.le_of_ble_eq_true rfl) h


theorem dX2_wholeCost_0 : decode cX2_wholeCost 0 = .ok (.iconst 0, 1) := by decide +kernel
theorem dX2_wholeCost_1 : decode cX2_wholeCost 1 = .ok (.istore_n 2, 1) := by decide +kernel
theorem dX2_wholeCost_2 : decode cX2_wholeCost 2 = .ok (.iload_n 2, 1) := by decide +kernel
theorem dX2_wholeCost_3 : decode cX2_wholeCost 3 = .ok (.aload_n 1, 1) := by decide +kernel
theorem dX2_wholeCost_4 : decode cX2_wholeCost 4 = .ok (.getfield 112, 3) := by decide +kernel
theorem dX2_wholeCost_7 : decode cX2_wholeCost 7 = .ok (.getfield 116, 3) := by decide +kernel
theorem dX2_wholeCost_10 : decode cX2_wholeCost 10 = .ok (.if_icmp .ge 15, 3) := by decide +kernel
theorem dX2_wholeCost_13 : decode cX2_wholeCost 13 = .ok (.aload_n 0, 1) := by decide +kernel
theorem dX2_wholeCost_14 : decode cX2_wholeCost 14 = .ok (.aload_n 1, 1) := by decide +kernel
theorem dX2_wholeCost_15 : decode cX2_wholeCost 15 = .ok (.iload_n 2, 1) := by decide +kernel
theorem dX2_wholeCost_16 : decode cX2_wholeCost 16 = .ok (.invokevirtual 121, 3) := by decide +kernel
theorem dX2_wholeCost_19 : decode cX2_wholeCost 19 = .ok (.iinc 2 1, 3) := by decide +kernel
theorem dX2_wholeCost_22 : decode cX2_wholeCost 22 = .ok (.goto (-20), 3) := by decide +kernel
theorem dX2_wholeCost_25 : decode cX2_wholeCost 25 = .ok (.lconst 0, 1) := by decide +kernel
theorem dX2_wholeCost_26 : decode cX2_wholeCost 26 = .ok (.lstore_n 2, 1) := by decide +kernel
theorem dX2_wholeCost_27 : decode cX2_wholeCost 27 = .ok (.iconst 0, 1) := by decide +kernel
theorem dX2_wholeCost_28 : decode cX2_wholeCost 28 = .ok (.istore 4, 2) := by decide +kernel
theorem dX2_wholeCost_30 : decode cX2_wholeCost 30 = .ok (.iload 4, 2) := by decide +kernel
theorem dX2_wholeCost_32 : decode cX2_wholeCost 32 = .ok (.aload_n 1, 1) := by decide +kernel
theorem dX2_wholeCost_33 : decode cX2_wholeCost 33 = .ok (.getfield 34, 3) := by decide +kernel
theorem dX2_wholeCost_36 : decode cX2_wholeCost 36 = .ok (.getfield 40, 3) := by decide +kernel
theorem dX2_wholeCost_39 : decode cX2_wholeCost 39 = .ok (.if_icmp .ge 36, 3) := by decide +kernel
theorem dX2_wholeCost_42 : decode cX2_wholeCost 42 = .ok (.aload_n 1, 1) := by decide +kernel
theorem dX2_wholeCost_43 : decode cX2_wholeCost 43 = .ok (.getfield 46, 3) := by decide +kernel
theorem dX2_wholeCost_46 : decode cX2_wholeCost 46 = .ok (.iload 4, 2) := by decide +kernel
theorem dX2_wholeCost_48 : decode cX2_wholeCost 48 = .ok (.iaload, 1) := by decide +kernel
theorem dX2_wholeCost_49 : decode cX2_wholeCost 49 = .ok (.iconst 3, 1) := by decide +kernel
theorem dX2_wholeCost_50 : decode cX2_wholeCost 50 = .ok (.if_icmp .eq 19, 3) := by decide +kernel
theorem dX2_wholeCost_53 : decode cX2_wholeCost 53 = .ok (.lload_n 2, 1) := by decide +kernel
theorem dX2_wholeCost_54 : decode cX2_wholeCost 54 = .ok (.aload_n 1, 1) := by decide +kernel
theorem dX2_wholeCost_55 : decode cX2_wholeCost 55 = .ok (.iload 4, 2) := by decide +kernel
theorem dX2_wholeCost_57 : decode cX2_wholeCost 57 = .ok (.aload_n 1, 1) := by decide +kernel
theorem dX2_wholeCost_58 : decode cX2_wholeCost 58 = .ok (.getfield 67, 3) := by decide +kernel
theorem dX2_wholeCost_61 : decode cX2_wholeCost 61 = .ok (.iload 4, 2) := by decide +kernel
theorem dX2_wholeCost_63 : decode cX2_wholeCost 63 = .ok (.iaload, 1) := by decide +kernel
theorem dX2_wholeCost_64 : decode cX2_wholeCost 64 = .ok (.invokevirtual 125, 3) := by decide +kernel
theorem dX2_wholeCost_67 : decode cX2_wholeCost 67 = .ok (.ladd, 1) := by decide +kernel
theorem dX2_wholeCost_68 : decode cX2_wholeCost 68 = .ok (.lstore_n 2, 1) := by decide +kernel
theorem dX2_wholeCost_69 : decode cX2_wholeCost 69 = .ok (.iinc 4 1, 3) := by decide +kernel
theorem dX2_wholeCost_72 : decode cX2_wholeCost 72 = .ok (.goto (-42), 3) := by decide +kernel
theorem dX2_wholeCost_75 : decode cX2_wholeCost 75 = .ok (.lload_n 2, 1) := by decide +kernel
theorem dX2_wholeCost_76 : decode cX2_wholeCost 76 = .ok (.lreturn, 1) := by decide +kernel
set_option maxRecDepth 20000 in
theorem s_X2_wholeCost_0 {l : Launch} {G : GT} {d : Nat} {Q : AV → AH → Prop} {H : AH} {a0 a1 : Int} {M : Row} (hS : SK H a1 M) (h_r0 : Lay LPla H a0) (hsep : a1 + 23 ≤ a0 ∨ a0 + 17 ≤ a1) (h : AW l G mX2_wholeCost (d + 1) 0 0 Q 2 [vR a0, vR a1, vI 0, vU, vU] [] 0 0 H) : AW l G mX2_wholeCost (d + 1) 0 0 Q 0 [vR a0, vR a1, vU, vU, vU] [] 0 0 H := by
  refine a_iconst dX2_wholeCost_0 ⟨by decide, by decide⟩ ?_
  refine a_istore_n dX2_wholeCost_1 rfl (Nat.le_of_ble_eq_true rfl) (ls' := [vR a0, vR a1, vI 0, vU, vU]) rfl ?_
  exact h

set_option maxRecDepth 20000 in
theorem s_X2_wholeCost_2 {l : Launch} {G : GT} {d : Nat} {Q : AV → AH → Prop} {H : AH} {a0 a1 x2 : Int} {M : Row} (hS : SK H a1 M) (h_r0 : Lay LPla H a0) (hsep : a1 + 23 ≤ a0 ∨ a0 + 17 ≤ a1) (h : ((M 5) ≤ x2 → AW l G mX2_wholeCost (d + 1) 0 0 Q 30 [vR a0, vR a1, vJ 0, vU, vI 0] [] 0 0 H) ∧ (x2 < (M 5) → CL l G mX2_refresh d 0 0 [vR a0, vR a1, vI x2] H (fun r9 H1 => Lay LPla H1 a0 ∧ Lay LSta H1 a1 ∧ SK H1 a1 M ∧ r9 = vV ∧ (-2147483648 ≤ x2 + 1 ∧ x2 + 1 ≤ 2147483647) ∧ AW l G mX2_wholeCost (d + 1) 0 0 Q 2 [vR a0, vR a1, vI (x2 + 1), vU, vU] [] 0 0 H1))) : AW l G mX2_wholeCost (d + 1) 0 0 Q 2 [vR a0, vR a1, vI x2, vU, vU] [] 0 0 H := by
  refine a_iload_n dX2_wholeCost_2 rfl rfl ?_
  refine a_aload_n dX2_wholeCost_3 rfl rfl ?_
  refine a_getR dX2_wholeCost_4 fw_RX2_112 rfl rfl (kSta_0 hS.1) (rSta_0_0 hS.1) ?_
  refine a_getIV dX2_wholeCost_7 fw_RX2_116 rfl rfl (kSta_1 hS.1) (sk_1_0 hS) ?_
  refine a_icmp_ge dX2_wholeCost_10 (tgt := 25) rfl (fun c10 => ?_) (fun c10 => ?_)
  · replace h := h.1 c10
    refine a_lconst dX2_wholeCost_25 ?_
    show AW l G mX2_wholeCost (d + 1) 0 0 Q 26 [vR a0, vR a1, vI x2, vU, vU] [vJ 0] 0 0 H
    refine a_lstore_n dX2_wholeCost_26 rfl (Nat.le_of_ble_eq_true rfl) (ls' := [vR a0, vR a1, vJ 0, vU, vU]) rfl ?_
    refine a_iconst dX2_wholeCost_27 ⟨by decide, by decide⟩ ?_
    refine a_istore dX2_wholeCost_28 (Nat.le_of_ble_eq_true rfl) (ls' := [vR a0, vR a1, vJ 0, vU, vI 0]) rfl ?_
    exact h
  · replace h := h.2 c10
    refine a_aload_n dX2_wholeCost_13 rfl rfl ?_
    refine a_aload_n dX2_wholeCost_14 rfl rfl ?_
    refine a_iload_n dX2_wholeCost_15 rfl rfl ?_
    refine a_callV dX2_wholeCost_16 cw_X2_wholeCost_16 (as := [vR a1, vI x2]) rfl rfl (kPla_0 h_r0) (Nat.le_refl _) (Nat.le_of_ble_eq_true rfl) (nocov rfl) (Nat.le_of_ble_eq_true rfl) (Nat.le_of_ble_eq_true rfl) (CL.mono h (fun r9 H1 h => ?_))
    obtain ⟨h_r0_1, h_r1_1, hSr1_0_1, e9, h⟩ := h
    rw [e9]
    show AW l G mX2_wholeCost (d + 1) 0 0 Q 19 [vR a0, vR a1, vI x2, vU, vU] [] 0 0 H1
    obtain ⟨q19_0, h⟩ := h
    refine a_iinc dX2_wholeCost_19 rfl (Nat.le_of_ble_eq_true rfl) (by decide) q19_0 (ls' := [vR a0, vR a1, vI (x2 + 1), vU, vU]) rfl ?_
    refine a_goto dX2_wholeCost_22 (tgt := 2) rfl ?_
    exact h

set_option maxRecDepth 20000 in
theorem s_X2_wholeCost_30 {l : Launch} {G : GT} {d : Nat} {Q : AV → AH → Prop} {H : AH} {a0 a1 x2 x4 : Int} {M : Row} (hS : SK H a1 M) (h_r0 : Lay LPla H a0) (hsep : a1 + 23 ≤ a0 ∨ a0 + 17 ≤ a1) (h : ((M 6) ≤ x4 → Q (vJ x2) H) ∧ (x4 < (M 6) → (0 ≤ x4 ∧ x4 < M 6) ∧ ((ofM M x4 7) = 3 → (-2147483648 ≤ x4 + 1 ∧ x4 + 1 ≤ 2147483647) ∧ AW l G mX2_wholeCost (d + 1) 0 0 Q 30 [vR a0, vR a1, vJ x2, vU, vI (x4 + 1)] [] 0 0 H) ∧ (¬ (ofM M x4 7) = 3 → (0 ≤ x4 ∧ x4 < 24) ∧ (fl M x4) ∧ (0 ≤ (hg H (a1 + 16) x4) ∧ (hg H (a1 + 16) x4) ≤ 400000) ∧ (-9223372036854775808 ≤ x2 + (costM M x4 (hg H (a1 + 16) x4)) ∧ x2 + (costM M x4 (hg H (a1 + 16) x4)) ≤ 9223372036854775807) ∧ (-2147483648 ≤ x4 + 1 ∧ x4 + 1 ≤ 2147483647) ∧ AW l G mX2_wholeCost (d + 1) 0 0 Q 30 [vR a0, vR a1, vJ (x2 + (costM M x4 (hg H (a1 + 16) x4))), vU, vI (x4 + 1)] [] 0 0 H))) : AW l G mX2_wholeCost (d + 1) 0 0 Q 30 [vR a0, vR a1, vJ x2, vU, vI x4] [] 0 0 H := by
  refine a_iload dX2_wholeCost_30 rfl ?_
  refine a_aload_n dX2_wholeCost_32 rfl rfl ?_
  refine a_getR dX2_wholeCost_33 fw_RX2_34 rfl rfl (kSta_0 hS.1) (rSta_0_1 hS.1) ?_
  refine a_getIV dX2_wholeCost_36 fw_RX2_40 rfl rfl (kSta_5 hS.1) (sk_5_0 hS) ?_
  refine a_icmp_ge dX2_wholeCost_39 (tgt := 75) rfl (fun c39 => ?_) (fun c39 => ?_)
  · replace h := h.1 c39
    refine a_lload_n dX2_wholeCost_75 rfl rfl ?_
    exact a_lret dX2_wholeCost_76 rfl (Nat.le_of_ble_eq_true rfl) (Nat.le_of_ble_eq_true rfl) h
  · replace h := h.2 c39
    refine a_aload_n dX2_wholeCost_42 rfl rfl ?_
    refine a_getR dX2_wholeCost_43 fw_RX2_46 rfl rfl (kSta_0 hS.1) (rSta_0_4 hS.1) ?_
    refine a_iload dX2_wholeCost_46 rfl ?_
    obtain ⟨q48_0, h⟩ := h
    refine b_ialdV dX2_wholeCost_48 (kSta_15 hS.1) (nSta_15 hS.1) (sk_lt hS q48_0) (sk_15 hS q48_0) ?_
    refine a_iconst dX2_wholeCost_49 ⟨by decide, by decide⟩ ?_
    refine a_icmp_eq dX2_wholeCost_50 (tgt := 69) rfl (fun c50 => ?_) (fun c50 => ?_)
    · replace h := h.1 c50
      obtain ⟨q69_0, h⟩ := h
      refine a_iinc dX2_wholeCost_69 rfl (Nat.le_of_ble_eq_true rfl) (by decide) q69_0 (ls' := [vR a0, vR a1, vJ x2, vU, vI (x4 + 1)]) rfl ?_
      refine a_goto dX2_wholeCost_72 (tgt := 30) rfl ?_
      exact h
    · replace h := h.2 c50
      refine a_lload_n dX2_wholeCost_53 rfl rfl ?_
      refine a_aload_n dX2_wholeCost_54 rfl rfl ?_
      refine a_iload dX2_wholeCost_55 rfl ?_
      refine a_aload_n dX2_wholeCost_57 rfl rfl ?_
      refine a_getR dX2_wholeCost_58 fw_RX2_67 rfl rfl (kSta_0 hS.1) (rSta_0_5 hS.1) ?_
      refine a_iload dX2_wholeCost_61 rfl ?_
      obtain ⟨q63_0, h⟩ := h
      refine b_iald dX2_wholeCost_63 (kSta_16 hS.1) (nSta_16 hS.1) q63_0 ?_
      obtain ⟨q64_0, h⟩ := h
      obtain ⟨q64_1, h⟩ := h
      refine a_callV dX2_wholeCost_64 cw_X2_wholeCost_64 (as := [vI x4, vI (hg H (a1 + 16) x4)]) rfl rfl (kSta_0 hS.1) (Nat.le_refl _) (Nat.le_of_ble_eq_true rfl) (nocov rfl) (Nat.le_of_ble_eq_true rfl) (Nat.le_of_ble_eq_true rfl) (CL.mono (k_costAt hS  q64_0 q64_1) (fun r9 H9 h9 => ?_))
      rw [h9.1, h9.2]
      show AW l G mX2_wholeCost (d + 1) 0 0 Q 67 [vR a0, vR a1, vJ x2, vU, vI x4] [vJ (costM M x4 (hg H (a1 + 16) x4)), vJ x2] 0 0 H
      obtain ⟨q67_0, h⟩ := h
      refine a_ladd dX2_wholeCost_67 q67_0 ?_
      refine a_lstore_n dX2_wholeCost_68 rfl (Nat.le_of_ble_eq_true rfl) (ls' := [vR a0, vR a1, vJ (x2 + (costM M x4 (hg H (a1 + 16) x4))), vU, vI x4]) rfl ?_
      obtain ⟨q69_0, h⟩ := h
      refine a_iinc dX2_wholeCost_69 rfl (Nat.le_of_ble_eq_true rfl) (by decide) q69_0 (ls' := [vR a0, vR a1, vJ (x2 + (costM M x4 (hg H (a1 + 16) x4))), vU, vI (x4 + 1)]) rfl ?_
      refine a_goto dX2_wholeCost_72 (tgt := 30) rfl ?_
      exact h


theorem dX2_placeInLine_0 : decode cX2_placeInLine 0 = .ok (.aload_n 0, 1) := by decide +kernel
theorem dX2_placeInLine_1 : decode cX2_placeInLine 1 = .ok (.aload_n 1, 1) := by decide +kernel
theorem dX2_placeInLine_2 : decode cX2_placeInLine 2 = .ok (.aload_n 1, 1) := by decide +kernel
theorem dX2_placeInLine_3 : decode cX2_placeInLine 3 = .ok (.getfield 49, 3) := by decide +kernel
theorem dX2_placeInLine_6 : decode cX2_placeInLine 6 = .ok (.iload_n 2, 1) := by decide +kernel
theorem dX2_placeInLine_7 : decode cX2_placeInLine 7 = .ok (.iaload, 1) := by decide +kernel
theorem dX2_placeInLine_8 : decode cX2_placeInLine 8 = .ok (.invokevirtual 78, 3) := by decide +kernel
theorem dX2_placeInLine_11 : decode cX2_placeInLine 11 = .ok (.istore_n 3, 1) := by decide +kernel
theorem dX2_placeInLine_12 : decode cX2_placeInLine 12 = .ok (.iconst 0, 1) := by decide +kernel
theorem dX2_placeInLine_13 : decode cX2_placeInLine 13 = .ok (.istore 4, 2) := by decide +kernel
theorem dX2_placeInLine_15 : decode cX2_placeInLine 15 = .ok (.iload 4, 2) := by decide +kernel
theorem dX2_placeInLine_17 : decode cX2_placeInLine 17 = .ok (.iload_n 3, 1) := by decide +kernel
theorem dX2_placeInLine_18 : decode cX2_placeInLine 18 = .ok (.if_icmp .ge 23, 3) := by decide +kernel
theorem dX2_placeInLine_21 : decode cX2_placeInLine 21 = .ok (.aload_n 0, 1) := by decide +kernel
theorem dX2_placeInLine_22 : decode cX2_placeInLine 22 = .ok (.getfield 18, 3) := by decide +kernel
theorem dX2_placeInLine_25 : decode cX2_placeInLine 25 = .ok (.iload 4, 2) := by decide +kernel
theorem dX2_placeInLine_27 : decode cX2_placeInLine 27 = .ok (.iaload, 1) := by decide +kernel
theorem dX2_placeInLine_28 : decode cX2_placeInLine 28 = .ok (.iload_n 2, 1) := by decide +kernel
theorem dX2_placeInLine_29 : decode cX2_placeInLine 29 = .ok (.if_icmp .ne 6, 3) := by decide +kernel
theorem dX2_placeInLine_32 : decode cX2_placeInLine 32 = .ok (.iload 4, 2) := by decide +kernel
theorem dX2_placeInLine_34 : decode cX2_placeInLine 34 = .ok (.ireturn, 1) := by decide +kernel
theorem dX2_placeInLine_35 : decode cX2_placeInLine 35 = .ok (.iinc 4 1, 3) := by decide +kernel
theorem dX2_placeInLine_38 : decode cX2_placeInLine 38 = .ok (.goto (-23), 3) := by decide +kernel
theorem dX2_placeInLine_41 : decode cX2_placeInLine 41 = .ok (.iconst (-1), 1) := by decide +kernel
theorem dX2_placeInLine_42 : decode cX2_placeInLine 42 = .ok (.ireturn, 1) := by decide +kernel
set_option maxRecDepth 20000 in
theorem s_X2_placeInLine_0 {l : Launch} {G : GT} {d : Nat} {Q : AV → AH → Prop} {H : AH} {a0 a1 x2 : Int} {M : Row} (hS : SK H a1 M) (h_r0 : Lay LPla H a0) (hsep : a1 + 23 ≤ a0 ∨ a0 + 17 ≤ a1) (h : (0 ≤ x2 ∧ x2 < M 6) ∧ CL l G mX2_lineUp d 0 0 [vR a0, vR a1, vI (ofM M x2 6)] H (fun r9 H1 => Lay LPla H1 a0 ∧ Lay LSta H1 a1 ∧ SK H1 a1 M ∧ ∃ y1 : Int, r9 = vI y1 ∧ AW l G mX2_placeInLine (d + 1) 0 0 Q 15 [vR a0, vR a1, vI x2, vI y1, vI 0] [] 0 0 H1)) : AW l G mX2_placeInLine (d + 1) 0 0 Q 0 [vR a0, vR a1, vI x2, vU, vU] [] 0 0 H := by
  refine a_aload_n dX2_placeInLine_0 rfl rfl ?_
  refine a_aload_n dX2_placeInLine_1 rfl rfl ?_
  refine a_aload_n dX2_placeInLine_2 rfl rfl ?_
  refine a_getR dX2_placeInLine_3 fw_RX2_49 rfl rfl (kSta_0 hS.1) (rSta_0_3 hS.1) ?_
  refine a_iload_n dX2_placeInLine_6 rfl rfl ?_
  obtain ⟨q7_0, h⟩ := h
  refine b_ialdV dX2_placeInLine_7 (kSta_14 hS.1) (nSta_14 hS.1) (sk_lt hS q7_0) (sk_14 hS q7_0) ?_
  refine a_callV dX2_placeInLine_8 cw_X2_placeInLine_8 (as := [vR a1, vI (ofM M x2 6)]) rfl rfl (kPla_0 h_r0) (Nat.le_refl _) (Nat.le_of_ble_eq_true rfl) (nocov rfl) (Nat.le_of_ble_eq_true rfl) (Nat.le_of_ble_eq_true rfl) (CL.mono h (fun r9 H1 h => ?_))
  obtain ⟨h_r0_1, h_r1_1, hSr1_0_1, y1, e9, h⟩ := h
  rw [e9]
  show AW l G mX2_placeInLine (d + 1) 0 0 Q 11 [vR a0, vR a1, vI x2, vU, vU] [vI y1] 0 0 H1
  refine a_istore_n dX2_placeInLine_11 rfl (Nat.le_of_ble_eq_true rfl) (ls' := [vR a0, vR a1, vI x2, vI y1, vU]) rfl ?_
  refine a_iconst dX2_placeInLine_12 ⟨by decide, by decide⟩ ?_
  refine a_istore dX2_placeInLine_13 (Nat.le_of_ble_eq_true rfl) (ls' := [vR a0, vR a1, vI x2, vI y1, vI 0]) rfl ?_
  exact h

set_option maxRecDepth 20000 in
theorem s_X2_placeInLine_15 {l : Launch} {G : GT} {d : Nat} {Q : AV → AH → Prop} {H : AH} {a0 a1 x2 x3 x4 : Int} {M : Row} (hS : SK H a1 M) (h_r0 : Lay LPla H a0) (hsep : a1 + 23 ≤ a0 ∨ a0 + 17 ≤ a1) (h : (x3 ≤ x4 → Q (vI (-1)) H) ∧ (x4 < x3 → (0 ≤ x4 ∧ x4 < 24) ∧ (¬ (hg H (a0 + 12) x4) = x2 → (-2147483648 ≤ x4 + 1 ∧ x4 + 1 ≤ 2147483647) ∧ AW l G mX2_placeInLine (d + 1) 0 0 Q 15 [vR a0, vR a1, vI x2, vI x3, vI (x4 + 1)] [] 0 0 H) ∧ ((hg H (a0 + 12) x4) = x2 → Q (vI x4) H))) : AW l G mX2_placeInLine (d + 1) 0 0 Q 15 [vR a0, vR a1, vI x2, vI x3, vI x4] [] 0 0 H := by
  refine a_iload dX2_placeInLine_15 rfl ?_
  refine a_iload_n dX2_placeInLine_17 rfl rfl ?_
  refine a_icmp_ge dX2_placeInLine_18 (tgt := 41) rfl (fun c18 => ?_) (fun c18 => ?_)
  · replace h := h.1 c18
    refine a_iconst dX2_placeInLine_41 ⟨by decide, by decide⟩ ?_
    exact a_iret dX2_placeInLine_42 rfl (Nat.le_of_ble_eq_true rfl) (Nat.le_of_ble_eq_true rfl) h
  · replace h := h.2 c18
    refine a_aload_n dX2_placeInLine_21 rfl rfl ?_
    refine a_getR dX2_placeInLine_22 fw_RX2_18 rfl rfl (kPla_0 h_r0) (rPla_0_1 h_r0) ?_
    refine a_iload dX2_placeInLine_25 rfl ?_
    obtain ⟨q27_0, h⟩ := h
    refine b_iald dX2_placeInLine_27 (kPla_12 h_r0) (nPla_12 h_r0) q27_0 ?_
    refine a_iload_n dX2_placeInLine_28 rfl rfl ?_
    refine a_icmp_ne dX2_placeInLine_29 (tgt := 35) rfl (fun c29 => ?_) (fun c29 => ?_)
    · replace h := h.1 c29
      obtain ⟨q35_0, h⟩ := h
      refine a_iinc dX2_placeInLine_35 rfl (Nat.le_of_ble_eq_true rfl) (by decide) q35_0 (ls' := [vR a0, vR a1, vI x2, vI x3, vI (x4 + 1)]) rfl ?_
      refine a_goto dX2_placeInLine_38 (tgt := 15) rfl ?_
      exact h
    · replace h := h.2 c29
      refine a_iload dX2_placeInLine_32 rfl ?_
      exact a_iret dX2_placeInLine_34 rfl (Nat.le_of_ble_eq_true rfl) (Nat.le_of_ble_eq_true rfl) h


theorem dX2_costInLine_0 : decode cX2_costInLine 0 = .ok (.aload_n 0, 1) := by decide +kernel
theorem dX2_costInLine_1 : decode cX2_costInLine 1 = .ok (.aload_n 1, 1) := by decide +kernel
theorem dX2_costInLine_2 : decode cX2_costInLine 2 = .ok (.iload_n 2, 1) := by decide +kernel
theorem dX2_costInLine_3 : decode cX2_costInLine 3 = .ok (.invokevirtual 78, 3) := by decide +kernel
theorem dX2_costInLine_6 : decode cX2_costInLine 6 = .ok (.istore_n 3, 1) := by decide +kernel
theorem dX2_costInLine_7 : decode cX2_costInLine 7 = .ok (.aload_n 0, 1) := by decide +kernel
theorem dX2_costInLine_8 : decode cX2_costInLine 8 = .ok (.aload_n 1, 1) := by decide +kernel
theorem dX2_costInLine_9 : decode cX2_costInLine 9 = .ok (.iload_n 2, 1) := by decide +kernel
theorem dX2_costInLine_10 : decode cX2_costInLine 10 = .ok (.iload_n 3, 1) := by decide +kernel
theorem dX2_costInLine_11 : decode cX2_costInLine 11 = .ok (.invokevirtual 85, 3) := by decide +kernel
theorem dX2_costInLine_14 : decode cX2_costInLine 14 = .ok (.pop, 1) := by decide +kernel
theorem dX2_costInLine_15 : decode cX2_costInLine 15 = .ok (.aload_n 0, 1) := by decide +kernel
theorem dX2_costInLine_16 : decode cX2_costInLine 16 = .ok (.aload_n 1, 1) := by decide +kernel
theorem dX2_costInLine_17 : decode cX2_costInLine 17 = .ok (.aload_n 0, 1) := by decide +kernel
theorem dX2_costInLine_18 : decode cX2_costInLine 18 = .ok (.getfield 18, 3) := by decide +kernel
theorem dX2_costInLine_21 : decode cX2_costInLine 21 = .ok (.iconst 0, 1) := by decide +kernel
theorem dX2_costInLine_22 : decode cX2_costInLine 22 = .ok (.iload_n 3, 1) := by decide +kernel
theorem dX2_costInLine_23 : decode cX2_costInLine 23 = .ok (.aload_n 0, 1) := by decide +kernel
theorem dX2_costInLine_24 : decode cX2_costInLine 24 = .ok (.getfield 28, 3) := by decide +kernel
theorem dX2_costInLine_27 : decode cX2_costInLine 27 = .ok (.invokevirtual 108, 3) := by decide +kernel
theorem dX2_costInLine_30 : decode cX2_costInLine 30 = .ok (.aload_n 1, 1) := by decide +kernel
theorem dX2_costInLine_31 : decode cX2_costInLine 31 = .ok (.aload_n 0, 1) := by decide +kernel
theorem dX2_costInLine_32 : decode cX2_costInLine 32 = .ok (.getfield 18, 3) := by decide +kernel
theorem dX2_costInLine_35 : decode cX2_costInLine 35 = .ok (.iconst 0, 1) := by decide +kernel
theorem dX2_costInLine_36 : decode cX2_costInLine 36 = .ok (.iload_n 3, 1) := by decide +kernel
theorem dX2_costInLine_37 : decode cX2_costInLine 37 = .ok (.aload_n 0, 1) := by decide +kernel
theorem dX2_costInLine_38 : decode cX2_costInLine 38 = .ok (.getfield 28, 3) := by decide +kernel
theorem dX2_costInLine_41 : decode cX2_costInLine 41 = .ok (.invokevirtual 129, 3) := by decide +kernel
theorem dX2_costInLine_44 : decode cX2_costInLine 44 = .ok (.lreturn, 1) := by decide +kernel
set_option maxRecDepth 20000 in
theorem s_X2_costInLine_0 {l : Launch} {G : GT} {d : Nat} {Q : AV → AH → Prop} {H : AH} {a0 a1 x2 : Int} {M : Row} (hS : SK H a1 M) (h_r0 : Lay LPla H a0) (hsep : a1 + 23 ≤ a0 ∨ a0 + 17 ≤ a1) (h : CL l G mX2_lineUp d 0 0 [vR a0, vR a1, vI x2] H (fun r9 H1 => Lay LPla H1 a0 ∧ Lay LSta H1 a1 ∧ SK H1 a1 M ∧ ∃ y1 : Int, r9 = vI y1 ∧ CL l G mX2_setBases d 0 0 [vR a0, vR a1, vI x2, vI y1] H1 (fun r9 H2 => Lay LPla H2 a0 ∧ Lay LSta H2 a1 ∧ SK H2 a1 M ∧ ∃ y2 : Int, r9 = vI y2 ∧ CL l G mX2_setTimes d 0 0 [vR a0, vR a1, vR (a0 + 12), vI 0, vI y1, vR (a0 + 15)] H2 (fun r9 H3 => Lay LPla H3 a0 ∧ Lay LSta H3 a1 ∧ SK H3 a1 M ∧ r9 = vV ∧ CL l G mX6_costAlong d 0 0 [vR a1, vR (a0 + 12), vI 0, vI y1, vR (a0 + 15)] H3 (fun r9 H4 => Lay LPla H4 a0 ∧ Lay LSta H4 a1 ∧ SK H4 a1 M ∧ ∃ y4 : Int, r9 = vJ y4 ∧ Q (vJ y4) H4))))) : AW l G mX2_costInLine (d + 1) 0 0 Q 0 [vR a0, vR a1, vI x2, vU] [] 0 0 H := by
  refine a_aload_n dX2_costInLine_0 rfl rfl ?_
  refine a_aload_n dX2_costInLine_1 rfl rfl ?_
  refine a_iload_n dX2_costInLine_2 rfl rfl ?_
  refine a_callV dX2_costInLine_3 cw_X2_costInLine_3 (as := [vR a1, vI x2]) rfl rfl (kPla_0 h_r0) (Nat.le_refl _) (Nat.le_of_ble_eq_true rfl) (nocov rfl) (Nat.le_of_ble_eq_true rfl) (Nat.le_of_ble_eq_true rfl) (CL.mono h (fun r9 H1 h => ?_))
  obtain ⟨h_r0_1, h_r1_1, hSr1_0_1, y1, e9, h⟩ := h
  rw [e9]
  show AW l G mX2_costInLine (d + 1) 0 0 Q 6 [vR a0, vR a1, vI x2, vU] [vI y1] 0 0 H1
  refine a_istore_n dX2_costInLine_6 rfl (Nat.le_of_ble_eq_true rfl) (ls' := [vR a0, vR a1, vI x2, vI y1]) rfl ?_
  refine a_aload_n dX2_costInLine_7 rfl rfl ?_
  refine a_aload_n dX2_costInLine_8 rfl rfl ?_
  refine a_iload_n dX2_costInLine_9 rfl rfl ?_
  refine a_iload_n dX2_costInLine_10 rfl rfl ?_
  refine a_callV dX2_costInLine_11 cw_X2_costInLine_11 (as := [vR a1, vI x2, vI y1]) rfl rfl (kPla_0 h_r0_1) (Nat.le_refl _) (Nat.le_of_ble_eq_true rfl) (nocov rfl) (Nat.le_of_ble_eq_true rfl) (Nat.le_of_ble_eq_true rfl) (CL.mono h (fun r9 H2 h => ?_))
  obtain ⟨h_r0_2, h_r1_2, hSr1_0_2, y2, e9, h⟩ := h
  rw [e9]
  show AW l G mX2_costInLine (d + 1) 0 0 Q 14 [vR a0, vR a1, vI x2, vI y1] [vI y2] 0 0 H2
  refine a_pop dX2_costInLine_14 rfl ?_
  refine a_aload_n dX2_costInLine_15 rfl rfl ?_
  refine a_aload_n dX2_costInLine_16 rfl rfl ?_
  refine a_aload_n dX2_costInLine_17 rfl rfl ?_
  refine a_getR dX2_costInLine_18 fw_RX2_18 rfl rfl (kPla_0 h_r0_2) (rPla_0_1 h_r0_2) ?_
  refine a_iconst dX2_costInLine_21 ⟨by decide, by decide⟩ ?_
  refine a_iload_n dX2_costInLine_22 rfl rfl ?_
  refine a_aload_n dX2_costInLine_23 rfl rfl ?_
  refine a_getR dX2_costInLine_24 fw_RX2_28 rfl rfl (kPla_0 h_r0_2) (rPla_0_4 h_r0_2) ?_
  refine a_callV dX2_costInLine_27 cw_X2_costInLine_27 (as := [vR a1, vR (a0 + 12), vI 0, vI y1, vR (a0 + 15)]) rfl rfl (kPla_0 h_r0_2) (Nat.le_refl _) (Nat.le_of_ble_eq_true rfl) (nocov rfl) (Nat.le_of_ble_eq_true rfl) (Nat.le_of_ble_eq_true rfl) (CL.mono h (fun r9 H3 h => ?_))
  obtain ⟨h_r0_3, h_r1_3, hSr1_0_3, e9, h⟩ := h
  rw [e9]
  show AW l G mX2_costInLine (d + 1) 0 0 Q 30 [vR a0, vR a1, vI x2, vI y1] [] 0 0 H3
  refine a_aload_n dX2_costInLine_30 rfl rfl ?_
  refine a_aload_n dX2_costInLine_31 rfl rfl ?_
  refine a_getR dX2_costInLine_32 fw_RX2_18 rfl rfl (kPla_0 h_r0_3) (rPla_0_1 h_r0_3) ?_
  refine a_iconst dX2_costInLine_35 ⟨by decide, by decide⟩ ?_
  refine a_iload_n dX2_costInLine_36 rfl rfl ?_
  refine a_aload_n dX2_costInLine_37 rfl rfl ?_
  refine a_getR dX2_costInLine_38 fw_RX2_28 rfl rfl (kPla_0 h_r0_3) (rPla_0_4 h_r0_3) ?_
  refine a_callV dX2_costInLine_41 cw_X2_costInLine_41 (as := [vR (a0 + 12), vI 0, vI y1, vR (a0 + 15)]) rfl rfl (kSta_0 h_r1_3) (Nat.le_refl _) (Nat.le_of_ble_eq_true rfl) (nocov rfl) (Nat.le_of_ble_eq_true rfl) (Nat.le_of_ble_eq_true rfl) (CL.mono h (fun r9 H4 h => ?_))
  obtain ⟨h_r0_4, h_r1_4, hSr1_0_4, y4, e9, h⟩ := h
  rw [e9]
  show AW l G mX2_costInLine (d + 1) 0 0 Q 44 [vR a0, vR a1, vI x2, vI y1] [vJ y4] 0 0 H4
  exact a_lret dX2_costInLine_44 rfl (Nat.le_of_ble_eq_true rfl) (Nat.le_of_ble_eq_true rfl) h


theorem dX2_countEqual_0 : decode cX2_countEqual 0 = .ok (.aload_n 0, 1) := by decide +kernel
theorem dX2_countEqual_1 : decode cX2_countEqual 1 = .ok (.aload_n 1, 1) := by decide +kernel
theorem dX2_countEqual_2 : decode cX2_countEqual 2 = .ok (.iload_n 2, 1) := by decide +kernel
theorem dX2_countEqual_3 : decode cX2_countEqual 3 = .ok (.invokevirtual 78, 3) := by decide +kernel
theorem dX2_countEqual_6 : decode cX2_countEqual 6 = .ok (.istore_n 3, 1) := by decide +kernel
theorem dX2_countEqual_7 : decode cX2_countEqual 7 = .ok (.aload_n 0, 1) := by decide +kernel
theorem dX2_countEqual_8 : decode cX2_countEqual 8 = .ok (.aload_n 1, 1) := by decide +kernel
theorem dX2_countEqual_9 : decode cX2_countEqual 9 = .ok (.iload_n 2, 1) := by decide +kernel
theorem dX2_countEqual_10 : decode cX2_countEqual 10 = .ok (.iload_n 3, 1) := by decide +kernel
theorem dX2_countEqual_11 : decode cX2_countEqual 11 = .ok (.invokevirtual 85, 3) := by decide +kernel
theorem dX2_countEqual_14 : decode cX2_countEqual 14 = .ok (.pop, 1) := by decide +kernel
theorem dX2_countEqual_15 : decode cX2_countEqual 15 = .ok (.aload_n 0, 1) := by decide +kernel
theorem dX2_countEqual_16 : decode cX2_countEqual 16 = .ok (.getfield 12, 3) := by decide +kernel
theorem dX2_countEqual_19 : decode cX2_countEqual 19 = .ok (.aload_n 1, 1) := by decide +kernel
theorem dX2_countEqual_20 : decode cX2_countEqual 20 = .ok (.aload_n 0, 1) := by decide +kernel
theorem dX2_countEqual_21 : decode cX2_countEqual 21 = .ok (.getfield 18, 3) := by decide +kernel
theorem dX2_countEqual_24 : decode cX2_countEqual 24 = .ok (.iload_n 3, 1) := by decide +kernel
theorem dX2_countEqual_25 : decode cX2_countEqual 25 = .ok (.aload_n 0, 1) := by decide +kernel
theorem dX2_countEqual_26 : decode cX2_countEqual 26 = .ok (.getfield 25, 3) := by decide +kernel
theorem dX2_countEqual_29 : decode cX2_countEqual 29 = .ok (.invokevirtual 89, 3) := by decide +kernel
theorem dX2_countEqual_32 : decode cX2_countEqual 32 = .ok (.aload_n 0, 1) := by decide +kernel
theorem dX2_countEqual_33 : decode cX2_countEqual 33 = .ok (.getfield 12, 3) := by decide +kernel
theorem dX2_countEqual_36 : decode cX2_countEqual 36 = .ok (.invokevirtual 93, 3) := by decide +kernel
theorem dX2_countEqual_39 : decode cX2_countEqual 39 = .ok (.aload_n 0, 1) := by decide +kernel
theorem dX2_countEqual_40 : decode cX2_countEqual 40 = .ok (.getfield 12, 3) := by decide +kernel
theorem dX2_countEqual_43 : decode cX2_countEqual 43 = .ok (.invokevirtual 142, 3) := by decide +kernel
theorem dX2_countEqual_46 : decode cX2_countEqual 46 = .ok (.ireturn, 1) := by decide +kernel
set_option maxRecDepth 20000 in
theorem s_X2_countEqual_0 {l : Launch} {G : GT} {d : Nat} {Q : AV → AH → Prop} {H : AH} {a0 a1 x2 : Int} {M : Row} (hS : SK H a1 M) (h_r0 : Lay LPla H a0) (hsep : a1 + 23 ≤ a0 ∨ a0 + 17 ≤ a1) (h : CL l G mX2_lineUp d 0 0 [vR a0, vR a1, vI x2] H (fun r9 H1 => Lay LPla H1 a0 ∧ Lay LSta H1 a1 ∧ SK H1 a1 M ∧ ∃ y1 : Int, r9 = vI y1 ∧ CL l G mX2_setBases d 0 0 [vR a0, vR a1, vI x2, vI y1] H1 (fun r9 H2 => Lay LPla H2 a0 ∧ Lay LSta H2 a1 ∧ SK H2 a1 M ∧ ∃ y2 : Int, r9 = vI y2 ∧ CL l G mX5_prepare d 0 0 [vR (a0 + 1), vR a1, vR (a0 + 12), vI y1, vR (a0 + 14)] H2 (fun r9 H3 => Lay LPla H3 a0 ∧ Lay LSta H3 a1 ∧ SK H3 a1 M ∧ r9 = vV ∧ CL l G mX5_findBest d 0 0 [vR (a0 + 1)] H3 (fun r9 H4 => Lay LPla H4 a0 ∧ Lay LSta H4 a1 ∧ SK H4 a1 M ∧ r9 = vV ∧ CL l G mX5_countAsGood d 0 0 [vR (a0 + 1)] H4 (fun r9 H5 => Lay LPla H5 a0 ∧ Lay LSta H5 a1 ∧ SK H5 a1 M ∧ ∃ y5 : Int, r9 = vI y5 ∧ Q (vI y5) H5)))))) : AW l G mX2_countEqual (d + 1) 0 0 Q 0 [vR a0, vR a1, vI x2, vU] [] 0 0 H := by
  refine a_aload_n dX2_countEqual_0 rfl rfl ?_
  refine a_aload_n dX2_countEqual_1 rfl rfl ?_
  refine a_iload_n dX2_countEqual_2 rfl rfl ?_
  refine a_callV dX2_countEqual_3 cw_X2_countEqual_3 (as := [vR a1, vI x2]) rfl rfl (kPla_0 h_r0) (Nat.le_refl _) (Nat.le_of_ble_eq_true rfl) (nocov rfl) (Nat.le_of_ble_eq_true rfl) (Nat.le_of_ble_eq_true rfl) (CL.mono h (fun r9 H1 h => ?_))
  obtain ⟨h_r0_1, h_r1_1, hSr1_0_1, y1, e9, h⟩ := h
  rw [e9]
  show AW l G mX2_countEqual (d + 1) 0 0 Q 6 [vR a0, vR a1, vI x2, vU] [vI y1] 0 0 H1
  refine a_istore_n dX2_countEqual_6 rfl (Nat.le_of_ble_eq_true rfl) (ls' := [vR a0, vR a1, vI x2, vI y1]) rfl ?_
  refine a_aload_n dX2_countEqual_7 rfl rfl ?_
  refine a_aload_n dX2_countEqual_8 rfl rfl ?_
  refine a_iload_n dX2_countEqual_9 rfl rfl ?_
  refine a_iload_n dX2_countEqual_10 rfl rfl ?_
  refine a_callV dX2_countEqual_11 cw_X2_countEqual_11 (as := [vR a1, vI x2, vI y1]) rfl rfl (kPla_0 h_r0_1) (Nat.le_refl _) (Nat.le_of_ble_eq_true rfl) (nocov rfl) (Nat.le_of_ble_eq_true rfl) (Nat.le_of_ble_eq_true rfl) (CL.mono h (fun r9 H2 h => ?_))
  obtain ⟨h_r0_2, h_r1_2, hSr1_0_2, y2, e9, h⟩ := h
  rw [e9]
  show AW l G mX2_countEqual (d + 1) 0 0 Q 14 [vR a0, vR a1, vI x2, vI y1] [vI y2] 0 0 H2
  refine a_pop dX2_countEqual_14 rfl ?_
  refine a_aload_n dX2_countEqual_15 rfl rfl ?_
  refine a_getR dX2_countEqual_16 fw_RX2_12 rfl rfl (kPla_0 h_r0_2) (rPla_0_0 h_r0_2) ?_
  refine a_aload_n dX2_countEqual_19 rfl rfl ?_
  refine a_aload_n dX2_countEqual_20 rfl rfl ?_
  refine a_getR dX2_countEqual_21 fw_RX2_18 rfl rfl (kPla_0 h_r0_2) (rPla_0_1 h_r0_2) ?_
  refine a_iload_n dX2_countEqual_24 rfl rfl ?_
  refine a_aload_n dX2_countEqual_25 rfl rfl ?_
  refine a_getR dX2_countEqual_26 fw_RX2_25 rfl rfl (kPla_0 h_r0_2) (rPla_0_3 h_r0_2) ?_
  refine a_callV dX2_countEqual_29 cw_X2_countEqual_29 (as := [vR a1, vR (a0 + 12), vI y1, vR (a0 + 14)]) rfl rfl (kPla_1 h_r0_2) (Nat.le_refl _) (Nat.le_of_ble_eq_true rfl) (nocov rfl) (Nat.le_of_ble_eq_true rfl) (Nat.le_of_ble_eq_true rfl) (CL.mono h (fun r9 H3 h => ?_))
  obtain ⟨h_r0_3, h_r1_3, hSr1_0_3, e9, h⟩ := h
  rw [e9]
  show AW l G mX2_countEqual (d + 1) 0 0 Q 32 [vR a0, vR a1, vI x2, vI y1] [] 0 0 H3
  refine a_aload_n dX2_countEqual_32 rfl rfl ?_
  refine a_getR dX2_countEqual_33 fw_RX2_12 rfl rfl (kPla_0 h_r0_3) (rPla_0_0 h_r0_3) ?_
  refine a_callV dX2_countEqual_36 cw_X2_countEqual_36 (as := []) rfl rfl (kPla_1 h_r0_3) (Nat.le_refl _) (Nat.le_of_ble_eq_true rfl) (nocov rfl) (Nat.le_of_ble_eq_true rfl) (Nat.le_of_ble_eq_true rfl) (CL.mono h (fun r9 H4 h => ?_))
  obtain ⟨h_r0_4, h_r1_4, hSr1_0_4, e9, h⟩ := h
  rw [e9]
  show AW l G mX2_countEqual (d + 1) 0 0 Q 39 [vR a0, vR a1, vI x2, vI y1] [] 0 0 H4
  refine a_aload_n dX2_countEqual_39 rfl rfl ?_
  refine a_getR dX2_countEqual_40 fw_RX2_12 rfl rfl (kPla_0 h_r0_4) (rPla_0_0 h_r0_4) ?_
  refine a_callV dX2_countEqual_43 cw_X2_countEqual_43 (as := []) rfl rfl (kPla_1 h_r0_4) (Nat.le_refl _) (Nat.le_of_ble_eq_true rfl) (nocov rfl) (Nat.le_of_ble_eq_true rfl) (Nat.le_of_ble_eq_true rfl) (CL.mono h (fun r9 H5 h => ?_))
  obtain ⟨h_r0_5, h_r1_5, hSr1_0_5, y5, e9, h⟩ := h
  rw [e9]
  show AW l G mX2_countEqual (d + 1) 0 0 Q 46 [vR a0, vR a1, vI x2, vI y1] [vI y5] 0 0 H5
  exact a_iret dX2_countEqual_46 rfl (Nat.le_of_ble_eq_true rfl) (Nat.le_of_ble_eq_true rfl) h


