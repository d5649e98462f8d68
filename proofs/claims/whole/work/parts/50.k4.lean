theorem dX6_forgetPlans_0 : decode cX6_forgetPlans 0 = .ok (.iconst 0, 1) := by decide +kernel
theorem dX6_forgetPlans_1 : decode cX6_forgetPlans 1 = .ok (.istore_n 1, 1) := by decide +kernel
theorem dX6_forgetPlans_2 : decode cX6_forgetPlans 2 = .ok (.iload_n 1, 1) := by decide +kernel
theorem dX6_forgetPlans_3 : decode cX6_forgetPlans 3 = .ok (.iconst 3, 1) := by decide +kernel
theorem dX6_forgetPlans_4 : decode cX6_forgetPlans 4 = .ok (.if_icmp .ge 23, 3) := by decide +kernel
theorem dX6_forgetPlans_7 : decode cX6_forgetPlans 7 = .ok (.aload_n 0, 1) := by decide +kernel
theorem dX6_forgetPlans_8 : decode cX6_forgetPlans 8 = .ok (.getfield 44, 3) := by decide +kernel
theorem dX6_forgetPlans_11 : decode cX6_forgetPlans 11 = .ok (.iload_n 1, 1) := by decide +kernel
theorem dX6_forgetPlans_12 : decode cX6_forgetPlans 12 = .ok (.iconst 0, 1) := by decide +kernel
theorem dX6_forgetPlans_13 : decode cX6_forgetPlans 13 = .ok (.iastore, 1) := by decide +kernel
theorem dX6_forgetPlans_14 : decode cX6_forgetPlans 14 = .ok (.aload_n 0, 1) := by decide +kernel
theorem dX6_forgetPlans_15 : decode cX6_forgetPlans 15 = .ok (.getfield 47, 3) := by decide +kernel
theorem dX6_forgetPlans_18 : decode cX6_forgetPlans 18 = .ok (.iload_n 1, 1) := by decide +kernel
theorem dX6_forgetPlans_19 : decode cX6_forgetPlans 19 = .ok (.iconst 0, 1) := by decide +kernel
theorem dX6_forgetPlans_20 : decode cX6_forgetPlans 20 = .ok (.bastore, 1) := by decide +kernel
theorem dX6_forgetPlans_21 : decode cX6_forgetPlans 21 = .ok (.iinc 1 1, 3) := by decide +kernel
theorem dX6_forgetPlans_24 : decode cX6_forgetPlans 24 = .ok (.goto (-22), 3) := by decide +kernel
theorem dX6_forgetPlans_27 : decode cX6_forgetPlans 27 = .ok (.return_, 1) := by decide +kernel
set_option maxRecDepth 20000 in
theorem s_X6_forgetPlans_0 {l : Launch} {G : GT} {d : Nat} {Q : AV → AH → Prop} {H : AH} {a0 : Int} {M : Row} (hS : SK H a0 M) (h : AW l G mX6_forgetPlans d 0 0 Q 2 [vR a0, vI 0] [] 0 0 H) : AW l G mX6_forgetPlans d 0 0 Q 0 [vR a0, vU] [] 0 0 H := by
  refine a_iconst dX6_forgetPlans_0 ⟨by decide, by decide⟩ ?_
  refine a_istore_n dX6_forgetPlans_1 rfl (Nat.le_of_ble_eq_true rfl) (ls' := [vR a0, vI 0]) rfl ?_
  exact h

set_option maxRecDepth 20000 in
theorem s_X6_forgetPlans_2 {l : Launch} {G : GT} {d : Nat} {Q : AV → AH → Prop} {H : AH} {a0 x1 : Int} {M : Row} (hS : SK H a0 M) (h : (3 ≤ x1 → Q vV H) ∧ (x1 < 3 → (0 ≤ x1 ∧ x1 < 3) ∧ ∀ H1 : AH, H1 = hs H (a0 + 20) x1 0 → ∀ H2 : AH, H2 = hs H1 (a0 + 21) x1 0 → (-2147483648 ≤ x1 + 1 ∧ x1 + 1 ≤ 2147483647) ∧ AW l G mX6_forgetPlans d 0 0 Q 2 [vR a0, vI (x1 + 1)] [] 0 0 H2)) : AW l G mX6_forgetPlans d 0 0 Q 2 [vR a0, vI x1] [] 0 0 H := by
  refine a_iload_n dX6_forgetPlans_2 rfl rfl ?_
  refine a_iconst dX6_forgetPlans_3 ⟨by decide, by decide⟩ ?_
  refine a_icmp_ge dX6_forgetPlans_4 (tgt := 27) rfl (fun c4 => ?_) (fun c4 => ?_)
  · replace h := h.1 c4
    exact a_vret dX6_forgetPlans_27 rfl (Nat.le_of_ble_eq_true rfl) (Nat.le_of_ble_eq_true rfl) h
  · replace h := h.2 c4
    refine a_aload_n dX6_forgetPlans_7 rfl rfl ?_
    refine a_getR dX6_forgetPlans_8 fw_RX6_44 rfl rfl (kSta_0 hS.1) (rSta_0_10 hS.1) ?_
    refine a_iload_n dX6_forgetPlans_11 rfl rfl ?_
    refine a_iconst dX6_forgetPlans_12 ⟨by decide, by decide⟩ ?_
    obtain ⟨q13_0, h⟩ := h
    refine b_iast dX6_forgetPlans_13 (kSta_20 hS.1) (nSta_20 hS.1) q13_0 ?_
    have h_r0_1 := Lay.wr hS.1 ok_Sta (nrf_arr (kSta_20 hS.1) (by decide) (by decide)) (i := x1) (x := 0)
    generalize e_H1 : hs H (a0 + 20) x1 0 = H1 at h_r0_1 ⊢
    replace h := h H1 e_H1.symm
    have hSr0_0_1 : SK H1 a0 M := by rw [← e_H1]; exact SK.wr hS (nrf_arr (kSta_20 hS.1) (by decide) (by decide)) (by omega)
    refine a_aload_n dX6_forgetPlans_14 rfl rfl ?_
    refine a_getR dX6_forgetPlans_15 fw_RX6_47 rfl rfl (kSta_0 h_r0_1) (rSta_0_11 h_r0_1) ?_
    refine a_iload_n dX6_forgetPlans_18 rfl rfl ?_
    refine a_iconst dX6_forgetPlans_19 ⟨by decide, by decide⟩ ?_
    refine b_zast dX6_forgetPlans_20 (kSta_21 h_r0_1) (nSta_21 h_r0_1) q13_0 (by decide) ?_
    have h_r0_2 := Lay.wr h_r0_1 ok_Sta (nrf_arr (kSta_21 h_r0_1) (by decide) (by decide)) (i := x1) (x := 0)
    generalize e_H2 : hs H1 (a0 + 21) x1 0 = H2 at h_r0_2 ⊢
    replace h := h H2 e_H2.symm
    have hSr0_0_2 : SK H2 a0 M := by rw [← e_H2]; exact SK.wr hSr0_0_1 (nrf_arr (kSta_21 h_r0_1) (by decide) (by decide)) (by omega)
    obtain ⟨q21_0, h⟩ := h
    refine a_iinc dX6_forgetPlans_21 rfl (Nat.le_of_ble_eq_true rfl) (by decide) q21_0 (ls' := [vR a0, vI (x1 + 1)]) rfl ?_
    refine a_goto dX6_forgetPlans_24 (tgt := 2) rfl ?_
    exact h


theorem dX6_moveTo_0 : decode cX6_moveTo 0 = .ok (.aload_n 0, 1) := by decide +kernel
theorem dX6_moveTo_1 : decode cX6_moveTo 1 = .ok (.getfield 47, 3) := by decide +kernel
theorem dX6_moveTo_4 : decode cX6_moveTo 4 = .ok (.aload_n 0, 1) := by decide +kernel
theorem dX6_moveTo_5 : decode cX6_moveTo 5 = .ok (.getfield 25, 3) := by decide +kernel
theorem dX6_moveTo_8 : decode cX6_moveTo 8 = .ok (.iload_n 1, 1) := by decide +kernel
theorem dX6_moveTo_9 : decode cX6_moveTo 9 = .ok (.iaload, 1) := by decide +kernel
theorem dX6_moveTo_10 : decode cX6_moveTo 10 = .ok (.iconst 0, 1) := by decide +kernel
theorem dX6_moveTo_11 : decode cX6_moveTo 11 = .ok (.bastore, 1) := by decide +kernel
theorem dX6_moveTo_12 : decode cX6_moveTo 12 = .ok (.aload_n 0, 1) := by decide +kernel
theorem dX6_moveTo_13 : decode cX6_moveTo 13 = .ok (.getfield 47, 3) := by decide +kernel
theorem dX6_moveTo_16 : decode cX6_moveTo 16 = .ok (.iload_n 2, 1) := by decide +kernel
theorem dX6_moveTo_17 : decode cX6_moveTo 17 = .ok (.iconst 0, 1) := by decide +kernel
theorem dX6_moveTo_18 : decode cX6_moveTo 18 = .ok (.bastore, 1) := by decide +kernel
theorem dX6_moveTo_19 : decode cX6_moveTo 19 = .ok (.aload_n 0, 1) := by decide +kernel
theorem dX6_moveTo_20 : decode cX6_moveTo 20 = .ok (.getfield 25, 3) := by decide +kernel
theorem dX6_moveTo_23 : decode cX6_moveTo 23 = .ok (.iload_n 1, 1) := by decide +kernel
theorem dX6_moveTo_24 : decode cX6_moveTo 24 = .ok (.iload_n 2, 1) := by decide +kernel
theorem dX6_moveTo_25 : decode cX6_moveTo 25 = .ok (.iastore, 1) := by decide +kernel
theorem dX6_moveTo_26 : decode cX6_moveTo 26 = .ok (.return_, 1) := by decide +kernel
set_option maxRecDepth 20000 in
theorem s_X6_moveTo_0 {l : Launch} {G : GT} {d : Nat} {Q : AV → AH → Prop} {H : AH} {a0 x1 x2 : Int} {M : Row} (hS : SK H a0 M) (h : (0 ≤ x1 ∧ x1 < M 6) ∧ (0 ≤ (ofM M x1 6) ∧ (ofM M x1 6) < 3) ∧ ∀ H1 : AH, H1 = hs H (a0 + 21) (ofM M x1 6) 0 → (0 ≤ x2 ∧ x2 < 3) ∧ ∀ H2 : AH, H2 = hs H1 (a0 + 21) x2 0 → (0 ≤ x1 ∧ x1 < 24) ∧ ∀ H3 : AH, H3 = hs H2 (a0 + 14) x1 x2 → Q vV H3) : AW l G mX6_moveTo d 0 0 Q 0 [vR a0, vI x1, vI x2] [] 0 0 H := by
  refine a_aload_n dX6_moveTo_0 rfl rfl ?_
  refine a_getR dX6_moveTo_1 fw_RX6_47 rfl rfl (kSta_0 hS.1) (rSta_0_11 hS.1) ?_
  refine a_aload_n dX6_moveTo_4 rfl rfl ?_
  refine a_getR dX6_moveTo_5 fw_RX6_25 rfl rfl (kSta_0 hS.1) (rSta_0_3 hS.1) ?_
  refine a_iload_n dX6_moveTo_8 rfl rfl ?_
  obtain ⟨q9_0, h⟩ := h
  refine b_ialdV dX6_moveTo_9 (kSta_14 hS.1) (nSta_14 hS.1) (sk_lt hS q9_0) (sk_14 hS q9_0) ?_
  refine a_iconst dX6_moveTo_10 ⟨by decide, by decide⟩ ?_
  obtain ⟨q11_0, h⟩ := h
  refine b_zast dX6_moveTo_11 (kSta_21 hS.1) (nSta_21 hS.1) q11_0 (by decide) ?_
  have h_r0_1 := Lay.wr hS.1 ok_Sta (nrf_arr (kSta_21 hS.1) (by decide) (by decide)) (i := (ofM M x1 6)) (x := 0)
  generalize e_H1 : hs H (a0 + 21) (ofM M x1 6) 0 = H1 at h_r0_1 ⊢
  replace h := h H1 e_H1.symm
  have hSr0_0_1 : SK H1 a0 M := by rw [← e_H1]; exact SK.wr hS (nrf_arr (kSta_21 hS.1) (by decide) (by decide)) (by omega)
  refine a_aload_n dX6_moveTo_12 rfl rfl ?_
  refine a_getR dX6_moveTo_13 fw_RX6_47 rfl rfl (kSta_0 h_r0_1) (rSta_0_11 h_r0_1) ?_
  refine a_iload_n dX6_moveTo_16 rfl rfl ?_
  refine a_iconst dX6_moveTo_17 ⟨by decide, by decide⟩ ?_
  obtain ⟨q18_0, h⟩ := h
  refine b_zast dX6_moveTo_18 (kSta_21 h_r0_1) (nSta_21 h_r0_1) q18_0 (by decide) ?_
  have h_r0_2 := Lay.wr h_r0_1 ok_Sta (nrf_arr (kSta_21 h_r0_1) (by decide) (by decide)) (i := x2) (x := 0)
  generalize e_H2 : hs H1 (a0 + 21) x2 0 = H2 at h_r0_2 ⊢
  replace h := h H2 e_H2.symm
  have hSr0_0_2 : SK H2 a0 M := by rw [← e_H2]; exact SK.wr hSr0_0_1 (nrf_arr (kSta_21 h_r0_1) (by decide) (by decide)) (by omega)
  refine a_aload_n dX6_moveTo_19 rfl rfl ?_
  refine a_getR dX6_moveTo_20 fw_RX6_25 rfl rfl (kSta_0 h_r0_2) (rSta_0_3 h_r0_2) ?_
  refine a_iload_n dX6_moveTo_23 rfl rfl ?_
  refine a_iload_n dX6_moveTo_24 rfl rfl ?_
  obtain ⟨q25_0, h⟩ := h
  refine b_iast dX6_moveTo_25 (kSta_14 h_r0_2) (nSta_14 h_r0_2) q25_0 ?_
  have h_r0_3 := Lay.wr h_r0_2 ok_Sta (nrf_arr (kSta_14 h_r0_2) (by decide) (by decide)) (i := x1) (x := x2)
  generalize e_H3 : hs H2 (a0 + 14) x1 x2 = H3 at h_r0_3 ⊢
  replace h := h H3 e_H3.symm
  exact a_vret dX6_moveTo_26 rfl (Nat.le_of_ble_eq_true rfl) (Nat.le_of_ble_eq_true rfl) h


theorem dX6_turn_0 : decode cX6_turn 0 = .ok (.aload_n 0, 1) := by decide +kernel
theorem dX6_turn_1 : decode cX6_turn 1 = .ok (.getfield 61, 3) := by decide +kernel
theorem dX6_turn_4 : decode cX6_turn 4 = .ok (.aload_n 0, 1) := by decide +kernel
theorem dX6_turn_5 : decode cX6_turn 5 = .ok (.getfield 12, 3) := by decide +kernel
theorem dX6_turn_8 : decode cX6_turn 8 = .ok (.getfield 130, 3) := by decide +kernel
theorem dX6_turn_11 : decode cX6_turn 11 = .ok (.iadd, 1) := by decide +kernel
theorem dX6_turn_12 : decode cX6_turn 12 = .ok (.istore_n 2, 1) := by decide +kernel
theorem dX6_turn_13 : decode cX6_turn 13 = .ok (.aload_n 0, 1) := by decide +kernel
theorem dX6_turn_14 : decode cX6_turn 14 = .ok (.getfield 21, 3) := by decide +kernel
theorem dX6_turn_17 : decode cX6_turn 17 = .ok (.getfield 127, 3) := by decide +kernel
theorem dX6_turn_20 : decode cX6_turn 20 = .ok (.iload_n 1, 1) := by decide +kernel
theorem dX6_turn_21 : decode cX6_turn 21 = .ok (.iload_n 2, 1) := by decide +kernel
theorem dX6_turn_22 : decode cX6_turn 22 = .ok (.iastore, 1) := by decide +kernel
theorem dX6_turn_23 : decode cX6_turn 23 = .ok (.aload_n 0, 1) := by decide +kernel
theorem dX6_turn_24 : decode cX6_turn 24 = .ok (.getfield 21, 3) := by decide +kernel
theorem dX6_turn_27 : decode cX6_turn 27 = .ok (.getfield 109, 3) := by decide +kernel
theorem dX6_turn_30 : decode cX6_turn 30 = .ok (.iload_n 1, 1) := by decide +kernel
theorem dX6_turn_31 : decode cX6_turn 31 = .ok (.iaload, 1) := by decide +kernel
theorem dX6_turn_32 : decode cX6_turn 32 = .ok (.iload_n 2, 1) := by decide +kernel
theorem dX6_turn_33 : decode cX6_turn 33 = .ok (.if_icmp .ge 13, 3) := by decide +kernel
theorem dX6_turn_36 : decode cX6_turn 36 = .ok (.aload_n 0, 1) := by decide +kernel
theorem dX6_turn_37 : decode cX6_turn 37 = .ok (.getfield 21, 3) := by decide +kernel
theorem dX6_turn_40 : decode cX6_turn 40 = .ok (.getfield 109, 3) := by decide +kernel
theorem dX6_turn_43 : decode cX6_turn 43 = .ok (.iload_n 1, 1) := by decide +kernel
theorem dX6_turn_44 : decode cX6_turn 44 = .ok (.iload_n 2, 1) := by decide +kernel
theorem dX6_turn_45 : decode cX6_turn 45 = .ok (.iastore, 1) := by decide +kernel
theorem dX6_turn_46 : decode cX6_turn 46 = .ok (.aload_n 0, 1) := by decide +kernel
theorem dX6_turn_47 : decode cX6_turn 47 = .ok (.getfield 21, 3) := by decide +kernel
theorem dX6_turn_50 : decode cX6_turn 50 = .ok (.getfield 118, 3) := by decide +kernel
theorem dX6_turn_53 : decode cX6_turn 53 = .ok (.iload_n 1, 1) := by decide +kernel
theorem dX6_turn_54 : decode cX6_turn 54 = .ok (.iaload, 1) := by decide +kernel
theorem dX6_turn_55 : decode cX6_turn 55 = .ok (.aload_n 0, 1) := by decide +kernel
theorem dX6_turn_56 : decode cX6_turn 56 = .ok (.getfield 21, 3) := by decide +kernel
theorem dX6_turn_59 : decode cX6_turn 59 = .ok (.getfield 109, 3) := by decide +kernel
theorem dX6_turn_62 : decode cX6_turn 62 = .ok (.iload_n 1, 1) := by decide +kernel
theorem dX6_turn_63 : decode cX6_turn 63 = .ok (.iaload, 1) := by decide +kernel
theorem dX6_turn_64 : decode cX6_turn 64 = .ok (.if_icmp .ge 21, 3) := by decide +kernel
theorem dX6_turn_67 : decode cX6_turn 67 = .ok (.aload_n 0, 1) := by decide +kernel
theorem dX6_turn_68 : decode cX6_turn 68 = .ok (.getfield 21, 3) := by decide +kernel
theorem dX6_turn_71 : decode cX6_turn 71 = .ok (.getfield 118, 3) := by decide +kernel
theorem dX6_turn_74 : decode cX6_turn 74 = .ok (.iload_n 1, 1) := by decide +kernel
theorem dX6_turn_75 : decode cX6_turn 75 = .ok (.aload_n 0, 1) := by decide +kernel
theorem dX6_turn_76 : decode cX6_turn 76 = .ok (.getfield 21, 3) := by decide +kernel
theorem dX6_turn_79 : decode cX6_turn 79 = .ok (.getfield 109, 3) := by decide +kernel
theorem dX6_turn_82 : decode cX6_turn 82 = .ok (.iload_n 1, 1) := by decide +kernel
theorem dX6_turn_83 : decode cX6_turn 83 = .ok (.iaload, 1) := by decide +kernel
theorem dX6_turn_84 : decode cX6_turn 84 = .ok (.iastore, 1) := by decide +kernel
theorem dX6_turn_85 : decode cX6_turn 85 = .ok (.aload_n 0, 1) := by decide +kernel
theorem dX6_turn_86 : decode cX6_turn 86 = .ok (.getfield 29, 3) := by decide +kernel
theorem dX6_turn_89 : decode cX6_turn 89 = .ok (.iload_n 1, 1) := by decide +kernel
theorem dX6_turn_90 : decode cX6_turn 90 = .ok (.iconst 0, 1) := by decide +kernel
theorem dX6_turn_91 : decode cX6_turn 91 = .ok (.iastore, 1) := by decide +kernel
theorem dX6_turn_92 : decode cX6_turn 92 = .ok (.aload_n 0, 1) := by decide +kernel
theorem dX6_turn_93 : decode cX6_turn 93 = .ok (.getfield 35, 3) := by decide +kernel
theorem dX6_turn_96 : decode cX6_turn 96 = .ok (.iload_n 1, 1) := by decide +kernel
theorem dX6_turn_97 : decode cX6_turn 97 = .ok (.dup2, 1) := by decide +kernel
theorem dX6_turn_98 : decode cX6_turn 98 = .ok (.iaload, 1) := by decide +kernel
theorem dX6_turn_99 : decode cX6_turn 99 = .ok (.iconst 1, 1) := by decide +kernel
theorem dX6_turn_100 : decode cX6_turn 100 = .ok (.iadd, 1) := by decide +kernel
theorem dX6_turn_101 : decode cX6_turn 101 = .ok (.iastore, 1) := by decide +kernel
theorem dX6_turn_102 : decode cX6_turn 102 = .ok (.aload_n 0, 1) := by decide +kernel
theorem dX6_turn_103 : decode cX6_turn 103 = .ok (.getfield 47, 3) := by decide +kernel
theorem dX6_turn_106 : decode cX6_turn 106 = .ok (.aload_n 0, 1) := by decide +kernel
theorem dX6_turn_107 : decode cX6_turn 107 = .ok (.getfield 25, 3) := by decide +kernel
theorem dX6_turn_110 : decode cX6_turn 110 = .ok (.iload_n 1, 1) := by decide +kernel
theorem dX6_turn_111 : decode cX6_turn 111 = .ok (.iaload, 1) := by decide +kernel
theorem dX6_turn_112 : decode cX6_turn 112 = .ok (.iconst 0, 1) := by decide +kernel
theorem dX6_turn_113 : decode cX6_turn 113 = .ok (.bastore, 1) := by decide +kernel
theorem dX6_turn_114 : decode cX6_turn 114 = .ok (.return_, 1) := by decide +kernel
set_option maxRecDepth 20000 in
theorem s_X6_turn_0 {l : Launch} {G : GT} {d : Nat} {Q : AV → AH → Prop} {H : AH} {a0 x1 : Int} {M : Row} (hS : SK H a0 M) (h : (-2147483648 ≤ (M 0) + (M 3) ∧ (M 0) + (M 3) ≤ 2147483647) ∧ (0 ≤ x1 ∧ x1 < 24) ∧ ∀ H1 : AH, H1 = hs H (a0 + 10) x1 ((M 0) + (M 3)) → (((M 0) + (M 3)) ≤ (hg H1 (a0 + 11) x1) → ((hg H1 (a0 + 11) x1) ≤ (hg H1 (a0 + 12) x1) → ∀ H2 : AH, H2 = hs H1 (a0 + 15) x1 0 → (-2147483648 ≤ (hg H2 (a0 + 17) x1) + 1 ∧ (hg H2 (a0 + 17) x1) + 1 ≤ 2147483647) ∧ ∀ H3 : AH, H3 = hs H2 (a0 + 17) x1 ((hg H2 (a0 + 17) x1) + 1) → (0 ≤ (hg H3 (a0 + 14) x1) ∧ (hg H3 (a0 + 14) x1) < 3) ∧ ∀ H4 : AH, H4 = hs H3 (a0 + 21) (hg H3 (a0 + 14) x1) 0 → Q vV H4) ∧ ((hg H1 (a0 + 12) x1) < (hg H1 (a0 + 11) x1) → ∀ H2 : AH, H2 = hs H1 (a0 + 12) x1 (hg H1 (a0 + 11) x1) → ∀ H3 : AH, H3 = hs H2 (a0 + 15) x1 0 → (-2147483648 ≤ (hg H3 (a0 + 17) x1) + 1 ∧ (hg H3 (a0 + 17) x1) + 1 ≤ 2147483647) ∧ ∀ H4 : AH, H4 = hs H3 (a0 + 17) x1 ((hg H3 (a0 + 17) x1) + 1) → (0 ≤ (hg H4 (a0 + 14) x1) ∧ (hg H4 (a0 + 14) x1) < 3) ∧ ∀ H5 : AH, H5 = hs H4 (a0 + 21) (hg H4 (a0 + 14) x1) 0 → Q vV H5)) ∧ ((hg H1 (a0 + 11) x1) < ((M 0) + (M 3)) → ∀ H2 : AH, H2 = hs H1 (a0 + 11) x1 ((M 0) + (M 3)) → ((hg H2 (a0 + 11) x1) ≤ (hg H2 (a0 + 12) x1) → ∀ H3 : AH, H3 = hs H2 (a0 + 15) x1 0 → (-2147483648 ≤ (hg H3 (a0 + 17) x1) + 1 ∧ (hg H3 (a0 + 17) x1) + 1 ≤ 2147483647) ∧ ∀ H4 : AH, H4 = hs H3 (a0 + 17) x1 ((hg H3 (a0 + 17) x1) + 1) → (0 ≤ (hg H4 (a0 + 14) x1) ∧ (hg H4 (a0 + 14) x1) < 3) ∧ ∀ H5 : AH, H5 = hs H4 (a0 + 21) (hg H4 (a0 + 14) x1) 0 → Q vV H5) ∧ ((hg H2 (a0 + 12) x1) < (hg H2 (a0 + 11) x1) → ∀ H3 : AH, H3 = hs H2 (a0 + 12) x1 (hg H2 (a0 + 11) x1) → ∀ H4 : AH, H4 = hs H3 (a0 + 15) x1 0 → (-2147483648 ≤ (hg H4 (a0 + 17) x1) + 1 ∧ (hg H4 (a0 + 17) x1) + 1 ≤ 2147483647) ∧ ∀ H5 : AH, H5 = hs H4 (a0 + 17) x1 ((hg H4 (a0 + 17) x1) + 1) → (0 ≤ (hg H5 (a0 + 14) x1) ∧ (hg H5 (a0 + 14) x1) < 3) ∧ ∀ H6 : AH, H6 = hs H5 (a0 + 21) (hg H5 (a0 + 14) x1) 0 → Q vV H6))) : AW l G mX6_turn d 0 0 Q 0 [vR a0, vI x1, vU] [] 0 0 H := by
  refine a_aload_n dX6_turn_0 rfl rfl ?_
  refine a_getIV dX6_turn_1 fw_RX6_61 rfl rfl (kSta_0 hS.1) (sk_0_2 hS) ?_
  refine a_aload_n dX6_turn_4 rfl rfl ?_
  refine a_getR dX6_turn_5 fw_RX6_12 rfl rfl (kSta_0 hS.1) (rSta_0_0 hS.1) ?_
  refine a_getIV dX6_turn_8 fw_RX6_130 rfl rfl (kSta_1 hS.1) (sk_1_4 hS) ?_
  obtain ⟨q11_0, h⟩ := h
  refine a_iadd dX6_turn_11 q11_0 ?_
  refine a_istore_n dX6_turn_12 rfl (Nat.le_of_ble_eq_true rfl) (ls' := [vR a0, vI x1, vI ((M 0) + (M 3))]) rfl ?_
  refine a_aload_n dX6_turn_13 rfl rfl ?_
  refine a_getR dX6_turn_14 fw_RX6_21 rfl rfl (kSta_0 hS.1) (rSta_0_1 hS.1) ?_
  refine a_getR dX6_turn_17 fw_RX6_127 rfl rfl (kSta_5 hS.1) (rSta_5_5 hS.1) ?_
  refine a_iload_n dX6_turn_20 rfl rfl ?_
  refine a_iload_n dX6_turn_21 rfl rfl ?_
  obtain ⟨q22_0, h⟩ := h
  refine b_iast dX6_turn_22 (kSta_10 hS.1) (nSta_10 hS.1) q22_0 ?_
  have h_r0_1 := Lay.wr hS.1 ok_Sta (nrf_arr (kSta_10 hS.1) (by decide) (by decide)) (i := x1) (x := ((M 0) + (M 3)))
  generalize e_H1 : hs H (a0 + 10) x1 ((M 0) + (M 3)) = H1 at h_r0_1 ⊢
  replace h := h H1 e_H1.symm
  refine a_aload_n dX6_turn_23 rfl rfl ?_
  refine a_getR dX6_turn_24 fw_RX6_21 rfl rfl (kSta_0 h_r0_1) (rSta_0_1 h_r0_1) ?_
  refine a_getR dX6_turn_27 fw_RX6_109 rfl rfl (kSta_5 h_r0_1) (rSta_5_6 h_r0_1) ?_
  refine a_iload_n dX6_turn_30 rfl rfl ?_
  refine b_iald dX6_turn_31 (kSta_11 h_r0_1) (nSta_11 h_r0_1) q22_0 ?_
  refine a_iload_n dX6_turn_32 rfl rfl ?_
  refine a_icmp_ge dX6_turn_33 (tgt := 46) rfl (fun c33 => ?_) (fun c33 => ?_)
  · replace h := h.1 c33
    refine a_aload_n dX6_turn_46 rfl rfl ?_
    refine a_getR dX6_turn_47 fw_RX6_21 rfl rfl (kSta_0 h_r0_1) (rSta_0_1 h_r0_1) ?_
    refine a_getR dX6_turn_50 fw_RX6_118 rfl rfl (kSta_5 h_r0_1) (rSta_5_7 h_r0_1) ?_
    refine a_iload_n dX6_turn_53 rfl rfl ?_
    refine b_iald dX6_turn_54 (kSta_12 h_r0_1) (nSta_12 h_r0_1) q22_0 ?_
    refine a_aload_n dX6_turn_55 rfl rfl ?_
    refine a_getR dX6_turn_56 fw_RX6_21 rfl rfl (kSta_0 h_r0_1) (rSta_0_1 h_r0_1) ?_
    refine a_getR dX6_turn_59 fw_RX6_109 rfl rfl (kSta_5 h_r0_1) (rSta_5_6 h_r0_1) ?_
    refine a_iload_n dX6_turn_62 rfl rfl ?_
    refine b_iald dX6_turn_63 (kSta_11 h_r0_1) (nSta_11 h_r0_1) q22_0 ?_
    refine a_icmp_ge dX6_turn_64 (tgt := 85) rfl (fun c64 => ?_) (fun c64 => ?_)
    · replace h := h.1 c64
      refine a_aload_n dX6_turn_85 rfl rfl ?_
      refine a_getR dX6_turn_86 fw_RX6_29 rfl rfl (kSta_0 h_r0_1) (rSta_0_4 h_r0_1) ?_
      refine a_iload_n dX6_turn_89 rfl rfl ?_
      refine a_iconst dX6_turn_90 ⟨by decide, by decide⟩ ?_
      refine b_iast dX6_turn_91 (kSta_15 h_r0_1) (nSta_15 h_r0_1) q22_0 ?_
      have h_r0_2 := Lay.wr h_r0_1 ok_Sta (nrf_arr (kSta_15 h_r0_1) (by decide) (by decide)) (i := x1) (x := 0)
      generalize e_H2 : hs H1 (a0 + 15) x1 0 = H2 at h_r0_2 ⊢
      replace h := h H2 e_H2.symm
      refine a_aload_n dX6_turn_92 rfl rfl ?_
      refine a_getR dX6_turn_93 fw_RX6_35 rfl rfl (kSta_0 h_r0_2) (rSta_0_6 h_r0_2) ?_
      refine a_iload_n dX6_turn_96 rfl rfl ?_
      refine a_dup2 dX6_turn_97 rfl rfl ?_
      refine b_iald dX6_turn_98 (kSta_17 h_r0_2) (nSta_17 h_r0_2) q22_0 ?_
      refine a_iconst dX6_turn_99 ⟨by decide, by decide⟩ ?_
      obtain ⟨q100_0, h⟩ := h
      refine a_iadd dX6_turn_100 q100_0 ?_
      refine b_iast dX6_turn_101 (kSta_17 h_r0_2) (nSta_17 h_r0_2) q22_0 ?_
      have h_r0_3 := Lay.wr h_r0_2 ok_Sta (nrf_arr (kSta_17 h_r0_2) (by decide) (by decide)) (i := x1) (x := ((hg H2 (a0 + 17) x1) + 1))
      generalize e_H3 : hs H2 (a0 + 17) x1 ((hg H2 (a0 + 17) x1) + 1) = H3 at h_r0_3 ⊢
      replace h := h H3 e_H3.symm
      refine a_aload_n dX6_turn_102 rfl rfl ?_
      refine a_getR dX6_turn_103 fw_RX6_47 rfl rfl (kSta_0 h_r0_3) (rSta_0_11 h_r0_3) ?_
      refine a_aload_n dX6_turn_106 rfl rfl ?_
      refine a_getR dX6_turn_107 fw_RX6_25 rfl rfl (kSta_0 h_r0_3) (rSta_0_3 h_r0_3) ?_
      refine a_iload_n dX6_turn_110 rfl rfl ?_
      refine b_iald dX6_turn_111 (kSta_14 h_r0_3) (nSta_14 h_r0_3) q22_0 ?_
      refine a_iconst dX6_turn_112 ⟨by decide, by decide⟩ ?_
      obtain ⟨q113_0, h⟩ := h
      refine b_zast dX6_turn_113 (kSta_21 h_r0_3) (nSta_21 h_r0_3) q113_0 (by decide) ?_
      have h_r0_4 := Lay.wr h_r0_3 ok_Sta (nrf_arr (kSta_21 h_r0_3) (by decide) (by decide)) (i := (hg H3 (a0 + 14) x1)) (x := 0)
      generalize e_H4 : hs H3 (a0 + 21) (hg H3 (a0 + 14) x1) 0 = H4 at h_r0_4 ⊢
      replace h := h H4 e_H4.symm
      exact a_vret dX6_turn_114 rfl (Nat.le_of_ble_eq_true rfl) (Nat.le_of_ble_eq_true rfl) h
    · replace h := h.2 c64
      refine a_aload_n dX6_turn_67 rfl rfl ?_
      refine a_getR dX6_turn_68 fw_RX6_21 rfl rfl (kSta_0 h_r0_1) (rSta_0_1 h_r0_1) ?_
      refine a_getR dX6_turn_71 fw_RX6_118 rfl rfl (kSta_5 h_r0_1) (rSta_5_7 h_r0_1) ?_
      refine a_iload_n dX6_turn_74 rfl rfl ?_
      refine a_aload_n dX6_turn_75 rfl rfl ?_
      refine a_getR dX6_turn_76 fw_RX6_21 rfl rfl (kSta_0 h_r0_1) (rSta_0_1 h_r0_1) ?_
      refine a_getR dX6_turn_79 fw_RX6_109 rfl rfl (kSta_5 h_r0_1) (rSta_5_6 h_r0_1) ?_
      refine a_iload_n dX6_turn_82 rfl rfl ?_
      refine b_iald dX6_turn_83 (kSta_11 h_r0_1) (nSta_11 h_r0_1) q22_0 ?_
      refine b_iast dX6_turn_84 (kSta_12 h_r0_1) (nSta_12 h_r0_1) q22_0 ?_
      have h_r0_2 := Lay.wr h_r0_1 ok_Sta (nrf_arr (kSta_12 h_r0_1) (by decide) (by decide)) (i := x1) (x := (hg H1 (a0 + 11) x1))
      generalize e_H2 : hs H1 (a0 + 12) x1 (hg H1 (a0 + 11) x1) = H2 at h_r0_2 ⊢
      replace h := h H2 e_H2.symm
      refine a_aload_n dX6_turn_85 rfl rfl ?_
      refine a_getR dX6_turn_86 fw_RX6_29 rfl rfl (kSta_0 h_r0_2) (rSta_0_4 h_r0_2) ?_
      refine a_iload_n dX6_turn_89 rfl rfl ?_
      refine a_iconst dX6_turn_90 ⟨by decide, by decide⟩ ?_
      refine b_iast dX6_turn_91 (kSta_15 h_r0_2) (nSta_15 h_r0_2) q22_0 ?_
      have h_r0_3 := Lay.wr h_r0_2 ok_Sta (nrf_arr (kSta_15 h_r0_2) (by decide) (by decide)) (i := x1) (x := 0)
      generalize e_H3 : hs H2 (a0 + 15) x1 0 = H3 at h_r0_3 ⊢
      replace h := h H3 e_H3.symm
      refine a_aload_n dX6_turn_92 rfl rfl ?_
      refine a_getR dX6_turn_93 fw_RX6_35 rfl rfl (kSta_0 h_r0_3) (rSta_0_6 h_r0_3) ?_
      refine a_iload_n dX6_turn_96 rfl rfl ?_
      refine a_dup2 dX6_turn_97 rfl rfl ?_
      refine b_iald dX6_turn_98 (kSta_17 h_r0_3) (nSta_17 h_r0_3) q22_0 ?_
      refine a_iconst dX6_turn_99 ⟨by decide, by decide⟩ ?_
      obtain ⟨q100_0, h⟩ := h
      refine a_iadd dX6_turn_100 q100_0 ?_
      refine b_iast dX6_turn_101 (kSta_17 h_r0_3) (nSta_17 h_r0_3) q22_0 ?_
      have h_r0_4 := Lay.wr h_r0_3 ok_Sta (nrf_arr (kSta_17 h_r0_3) (by decide) (by decide)) (i := x1) (x := ((hg H3 (a0 + 17) x1) + 1))
      generalize e_H4 : hs H3 (a0 + 17) x1 ((hg H3 (a0 + 17) x1) + 1) = H4 at h_r0_4 ⊢
      replace h := h H4 e_H4.symm
      refine a_aload_n dX6_turn_102 rfl rfl ?_
      refine a_getR dX6_turn_103 fw_RX6_47 rfl rfl (kSta_0 h_r0_4) (rSta_0_11 h_r0_4) ?_
      refine a_aload_n dX6_turn_106 rfl rfl ?_
      refine a_getR dX6_turn_107 fw_RX6_25 rfl rfl (kSta_0 h_r0_4) (rSta_0_3 h_r0_4) ?_
      refine a_iload_n dX6_turn_110 rfl rfl ?_
      refine b_iald dX6_turn_111 (kSta_14 h_r0_4) (nSta_14 h_r0_4) q22_0 ?_
      refine a_iconst dX6_turn_112 ⟨by decide, by decide⟩ ?_
      obtain ⟨q113_0, h⟩ := h
      refine b_zast dX6_turn_113 (kSta_21 h_r0_4) (nSta_21 h_r0_4) q113_0 (by decide) ?_
      have h_r0_5 := Lay.wr h_r0_4 ok_Sta (nrf_arr (kSta_21 h_r0_4) (by decide) (by decide)) (i := (hg H4 (a0 + 14) x1)) (x := 0)
      generalize e_H5 : hs H4 (a0 + 21) (hg H4 (a0 + 14) x1) 0 = H5 at h_r0_5 ⊢
      replace h := h H5 e_H5.symm
      exact a_vret dX6_turn_114 rfl (Nat.le_of_ble_eq_true rfl) (Nat.le_of_ble_eq_true rfl) h
  · replace h := h.2 c33
    refine a_aload_n dX6_turn_36 rfl rfl ?_
    refine a_getR dX6_turn_37 fw_RX6_21 rfl rfl (kSta_0 h_r0_1) (rSta_0_1 h_r0_1) ?_
    refine a_getR dX6_turn_40 fw_RX6_109 rfl rfl (kSta_5 h_r0_1) (rSta_5_6 h_r0_1) ?_
    refine a_iload_n dX6_turn_43 rfl rfl ?_
    refine a_iload_n dX6_turn_44 rfl rfl ?_
    refine b_iast dX6_turn_45 (kSta_11 h_r0_1) (nSta_11 h_r0_1) q22_0 ?_
    have h_r0_2 := Lay.wr h_r0_1 ok_Sta (nrf_arr (kSta_11 h_r0_1) (by decide) (by decide)) (i := x1) (x := ((M 0) + (M 3)))
    generalize e_H2 : hs H1 (a0 + 11) x1 ((M 0) + (M 3)) = H2 at h_r0_2 ⊢
    replace h := h H2 e_H2.symm
    refine a_aload_n dX6_turn_46 rfl rfl ?_
    refine a_getR dX6_turn_47 fw_RX6_21 rfl rfl (kSta_0 h_r0_2) (rSta_0_1 h_r0_2) ?_
    refine a_getR dX6_turn_50 fw_RX6_118 rfl rfl (kSta_5 h_r0_2) (rSta_5_7 h_r0_2) ?_
    refine a_iload_n dX6_turn_53 rfl rfl ?_
    refine b_iald dX6_turn_54 (kSta_12 h_r0_2) (nSta_12 h_r0_2) q22_0 ?_
    refine a_aload_n dX6_turn_55 rfl rfl ?_
    refine a_getR dX6_turn_56 fw_RX6_21 rfl rfl (kSta_0 h_r0_2) (rSta_0_1 h_r0_2) ?_
    refine a_getR dX6_turn_59 fw_RX6_109 rfl rfl (kSta_5 h_r0_2) (rSta_5_6 h_r0_2) ?_
    refine a_iload_n dX6_turn_62 rfl rfl ?_
    refine b_iald dX6_turn_63 (kSta_11 h_r0_2) (nSta_11 h_r0_2) q22_0 ?_
    refine a_icmp_ge dX6_turn_64 (tgt := 85) rfl (fun c64 => ?_) (fun c64 => ?_)
    · replace h := h.1 c64
      refine a_aload_n dX6_turn_85 rfl rfl ?_
      refine a_getR dX6_turn_86 fw_RX6_29 rfl rfl (kSta_0 h_r0_2) (rSta_0_4 h_r0_2) ?_
      refine a_iload_n dX6_turn_89 rfl rfl ?_
      refine a_iconst dX6_turn_90 ⟨by decide, by decide⟩ ?_
      refine b_iast dX6_turn_91 (kSta_15 h_r0_2) (nSta_15 h_r0_2) q22_0 ?_
      have h_r0_3 := Lay.wr h_r0_2 ok_Sta (nrf_arr (kSta_15 h_r0_2) (by decide) (by decide)) (i := x1) (x := 0)
      generalize e_H3 : hs H2 (a0 + 15) x1 0 = H3 at h_r0_3 ⊢
      replace h := h H3 e_H3.symm
      refine a_aload_n dX6_turn_92 rfl rfl ?_
      refine a_getR dX6_turn_93 fw_RX6_35 rfl rfl (kSta_0 h_r0_3) (rSta_0_6 h_r0_3) ?_
      refine a_iload_n dX6_turn_96 rfl rfl ?_
      refine a_dup2 dX6_turn_97 rfl rfl ?_
      refine b_iald dX6_turn_98 (kSta_17 h_r0_3) (nSta_17 h_r0_3) q22_0 ?_
      refine a_iconst dX6_turn_99 ⟨by decide, by decide⟩ ?_
      obtain ⟨q100_0, h⟩ := h
      refine a_iadd dX6_turn_100 q100_0 ?_
      refine b_iast dX6_turn_101 (kSta_17 h_r0_3) (nSta_17 h_r0_3) q22_0 ?_
      have h_r0_4 := Lay.wr h_r0_3 ok_Sta (nrf_arr (kSta_17 h_r0_3) (by decide) (by decide)) (i := x1) (x := ((hg H3 (a0 + 17) x1) + 1))
      generalize e_H4 : hs H3 (a0 + 17) x1 ((hg H3 (a0 + 17) x1) + 1) = H4 at h_r0_4 ⊢
      replace h := h H4 e_H4.symm
      refine a_aload_n dX6_turn_102 rfl rfl ?_
      refine a_getR dX6_turn_103 fw_RX6_47 rfl rfl (kSta_0 h_r0_4) (rSta_0_11 h_r0_4) ?_
      refine a_aload_n dX6_turn_106 rfl rfl ?_
      refine a_getR dX6_turn_107 fw_RX6_25 rfl rfl (kSta_0 h_r0_4) (rSta_0_3 h_r0_4) ?_
      refine a_iload_n dX6_turn_110 rfl rfl ?_
      refine b_iald dX6_turn_111 (kSta_14 h_r0_4) (nSta_14 h_r0_4) q22_0 ?_
      refine a_iconst dX6_turn_112 ⟨by decide, by decide⟩ ?_
      obtain ⟨q113_0, h⟩ := h
      refine b_zast dX6_turn_113 (kSta_21 h_r0_4) (nSta_21 h_r0_4) q113_0 (by decide) ?_
      have h_r0_5 := Lay.wr h_r0_4 ok_Sta (nrf_arr (kSta_21 h_r0_4) (by decide) (by decide)) (i := (hg H4 (a0 + 14) x1)) (x := 0)
      generalize e_H5 : hs H4 (a0 + 21) (hg H4 (a0 + 14) x1) 0 = H5 at h_r0_5 ⊢
      replace h := h H5 e_H5.symm
      exact a_vret dX6_turn_114 rfl (Nat.le_of_ble_eq_true rfl) (Nat.le_of_ble_eq_true rfl) h
    · replace h := h.2 c64
      refine a_aload_n dX6_turn_67 rfl rfl ?_
      refine a_getR dX6_turn_68 fw_RX6_21 rfl rfl (kSta_0 h_r0_2) (rSta_0_1 h_r0_2) ?_
      refine a_getR dX6_turn_71 fw_RX6_118 rfl rfl (kSta_5 h_r0_2) (rSta_5_7 h_r0_2) ?_
      refine a_iload_n dX6_turn_74 rfl rfl ?_
      refine a_aload_n dX6_turn_75 rfl rfl ?_
      refine a_getR dX6_turn_76 fw_RX6_21 rfl rfl (kSta_0 h_r0_2) (rSta_0_1 h_r0_2) ?_
      refine a_getR dX6_turn_79 fw_RX6_109 rfl rfl (kSta_5 h_r0_2) (rSta_5_6 h_r0_2) ?_
      refine a_iload_n dX6_turn_82 rfl rfl ?_
      refine b_iald dX6_turn_83 (kSta_11 h_r0_2) (nSta_11 h_r0_2) q22_0 ?_
      refine b_iast dX6_turn_84 (kSta_12 h_r0_2) (nSta_12 h_r0_2) q22_0 ?_
      have h_r0_3 := Lay.wr h_r0_2 ok_Sta (nrf_arr (kSta_12 h_r0_2) (by decide) (by decide)) (i := x1) (x := (hg H2 (a0 + 11) x1))
      generalize e_H3 : hs H2 (a0 + 12) x1 (hg H2 (a0 + 11) x1) = H3 at h_r0_3 ⊢
      replace h := h H3 e_H3.symm
      refine a_aload_n dX6_turn_85 rfl rfl ?_
      refine a_getR dX6_turn_86 fw_RX6_29 rfl rfl (kSta_0 h_r0_3) (rSta_0_4 h_r0_3) ?_
      refine a_iload_n dX6_turn_89 rfl rfl ?_
      refine a_iconst dX6_turn_90 ⟨by decide, by decide⟩ ?_
      refine b_iast dX6_turn_91 (kSta_15 h_r0_3) (nSta_15 h_r0_3) q22_0 ?_
      have h_r0_4 := Lay.wr h_r0_3 ok_Sta (nrf_arr (kSta_15 h_r0_3) (by decide) (by decide)) (i := x1) (x := 0)
      generalize e_H4 : hs H3 (a0 + 15) x1 0 = H4 at h_r0_4 ⊢
      replace h := h H4 e_H4.symm
      refine a_aload_n dX6_turn_92 rfl rfl ?_
      refine a_getR dX6_turn_93 fw_RX6_35 rfl rfl (kSta_0 h_r0_4) (rSta_0_6 h_r0_4) ?_
      refine a_iload_n dX6_turn_96 rfl rfl ?_
      refine a_dup2 dX6_turn_97 rfl rfl ?_
      refine b_iald dX6_turn_98 (kSta_17 h_r0_4) (nSta_17 h_r0_4) q22_0 ?_
      refine a_iconst dX6_turn_99 ⟨by decide, by decide⟩ ?_
      obtain ⟨q100_0, h⟩ := h
      refine a_iadd dX6_turn_100 q100_0 ?_
      refine b_iast dX6_turn_101 (kSta_17 h_r0_4) (nSta_17 h_r0_4) q22_0 ?_
      have h_r0_5 := Lay.wr h_r0_4 ok_Sta (nrf_arr (kSta_17 h_r0_4) (by decide) (by decide)) (i := x1) (x := ((hg H4 (a0 + 17) x1) + 1))
      generalize e_H5 : hs H4 (a0 + 17) x1 ((hg H4 (a0 + 17) x1) + 1) = H5 at h_r0_5 ⊢
      replace h := h H5 e_H5.symm
      refine a_aload_n dX6_turn_102 rfl rfl ?_
      refine a_getR dX6_turn_103 fw_RX6_47 rfl rfl (kSta_0 h_r0_5) (rSta_0_11 h_r0_5) ?_
      refine a_aload_n dX6_turn_106 rfl rfl ?_
      refine a_getR dX6_turn_107 fw_RX6_25 rfl rfl (kSta_0 h_r0_5) (rSta_0_3 h_r0_5) ?_
      refine a_iload_n dX6_turn_110 rfl rfl ?_
      refine b_iald dX6_turn_111 (kSta_14 h_r0_5) (nSta_14 h_r0_5) q22_0 ?_
      refine a_iconst dX6_turn_112 ⟨by decide, by decide⟩ ?_
      obtain ⟨q113_0, h⟩ := h
      refine b_zast dX6_turn_113 (kSta_21 h_r0_5) (nSta_21 h_r0_5) q113_0 (by decide) ?_
      have h_r0_6 := Lay.wr h_r0_5 ok_Sta (nrf_arr (kSta_21 h_r0_5) (by decide) (by decide)) (i := (hg H5 (a0 + 14) x1)) (x := 0)
      generalize e_H6 : hs H5 (a0 + 21) (hg H5 (a0 + 14) x1) 0 = H6 at h_r0_6 ⊢
      replace h := h H6 e_H6.symm
      exact a_vret dX6_turn_114 rfl (Nat.le_of_ble_eq_true rfl) (Nat.le_of_ble_eq_true rfl) h


theorem dX6_moveClock_0 : decode cX6_moveClock 0 = .ok (.aload_n 0, 1) := by decide +kernel
theorem dX6_moveClock_1 : decode cX6_moveClock 1 = .ok (.iload_n 1, 1) := by decide +kernel
theorem dX6_moveClock_2 : decode cX6_moveClock 2 = .ok (.putfield 61, 3) := by decide +kernel
theorem dX6_moveClock_5 : decode cX6_moveClock 5 = .ok (.iconst 0, 1) := by decide +kernel
theorem dX6_moveClock_6 : decode cX6_moveClock 6 = .ok (.istore_n 2, 1) := by decide +kernel
theorem dX6_moveClock_7 : decode cX6_moveClock 7 = .ok (.iload_n 2, 1) := by decide +kernel
theorem dX6_moveClock_8 : decode cX6_moveClock 8 = .ok (.iconst 3, 1) := by decide +kernel
theorem dX6_moveClock_9 : decode cX6_moveClock 9 = .ok (.if_icmp .ge 26, 3) := by decide +kernel
theorem dX6_moveClock_12 : decode cX6_moveClock 12 = .ok (.aload_n 0, 1) := by decide +kernel
theorem dX6_moveClock_13 : decode cX6_moveClock 13 = .ok (.getfield 51, 3) := by decide +kernel
theorem dX6_moveClock_16 : decode cX6_moveClock 16 = .ok (.iload_n 2, 1) := by decide +kernel
theorem dX6_moveClock_17 : decode cX6_moveClock 17 = .ok (.iaload, 1) := by decide +kernel
theorem dX6_moveClock_18 : decode cX6_moveClock 18 = .ok (.iload_n 1, 1) := by decide +kernel
theorem dX6_moveClock_19 : decode cX6_moveClock 19 = .ok (.if_icmp .ge 10, 3) := by decide +kernel
theorem dX6_moveClock_22 : decode cX6_moveClock 22 = .ok (.aload_n 0, 1) := by decide +kernel
theorem dX6_moveClock_23 : decode cX6_moveClock 23 = .ok (.getfield 47, 3) := by decide +kernel
theorem dX6_moveClock_26 : decode cX6_moveClock 26 = .ok (.iload_n 2, 1) := by decide +kernel
theorem dX6_moveClock_27 : decode cX6_moveClock 27 = .ok (.iconst 0, 1) := by decide +kernel
theorem dX6_moveClock_28 : decode cX6_moveClock 28 = .ok (.bastore, 1) := by decide +kernel
theorem dX6_moveClock_29 : decode cX6_moveClock 29 = .ok (.iinc 2 1, 3) := by decide +kernel
theorem dX6_moveClock_32 : decode cX6_moveClock 32 = .ok (.goto (-25), 3) := by decide +kernel
theorem dX6_moveClock_35 : decode cX6_moveClock 35 = .ok (.return_, 1) := by decide +kernel
set_option maxRecDepth 20000 in
theorem s_X6_moveClock_0 {l : Launch} {G : GT} {d : Nat} {Q : AV → AH → Prop} {H : AH} {a0 x1 : Int} {M : Row} (hS : SK H a0 M) (h : ∀ H1 : AH, H1 = hs H a0 2 x1 → AW l G mX6_moveClock d 0 0 Q 7 [vR a0, vI x1, vI 0] [] 0 0 H1) : AW l G mX6_moveClock d 0 0 Q 0 [vR a0, vI x1, vU] [] 0 0 H := by
  refine a_aload_n dX6_moveClock_0 rfl rfl ?_
  refine a_iload_n dX6_moveClock_1 rfl rfl ?_
  refine a_putI dX6_moveClock_2 fp_RX6_61 rfl rfl (kSta_0 hS.1) ?_
  have h_r0_1 := Lay.wr hS.1 ok_Sta (nrf_fld 2 (kSta_0 hS.1) (by decide) (by decide)) (i := 2) (x := x1)
  generalize e_H1 : hs H a0 2 x1 = H1 at h_r0_1 ⊢
  replace h := h H1 e_H1.symm
  refine a_iconst dX6_moveClock_5 ⟨by decide, by decide⟩ ?_
  refine a_istore_n dX6_moveClock_6 rfl (Nat.le_of_ble_eq_true rfl) (ls' := [vR a0, vI x1, vI 0]) rfl ?_
  exact h

set_option maxRecDepth 20000 in
theorem s_X6_moveClock_7 {l : Launch} {G : GT} {d : Nat} {Q : AV → AH → Prop} {H : AH} {a0 x1 x2 : Int} {M : Row} (hS : SK H a0 M) (h : (3 ≤ x2 → Q vV H) ∧ (x2 < 3 → (0 ≤ x2 ∧ x2 < 3) ∧ (x1 ≤ (hg H (a0 + 22) x2) → (-2147483648 ≤ x2 + 1 ∧ x2 + 1 ≤ 2147483647) ∧ AW l G mX6_moveClock d 0 0 Q 7 [vR a0, vI x1, vI (x2 + 1)] [] 0 0 H) ∧ ((hg H (a0 + 22) x2) < x1 → ∀ H1 : AH, H1 = hs H (a0 + 21) x2 0 → (-2147483648 ≤ x2 + 1 ∧ x2 + 1 ≤ 2147483647) ∧ AW l G mX6_moveClock d 0 0 Q 7 [vR a0, vI x1, vI (x2 + 1)] [] 0 0 H1))) : AW l G mX6_moveClock d 0 0 Q 7 [vR a0, vI x1, vI x2] [] 0 0 H := by
  refine a_iload_n dX6_moveClock_7 rfl rfl ?_
  refine a_iconst dX6_moveClock_8 ⟨by decide, by decide⟩ ?_
  refine a_icmp_ge dX6_moveClock_9 (tgt := 35) rfl (fun c9 => ?_) (fun c9 => ?_)
  · replace h := h.1 c9
    exact a_vret dX6_moveClock_35 rfl (Nat.le_of_ble_eq_true rfl) (Nat.le_of_ble_eq_true rfl) h
  · replace h := h.2 c9
    refine a_aload_n dX6_moveClock_12 rfl rfl ?_
    refine a_getR dX6_moveClock_13 fw_RX6_51 rfl rfl (kSta_0 hS.1) (rSta_0_12 hS.1) ?_
    refine a_iload_n dX6_moveClock_16 rfl rfl ?_
    obtain ⟨q17_0, h⟩ := h
    refine b_iald dX6_moveClock_17 (kSta_22 hS.1) (nSta_22 hS.1) q17_0 ?_
    refine a_iload_n dX6_moveClock_18 rfl rfl ?_
    refine a_icmp_ge dX6_moveClock_19 (tgt := 29) rfl (fun c19 => ?_) (fun c19 => ?_)
    · replace h := h.1 c19
      obtain ⟨q29_0, h⟩ := h
      refine a_iinc dX6_moveClock_29 rfl (Nat.le_of_ble_eq_true rfl) (by decide) q29_0 (ls' := [vR a0, vI x1, vI (x2 + 1)]) rfl ?_
      refine a_goto dX6_moveClock_32 (tgt := 7) rfl ?_
      exact h
    · replace h := h.2 c19
      refine a_aload_n dX6_moveClock_22 rfl rfl ?_
      refine a_getR dX6_moveClock_23 fw_RX6_47 rfl rfl (kSta_0 hS.1) (rSta_0_11 hS.1) ?_
      refine a_iload_n dX6_moveClock_26 rfl rfl ?_
      refine a_iconst dX6_moveClock_27 ⟨by decide, by decide⟩ ?_
      refine b_zast dX6_moveClock_28 (kSta_21 hS.1) (nSta_21 hS.1) q17_0 (by decide) ?_
      have h_r0_1 := Lay.wr hS.1 ok_Sta (nrf_arr (kSta_21 hS.1) (by decide) (by decide)) (i := x2) (x := 0)
      generalize e_H1 : hs H (a0 + 21) x2 0 = H1 at h_r0_1 ⊢
      replace h := h H1 e_H1.symm
      have hSr0_0_1 : SK H1 a0 M := by rw [← e_H1]; exact SK.wr hS (nrf_arr (kSta_21 hS.1) (by decide) (by decide)) (by omega)
      obtain ⟨q29_0, h⟩ := h
      refine a_iinc dX6_moveClock_29 rfl (Nat.le_of_ble_eq_true rfl) (by decide) q29_0 (ls' := [vR a0, vI x1, vI (x2 + 1)]) rfl ?_
      refine a_goto dX6_moveClock_32 (tgt := 7) rfl ?_
      exact h


theorem dX6_finishDue_0 : decode cX6_finishDue 0 = .ok (.iconst 0, 1) := by decide +kernel
theorem dX6_finishDue_1 : decode cX6_finishDue 1 = .ok (.istore_n 1, 1) := by decide +kernel
theorem dX6_finishDue_2 : decode cX6_finishDue 2 = .ok (.iload_n 1, 1) := by decide +kernel
theorem dX6_finishDue_3 : decode cX6_finishDue 3 = .ok (.aload_n 0, 1) := by decide +kernel
theorem dX6_finishDue_4 : decode cX6_finishDue 4 = .ok (.getfield 21, 3) := by decide +kernel
theorem dX6_finishDue_7 : decode cX6_finishDue 7 = .ok (.getfield 57, 3) := by decide +kernel
theorem dX6_finishDue_10 : decode cX6_finishDue 10 = .ok (.if_icmp .ge 117, 3) := by decide +kernel
theorem dX6_finishDue_13 : decode cX6_finishDue 13 = .ok (.iconst (-1), 1) := by decide +kernel
theorem dX6_finishDue_14 : decode cX6_finishDue 14 = .ok (.istore_n 2, 1) := by decide +kernel
theorem dX6_finishDue_15 : decode cX6_finishDue 15 = .ok (.iconst 0, 1) := by decide +kernel
theorem dX6_finishDue_16 : decode cX6_finishDue 16 = .ok (.istore_n 3, 1) := by decide +kernel
theorem dX6_finishDue_17 : decode cX6_finishDue 17 = .ok (.iload_n 3, 1) := by decide +kernel
theorem dX6_finishDue_18 : decode cX6_finishDue 18 = .ok (.aload_n 0, 1) := by decide +kernel
theorem dX6_finishDue_19 : decode cX6_finishDue 19 = .ok (.getfield 21, 3) := by decide +kernel
theorem dX6_finishDue_22 : decode cX6_finishDue 22 = .ok (.getfield 57, 3) := by decide +kernel
theorem dX6_finishDue_25 : decode cX6_finishDue 25 = .ok (.if_icmp .ge 54, 3) := by decide +kernel
theorem dX6_finishDue_28 : decode cX6_finishDue 28 = .ok (.aload_n 0, 1) := by decide +kernel
theorem dX6_finishDue_29 : decode cX6_finishDue 29 = .ok (.getfield 29, 3) := by decide +kernel
theorem dX6_finishDue_32 : decode cX6_finishDue 32 = .ok (.iload_n 3, 1) := by decide +kernel
theorem dX6_finishDue_33 : decode cX6_finishDue 33 = .ok (.iaload, 1) := by decide +kernel
theorem dX6_finishDue_34 : decode cX6_finishDue 34 = .ok (.iconst 1, 1) := by decide +kernel
theorem dX6_finishDue_35 : decode cX6_finishDue 35 = .ok (.if_icmp .ne 38, 3) := by decide +kernel
theorem dX6_finishDue_38 : decode cX6_finishDue 38 = .ok (.aload_n 0, 1) := by decide +kernel
theorem dX6_finishDue_39 : decode cX6_finishDue 39 = .ok (.getfield 32, 3) := by decide +kernel
theorem dX6_finishDue_42 : decode cX6_finishDue 42 = .ok (.iload_n 3, 1) := by decide +kernel
theorem dX6_finishDue_43 : decode cX6_finishDue 43 = .ok (.iaload, 1) := by decide +kernel
theorem dX6_finishDue_44 : decode cX6_finishDue 44 = .ok (.aload_n 0, 1) := by decide +kernel
theorem dX6_finishDue_45 : decode cX6_finishDue 45 = .ok (.getfield 61, 3) := by decide +kernel
theorem dX6_finishDue_48 : decode cX6_finishDue 48 = .ok (.if_icmp .gt 25, 3) := by decide +kernel
theorem dX6_finishDue_51 : decode cX6_finishDue 51 = .ok (.iload_n 2, 1) := by decide +kernel
theorem dX6_finishDue_52 : decode cX6_finishDue 52 = .ok (.iconst (-1), 1) := by decide +kernel
theorem dX6_finishDue_53 : decode cX6_finishDue 53 = .ok (.if_icmp .eq 18, 3) := by decide +kernel
theorem dX6_finishDue_56 : decode cX6_finishDue 56 = .ok (.aload_n 0, 1) := by decide +kernel
theorem dX6_finishDue_57 : decode cX6_finishDue 57 = .ok (.getfield 32, 3) := by decide +kernel
theorem dX6_finishDue_60 : decode cX6_finishDue 60 = .ok (.iload_n 3, 1) := by decide +kernel
theorem dX6_finishDue_61 : decode cX6_finishDue 61 = .ok (.iaload, 1) := by decide +kernel
theorem dX6_finishDue_62 : decode cX6_finishDue 62 = .ok (.aload_n 0, 1) := by decide +kernel
theorem dX6_finishDue_63 : decode cX6_finishDue 63 = .ok (.getfield 32, 3) := by decide +kernel
theorem dX6_finishDue_66 : decode cX6_finishDue 66 = .ok (.iload_n 2, 1) := by decide +kernel
theorem dX6_finishDue_67 : decode cX6_finishDue 67 = .ok (.iaload, 1) := by decide +kernel
theorem dX6_finishDue_68 : decode cX6_finishDue 68 = .ok (.if_icmp .ge 5, 3) := by decide +kernel
theorem dX6_finishDue_71 : decode cX6_finishDue 71 = .ok (.iload_n 3, 1) := by decide +kernel
theorem dX6_finishDue_72 : decode cX6_finishDue 72 = .ok (.istore_n 2, 1) := by decide +kernel
theorem dX6_finishDue_73 : decode cX6_finishDue 73 = .ok (.iinc 3 1, 3) := by decide +kernel
theorem dX6_finishDue_76 : decode cX6_finishDue 76 = .ok (.goto (-59), 3) := by decide +kernel
theorem dX6_finishDue_79 : decode cX6_finishDue 79 = .ok (.iload_n 2, 1) := by decide +kernel
theorem dX6_finishDue_80 : decode cX6_finishDue 80 = .ok (.iconst (-1), 1) := by decide +kernel
theorem dX6_finishDue_81 : decode cX6_finishDue 81 = .ok (.if_icmp .eq 12, 3) := by decide +kernel
theorem dX6_finishDue_84 : decode cX6_finishDue 84 = .ok (.aload_n 0, 1) := by decide +kernel
theorem dX6_finishDue_85 : decode cX6_finishDue 85 = .ok (.getfield 64, 3) := by decide +kernel
theorem dX6_finishDue_88 : decode cX6_finishDue 88 = .ok (.bipush 24, 2) := by decide +kernel
theorem dX6_finishDue_90 : decode cX6_finishDue 90 = .ok (.if_icmp .lt 4, 3) := by decide +kernel
theorem dX6_finishDue_93 : decode cX6_finishDue 93 = .ok (.return_, 1) := by decide +kernel
theorem dX6_finishDue_94 : decode cX6_finishDue 94 = .ok (.aload_n 0, 1) := by decide +kernel
theorem dX6_finishDue_95 : decode cX6_finishDue 95 = .ok (.getfield 29, 3) := by decide +kernel
theorem dX6_finishDue_98 : decode cX6_finishDue 98 = .ok (.iload_n 2, 1) := by decide +kernel
theorem dX6_finishDue_99 : decode cX6_finishDue 99 = .ok (.iconst 2, 1) := by decide +kernel
theorem dX6_finishDue_100 : decode cX6_finishDue 100 = .ok (.iastore, 1) := by decide +kernel
theorem dX6_finishDue_101 : decode cX6_finishDue 101 = .ok (.aload_n 0, 1) := by decide +kernel
theorem dX6_finishDue_102 : decode cX6_finishDue 102 = .ok (.getfield 38, 3) := by decide +kernel
theorem dX6_finishDue_105 : decode cX6_finishDue 105 = .ok (.aload_n 0, 1) := by decide +kernel
theorem dX6_finishDue_106 : decode cX6_finishDue 106 = .ok (.getfield 64, 3) := by decide +kernel
theorem dX6_finishDue_109 : decode cX6_finishDue 109 = .ok (.iload_n 2, 1) := by decide +kernel
theorem dX6_finishDue_110 : decode cX6_finishDue 110 = .ok (.iastore, 1) := by decide +kernel
theorem dX6_finishDue_111 : decode cX6_finishDue 111 = .ok (.aload_n 0, 1) := by decide +kernel
theorem dX6_finishDue_112 : decode cX6_finishDue 112 = .ok (.dup, 1) := by decide +kernel
theorem dX6_finishDue_113 : decode cX6_finishDue 113 = .ok (.getfield 64, 3) := by decide +kernel
theorem dX6_finishDue_116 : decode cX6_finishDue 116 = .ok (.iconst 1, 1) := by decide +kernel
theorem dX6_finishDue_117 : decode cX6_finishDue 117 = .ok (.iadd, 1) := by decide +kernel
theorem dX6_finishDue_118 : decode cX6_finishDue 118 = .ok (.putfield 64, 3) := by decide +kernel
theorem dX6_finishDue_121 : decode cX6_finishDue 121 = .ok (.iinc 1 1, 3) := by decide +kernel
theorem dX6_finishDue_124 : decode cX6_finishDue 124 = .ok (.goto (-122), 3) := by decide +kernel
theorem dX6_finishDue_127 : decode cX6_finishDue 127 = .ok (.return_, 1) := by decide +kernel
set_option maxRecDepth 20000 in
theorem s_X6_finishDue_0 {l : Launch} {G : GT} {d : Nat} {Q : AV → AH → Prop} {H : AH} {a0 : Int} {M : Row} (hS : SK H a0 M) (h : AW l G mX6_finishDue d 0 0 Q 2 [vR a0, vI 0, vU, vU] [] 0 0 H) : AW l G mX6_finishDue d 0 0 Q 0 [vR a0, vU, vU, vU] [] 0 0 H := by
  refine a_iconst dX6_finishDue_0 ⟨by decide, by decide⟩ ?_
  refine a_istore_n dX6_finishDue_1 rfl (Nat.le_of_ble_eq_true rfl) (ls' := [vR a0, vI 0, vU, vU]) rfl ?_
  exact h

set_option maxRecDepth 20000 in
theorem s_X6_finishDue_2 {l : Launch} {G : GT} {d : Nat} {Q : AV → AH → Prop} {H : AH} {a0 x1 : Int} {M : Row} (hS : SK H a0 M) (h : ((M 6) ≤ x1 → Q vV H) ∧ (x1 < (M 6) → AW l G mX6_finishDue d 0 0 Q 17 [vR a0, vI x1, vI (-1), vI 0] [] 0 0 H)) : AW l G mX6_finishDue d 0 0 Q 2 [vR a0, vI x1, vU, vU] [] 0 0 H := by
  refine a_iload_n dX6_finishDue_2 rfl rfl ?_
  refine a_aload_n dX6_finishDue_3 rfl rfl ?_
  refine a_getR dX6_finishDue_4 fw_RX6_21 rfl rfl (kSta_0 hS.1) (rSta_0_1 hS.1) ?_
  refine a_getIV dX6_finishDue_7 fw_RX6_57 rfl rfl (kSta_5 hS.1) (sk_5_0 hS) ?_
  refine a_icmp_ge dX6_finishDue_10 (tgt := 127) rfl (fun c10 => ?_) (fun c10 => ?_)
  · replace h := h.1 c10
    exact a_vret dX6_finishDue_127 rfl (Nat.le_of_ble_eq_true rfl) (Nat.le_of_ble_eq_true rfl) h
  · replace h := h.2 c10
    refine a_iconst dX6_finishDue_13 ⟨by decide, by decide⟩ ?_
    refine a_istore_n dX6_finishDue_14 rfl (Nat.le_of_ble_eq_true rfl) (ls' := [vR a0, vI x1, vI (-1), vU]) rfl ?_
    refine a_iconst dX6_finishDue_15 ⟨by decide, by decide⟩ ?_
    refine a_istore_n dX6_finishDue_16 rfl (Nat.le_of_ble_eq_true rfl) (ls' := [vR a0, vI x1, vI (-1), vI 0]) rfl ?_
    exact h

set_option maxRecDepth 20000 in
theorem s_X6_finishDue_17 {l : Launch} {G : GT} {d : Nat} {Q : AV → AH → Prop} {H : AH} {a0 x1 x2 x3 : Int} {M : Row} (hS : SK H a0 M) (h : ((M 6) ≤ x3 → (x2 = (-1) → Q vV H) ∧ (¬ x2 = (-1) → ((M 7) < 24 → (0 ≤ x2 ∧ x2 < 24) ∧ ∀ H1 : AH, H1 = hs H (a0 + 15) x2 2 → (0 ≤ (hg H1 a0 8) ∧ (hg H1 a0 8) < 24) ∧ ∀ H2 : AH, H2 = hs H1 (a0 + 18) (hg H1 a0 8) x2 → (-2147483648 ≤ (hg H2 a0 8) + 1 ∧ (hg H2 a0 8) + 1 ≤ 2147483647) ∧ ∀ H3 : AH, H3 = hs H2 a0 8 ((hg H2 a0 8) + 1) → (-2147483648 ≤ x1 + 1 ∧ x1 + 1 ≤ 2147483647) ∧ AW l G mX6_finishDue d 0 0 Q 2 [vR a0, vI (x1 + 1), vU, vU] [] 0 0 H3) ∧ (24 ≤ (M 7) → Q vV H))) ∧ (x3 < (M 6) → (0 ≤ x3 ∧ x3 < M 6) ∧ (¬ (ofM M x3 7) = 1 → (-2147483648 ≤ x3 + 1 ∧ x3 + 1 ≤ 2147483647) ∧ AW l G mX6_finishDue d 0 0 Q 17 [vR a0, vI x1, vI x2, vI (x3 + 1)] [] 0 0 H) ∧ ((ofM M x3 7) = 1 → (0 ≤ x3 ∧ x3 < 24) ∧ ((M 0) < (hg H (a0 + 16) x3) → (-2147483648 ≤ x3 + 1 ∧ x3 + 1 ≤ 2147483647) ∧ AW l G mX6_finishDue d 0 0 Q 17 [vR a0, vI x1, vI x2, vI (x3 + 1)] [] 0 0 H) ∧ ((hg H (a0 + 16) x3) ≤ (M 0) → (x2 = (-1) → (-2147483648 ≤ x3 + 1 ∧ x3 + 1 ≤ 2147483647) ∧ AW l G mX6_finishDue d 0 0 Q 17 [vR a0, vI x1, vI x3, vI (x3 + 1)] [] 0 0 H) ∧ (¬ x2 = (-1) → (0 ≤ x2 ∧ x2 < 24) ∧ ((hg H (a0 + 16) x2) ≤ (hg H (a0 + 16) x3) → (-2147483648 ≤ x3 + 1 ∧ x3 + 1 ≤ 2147483647) ∧ AW l G mX6_finishDue d 0 0 Q 17 [vR a0, vI x1, vI x2, vI (x3 + 1)] [] 0 0 H) ∧ ((hg H (a0 + 16) x3) < (hg H (a0 + 16) x2) → (-2147483648 ≤ x3 + 1 ∧ x3 + 1 ≤ 2147483647) ∧ AW l G mX6_finishDue d 0 0 Q 17 [vR a0, vI x1, vI x3, vI (x3 + 1)] [] 0 0 H)))))) : AW l G mX6_finishDue d 0 0 Q 17 [vR a0, vI x1, vI x2, vI x3] [] 0 0 H := by
  refine a_iload_n dX6_finishDue_17 rfl rfl ?_
  refine a_aload_n dX6_finishDue_18 rfl rfl ?_
  refine a_getR dX6_finishDue_19 fw_RX6_21 rfl rfl (kSta_0 hS.1) (rSta_0_1 hS.1) ?_
  refine a_getIV dX6_finishDue_22 fw_RX6_57 rfl rfl (kSta_5 hS.1) (sk_5_0 hS) ?_
  refine a_icmp_ge dX6_finishDue_25 (tgt := 79) rfl (fun c25 => ?_) (fun c25 => ?_)
  · replace h := h.1 c25
    refine a_iload_n dX6_finishDue_79 rfl rfl ?_
    refine a_iconst dX6_finishDue_80 ⟨by decide, by decide⟩ ?_
    refine a_icmp_eq dX6_finishDue_81 (tgt := 93) rfl (fun c81 => ?_) (fun c81 => ?_)
    · replace h := h.1 c81
      exact a_vret dX6_finishDue_93 rfl (Nat.le_of_ble_eq_true rfl) (Nat.le_of_ble_eq_true rfl) h
    · replace h := h.2 c81
      refine a_aload_n dX6_finishDue_84 rfl rfl ?_
      refine a_getIV dX6_finishDue_85 fw_RX6_64 rfl rfl (kSta_0 hS.1) (sk_0_8 hS) ?_
      refine a_bipush dX6_finishDue_88 (by decide) ?_
      refine a_icmp_lt dX6_finishDue_90 (tgt := 94) rfl (fun c90 => ?_) (fun c90 => ?_)
      · replace h := h.1 c90
        refine a_aload_n dX6_finishDue_94 rfl rfl ?_
        refine a_getR dX6_finishDue_95 fw_RX6_29 rfl rfl (kSta_0 hS.1) (rSta_0_4 hS.1) ?_
        refine a_iload_n dX6_finishDue_98 rfl rfl ?_
        refine a_iconst dX6_finishDue_99 ⟨by decide, by decide⟩ ?_
        obtain ⟨q100_0, h⟩ := h
        refine b_iast dX6_finishDue_100 (kSta_15 hS.1) (nSta_15 hS.1) q100_0 ?_
        have h_r0_1 := Lay.wr hS.1 ok_Sta (nrf_arr (kSta_15 hS.1) (by decide) (by decide)) (i := x2) (x := 2)
        generalize e_H1 : hs H (a0 + 15) x2 2 = H1 at h_r0_1 ⊢
        replace h := h H1 e_H1.symm
        refine a_aload_n dX6_finishDue_101 rfl rfl ?_
        refine a_getR dX6_finishDue_102 fw_RX6_38 rfl rfl (kSta_0 h_r0_1) (rSta_0_7 h_r0_1) ?_
        refine a_aload_n dX6_finishDue_105 rfl rfl ?_
        refine a_getI dX6_finishDue_106 fw_RX6_64 rfl rfl (kSta_0 h_r0_1) ?_
        refine a_iload_n dX6_finishDue_109 rfl rfl ?_
        obtain ⟨q110_0, h⟩ := h
        refine b_iast dX6_finishDue_110 (kSta_18 h_r0_1) (nSta_18 h_r0_1) q110_0 ?_
        have h_r0_2 := Lay.wr h_r0_1 ok_Sta (nrf_arr (kSta_18 h_r0_1) (by decide) (by decide)) (i := (hg H1 a0 8)) (x := x2)
        generalize e_H2 : hs H1 (a0 + 18) (hg H1 a0 8) x2 = H2 at h_r0_2 ⊢
        replace h := h H2 e_H2.symm
        refine a_aload_n dX6_finishDue_111 rfl rfl ?_
        refine a_dup dX6_finishDue_112 rfl ?_
        refine a_getI dX6_finishDue_113 fw_RX6_64 rfl rfl (kSta_0 h_r0_2) ?_
        refine a_iconst dX6_finishDue_116 ⟨by decide, by decide⟩ ?_
        obtain ⟨q117_0, h⟩ := h
        refine a_iadd dX6_finishDue_117 q117_0 ?_
        refine a_putI dX6_finishDue_118 fp_RX6_64 rfl rfl (kSta_0 h_r0_2) ?_
        have h_r0_3 := Lay.wr h_r0_2 ok_Sta (nrf_fld 8 (kSta_0 h_r0_2) (by decide) (by decide)) (i := 8) (x := ((hg H2 a0 8) + 1))
        generalize e_H3 : hs H2 a0 8 ((hg H2 a0 8) + 1) = H3 at h_r0_3 ⊢
        replace h := h H3 e_H3.symm
        obtain ⟨q121_0, h⟩ := h
        refine a_iinc dX6_finishDue_121 rfl (Nat.le_of_ble_eq_true rfl) (by decide) q121_0 (ls' := [vR a0, vI (x1 + 1), vI x2, vI x3]) rfl ?_
        refine a_goto dX6_finishDue_124 (tgt := 2) rfl ?_
        exact a_weak (wk_e (wk_e (wk_u (wk_u wk_n)))) h
      · replace h := h.2 c90
        exact a_vret dX6_finishDue_93 rfl (Nat.le_of_ble_eq_true rfl) (Nat.le_of_ble_eq_true rfl) h
  · replace h := h.2 c25
    refine a_aload_n dX6_finishDue_28 rfl rfl ?_
    refine a_getR dX6_finishDue_29 fw_RX6_29 rfl rfl (kSta_0 hS.1) (rSta_0_4 hS.1) ?_
    refine a_iload_n dX6_finishDue_32 rfl rfl ?_
    obtain ⟨q33_0, h⟩ := h
    refine b_ialdV dX6_finishDue_33 (kSta_15 hS.1) (nSta_15 hS.1) (sk_lt hS q33_0) (sk_15 hS q33_0) ?_
    refine a_iconst dX6_finishDue_34 ⟨by decide, by decide⟩ ?_
    refine a_icmp_ne dX6_finishDue_35 (tgt := 73) rfl (fun c35 => ?_) (fun c35 => ?_)
    · replace h := h.1 c35
      obtain ⟨q73_0, h⟩ := h
      refine a_iinc dX6_finishDue_73 rfl (Nat.le_of_ble_eq_true rfl) (by decide) q73_0 (ls' := [vR a0, vI x1, vI x2, vI (x3 + 1)]) rfl ?_
      refine a_goto dX6_finishDue_76 (tgt := 17) rfl ?_
      exact h
    · replace h := h.2 c35
      refine a_aload_n dX6_finishDue_38 rfl rfl ?_
      refine a_getR dX6_finishDue_39 fw_RX6_32 rfl rfl (kSta_0 hS.1) (rSta_0_5 hS.1) ?_
      refine a_iload_n dX6_finishDue_42 rfl rfl ?_
      obtain ⟨q43_0, h⟩ := h
      refine b_iald dX6_finishDue_43 (kSta_16 hS.1) (nSta_16 hS.1) q43_0 ?_
      refine a_aload_n dX6_finishDue_44 rfl rfl ?_
      refine a_getIV dX6_finishDue_45 fw_RX6_61 rfl rfl (kSta_0 hS.1) (sk_0_2 hS) ?_
      refine a_icmp_gt dX6_finishDue_48 (tgt := 73) rfl (fun c48 => ?_) (fun c48 => ?_)
      · replace h := h.1 c48
        obtain ⟨q73_0, h⟩ := h
        refine a_iinc dX6_finishDue_73 rfl (Nat.le_of_ble_eq_true rfl) (by decide) q73_0 (ls' := [vR a0, vI x1, vI x2, vI (x3 + 1)]) rfl ?_
        refine a_goto dX6_finishDue_76 (tgt := 17) rfl ?_
        exact h
      · replace h := h.2 c48
        refine a_iload_n dX6_finishDue_51 rfl rfl ?_
        refine a_iconst dX6_finishDue_52 ⟨by decide, by decide⟩ ?_
        refine a_icmp_eq dX6_finishDue_53 (tgt := 71) rfl (fun c53 => ?_) (fun c53 => ?_)
        · replace h := h.1 c53
          refine a_iload_n dX6_finishDue_71 rfl rfl ?_
          refine a_istore_n dX6_finishDue_72 rfl (Nat.le_of_ble_eq_true rfl) (ls' := [vR a0, vI x1, vI x3, vI x3]) rfl ?_
          obtain ⟨q73_0, h⟩ := h
          refine a_iinc dX6_finishDue_73 rfl (Nat.le_of_ble_eq_true rfl) (by decide) q73_0 (ls' := [vR a0, vI x1, vI x3, vI (x3 + 1)]) rfl ?_
          refine a_goto dX6_finishDue_76 (tgt := 17) rfl ?_
          exact h
        · replace h := h.2 c53
          refine a_aload_n dX6_finishDue_56 rfl rfl ?_
          refine a_getR dX6_finishDue_57 fw_RX6_32 rfl rfl (kSta_0 hS.1) (rSta_0_5 hS.1) ?_
          refine a_iload_n dX6_finishDue_60 rfl rfl ?_
          refine b_iald dX6_finishDue_61 (kSta_16 hS.1) (nSta_16 hS.1) q43_0 ?_
          refine a_aload_n dX6_finishDue_62 rfl rfl ?_
          refine a_getR dX6_finishDue_63 fw_RX6_32 rfl rfl (kSta_0 hS.1) (rSta_0_5 hS.1) ?_
          refine a_iload_n dX6_finishDue_66 rfl rfl ?_
          obtain ⟨q67_0, h⟩ := h
          refine b_iald dX6_finishDue_67 (kSta_16 hS.1) (nSta_16 hS.1) q67_0 ?_
          refine a_icmp_ge dX6_finishDue_68 (tgt := 73) rfl (fun c68 => ?_) (fun c68 => ?_)
          · replace h := h.1 c68
            obtain ⟨q73_0, h⟩ := h
            refine a_iinc dX6_finishDue_73 rfl (Nat.le_of_ble_eq_true rfl) (by decide) q73_0 (ls' := [vR a0, vI x1, vI x2, vI (x3 + 1)]) rfl ?_
            refine a_goto dX6_finishDue_76 (tgt := 17) rfl ?_
            exact h
          · replace h := h.2 c68
            refine a_iload_n dX6_finishDue_71 rfl rfl ?_
            refine a_istore_n dX6_finishDue_72 rfl (Nat.le_of_ble_eq_true rfl) (ls' := [vR a0, vI x1, vI x3, vI x3]) rfl ?_
            obtain ⟨q73_0, h⟩ := h
            refine a_iinc dX6_finishDue_73 rfl (Nat.le_of_ble_eq_true rfl) (by decide) q73_0 (ls' := [vR a0, vI x1, vI x3, vI (x3 + 1)]) rfl ?_
            refine a_goto dX6_finishDue_76 (tgt := 17) rfl ?_
            exact h


theorem dX2_freezeDue_0 : decode cX2_freezeDue 0 = .ok (.iconst 0, 1) := by decide +kernel
theorem dX2_freezeDue_1 : decode cX2_freezeDue 1 = .ok (.istore_n 2, 1) := by decide +kernel
theorem dX2_freezeDue_2 : decode cX2_freezeDue 2 = .ok (.iload_n 2, 1) := by decide +kernel
theorem dX2_freezeDue_3 : decode cX2_freezeDue 3 = .ok (.aload_n 1, 1) := by decide +kernel
theorem dX2_freezeDue_4 : decode cX2_freezeDue 4 = .ok (.getfield 112, 3) := by decide +kernel
theorem dX2_freezeDue_7 : decode cX2_freezeDue 7 = .ok (.getfield 116, 3) := by decide +kernel
theorem dX2_freezeDue_10 : decode cX2_freezeDue 10 = .ok (.if_icmp .ge 95, 3) := by decide +kernel
theorem dX2_freezeDue_13 : decode cX2_freezeDue 13 = .ok (.aload_n 0, 1) := by decide +kernel
theorem dX2_freezeDue_14 : decode cX2_freezeDue 14 = .ok (.aload_n 1, 1) := by decide +kernel
theorem dX2_freezeDue_15 : decode cX2_freezeDue 15 = .ok (.iload_n 2, 1) := by decide +kernel
theorem dX2_freezeDue_16 : decode cX2_freezeDue 16 = .ok (.invokevirtual 121, 3) := by decide +kernel
theorem dX2_freezeDue_19 : decode cX2_freezeDue 19 = .ok (.iconst 0, 1) := by decide +kernel
theorem dX2_freezeDue_20 : decode cX2_freezeDue 20 = .ok (.istore_n 3, 1) := by decide +kernel
theorem dX2_freezeDue_21 : decode cX2_freezeDue 21 = .ok (.iload_n 3, 1) := by decide +kernel
theorem dX2_freezeDue_22 : decode cX2_freezeDue 22 = .ok (.bipush 24, 2) := by decide +kernel
theorem dX2_freezeDue_24 : decode cX2_freezeDue 24 = .ok (.if_icmp .ge 75, 3) := by decide +kernel
theorem dX2_freezeDue_27 : decode cX2_freezeDue 27 = .ok (.aload_n 1, 1) := by decide +kernel
theorem dX2_freezeDue_28 : decode cX2_freezeDue 28 = .ok (.getfield 105, 3) := by decide +kernel
theorem dX2_freezeDue_31 : decode cX2_freezeDue 31 = .ok (.iload_n 2, 1) := by decide +kernel
theorem dX2_freezeDue_32 : decode cX2_freezeDue 32 = .ok (.iaload, 1) := by decide +kernel
theorem dX2_freezeDue_33 : decode cX2_freezeDue 33 = .ok (.ifCond .le 66, 3) := by decide +kernel
theorem dX2_freezeDue_36 : decode cX2_freezeDue 36 = .ok (.aload_n 1, 1) := by decide +kernel
theorem dX2_freezeDue_37 : decode cX2_freezeDue 37 = .ok (.getfield 96, 3) := by decide +kernel
theorem dX2_freezeDue_40 : decode cX2_freezeDue 40 = .ok (.iload_n 2, 1) := by decide +kernel
theorem dX2_freezeDue_41 : decode cX2_freezeDue 41 = .ok (.bipush 24, 2) := by decide +kernel
theorem dX2_freezeDue_43 : decode cX2_freezeDue 43 = .ok (.imul, 1) := by decide +kernel
theorem dX2_freezeDue_44 : decode cX2_freezeDue 44 = .ok (.iaload, 1) := by decide +kernel
theorem dX2_freezeDue_45 : decode cX2_freezeDue 45 = .ok (.istore 4, 2) := by decide +kernel
theorem dX2_freezeDue_47 : decode cX2_freezeDue 47 = .ok (.aload_n 1, 1) := by decide +kernel
theorem dX2_freezeDue_48 : decode cX2_freezeDue 48 = .ok (.getfield 67, 3) := by decide +kernel
theorem dX2_freezeDue_51 : decode cX2_freezeDue 51 = .ok (.iload 4, 2) := by decide +kernel
theorem dX2_freezeDue_53 : decode cX2_freezeDue 53 = .ok (.iaload, 1) := by decide +kernel
theorem dX2_freezeDue_54 : decode cX2_freezeDue 54 = .ok (.aload_n 1, 1) := by decide +kernel
theorem dX2_freezeDue_55 : decode cX2_freezeDue 55 = .ok (.getfield 64, 3) := by decide +kernel
theorem dX2_freezeDue_58 : decode cX2_freezeDue 58 = .ok (.aload_n 1, 1) := by decide +kernel
theorem dX2_freezeDue_59 : decode cX2_freezeDue 59 = .ok (.getfield 112, 3) := by decide +kernel
theorem dX2_freezeDue_62 : decode cX2_freezeDue 62 = .ok (.getfield 153, 3) := by decide +kernel
theorem dX2_freezeDue_65 : decode cX2_freezeDue 65 = .ok (.iadd, 1) := by decide +kernel
theorem dX2_freezeDue_66 : decode cX2_freezeDue 66 = .ok (.if_icmp .le 6, 3) := by decide +kernel
theorem dX2_freezeDue_69 : decode cX2_freezeDue 69 = .ok (.goto 30, 3) := by decide +kernel
theorem dX2_freezeDue_72 : decode cX2_freezeDue 72 = .ok (.aload_n 1, 1) := by decide +kernel
theorem dX2_freezeDue_73 : decode cX2_freezeDue 73 = .ok (.getfield 46, 3) := by decide +kernel
theorem dX2_freezeDue_76 : decode cX2_freezeDue 76 = .ok (.iload 4, 2) := by decide +kernel
theorem dX2_freezeDue_78 : decode cX2_freezeDue 78 = .ok (.iconst 1, 1) := by decide +kernel
theorem dX2_freezeDue_79 : decode cX2_freezeDue 79 = .ok (.iastore, 1) := by decide +kernel
theorem dX2_freezeDue_80 : decode cX2_freezeDue 80 = .ok (.aload_n 1, 1) := by decide +kernel
theorem dX2_freezeDue_81 : decode cX2_freezeDue 81 = .ok (.getfield 74, 3) := by decide +kernel
theorem dX2_freezeDue_84 : decode cX2_freezeDue 84 = .ok (.iload_n 2, 1) := by decide +kernel
theorem dX2_freezeDue_85 : decode cX2_freezeDue 85 = .ok (.iconst 0, 1) := by decide +kernel
theorem dX2_freezeDue_86 : decode cX2_freezeDue 86 = .ok (.bastore, 1) := by decide +kernel
theorem dX2_freezeDue_87 : decode cX2_freezeDue 87 = .ok (.aload_n 0, 1) := by decide +kernel
theorem dX2_freezeDue_88 : decode cX2_freezeDue 88 = .ok (.aload_n 1, 1) := by decide +kernel
theorem dX2_freezeDue_89 : decode cX2_freezeDue 89 = .ok (.iload_n 2, 1) := by decide +kernel
theorem dX2_freezeDue_90 : decode cX2_freezeDue 90 = .ok (.invokevirtual 121, 3) := by decide +kernel
theorem dX2_freezeDue_93 : decode cX2_freezeDue 93 = .ok (.iinc 3 1, 3) := by decide +kernel
theorem dX2_freezeDue_96 : decode cX2_freezeDue 96 = .ok (.goto (-75), 3) := by decide +kernel
theorem dX2_freezeDue_99 : decode cX2_freezeDue 99 = .ok (.iinc 2 1, 3) := by decide +kernel
theorem dX2_freezeDue_102 : decode cX2_freezeDue 102 = .ok (.goto (-100), 3) := by decide +kernel
theorem dX2_freezeDue_105 : decode cX2_freezeDue 105 = .ok (.return_, 1) := by decide +kernel
set_option maxRecDepth 20000 in
theorem s_X2_freezeDue_0 {l : Launch} {G : GT} {d : Nat} {Q : AV → AH → Prop} {H : AH} {a0 a1 : Int} {M : Row} (hS : SK H a1 M) (h_r0 : Lay LPla H a0) (hsep : a1 + 23 ≤ a0 ∨ a0 + 17 ≤ a1) (h : AW l G mX2_freezeDue (d + 1) 0 0 Q 2 [vR a0, vR a1, vI 0, vU, vU] [] 0 0 H) : AW l G mX2_freezeDue (d + 1) 0 0 Q 0 [vR a0, vR a1, vU, vU, vU] [] 0 0 H := by
  refine a_iconst dX2_freezeDue_0 ⟨by decide, by decide⟩ ?_
  refine a_istore_n dX2_freezeDue_1 rfl (Nat.le_of_ble_eq_true rfl) (ls' := [vR a0, vR a1, vI 0, vU, vU]) rfl ?_
  exact h

set_option maxRecDepth 20000 in
theorem s_X2_freezeDue_2 {l : Launch} {G : GT} {d : Nat} {Q : AV → AH → Prop} {H : AH} {a0 a1 x2 : Int} {M : Row} (hS : SK H a1 M) (h_r0 : Lay LPla H a0) (hsep : a1 + 23 ≤ a0 ∨ a0 + 17 ≤ a1) (h : ((M 5) ≤ x2 → Q vV H) ∧ (x2 < (M 5) → CL l G mX2_refresh d 0 0 [vR a0, vR a1, vI x2] H (fun r9 H1 => Lay LPla H1 a0 ∧ Lay LSta H1 a1 ∧ SK H1 a1 M ∧ r9 = vV ∧ AW l G mX2_freezeDue (d + 1) 0 0 Q 21 [vR a0, vR a1, vI x2, vI 0, vU] [] 0 0 H1))) : AW l G mX2_freezeDue (d + 1) 0 0 Q 2 [vR a0, vR a1, vI x2, vU, vU] [] 0 0 H := by
  refine a_iload_n dX2_freezeDue_2 rfl rfl ?_
  refine a_aload_n dX2_freezeDue_3 rfl rfl ?_
  refine a_getR dX2_freezeDue_4 fw_RX2_112 rfl rfl (kSta_0 hS.1) (rSta_0_0 hS.1) ?_
  refine a_getIV dX2_freezeDue_7 fw_RX2_116 rfl rfl (kSta_1 hS.1) (sk_1_0 hS) ?_
  refine a_icmp_ge dX2_freezeDue_10 (tgt := 105) rfl (fun c10 => ?_) (fun c10 => ?_)
  · replace h := h.1 c10
    exact a_vret dX2_freezeDue_105 rfl (Nat.le_of_ble_eq_true rfl) (Nat.le_of_ble_eq_true rfl) h
  · replace h := h.2 c10
    refine a_aload_n dX2_freezeDue_13 rfl rfl ?_
    refine a_aload_n dX2_freezeDue_14 rfl rfl ?_
    refine a_iload_n dX2_freezeDue_15 rfl rfl ?_
    refine a_callV dX2_freezeDue_16 cw_X2_freezeDue_16 (as := [vR a1, vI x2]) rfl rfl (kPla_0 h_r0) (Nat.le_refl _) (Nat.le_of_ble_eq_true rfl) (nocov rfl) (Nat.le_of_ble_eq_true rfl) (Nat.le_of_ble_eq_true rfl) (CL.mono h (fun r9 H1 h => ?_))
    obtain ⟨h_r0_1, h_r1_1, hSr1_0_1, e9, h⟩ := h
    rw [e9]
    show AW l G mX2_freezeDue (d + 1) 0 0 Q 19 [vR a0, vR a1, vI x2, vU, vU] [] 0 0 H1
    refine a_iconst dX2_freezeDue_19 ⟨by decide, by decide⟩ ?_
    refine a_istore_n dX2_freezeDue_20 rfl (Nat.le_of_ble_eq_true rfl) (ls' := [vR a0, vR a1, vI x2, vI 0, vU]) rfl ?_
    exact h

set_option maxRecDepth 20000 in
theorem s_X2_freezeDue_21 {l : Launch} {G : GT} {d : Nat} {Q : AV → AH → Prop} {H : AH} {a0 a1 x2 x3 : Int} {M : Row} (hS : SK H a1 M) (h_r0 : Lay LPla H a0) (hsep : a1 + 23 ≤ a0 ∨ a0 + 17 ≤ a1) (h : (24 ≤ x3 → (-2147483648 ≤ x2 + 1 ∧ x2 + 1 ≤ 2147483647) ∧ AW l G mX2_freezeDue (d + 1) 0 0 Q 2 [vR a0, vR a1, vI (x2 + 1), vU, vU] [] 0 0 H) ∧ (x3 < 24 → (0 ≤ x2 ∧ x2 < 3) ∧ ((hg H (a1 + 20) x2) ≤ 0 → (-2147483648 ≤ x2 + 1 ∧ x2 + 1 ≤ 2147483647) ∧ AW l G mX2_freezeDue (d + 1) 0 0 Q 2 [vR a0, vR a1, vI (x2 + 1), vU, vU] [] 0 0 H) ∧ (0 < (hg H (a1 + 20) x2) → (-2147483648 ≤ x2 * 24 ∧ x2 * 24 ≤ 2147483647) ∧ (0 ≤ (x2 * 24) ∧ (x2 * 24) < 72) ∧ (0 ≤ (hg H (a1 + 19) (x2 * 24)) ∧ (hg H (a1 + 19) (x2 * 24)) < 24) ∧ (-2147483648 ≤ (M 0) + (M 2) ∧ (M 0) + (M 2) ≤ 2147483647) ∧ ((hg H (a1 + 16) (hg H (a1 + 19) (x2 * 24))) ≤ ((M 0) + (M 2)) → ∀ H1 : AH, H1 = hs H (a1 + 15) (hg H (a1 + 19) (x2 * 24)) 1 → ∀ H2 : AH, H2 = hs H1 (a1 + 21) x2 0 → CL l G mX2_refresh d 0 0 [vR a0, vR a1, vI x2] H2 (fun r9 H3 => Lay LPla H3 a0 ∧ Lay LSta H3 a1 ∧ r9 = vV ∧ (-2147483648 ≤ x3 + 1 ∧ x3 + 1 ≤ 2147483647) ∧ AW l G mX2_freezeDue (d + 1) 0 0 Q 21 [vR a0, vR a1, vI x2, vI (x3 + 1), vU] [] 0 0 H3)) ∧ (((M 0) + (M 2)) < (hg H (a1 + 16) (hg H (a1 + 19) (x2 * 24))) → (-2147483648 ≤ x2 + 1 ∧ x2 + 1 ≤ 2147483647) ∧ AW l G mX2_freezeDue (d + 1) 0 0 Q 2 [vR a0, vR a1, vI (x2 + 1), vU, vU] [] 0 0 H)))) : AW l G mX2_freezeDue (d + 1) 0 0 Q 21 [vR a0, vR a1, vI x2, vI x3, vU] [] 0 0 H := by
  refine a_iload_n dX2_freezeDue_21 rfl rfl ?_
  refine a_bipush dX2_freezeDue_22 (by decide) ?_
  refine a_icmp_ge dX2_freezeDue_24 (tgt := 99) rfl (fun c24 => ?_) (fun c24 => ?_)
  · replace h := h.1 c24
    obtain ⟨q99_0, h⟩ := h
    refine a_iinc dX2_freezeDue_99 rfl (Nat.le_of_ble_eq_true rfl) (by decide) q99_0 (ls' := [vR a0, vR a1, vI (x2 + 1), vI x3, vU]) rfl ?_
    refine a_goto dX2_freezeDue_102 (tgt := 2) rfl ?_
    exact a_weak (wk_e (wk_e (wk_e (wk_u (wk_u wk_n))))) h
  · replace h := h.2 c24
    refine a_aload_n dX2_freezeDue_27 rfl rfl ?_
    refine a_getR dX2_freezeDue_28 fw_RX2_105 rfl rfl (kSta_0 hS.1) (rSta_0_10 hS.1) ?_
    refine a_iload_n dX2_freezeDue_31 rfl rfl ?_
    obtain ⟨q32_0, h⟩ := h
    refine b_iald dX2_freezeDue_32 (kSta_20 hS.1) (nSta_20 hS.1) q32_0 ?_
    refine a_if_le dX2_freezeDue_33 (tgt := 99) rfl (fun c33 => ?_) (fun c33 => ?_)
    · replace h := h.1 c33
      obtain ⟨q99_0, h⟩ := h
      refine a_iinc dX2_freezeDue_99 rfl (Nat.le_of_ble_eq_true rfl) (by decide) q99_0 (ls' := [vR a0, vR a1, vI (x2 + 1), vI x3, vU]) rfl ?_
      refine a_goto dX2_freezeDue_102 (tgt := 2) rfl ?_
      exact a_weak (wk_e (wk_e (wk_e (wk_u (wk_u wk_n))))) h
    · replace h := h.2 c33
      refine a_aload_n dX2_freezeDue_36 rfl rfl ?_
      refine a_getR dX2_freezeDue_37 fw_RX2_96 rfl rfl (kSta_0 hS.1) (rSta_0_9 hS.1) ?_
      refine a_iload_n dX2_freezeDue_40 rfl rfl ?_
      refine a_bipush dX2_freezeDue_41 (by decide) ?_
      obtain ⟨q43_0, h⟩ := h
      refine a_imul dX2_freezeDue_43 q43_0 ?_
      obtain ⟨q44_0, h⟩ := h
      refine b_iald dX2_freezeDue_44 (kSta_19 hS.1) (nSta_19 hS.1) q44_0 ?_
      refine a_istore dX2_freezeDue_45 (Nat.le_of_ble_eq_true rfl) (ls' := [vR a0, vR a1, vI x2, vI x3, vI (hg H (a1 + 19) (x2 * 24))]) rfl ?_
      refine a_aload_n dX2_freezeDue_47 rfl rfl ?_
      refine a_getR dX2_freezeDue_48 fw_RX2_67 rfl rfl (kSta_0 hS.1) (rSta_0_5 hS.1) ?_
      refine a_iload dX2_freezeDue_51 rfl ?_
      obtain ⟨q53_0, h⟩ := h
      refine b_iald dX2_freezeDue_53 (kSta_16 hS.1) (nSta_16 hS.1) q53_0 ?_
      refine a_aload_n dX2_freezeDue_54 rfl rfl ?_
      refine a_getIV dX2_freezeDue_55 fw_RX2_64 rfl rfl (kSta_0 hS.1) (sk_0_2 hS) ?_
      refine a_aload_n dX2_freezeDue_58 rfl rfl ?_
      refine a_getR dX2_freezeDue_59 fw_RX2_112 rfl rfl (kSta_0 hS.1) (rSta_0_0 hS.1) ?_
      refine a_getIV dX2_freezeDue_62 fw_RX2_153 rfl rfl (kSta_1 hS.1) (sk_1_3 hS) ?_
      obtain ⟨q65_0, h⟩ := h
      refine a_iadd dX2_freezeDue_65 q65_0 ?_
      refine a_icmp_le dX2_freezeDue_66 (tgt := 72) rfl (fun c66 => ?_) (fun c66 => ?_)
      · replace h := h.1 c66
        refine a_aload_n dX2_freezeDue_72 rfl rfl ?_
        refine a_getR dX2_freezeDue_73 fw_RX2_46 rfl rfl (kSta_0 hS.1) (rSta_0_4 hS.1) ?_
        refine a_iload dX2_freezeDue_76 rfl ?_
        refine a_iconst dX2_freezeDue_78 ⟨by decide, by decide⟩ ?_
        refine b_iast dX2_freezeDue_79 (kSta_15 hS.1) (nSta_15 hS.1) q53_0 ?_
        have h_r0_1 := Lay.wr h_r0 ok_Pla (nrf_arr (kSta_15 hS.1) (by decide) (by decide)) (i := (hg H (a1 + 19) (x2 * 24))) (x := 1)
        have h_r1_1 := Lay.wr hS.1 ok_Sta (nrf_arr (kSta_15 hS.1) (by decide) (by decide)) (i := (hg H (a1 + 19) (x2 * 24))) (x := 1)
        generalize e_H1 : hs H (a1 + 15) (hg H (a1 + 19) (x2 * 24)) 1 = H1 at h_r0_1 h_r1_1 ⊢
        replace h := h H1 e_H1.symm
        refine a_aload_n dX2_freezeDue_80 rfl rfl ?_
        refine a_getR dX2_freezeDue_81 fw_RX2_74 rfl rfl (kSta_0 h_r1_1) (rSta_0_11 h_r1_1) ?_
        refine a_iload_n dX2_freezeDue_84 rfl rfl ?_
        refine a_iconst dX2_freezeDue_85 ⟨by decide, by decide⟩ ?_
        refine b_zast dX2_freezeDue_86 (kSta_21 h_r1_1) (nSta_21 h_r1_1) q32_0 (by decide) ?_
        have h_r0_2 := Lay.wr h_r0_1 ok_Pla (nrf_arr (kSta_21 h_r1_1) (by decide) (by decide)) (i := x2) (x := 0)
        have h_r1_2 := Lay.wr h_r1_1 ok_Sta (nrf_arr (kSta_21 h_r1_1) (by decide) (by decide)) (i := x2) (x := 0)
        generalize e_H2 : hs H1 (a1 + 21) x2 0 = H2 at h_r0_2 h_r1_2 ⊢
        replace h := h H2 e_H2.symm
        refine a_aload_n dX2_freezeDue_87 rfl rfl ?_
        refine a_aload_n dX2_freezeDue_88 rfl rfl ?_
        refine a_iload_n dX2_freezeDue_89 rfl rfl ?_
        refine a_callV dX2_freezeDue_90 cw_X2_freezeDue_90 (as := [vR a1, vI x2]) rfl rfl (kPla_0 h_r0_2) (Nat.le_refl _) (Nat.le_of_ble_eq_true rfl) (nocov rfl) (Nat.le_of_ble_eq_true rfl) (Nat.le_of_ble_eq_true rfl) (CL.mono h (fun r9 H3 h => ?_))
        obtain ⟨h_r0_3, h_r1_3, e9, h⟩ := h
        rw [e9]
        show AW l G mX2_freezeDue (d + 1) 0 0 Q 93 [vR a0, vR a1, vI x2, vI x3, vI (hg H (a1 + 19) (x2 * 24))] [] 0 0 H3
        obtain ⟨q93_0, h⟩ := h
        refine a_iinc dX2_freezeDue_93 rfl (Nat.le_of_ble_eq_true rfl) (by decide) q93_0 (ls' := [vR a0, vR a1, vI x2, vI (x3 + 1), vI (hg H (a1 + 19) (x2 * 24))]) rfl ?_
        refine a_goto dX2_freezeDue_96 (tgt := 21) rfl ?_
        exact a_weak (wk_e (wk_e (wk_e (wk_e (wk_u wk_n))))) h
      · replace h := h.2 c66
        refine a_goto dX2_freezeDue_69 (tgt := 99) rfl ?_
        obtain ⟨q99_0, h⟩ := h
        refine a_iinc dX2_freezeDue_99 rfl (Nat.le_of_ble_eq_true rfl) (by decide) q99_0 (ls' := [vR a0, vR a1, vI (x2 + 1), vI x3, vI (hg H (a1 + 19) (x2 * 24))]) rfl ?_
        refine a_goto dX2_freezeDue_102 (tgt := 2) rfl ?_
        exact a_weak (wk_e (wk_e (wk_e (wk_u (wk_u wk_n))))) h


theorem dX2_pass_0 : decode cX2_pass 0 = .ok (.aload_n 1, 1) := by decide +kernel
theorem dX2_pass_1 : decode cX2_pass 1 = .ok (.getfield 146, 3) := by decide +kernel
theorem dX2_pass_4 : decode cX2_pass 4 = .ok (.istore_n 3, 1) := by decide +kernel
theorem dX2_pass_5 : decode cX2_pass 5 = .ok (.iconst 0, 1) := by decide +kernel
theorem dX2_pass_6 : decode cX2_pass 6 = .ok (.istore 4, 2) := by decide +kernel
theorem dX2_pass_8 : decode cX2_pass 8 = .ok (.iload 4, 2) := by decide +kernel
theorem dX2_pass_10 : decode cX2_pass 10 = .ok (.sipush 7200, 3) := by decide +kernel
theorem dX2_pass_13 : decode cX2_pass 13 = .ok (.if_icmp .gt 110, 3) := by decide +kernel
theorem dX2_pass_16 : decode cX2_pass 16 = .ok (.aload_n 0, 1) := by decide +kernel
theorem dX2_pass_17 : decode cX2_pass 17 = .ok (.aload_n 1, 1) := by decide +kernel
theorem dX2_pass_18 : decode cX2_pass 18 = .ok (.invokevirtual 149, 3) := by decide +kernel
theorem dX2_pass_21 : decode cX2_pass 21 = .ok (.aload_n 1, 1) := by decide +kernel
theorem dX2_pass_22 : decode cX2_pass 22 = .ok (.getfield 64, 3) := by decide +kernel
theorem dX2_pass_25 : decode cX2_pass 25 = .ok (.iload_n 2, 1) := by decide +kernel
theorem dX2_pass_26 : decode cX2_pass 26 = .ok (.if_icmp .lt 6, 3) := by decide +kernel
theorem dX2_pass_29 : decode cX2_pass 29 = .ok (.goto 94, 3) := by decide +kernel
theorem dX2_pass_32 : decode cX2_pass 32 = .ok (.iload_n 2, 1) := by decide +kernel
theorem dX2_pass_33 : decode cX2_pass 33 = .ok (.istore 5, 2) := by decide +kernel
theorem dX2_pass_35 : decode cX2_pass 35 = .ok (.iconst 0, 1) := by decide +kernel
theorem dX2_pass_36 : decode cX2_pass 36 = .ok (.istore 6, 2) := by decide +kernel
theorem dX2_pass_38 : decode cX2_pass 38 = .ok (.iload 6, 2) := by decide +kernel
theorem dX2_pass_40 : decode cX2_pass 40 = .ok (.aload_n 1, 1) := by decide +kernel
theorem dX2_pass_41 : decode cX2_pass 41 = .ok (.getfield 112, 3) := by decide +kernel
theorem dX2_pass_44 : decode cX2_pass 44 = .ok (.getfield 116, 3) := by decide +kernel
theorem dX2_pass_47 : decode cX2_pass 47 = .ok (.if_icmp .ge 60, 3) := by decide +kernel
theorem dX2_pass_50 : decode cX2_pass 50 = .ok (.aload_n 1, 1) := by decide +kernel
theorem dX2_pass_51 : decode cX2_pass 51 = .ok (.getfield 105, 3) := by decide +kernel
theorem dX2_pass_54 : decode cX2_pass 54 = .ok (.iload 6, 2) := by decide +kernel
theorem dX2_pass_56 : decode cX2_pass 56 = .ok (.iaload, 1) := by decide +kernel
theorem dX2_pass_57 : decode cX2_pass 57 = .ok (.ifCond .le 44, 3) := by decide +kernel
theorem dX2_pass_60 : decode cX2_pass 60 = .ok (.aload_n 1, 1) := by decide +kernel
theorem dX2_pass_61 : decode cX2_pass 61 = .ok (.getfield 67, 3) := by decide +kernel
theorem dX2_pass_64 : decode cX2_pass 64 = .ok (.aload_n 1, 1) := by decide +kernel
theorem dX2_pass_65 : decode cX2_pass 65 = .ok (.getfield 96, 3) := by decide +kernel
theorem dX2_pass_68 : decode cX2_pass 68 = .ok (.iload 6, 2) := by decide +kernel
theorem dX2_pass_70 : decode cX2_pass 70 = .ok (.bipush 24, 2) := by decide +kernel
theorem dX2_pass_72 : decode cX2_pass 72 = .ok (.imul, 1) := by decide +kernel
theorem dX2_pass_73 : decode cX2_pass 73 = .ok (.iaload, 1) := by decide +kernel
theorem dX2_pass_74 : decode cX2_pass 74 = .ok (.iaload, 1) := by decide +kernel
theorem dX2_pass_75 : decode cX2_pass 75 = .ok (.aload_n 1, 1) := by decide +kernel
theorem dX2_pass_76 : decode cX2_pass 76 = .ok (.getfield 112, 3) := by decide +kernel
theorem dX2_pass_79 : decode cX2_pass 79 = .ok (.getfield 153, 3) := by decide +kernel
theorem dX2_pass_82 : decode cX2_pass 82 = .ok (.isub, 1) := by decide +kernel
theorem dX2_pass_83 : decode cX2_pass 83 = .ok (.istore 7, 2) := by decide +kernel
theorem dX2_pass_85 : decode cX2_pass 85 = .ok (.iload 7, 2) := by decide +kernel
theorem dX2_pass_87 : decode cX2_pass 87 = .ok (.iload 5, 2) := by decide +kernel
theorem dX2_pass_89 : decode cX2_pass 89 = .ok (.if_icmp .ge 8, 3) := by decide +kernel
theorem dX2_pass_92 : decode cX2_pass 92 = .ok (.iload 7, 2) := by decide +kernel
theorem dX2_pass_94 : decode cX2_pass 94 = .ok (.goto 5, 3) := by decide +kernel
theorem dX2_pass_97 : decode cX2_pass 97 = .ok (.iload 5, 2) := by decide +kernel
theorem dX2_pass_99 : decode cX2_pass 99 = .ok (.istore 5, 2) := by decide +kernel
theorem dX2_pass_101 : decode cX2_pass 101 = .ok (.iinc 6 1, 3) := by decide +kernel
theorem dX2_pass_104 : decode cX2_pass 104 = .ok (.goto (-66), 3) := by decide +kernel
theorem dX2_pass_107 : decode cX2_pass 107 = .ok (.aload_n 1, 1) := by decide +kernel
theorem dX2_pass_108 : decode cX2_pass 108 = .ok (.iload 5, 2) := by decide +kernel
theorem dX2_pass_110 : decode cX2_pass 110 = .ok (.invokevirtual 156, 3) := by decide +kernel
theorem dX2_pass_113 : decode cX2_pass 113 = .ok (.aload_n 1, 1) := by decide +kernel
theorem dX2_pass_114 : decode cX2_pass 114 = .ok (.invokevirtual 160, 3) := by decide +kernel
theorem dX2_pass_117 : decode cX2_pass 117 = .ok (.iinc 4 1, 3) := by decide +kernel
theorem dX2_pass_120 : decode cX2_pass 120 = .ok (.goto (-112), 3) := by decide +kernel
theorem dX2_pass_123 : decode cX2_pass 123 = .ok (.aload_n 1, 1) := by decide +kernel
theorem dX2_pass_124 : decode cX2_pass 124 = .ok (.getfield 146, 3) := by decide +kernel
theorem dX2_pass_127 : decode cX2_pass 127 = .ok (.iload_n 3, 1) := by decide +kernel
theorem dX2_pass_128 : decode cX2_pass 128 = .ok (.isub, 1) := by decide +kernel
theorem dX2_pass_129 : decode cX2_pass 129 = .ok (.ireturn, 1) := by decide +kernel
set_option maxRecDepth 20000 in
theorem s_X2_pass_0 {l : Launch} {G : GT} {d : Nat} {Q : AV → AH → Prop} {H : AH} {a0 a1 x2 : Int} {M : Row} (hS : SK H a1 M) (h_r0 : Lay LPla H a0) (hsep : a1 + 23 ≤ a0 ∨ a0 + 17 ≤ a1) (h : AW l G mX2_pass (d + 1) 0 0 Q 8 [vR a0, vR a1, vI x2, vI (M 7), vI 0, vU, vU, vU] [] 0 0 H) : AW l G mX2_pass (d + 1) 0 0 Q 0 [vR a0, vR a1, vI x2, vU, vU, vU, vU, vU] [] 0 0 H := by
  refine a_aload_n dX2_pass_0 rfl rfl ?_
  refine a_getIV dX2_pass_1 fw_RX2_146 rfl rfl (kSta_0 hS.1) (sk_0_8 hS) ?_
  refine a_istore_n dX2_pass_4 rfl (Nat.le_of_ble_eq_true rfl) (ls' := [vR a0, vR a1, vI x2, vI (M 7), vU, vU, vU, vU]) rfl ?_
  refine a_iconst dX2_pass_5 ⟨by decide, by decide⟩ ?_
  refine a_istore dX2_pass_6 (Nat.le_of_ble_eq_true rfl) (ls' := [vR a0, vR a1, vI x2, vI (M 7), vI 0, vU, vU, vU]) rfl ?_
  exact h

set_option maxRecDepth 20000 in
theorem s_X2_pass_8 {l : Launch} {G : GT} {d : Nat} {Q : AV → AH → Prop} {H : AH} {a0 a1 x2 x3 x4 : Int} {M : Row} (hS : SK H a1 M) (h_r0 : Lay LPla H a0) (hsep : a1 + 23 ≤ a0 ∨ a0 + 17 ≤ a1) (h : (7200 < x4 → (-2147483648 ≤ (M 7) - x3 ∧ (M 7) - x3 ≤ 2147483647) ∧ Q (vI ((M 7) - x3)) H) ∧ (x4 ≤ 7200 → CL l G mX2_freezeDue d 0 0 [vR a0, vR a1] H (fun r9 H1 => ∃ M1 : Row, Lay LPla H1 a0 ∧ Lay LSta H1 a1 ∧ SK H1 a1 M1 ∧ r9 = vV ∧ ((M1 0) < x2 → AW l G mX2_pass (d + 1) 0 0 Q 38 [vR a0, vR a1, vI x2, vI x3, vI x4, vI x2, vI 0, vU] [] 0 0 H1) ∧ (x2 ≤ (M1 0) → (-2147483648 ≤ (M1 7) - x3 ∧ (M1 7) - x3 ≤ 2147483647) ∧ Q (vI ((M1 7) - x3)) H1)))) : AW l G mX2_pass (d + 1) 0 0 Q 8 [vR a0, vR a1, vI x2, vI x3, vI x4, vU, vU, vU] [] 0 0 H := by
  refine a_iload dX2_pass_8 rfl ?_
  refine a_sipush dX2_pass_10 (by decide) ?_
  refine a_icmp_gt dX2_pass_13 (tgt := 123) rfl (fun c13 => ?_) (fun c13 => ?_)
  · replace h := h.1 c13
    refine a_aload_n dX2_pass_123 rfl rfl ?_
    refine a_getIV dX2_pass_124 fw_RX2_146 rfl rfl (kSta_0 hS.1) (sk_0_8 hS) ?_
    refine a_iload_n dX2_pass_127 rfl rfl ?_
    obtain ⟨q128_0, h⟩ := h
    refine a_isub dX2_pass_128 q128_0 ?_
    exact a_iret dX2_pass_129 rfl (Nat.le_of_ble_eq_true rfl) (Nat.le_of_ble_eq_true rfl) h
  · replace h := h.2 c13
    refine a_aload_n dX2_pass_16 rfl rfl ?_
    refine a_aload_n dX2_pass_17 rfl rfl ?_
    refine a_callV dX2_pass_18 cw_X2_pass_18 (as := [vR a1]) rfl rfl (kPla_0 h_r0) (Nat.le_refl _) (Nat.le_of_ble_eq_true rfl) (nocov rfl) (Nat.le_of_ble_eq_true rfl) (Nat.le_of_ble_eq_true rfl) (CL.mono h (fun r9 H1 h => ?_))
    obtain ⟨M1, h_r0_1, h_r1_1, hSr1_0_1, e9, h⟩ := h
    rw [e9]
    show AW l G mX2_pass (d + 1) 0 0 Q 21 [vR a0, vR a1, vI x2, vI x3, vI x4, vU, vU, vU] [] 0 0 H1
    refine a_aload_n dX2_pass_21 rfl rfl ?_
    refine a_getIV dX2_pass_22 fw_RX2_64 rfl rfl (kSta_0 h_r1_1) (sk_0_2 hSr1_0_1) ?_
    refine a_iload_n dX2_pass_25 rfl rfl ?_
    refine a_icmp_lt dX2_pass_26 (tgt := 32) rfl (fun c26 => ?_) (fun c26 => ?_)
    · replace h := h.1 c26
      refine a_iload_n dX2_pass_32 rfl rfl ?_
      refine a_istore dX2_pass_33 (Nat.le_of_ble_eq_true rfl) (ls' := [vR a0, vR a1, vI x2, vI x3, vI x4, vI x2, vU, vU]) rfl ?_
      refine a_iconst dX2_pass_35 ⟨by decide, by decide⟩ ?_
      refine a_istore dX2_pass_36 (Nat.le_of_ble_eq_true rfl) (ls' := [vR a0, vR a1, vI x2, vI x3, vI x4, vI x2, vI 0, vU]) rfl ?_
      exact h
    · replace h := h.2 c26
      refine a_goto dX2_pass_29 (tgt := 123) rfl ?_
      refine a_aload_n dX2_pass_123 rfl rfl ?_
      refine a_getIV dX2_pass_124 fw_RX2_146 rfl rfl (kSta_0 h_r1_1) (sk_0_8 hSr1_0_1) ?_
      refine a_iload_n dX2_pass_127 rfl rfl ?_
      obtain ⟨q128_0, h⟩ := h
      refine a_isub dX2_pass_128 q128_0 ?_
      exact a_iret dX2_pass_129 rfl (Nat.le_of_ble_eq_true rfl) (Nat.le_of_ble_eq_true rfl) h

set_option maxRecDepth 20000 in
theorem s_X2_pass_38 {l : Launch} {G : GT} {d : Nat} {Q : AV → AH → Prop} {H : AH} {a0 a1 x2 x3 x4 x5 x6 : Int} {M : Row} (hS : SK H a1 M) (h_r0 : Lay LPla H a0) (hsep : a1 + 23 ≤ a0 ∨ a0 + 17 ≤ a1) (h : ((M 5) ≤ x6 → CL l G mX6_moveClock d 0 0 [vR a1, vI x5] H (fun r9 H1 => ∃ M1 : Row, Lay LPla H1 a0 ∧ Lay LSta H1 a1 ∧ SK H1 a1 M1 ∧ r9 = vV ∧ CL l G mX6_finishDue d 0 0 [vR a1] H1 (fun r9 H2 => ∃ M2 : Row, Lay LPla H2 a0 ∧ Lay LSta H2 a1 ∧ SK H2 a1 M2 ∧ r9 = vV ∧ (-2147483648 ≤ x4 + 1 ∧ x4 + 1 ≤ 2147483647) ∧ AW l G mX2_pass (d + 1) 0 0 Q 8 [vR a0, vR a1, vI x2, vI x3, vI (x4 + 1), vU, vU, vU] [] 0 0 H2))) ∧ (x6 < (M 5) → (0 ≤ x6 ∧ x6 < 3) ∧ ((hg H (a1 + 20) x6) ≤ 0 → (-2147483648 ≤ x6 + 1 ∧ x6 + 1 ≤ 2147483647) ∧ AW l G mX2_pass (d + 1) 0 0 Q 38 [vR a0, vR a1, vI x2, vI x3, vI x4, vI x5, vI (x6 + 1), vU] [] 0 0 H) ∧ (0 < (hg H (a1 + 20) x6) → (-2147483648 ≤ x6 * 24 ∧ x6 * 24 ≤ 2147483647) ∧ (0 ≤ (x6 * 24) ∧ (x6 * 24) < 72) ∧ (0 ≤ (hg H (a1 + 19) (x6 * 24)) ∧ (hg H (a1 + 19) (x6 * 24)) < 24) ∧ (-2147483648 ≤ (hg H (a1 + 16) (hg H (a1 + 19) (x6 * 24))) - (M 2) ∧ (hg H (a1 + 16) (hg H (a1 + 19) (x6 * 24))) - (M 2) ≤ 2147483647) ∧ (x5 ≤ ((hg H (a1 + 16) (hg H (a1 + 19) (x6 * 24))) - (M 2)) → (-2147483648 ≤ x6 + 1 ∧ x6 + 1 ≤ 2147483647) ∧ AW l G mX2_pass (d + 1) 0 0 Q 38 [vR a0, vR a1, vI x2, vI x3, vI x4, vI x5, vI (x6 + 1), vU] [] 0 0 H) ∧ (((hg H (a1 + 16) (hg H (a1 + 19) (x6 * 24))) - (M 2)) < x5 → (-2147483648 ≤ x6 + 1 ∧ x6 + 1 ≤ 2147483647) ∧ AW l G mX2_pass (d + 1) 0 0 Q 38 [vR a0, vR a1, vI x2, vI x3, vI x4, vI ((hg H (a1 + 16) (hg H (a1 + 19) (x6 * 24))) - (M 2)), vI (x6 + 1), vU] [] 0 0 H)))) : AW l G mX2_pass (d + 1) 0 0 Q 38 [vR a0, vR a1, vI x2, vI x3, vI x4, vI x5, vI x6, vU] [] 0 0 H := by
  refine a_iload dX2_pass_38 rfl ?_
  refine a_aload_n dX2_pass_40 rfl rfl ?_
  refine a_getR dX2_pass_41 fw_RX2_112 rfl rfl (kSta_0 hS.1) (rSta_0_0 hS.1) ?_
  refine a_getIV dX2_pass_44 fw_RX2_116 rfl rfl (kSta_1 hS.1) (sk_1_0 hS) ?_
  refine a_icmp_ge dX2_pass_47 (tgt := 107) rfl (fun c47 => ?_) (fun c47 => ?_)
  · replace h := h.1 c47
    refine a_aload_n dX2_pass_107 rfl rfl ?_
    refine a_iload dX2_pass_108 rfl ?_
    refine a_callV dX2_pass_110 cw_X2_pass_110 (as := [vI x5]) rfl rfl (kSta_0 hS.1) (Nat.le_refl _) (Nat.le_of_ble_eq_true rfl) (nocov rfl) (Nat.le_of_ble_eq_true rfl) (Nat.le_of_ble_eq_true rfl) (CL.mono h (fun r9 H1 h => ?_))
    obtain ⟨M1, h_r0_1, h_r1_1, hSr1_0_1, e9, h⟩ := h
    rw [e9]
    show AW l G mX2_pass (d + 1) 0 0 Q 113 [vR a0, vR a1, vI x2, vI x3, vI x4, vI x5, vI x6, vU] [] 0 0 H1
    refine a_aload_n dX2_pass_113 rfl rfl ?_
    refine a_callV dX2_pass_114 cw_X2_pass_114 (as := []) rfl rfl (kSta_0 h_r1_1) (Nat.le_refl _) (Nat.le_of_ble_eq_true rfl) (nocov rfl) (Nat.le_of_ble_eq_true rfl) (Nat.le_of_ble_eq_true rfl) (CL.mono h (fun r9 H2 h => ?_))
    obtain ⟨M2, h_r0_2, h_r1_2, hSr1_0_2, e9, h⟩ := h
    rw [e9]
    show AW l G mX2_pass (d + 1) 0 0 Q 117 [vR a0, vR a1, vI x2, vI x3, vI x4, vI x5, vI x6, vU] [] 0 0 H2
    obtain ⟨q117_0, h⟩ := h
    refine a_iinc dX2_pass_117 rfl (Nat.le_of_ble_eq_true rfl) (by decide) q117_0 (ls' := [vR a0, vR a1, vI x2, vI x3, vI (x4 + 1), vI x5, vI x6, vU]) rfl ?_
    refine a_goto dX2_pass_120 (tgt := 8) rfl ?_
    exact a_weak (wk_e (wk_e (wk_e (wk_e (wk_e (wk_u (wk_u (wk_u wk_n)))))))) h
  · replace h := h.2 c47
    refine a_aload_n dX2_pass_50 rfl rfl ?_
    refine a_getR dX2_pass_51 fw_RX2_105 rfl rfl (kSta_0 hS.1) (rSta_0_10 hS.1) ?_
    refine a_iload dX2_pass_54 rfl ?_
    obtain ⟨q56_0, h⟩ := h
    refine b_iald dX2_pass_56 (kSta_20 hS.1) (nSta_20 hS.1) q56_0 ?_
    refine a_if_le dX2_pass_57 (tgt := 101) rfl (fun c57 => ?_) (fun c57 => ?_)
    · replace h := h.1 c57
      obtain ⟨q101_0, h⟩ := h
      refine a_iinc dX2_pass_101 rfl (Nat.le_of_ble_eq_true rfl) (by decide) q101_0 (ls' := [vR a0, vR a1, vI x2, vI x3, vI x4, vI x5, vI (x6 + 1), vU]) rfl ?_
      refine a_goto dX2_pass_104 (tgt := 38) rfl ?_
      exact h
    · replace h := h.2 c57
      refine a_aload_n dX2_pass_60 rfl rfl ?_
      refine a_getR dX2_pass_61 fw_RX2_67 rfl rfl (kSta_0 hS.1) (rSta_0_5 hS.1) ?_
      refine a_aload_n dX2_pass_64 rfl rfl ?_
      refine a_getR dX2_pass_65 fw_RX2_96 rfl rfl (kSta_0 hS.1) (rSta_0_9 hS.1) ?_
      refine a_iload dX2_pass_68 rfl ?_
      refine a_bipush dX2_pass_70 (by decide) ?_
      obtain ⟨q72_0, h⟩ := h
      refine a_imul dX2_pass_72 q72_0 ?_
      obtain ⟨q73_0, h⟩ := h
      refine b_iald dX2_pass_73 (kSta_19 hS.1) (nSta_19 hS.1) q73_0 ?_
      obtain ⟨q74_0, h⟩ := h
      refine b_iald dX2_pass_74 (kSta_16 hS.1) (nSta_16 hS.1) q74_0 ?_
      refine a_aload_n dX2_pass_75 rfl rfl ?_
      refine a_getR dX2_pass_76 fw_RX2_112 rfl rfl (kSta_0 hS.1) (rSta_0_0 hS.1) ?_
      refine a_getIV dX2_pass_79 fw_RX2_153 rfl rfl (kSta_1 hS.1) (sk_1_3 hS) ?_
      obtain ⟨q82_0, h⟩ := h
      refine a_isub dX2_pass_82 q82_0 ?_
      refine a_istore dX2_pass_83 (Nat.le_of_ble_eq_true rfl) (ls' := [vR a0, vR a1, vI x2, vI x3, vI x4, vI x5, vI x6, vI ((hg H (a1 + 16) (hg H (a1 + 19) (x6 * 24))) - (M 2))]) rfl ?_
      refine a_iload dX2_pass_85 rfl ?_
      refine a_iload dX2_pass_87 rfl ?_
      refine a_icmp_ge dX2_pass_89 (tgt := 97) rfl (fun c89 => ?_) (fun c89 => ?_)
      · replace h := h.1 c89
        refine a_iload dX2_pass_97 rfl ?_
        refine a_istore dX2_pass_99 (Nat.le_of_ble_eq_true rfl) (ls' := [vR a0, vR a1, vI x2, vI x3, vI x4, vI x5, vI x6, vI ((hg H (a1 + 16) (hg H (a1 + 19) (x6 * 24))) - (M 2))]) rfl ?_
        obtain ⟨q101_0, h⟩ := h
        refine a_iinc dX2_pass_101 rfl (Nat.le_of_ble_eq_true rfl) (by decide) q101_0 (ls' := [vR a0, vR a1, vI x2, vI x3, vI x4, vI x5, vI (x6 + 1), vI ((hg H (a1 + 16) (hg H (a1 + 19) (x6 * 24))) - (M 2))]) rfl ?_
        refine a_goto dX2_pass_104 (tgt := 38) rfl ?_
        exact a_weak (wk_e (wk_e (wk_e (wk_e (wk_e (wk_e (wk_e (wk_u wk_n)))))))) h
      · replace h := h.2 c89
        refine a_iload dX2_pass_92 rfl ?_
        refine a_goto dX2_pass_94 (tgt := 99) rfl ?_
        refine a_istore dX2_pass_99 (Nat.le_of_ble_eq_true rfl) (ls' := [vR a0, vR a1, vI x2, vI x3, vI x4, vI ((hg H (a1 + 16) (hg H (a1 + 19) (x6 * 24))) - (M 2)), vI x6, vI ((hg H (a1 + 16) (hg H (a1 + 19) (x6 * 24))) - (M 2))]) rfl ?_
        obtain ⟨q101_0, h⟩ := h
        refine a_iinc dX2_pass_101 rfl (Nat.le_of_ble_eq_true rfl) (by decide) q101_0 (ls' := [vR a0, vR a1, vI x2, vI x3, vI x4, vI ((hg H (a1 + 16) (hg H (a1 + 19) (x6 * 24))) - (M 2)), vI (x6 + 1), vI ((hg H (a1 + 16) (hg H (a1 + 19) (x6 * 24))) - (M 2))]) rfl ?_
        refine a_goto dX2_pass_104 (tgt := 38) rfl ?_
        exact a_weak (wk_e (wk_e (wk_e (wk_e (wk_e (wk_e (wk_e (wk_u wk_n)))))))) h


