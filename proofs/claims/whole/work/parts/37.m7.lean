theorem dX8_meanDelay_0 : decode cX8_meanDelay 0 = .ok (.aload_n 0, 1) := by decide +kernel
theorem dX8_meanDelay_1 : decode cX8_meanDelay 1 = .ok (.iconst 0, 1) := by decide +kernel
theorem dX8_meanDelay_2 : decode cX8_meanDelay 2 = .ok (.putfield 55, 3) := by decide +kernel
theorem dX8_meanDelay_5 : decode cX8_meanDelay 5 = .ok (.aload_n 0, 1) := by decide +kernel
theorem dX8_meanDelay_6 : decode cX8_meanDelay 6 = .ok (.invokevirtual 291, 3) := by decide +kernel
theorem dX8_meanDelay_9 : decode cX8_meanDelay 9 = .ok (.freturn, 1) := by decide +kernel
set_option maxRecDepth 20000 in
theorem s_X8_meanDelay_0 {l : Launch} {G : GT} {d : Nat} {Q : AV → AH → Prop} {H : AH} {a0 : Int} {M : Row} (hW : MW H a0 M) (h : ∀ H1 : AH, H1 = hs H a0 5 0 → ∀ H2 : AH, only H1 H2 (pMks a0) → MW H2 a0 M → Q (vF (vMean M)) H2) (hd : 16 ≤ d := by omega) : AW l G mX8_meanDelay (d + 1) 0 0 Q 0 [vR a0] [] 0 0 H := by
  refine a_aload_n dX8_meanDelay_0 rfl rfl ?_
  refine a_iconst dX8_meanDelay_1 ⟨by decide, by decide⟩ ?_
  refine a_putI dX8_meanDelay_2 fp_RX8_55 rfl rfl (kMod_0 hW.1) ?_
  have h_r0_1 := Lay.wr hW.1 ok_Mod (nrf_fld 5 (kMod_0 hW.1) (by decide) (by decide)) (i := 5) (x := 0)
  generalize e_H1 : hs H a0 5 0 = H1 at h_r0_1 ⊢
  replace h := h H1 e_H1.symm
  have row_H1 := (show rowM H1 a0 = _ from by rw [← e_H1, rowM_ne (by omega), hW.2.1])
  have mk_H1 := (show okM _ ∧ mkd H1 a0 from by rw [← e_H1]; exact ⟨hW.2.2.1, mkd_wr hW.2.2.2 (by omega) (by omega) (by omega)⟩)
  refine a_aload_n dX8_meanDelay_5 rfl rfl ?_
  refine a_callV dX8_meanDelay_6 cw_X8_meanDelay_6 (as := []) rfl rfl (kMod_0 h_r0_1) (Nat.le_refl _) (Nat.le_of_ble_eq_true rfl) (nocov rfl) (Nat.le_of_ble_eq_true rfl) (Nat.le_of_ble_eq_true rfl) (CL.mono (c_mean (show MW H1 a0 M from ⟨h_r0_1, row_H1, mk_H1⟩) ) (fun r9 H2 h9 => ?_))
  obtain ⟨e9, o_H2, hW_H2⟩ := h9
  rw [e9]
  replace h := h H2 o_H2 hW_H2
  show AW l G mX8_meanDelay (d + 1) 0 0 Q 9 [vR a0] [vF (vMean M)] 0 0 H2
  exact a_fret dX8_meanDelay_9 rfl (Nat.le_of_ble_eq_true rfl) (Nat.le_of_ble_eq_true rfl) h

theorem c_meanDelay {l : Launch} {G : GT} {d : Nat} {H : AH} {a : Int} {M : Row} (hW : MW H a M) (hd : 17 ≤ d := by omega) : CL l G mX8_meanDelay d 0 0 [vR a] H (pubP a M (vF (vMean M)) 0 H) := by
  obtain ⟨d, rfl⟩ : ∃ k, d = k + 1 := ⟨d - 1, by omega⟩
  exact CL.of (by decide) rfl (Nat.le_of_ble_eq_true rfl) (s_X8_meanDelay_0 hW fun H1 e1 H2 o2 w2 => ⟨rfl, pbq (pb1 hW e1) o2 w2⟩)

theorem dX8_freezes_0 : decode cX8_freezes 0 = .ok (.iconst 0, 1) := by decide +kernel
theorem dX8_freezes_1 : decode cX8_freezes 1 = .ok (.istore_n 1, 1) := by decide +kernel
theorem dX8_freezes_2 : decode cX8_freezes 2 = .ok (.iload_n 1, 1) := by decide +kernel
theorem dX8_freezes_3 : decode cX8_freezes 3 = .ok (.aload_n 0, 1) := by decide +kernel
theorem dX8_freezes_4 : decode cX8_freezes 4 = .ok (.getfield 9, 3) := by decide +kernel
theorem dX8_freezes_7 : decode cX8_freezes 7 = .ok (.iconst 5, 1) := by decide +kernel
theorem dX8_freezes_8 : decode cX8_freezes 8 = .ok (.iaload, 1) := by decide +kernel
theorem dX8_freezes_9 : decode cX8_freezes 9 = .ok (.if_icmp .ge 92, 3) := by decide +kernel
theorem dX8_freezes_12 : decode cX8_freezes 12 = .ok (.aload_n 0, 1) := by decide +kernel
theorem dX8_freezes_13 : decode cX8_freezes 13 = .ok (.invokevirtual 261, 3) := by decide +kernel
theorem dX8_freezes_16 : decode cX8_freezes 16 = .ok (.aload_n 0, 1) := by decide +kernel
theorem dX8_freezes_17 : decode cX8_freezes 17 = .ok (.getfield 30, 3) := by decide +kernel
theorem dX8_freezes_20 : decode cX8_freezes 20 = .ok (.iload_n 1, 1) := by decide +kernel
theorem dX8_freezes_21 : decode cX8_freezes 21 = .ok (.iaload, 1) := by decide +kernel
theorem dX8_freezes_22 : decode cX8_freezes 22 = .ok (.ifCond .le 73, 3) := by decide +kernel
theorem dX8_freezes_25 : decode cX8_freezes 25 = .ok (.aload_n 0, 1) := by decide +kernel
theorem dX8_freezes_26 : decode cX8_freezes 26 = .ok (.getfield 39, 3) := by decide +kernel
theorem dX8_freezes_29 : decode cX8_freezes 29 = .ok (.aload_n 0, 1) := by decide +kernel
theorem dX8_freezes_30 : decode cX8_freezes 30 = .ok (.getfield 36, 3) := by decide +kernel
theorem dX8_freezes_33 : decode cX8_freezes 33 = .ok (.bipush 24, 2) := by decide +kernel
theorem dX8_freezes_35 : decode cX8_freezes 35 = .ok (.iload_n 1, 1) := by decide +kernel
theorem dX8_freezes_36 : decode cX8_freezes 36 = .ok (.imul, 1) := by decide +kernel
theorem dX8_freezes_37 : decode cX8_freezes 37 = .ok (.iaload, 1) := by decide +kernel
theorem dX8_freezes_38 : decode cX8_freezes 38 = .ok (.iaload, 1) := by decide +kernel
theorem dX8_freezes_39 : decode cX8_freezes 39 = .ok (.aload_n 0, 1) := by decide +kernel
theorem dX8_freezes_40 : decode cX8_freezes 40 = .ok (.getfield 9, 3) := by decide +kernel
theorem dX8_freezes_43 : decode cX8_freezes 43 = .ok (.iconst 0, 1) := by decide +kernel
theorem dX8_freezes_44 : decode cX8_freezes 44 = .ok (.iaload, 1) := by decide +kernel
theorem dX8_freezes_45 : decode cX8_freezes 45 = .ok (.aload_n 0, 1) := by decide +kernel
theorem dX8_freezes_46 : decode cX8_freezes 46 = .ok (.getfield 9, 3) := by decide +kernel
theorem dX8_freezes_49 : decode cX8_freezes 49 = .ok (.iconst 2, 1) := by decide +kernel
theorem dX8_freezes_50 : decode cX8_freezes 50 = .ok (.iaload, 1) := by decide +kernel
theorem dX8_freezes_51 : decode cX8_freezes 51 = .ok (.iadd, 1) := by decide +kernel
theorem dX8_freezes_52 : decode cX8_freezes 52 = .ok (.if_icmp .gt 43, 3) := by decide +kernel
theorem dX8_freezes_55 : decode cX8_freezes 55 = .ok (.aload_n 0, 1) := by decide +kernel
theorem dX8_freezes_56 : decode cX8_freezes 56 = .ok (.getfield 36, 3) := by decide +kernel
theorem dX8_freezes_59 : decode cX8_freezes 59 = .ok (.bipush 24, 2) := by decide +kernel
theorem dX8_freezes_61 : decode cX8_freezes 61 = .ok (.iload_n 1, 1) := by decide +kernel
theorem dX8_freezes_62 : decode cX8_freezes 62 = .ok (.imul, 1) := by decide +kernel
theorem dX8_freezes_63 : decode cX8_freezes 63 = .ok (.iaload, 1) := by decide +kernel
theorem dX8_freezes_64 : decode cX8_freezes 64 = .ok (.istore_n 2, 1) := by decide +kernel
theorem dX8_freezes_65 : decode cX8_freezes 65 = .ok (.aload_n 0, 1) := by decide +kernel
theorem dX8_freezes_66 : decode cX8_freezes 66 = .ok (.getfield 39, 3) := by decide +kernel
theorem dX8_freezes_69 : decode cX8_freezes 69 = .ok (.iload_n 2, 1) := by decide +kernel
theorem dX8_freezes_70 : decode cX8_freezes 70 = .ok (.iaload, 1) := by decide +kernel
theorem dX8_freezes_71 : decode cX8_freezes 71 = .ok (.istore_n 3, 1) := by decide +kernel
theorem dX8_freezes_72 : decode cX8_freezes 72 = .ok (.aload_n 0, 1) := by decide +kernel
theorem dX8_freezes_73 : decode cX8_freezes 73 = .ok (.iload_n 2, 1) := by decide +kernel
theorem dX8_freezes_74 : decode cX8_freezes 74 = .ok (.bipush 8, 2) := by decide +kernel
theorem dX8_freezes_76 : decode cX8_freezes 76 = .ok (.iload_n 3, 1) := by decide +kernel
theorem dX8_freezes_77 : decode cX8_freezes 77 = .ok (.invokevirtual 315, 3) := by decide +kernel
theorem dX8_freezes_80 : decode cX8_freezes 80 = .ok (.aload_n 0, 1) := by decide +kernel
theorem dX8_freezes_81 : decode cX8_freezes 81 = .ok (.iload_n 2, 1) := by decide +kernel
theorem dX8_freezes_82 : decode cX8_freezes 82 = .ok (.bipush 7, 2) := by decide +kernel
theorem dX8_freezes_84 : decode cX8_freezes 84 = .ok (.iconst 1, 1) := by decide +kernel
theorem dX8_freezes_85 : decode cX8_freezes 85 = .ok (.invokevirtual 315, 3) := by decide +kernel
theorem dX8_freezes_88 : decode cX8_freezes 88 = .ok (.aload_n 0, 1) := by decide +kernel
theorem dX8_freezes_89 : decode cX8_freezes 89 = .ok (.invokevirtual 261, 3) := by decide +kernel
theorem dX8_freezes_92 : decode cX8_freezes 92 = .ok (.goto (-76), 3) := by decide +kernel
theorem dX8_freezes_95 : decode cX8_freezes 95 = .ok (.iinc 1 1, 3) := by decide +kernel
theorem dX8_freezes_98 : decode cX8_freezes 98 = .ok (.goto (-96), 3) := by decide +kernel
theorem dX8_freezes_101 : decode cX8_freezes 101 = .ok (.return_, 1) := by decide +kernel
set_option maxRecDepth 20000 in
theorem s_X8_freezes_0 {l : Launch} {G : GT} {d : Nat} {Q : AV → AH → Prop} {H : AH} {a0 : Int} {M : Row} (hW : MW H a0 M) (h : AW l G mX8_freezes (d + 1) 0 0 Q 2 [vR a0, vI 0, vU, vU] [] 0 0 H) (hd : 14 ≤ d := by omega) : AW l G mX8_freezes (d + 1) 0 0 Q 0 [vR a0, vU, vU, vU] [] 0 0 H := by
  refine a_iconst dX8_freezes_0 ⟨by decide, by decide⟩ ?_
  refine a_istore_n dX8_freezes_1 rfl (Nat.le_of_ble_eq_true rfl) (ls' := [vR a0, vI 0, vU, vU]) rfl ?_
  exact h

set_option maxRecDepth 20000 in
theorem s_X8_freezes_2 {l : Launch} {G : GT} {d : Nat} {Q : AV → AH → Prop} {H : AH} {a0 x1 : Int} {M : Row} (hW : MW H a0 M) (h : ((M 5) ≤ x1 → Q vV H) ∧ (x1 < (M 5) → ∀ H1 : AH, only H H1 (pMks a0) → MW H1 a0 M → Made H1 a0 M → AW l G mX8_freezes (d + 1) 0 0 Q 16 [vR a0, vI x1, vU, vU] [] 0 0 H1)) (hd : 14 ≤ d := by omega) : AW l G mX8_freezes (d + 1) 0 0 Q 2 [vR a0, vI x1, vU, vU] [] 0 0 H := by
  refine a_iload_n dX8_freezes_2 rfl rfl ?_
  refine a_aload_n dX8_freezes_3 rfl rfl ?_
  refine a_getR dX8_freezes_4 fw_RX8_9 rfl rfl (kMod_0 hW.1) (rMod_0_0 hW.1) ?_
  refine a_iconst dX8_freezes_7 ⟨by decide, by decide⟩ ?_
  refine b_ialdV dX8_freezes_8 (kMod_1 hW.1) (nMod_1 hW.1) (⟨by decide, by decide⟩) (congrFun hW.2.1 _) ?_
  refine a_icmp_ge dX8_freezes_9 (tgt := 101) rfl (fun c9 => ?_) (fun c9 => ?_)
  · replace h := h.1 c9
    exact a_vret dX8_freezes_101 rfl (Nat.le_of_ble_eq_true rfl) (Nat.le_of_ble_eq_true rfl) h
  · replace h := h.2 c9
    refine a_aload_n dX8_freezes_12 rfl rfl ?_
    refine a_callV dX8_freezes_13 cw_X8_freezes_13 (as := []) rfl rfl (kMod_0 hW.1) (Nat.le_refl _) (Nat.le_of_ble_eq_true rfl) (nocov rfl) (Nat.le_of_ble_eq_true rfl) (Nat.le_of_ble_eq_true rfl) (CL.mono (c_makesQ (show MW H a0 M from ⟨hW.1, hW.2.1, hW.2.2⟩) ) (fun r9 H1 h9 => ?_))
    obtain ⟨e9, o_H1, hW_H1, hX_H1⟩ := h9
    rw [e9]
    replace h := h H1 o_H1 hW_H1 hX_H1
    show AW l G mX8_freezes (d + 1) 0 0 Q 16 [vR a0, vI x1, vU, vU] [] 0 0 H1
    exact h

set_option maxRecDepth 20000 in
theorem s_X8_freezes_16 {l : Launch} {G : GT} {d : Nat} {Q : AV → AH → Prop} {H : AH} {a0 x1 : Int} {M : Row} (hW : MW H a0 M) (h : (0 ≤ x1 ∧ x1 < 3) ∧ ((hg H (a0 + 7) x1) ≤ 0 → (-2147483648 ≤ x1 + 1 ∧ x1 + 1 ≤ 2147483647) ∧ AW l G mX8_freezes (d + 1) 0 0 Q 2 [vR a0, vI (x1 + 1), vU, vU] [] 0 0 H) ∧ (0 < (hg H (a0 + 7) x1) → (-2147483648 ≤ 24 * x1 ∧ 24 * x1 ≤ 2147483647) ∧ (0 ≤ (24 * x1) ∧ (24 * x1) < 72) ∧ (0 ≤ (hg H (a0 + 9) (24 * x1)) ∧ (hg H (a0 + 9) (24 * x1)) < 24) ∧ (-2147483648 ≤ (M 0) + (M 2) ∧ (M 0) + (M 2) ≤ 2147483647) ∧ (((M 0) + (M 2)) < (hg H (a0 + 10) (hg H (a0 + 9) (24 * x1))) → (-2147483648 ≤ x1 + 1 ∧ x1 + 1 ≤ 2147483647) ∧ AW l G mX8_freezes (d + 1) 0 0 Q 2 [vR a0, vI (x1 + 1), vU, vU] [] 0 0 H) ∧ ((hg H (a0 + 10) (hg H (a0 + 9) (24 * x1))) ≤ ((M 0) + (M 2)) → ∀ H1 : AH, ∀ M1 : Row, M1 = upM M (56 + 16 * (hg H (a0 + 9) (24 * x1)) + 8) (hg H (a0 + 10) (hg H (a0 + 9) (24 * x1))) → MX H H1 a0 M1 → ∀ H2 : AH, ∀ M2 : Row, M2 = upM M1 (56 + 16 * (hg H (a0 + 9) (24 * x1)) + 7) 1 → MX H1 H2 a0 M2 → (okM M2 ∧ mkd H2 a0) ∧ ∀ H3 : AH, only H2 H3 (pMks a0) → MW H3 a0 M2 → Made H3 a0 M2 → AW l G mX8_freezes (d + 1) 0 0 Q 16 [vR a0, vI x1, vU, vU] [] 0 0 H3))) (hd : 14 ≤ d := by omega) : AW l G mX8_freezes (d + 1) 0 0 Q 16 [vR a0, vI x1, vU, vU] [] 0 0 H := by
  refine a_aload_n dX8_freezes_16 rfl rfl ?_
  refine a_getR dX8_freezes_17 fw_RX8_30 rfl rfl (kMod_0 hW.1) (rMod_0_14 hW.1) ?_
  refine a_iload_n dX8_freezes_20 rfl rfl ?_
  obtain ⟨q21_0, h⟩ := h
  refine b_iald dX8_freezes_21 (kMod_7 hW.1) (nMod_7 hW.1) q21_0 ?_
  refine a_if_le dX8_freezes_22 (tgt := 95) rfl (fun c22 => ?_) (fun c22 => ?_)
  · replace h := h.1 c22
    obtain ⟨q95_0, h⟩ := h
    refine a_iinc dX8_freezes_95 rfl (Nat.le_of_ble_eq_true rfl) (by decide) q95_0 (ls' := [vR a0, vI (x1 + 1), vU, vU]) rfl ?_
    refine a_goto dX8_freezes_98 (tgt := 2) rfl ?_
    exact h
  · replace h := h.2 c22
    refine a_aload_n dX8_freezes_25 rfl rfl ?_
    refine a_getR dX8_freezes_26 fw_RX8_39 rfl rfl (kMod_0 hW.1) (rMod_0_17 hW.1) ?_
    refine a_aload_n dX8_freezes_29 rfl rfl ?_
    refine a_getR dX8_freezes_30 fw_RX8_36 rfl rfl (kMod_0 hW.1) (rMod_0_16 hW.1) ?_
    refine a_bipush dX8_freezes_33 (by decide) ?_
    refine a_iload_n dX8_freezes_35 rfl rfl ?_
    obtain ⟨q36_0, h⟩ := h
    refine a_imul dX8_freezes_36 q36_0 ?_
    obtain ⟨q37_0, h⟩ := h
    refine b_iald dX8_freezes_37 (kMod_9 hW.1) (nMod_9 hW.1) q37_0 ?_
    obtain ⟨q38_0, h⟩ := h
    refine b_iald dX8_freezes_38 (kMod_10 hW.1) (nMod_10 hW.1) q38_0 ?_
    refine a_aload_n dX8_freezes_39 rfl rfl ?_
    refine a_getR dX8_freezes_40 fw_RX8_9 rfl rfl (kMod_0 hW.1) (rMod_0_0 hW.1) ?_
    refine a_iconst dX8_freezes_43 ⟨by decide, by decide⟩ ?_
    refine b_ialdV dX8_freezes_44 (kMod_1 hW.1) (nMod_1 hW.1) (⟨by decide, by decide⟩) (congrFun hW.2.1 _) ?_
    refine a_aload_n dX8_freezes_45 rfl rfl ?_
    refine a_getR dX8_freezes_46 fw_RX8_9 rfl rfl (kMod_0 hW.1) (rMod_0_0 hW.1) ?_
    refine a_iconst dX8_freezes_49 ⟨by decide, by decide⟩ ?_
    refine b_ialdV dX8_freezes_50 (kMod_1 hW.1) (nMod_1 hW.1) (⟨by decide, by decide⟩) (congrFun hW.2.1 _) ?_
    obtain ⟨q51_0, h⟩ := h
    refine a_iadd dX8_freezes_51 q51_0 ?_
    refine a_icmp_gt dX8_freezes_52 (tgt := 95) rfl (fun c52 => ?_) (fun c52 => ?_)
    · replace h := h.1 c52
      obtain ⟨q95_0, h⟩ := h
      refine a_iinc dX8_freezes_95 rfl (Nat.le_of_ble_eq_true rfl) (by decide) q95_0 (ls' := [vR a0, vI (x1 + 1), vU, vU]) rfl ?_
      refine a_goto dX8_freezes_98 (tgt := 2) rfl ?_
      exact h
    · replace h := h.2 c52
      refine a_aload_n dX8_freezes_55 rfl rfl ?_
      refine a_getR dX8_freezes_56 fw_RX8_36 rfl rfl (kMod_0 hW.1) (rMod_0_16 hW.1) ?_
      refine a_bipush dX8_freezes_59 (by decide) ?_
      refine a_iload_n dX8_freezes_61 rfl rfl ?_
      refine a_imul dX8_freezes_62 q36_0 ?_
      refine b_iald dX8_freezes_63 (kMod_9 hW.1) (nMod_9 hW.1) q37_0 ?_
      refine a_istore_n dX8_freezes_64 rfl (Nat.le_of_ble_eq_true rfl) (ls' := [vR a0, vI x1, vI (hg H (a0 + 9) (24 * x1)), vU]) rfl ?_
      refine a_aload_n dX8_freezes_65 rfl rfl ?_
      refine a_getR dX8_freezes_66 fw_RX8_39 rfl rfl (kMod_0 hW.1) (rMod_0_17 hW.1) ?_
      refine a_iload_n dX8_freezes_69 rfl rfl ?_
      refine b_iald dX8_freezes_70 (kMod_10 hW.1) (nMod_10 hW.1) q38_0 ?_
      refine a_istore_n dX8_freezes_71 rfl (Nat.le_of_ble_eq_true rfl) (ls' := [vR a0, vI x1, vI (hg H (a0 + 9) (24 * x1)), vI (hg H (a0 + 10) (hg H (a0 + 9) (24 * x1)))]) rfl ?_
      refine a_aload_n dX8_freezes_72 rfl rfl ?_
      refine a_iload_n dX8_freezes_73 rfl rfl ?_
      refine a_bipush dX8_freezes_74 (by decide) ?_
      refine a_iload_n dX8_freezes_76 rfl rfl ?_
      refine a_callV dX8_freezes_77 cw_X8_freezes_77 (as := [vI (hg H (a0 + 9) (24 * x1)), vI 8, vI (hg H (a0 + 10) (hg H (a0 + 9) (24 * x1)))]) rfl rfl (kMod_0 hW.1) (Nat.le_refl _) (Nat.le_of_ble_eq_true rfl) (nocov rfl) (Nat.le_of_ble_eq_true rfl) (Nat.le_of_ble_eq_true rfl) (CL.mono (c_setsX hW.1 hW.2.1 ⟨q38_0.1, q38_0.2, by decide, by decide⟩) (fun r9 H1 h9 => ?_))
      obtain ⟨e9, hX_H1⟩ := h9
      rw [e9]
      obtain ⟨M1, e_M1⟩ : ∃ M1 : Row, M1 = upM M (56 + 16 * (hg H (a0 + 9) (24 * x1)) + 8) (hg H (a0 + 10) (hg H (a0 + 9) (24 * x1))) := ⟨_, rfl⟩
      rw [← e_M1] at hX_H1
      replace h := h H1 M1 e_M1 hX_H1
      show AW l G mX8_freezes (d + 1) 0 0 Q 80 [vR a0, vI x1, vI (hg H (a0 + 9) (24 * x1)), vI (hg H (a0 + 10) (hg H (a0 + 9) (24 * x1)))] [] 0 0 H1
      refine a_aload_n dX8_freezes_80 rfl rfl ?_
      refine a_iload_n dX8_freezes_81 rfl rfl ?_
      refine a_bipush dX8_freezes_82 (by decide) ?_
      refine a_iconst dX8_freezes_84 ⟨by decide, by decide⟩ ?_
      refine a_callV dX8_freezes_85 cw_X8_freezes_85 (as := [vI (hg H (a0 + 9) (24 * x1)), vI 7, vI 1]) rfl rfl (kMod_0 hX_H1.2.1) (Nat.le_refl _) (Nat.le_of_ble_eq_true rfl) (nocov rfl) (Nat.le_of_ble_eq_true rfl) (Nat.le_of_ble_eq_true rfl) (CL.mono (c_setsX hX_H1.2.1 hX_H1.2.2.1 ⟨q38_0.1, q38_0.2, by decide, by decide⟩) (fun r9 H2 h9 => ?_))
      obtain ⟨e9, hX_H2⟩ := h9
      rw [e9]
      obtain ⟨M2, e_M2⟩ : ∃ M2 : Row, M2 = upM M1 (56 + 16 * (hg H (a0 + 9) (24 * x1)) + 7) 1 := ⟨_, rfl⟩
      rw [← e_M2] at hX_H2
      replace h := h H2 M2 e_M2 hX_H2
      show AW l G mX8_freezes (d + 1) 0 0 Q 88 [vR a0, vI x1, vI (hg H (a0 + 9) (24 * x1)), vI (hg H (a0 + 10) (hg H (a0 + 9) (24 * x1)))] [] 0 0 H2
      refine a_aload_n dX8_freezes_88 rfl rfl ?_
      obtain ⟨q89_0, h⟩ := h
      refine a_callV dX8_freezes_89 cw_X8_freezes_89 (as := []) rfl rfl (kMod_0 hX_H2.2.1) (Nat.le_refl _) (Nat.le_of_ble_eq_true rfl) (nocov rfl) (Nat.le_of_ble_eq_true rfl) (Nat.le_of_ble_eq_true rfl) (CL.mono (c_makesQ (show MW H2 a0 M2 from ⟨hX_H2.2.1, hX_H2.2.2.1, q89_0⟩) ) (fun r9 H3 h9 => ?_))
      obtain ⟨e9, o_H3, hW_H3, hX_H3⟩ := h9
      rw [e9]
      replace h := h H3 o_H3 hW_H3 hX_H3
      show AW l G mX8_freezes (d + 1) 0 0 Q 92 [vR a0, vI x1, vI (hg H (a0 + 9) (24 * x1)), vI (hg H (a0 + 10) (hg H (a0 + 9) (24 * x1)))] [] 0 0 H3
      refine a_goto dX8_freezes_92 (tgt := 16) rfl ?_
      exact a_weak (wk_e (wk_e (wk_u (wk_u wk_n)))) h

theorem c_freezes {l : Launch} {G : GT} {d : Nat} {H : AH} {a : Int} {M : Row} (hW : MW H a M) (hd : 15 ≤ d := by omega) : CL l G mX8_freezes d 0 0 [vR a] H (fun r H' => r = vV ∧ only H H' (pMt a) ∧ MW H' a (frzM M)) := by
  obtain ⟨d, rfl⟩ : ∃ k, d = k + 1 := ⟨d - 1, by omega⟩
  have hM := hW.2.2.1
  have hn5 := okM_5 hM
  refine CL.of (by decide) rfl (Nat.le_of_ble_eq_true rfl) (s_X8_freezes_0 hW ?_)
  have key : ∀ j, j ≤ (M 5).toNat → ∀ H', only H H' (pMt a) → MW H' a (frzN M j) → AW l G mX8_freezes (d + 1) 0 0 (fun r H' => r = vV ∧ only H H' (pMt a) ∧ MW H' a (frzM M)) 2 [vR a, vI j, vU, vU] [] 0 0 H' := by
    refine upN _ ?_ ?_
    · intro j hj ih H' ho hW'
      have hM' := hW'.2.2.1
      have e5 : (frzN M j) 5 = M 5 := (frzN_all hM j).2.1.1.1 5 (by omega) (by omega) (by omega)
      refine s_X8_freezes_2 hW' ⟨fun c => absurd c (by omega), fun c H1 o1 w1 m1 => ?_⟩
      have key2 : ∀ (n : Nat) (Mc : Row) (H2 : AH), (comeL Mc j).length ≤ n → Mc 5 = M 5 → frzR j n Mc = frzN M (j + 1) → only H H2 (pMt a) → MW H2 a Mc → Made H2 a Mc → AW l G mX8_freezes (d + 1) 0 0 (fun r H' => r = vV ∧ only H H' (pMt a) ∧ MW H' a (frzM M)) 16 [vR a, vI j, vU, vU] [] 0 0 H2 := by
        intro n
        induction n with
        | zero =>
          intro Mc H2 hl h5 he o2 w2 m2
          have m := m2 j (by omega) (by omega)
          refine s_X8_freezes_16 w2 ⟨by omega, fun c2 => ⟨by omega, ih H2 o2 ?_⟩, fun c2 => absurd c2 (by rw [m.1]; omega)⟩
          rw [← he]
          exact w2
        | succ n ihn =>
          intro Mc H2 hl h5 he o2 w2 m2
          have hMc := w2.2.2.1
          have h0 := hMc.1.1
          have h2 := hMc.1.2.2.1
          have m := m2 j (by omega) (by omega)
          refine s_X8_freezes_16 w2 ⟨by omega, fun c2 => ⟨by omega, ih H2 o2 ?_⟩, fun c2 => ?_⟩
          · rw [m.1] at c2
            rw [frzR, if_pos (by omega)] at he
            rw [← he]
            exact w2
          · rw [m.1] at c2
            have hk : 0 ≤ (0 : Int) ∧ (0 : Int) < (comeL Mc j).length := by omega
            have p := pl_at hMc hk
            have hn := okM_n hMc
            rw [m.pl hMc hk (by omega), m2.time hMc p.1 p.2.1]
            rw [frzR, if_neg (by omega)] at he
            refine ⟨by omega, by omega, by omega, by omega, fun c3 => ⟨by omega, ih H2 o2 ?_⟩, fun c3 H3 M3 e3 x3 H4 M4 e4 x4 => ?_⟩
            · rw [if_neg (by omega)] at he
              rw [← he]
              exact w2
            · rw [if_pos c3] at he
              have f := frz_at hMc (r := j) (by omega) c3
              have eM : M4 = frz1 Mc (wAt (planL Mc j) 0) (planT Mc (wAt (planL Mc j) 0)) := by rw [e4, e3]; rfl
              have hc := come_frz1 hMc (t := planT Mc (wAt (planL Mc j) 0)) f.1.1 f.1.2.1 f.1.2.2
              rw [← eM] at hc he
              have hM4 : okM M4 := by rw [eM]; exact f.2
              refine ⟨⟨hM4, x4.mk⟩, fun H5 o5 w5 m5 => ihn M4 H5 (by omega) ?_ he (((o2.trans x3.1).trans x4.1).trans (o5.mono pMks_mt)) w5 m5⟩
              rw [eM, frz1_lo f.1.1.1 (by omega)]
              exact h5
      exact key2 24 (frzN M j) H1 (comeL_len hM') e5 rfl (ho.trans (o1.mono pMks_mt)) w1 m1
    · intro H' ho hW'
      have e5 : (frzM M) 5 = M 5 := (frzM_stab hM).1.1 5 (by omega) (by omega) (by omega)
      exact s_X8_freezes_2 hW' ⟨fun _ => ⟨rfl, ho, hW'⟩, fun c => absurd c (by have : (frzN M (M 5).toNat) 5 = M 5 := e5; omega)⟩
  exact key 0 (Nat.zero_le _) H only.rf hW

theorem dX8_passesTo_0 : decode cX8_passesTo 0 = .ok (.aload_n 0, 1) := by decide +kernel
theorem dX8_passesTo_1 : decode cX8_passesTo 1 = .ok (.invokevirtual 319, 3) := by decide +kernel
theorem dX8_passesTo_4 : decode cX8_passesTo 4 = .ok (.aload_n 0, 1) := by decide +kernel
theorem dX8_passesTo_5 : decode cX8_passesTo 5 = .ok (.getfield 9, 3) := by decide +kernel
theorem dX8_passesTo_8 : decode cX8_passesTo 8 = .ok (.iconst 0, 1) := by decide +kernel
theorem dX8_passesTo_9 : decode cX8_passesTo 9 = .ok (.iaload, 1) := by decide +kernel
theorem dX8_passesTo_10 : decode cX8_passesTo 10 = .ok (.iload_n 1, 1) := by decide +kernel
theorem dX8_passesTo_11 : decode cX8_passesTo 11 = .ok (.if_icmp .eq 79, 3) := by decide +kernel
theorem dX8_passesTo_14 : decode cX8_passesTo 14 = .ok (.aload_n 0, 1) := by decide +kernel
theorem dX8_passesTo_15 : decode cX8_passesTo 15 = .ok (.getfield 9, 3) := by decide +kernel
theorem dX8_passesTo_18 : decode cX8_passesTo 18 = .ok (.iconst 0, 1) := by decide +kernel
theorem dX8_passesTo_19 : decode cX8_passesTo 19 = .ok (.aload_n 0, 1) := by decide +kernel
theorem dX8_passesTo_20 : decode cX8_passesTo 20 = .ok (.iload_n 1, 1) := by decide +kernel
theorem dX8_passesTo_21 : decode cX8_passesTo 21 = .ok (.invokevirtual 322, 3) := by decide +kernel
theorem dX8_passesTo_24 : decode cX8_passesTo 24 = .ok (.iastore, 1) := by decide +kernel
theorem dX8_passesTo_25 : decode cX8_passesTo 25 = .ok (.aload_n 0, 1) := by decide +kernel
theorem dX8_passesTo_26 : decode cX8_passesTo 26 = .ok (.iconst 0, 1) := by decide +kernel
theorem dX8_passesTo_27 : decode cX8_passesTo 27 = .ok (.putfield 63, 3) := by decide +kernel
theorem dX8_passesTo_30 : decode cX8_passesTo 30 = .ok (.aload_n 0, 1) := by decide +kernel
theorem dX8_passesTo_31 : decode cX8_passesTo 31 = .ok (.invokevirtual 325, 3) := by decide +kernel
theorem dX8_passesTo_34 : decode cX8_passesTo 34 = .ok (.istore_n 2, 1) := by decide +kernel
theorem dX8_passesTo_35 : decode cX8_passesTo 35 = .ok (.iload_n 2, 1) := by decide +kernel
theorem dX8_passesTo_36 : decode cX8_passesTo 36 = .ok (.iconst (-1), 1) := by decide +kernel
theorem dX8_passesTo_37 : decode cX8_passesTo 37 = .ok (.if_icmp .eq 46, 3) := by decide +kernel
theorem dX8_passesTo_40 : decode cX8_passesTo 40 = .ok (.aload_n 0, 1) := by decide +kernel
theorem dX8_passesTo_41 : decode cX8_passesTo 41 = .ok (.iload_n 2, 1) := by decide +kernel
theorem dX8_passesTo_42 : decode cX8_passesTo 42 = .ok (.bipush 7, 2) := by decide +kernel
theorem dX8_passesTo_44 : decode cX8_passesTo 44 = .ok (.iconst 2, 1) := by decide +kernel
theorem dX8_passesTo_45 : decode cX8_passesTo 45 = .ok (.invokevirtual 315, 3) := by decide +kernel
theorem dX8_passesTo_48 : decode cX8_passesTo 48 = .ok (.aload_n 0, 1) := by decide +kernel
theorem dX8_passesTo_49 : decode cX8_passesTo 49 = .ok (.getfield 9, 3) := by decide +kernel
theorem dX8_passesTo_52 : decode cX8_passesTo 52 = .ok (.bipush 32, 2) := by decide +kernel
theorem dX8_passesTo_54 : decode cX8_passesTo 54 = .ok (.aload_n 0, 1) := by decide +kernel
theorem dX8_passesTo_55 : decode cX8_passesTo 55 = .ok (.getfield 9, 3) := by decide +kernel
theorem dX8_passesTo_58 : decode cX8_passesTo 58 = .ok (.bipush 7, 2) := by decide +kernel
theorem dX8_passesTo_60 : decode cX8_passesTo 60 = .ok (.iaload, 1) := by decide +kernel
theorem dX8_passesTo_61 : decode cX8_passesTo 61 = .ok (.iadd, 1) := by decide +kernel
theorem dX8_passesTo_62 : decode cX8_passesTo 62 = .ok (.iload_n 2, 1) := by decide +kernel
theorem dX8_passesTo_63 : decode cX8_passesTo 63 = .ok (.iastore, 1) := by decide +kernel
theorem dX8_passesTo_64 : decode cX8_passesTo 64 = .ok (.aload_n 0, 1) := by decide +kernel
theorem dX8_passesTo_65 : decode cX8_passesTo 65 = .ok (.getfield 9, 3) := by decide +kernel
theorem dX8_passesTo_68 : decode cX8_passesTo 68 = .ok (.bipush 7, 2) := by decide +kernel
theorem dX8_passesTo_70 : decode cX8_passesTo 70 = .ok (.dup2, 1) := by decide +kernel
theorem dX8_passesTo_71 : decode cX8_passesTo 71 = .ok (.iaload, 1) := by decide +kernel
theorem dX8_passesTo_72 : decode cX8_passesTo 72 = .ok (.iconst 1, 1) := by decide +kernel
theorem dX8_passesTo_73 : decode cX8_passesTo 73 = .ok (.iadd, 1) := by decide +kernel
theorem dX8_passesTo_74 : decode cX8_passesTo 74 = .ok (.iastore, 1) := by decide +kernel
theorem dX8_passesTo_75 : decode cX8_passesTo 75 = .ok (.aload_n 0, 1) := by decide +kernel
theorem dX8_passesTo_76 : decode cX8_passesTo 76 = .ok (.invokevirtual 325, 3) := by decide +kernel
theorem dX8_passesTo_79 : decode cX8_passesTo 79 = .ok (.istore_n 2, 1) := by decide +kernel
theorem dX8_passesTo_80 : decode cX8_passesTo 80 = .ok (.goto (-45), 3) := by decide +kernel
theorem dX8_passesTo_83 : decode cX8_passesTo 83 = .ok (.aload_n 0, 1) := by decide +kernel
theorem dX8_passesTo_84 : decode cX8_passesTo 84 = .ok (.invokevirtual 319, 3) := by decide +kernel
theorem dX8_passesTo_87 : decode cX8_passesTo 87 = .ok (.goto (-83), 3) := by decide +kernel
theorem dX8_passesTo_90 : decode cX8_passesTo 90 = .ok (.return_, 1) := by decide +kernel
set_option maxRecDepth 20000 in
theorem s_X8_passesTo_0 {l : Launch} {G : GT} {d : Nat} {Q : AV → AH → Prop} {H : AH} {a0 x1 : Int} {M : Row} (hW : MW H a0 M) (h : ∀ H1 : AH, ∀ M1 : Row, M1 = frzM M → only H H1 (pMt a0) → MW H1 a0 M1 → AW l G mX8_passesTo (d + 1) 0 0 Q 4 [vR a0, vI x1, vU] [] 0 0 H1) (hd : 15 ≤ d := by omega) : AW l G mX8_passesTo (d + 1) 0 0 Q 0 [vR a0, vI x1, vU] [] 0 0 H := by
  refine a_aload_n dX8_passesTo_0 rfl rfl ?_
  refine a_callV dX8_passesTo_1 cw_X8_passesTo_1 (as := []) rfl rfl (kMod_0 hW.1) (Nat.le_refl _) (Nat.le_of_ble_eq_true rfl) (nocov rfl) (Nat.le_of_ble_eq_true rfl) (Nat.le_of_ble_eq_true rfl) (CL.mono (c_freezes (show MW H a0 M from ⟨hW.1, hW.2.1, hW.2.2⟩) ) (fun r9 H1 h9 => ?_))
  obtain ⟨e9, o_H1, hX_H1⟩ := h9
  rw [e9]
  obtain ⟨M1, e_M1⟩ : ∃ M1 : Row, M1 = frzM M := ⟨_, rfl⟩
  rw [← e_M1] at hX_H1
  replace h := h H1 M1 e_M1 o_H1 hX_H1
  show AW l G mX8_passesTo (d + 1) 0 0 Q 4 [vR a0, vI x1, vU] [] 0 0 H1
  exact h

set_option maxRecDepth 20000 in
theorem s_X8_passesTo_4 {l : Launch} {G : GT} {d : Nat} {Q : AV → AH → Prop} {H : AH} {a0 x1 : Int} {M : Row} (hW : MW H a0 M) (h : ((M 0) = x1 → Q vV H) ∧ (¬ (M 0) = x1 → (-2147483648 ≤ x1 ∧ x1 ≤ 2147483647) ∧ ∀ H1 : AH, only H H1 (pMks a0) → MW H1 a0 M → Made H1 a0 M → ∀ H2 : AH, H2 = hs H1 (a0 + 1) 0 (nxT M x1) → ∀ M2 : Row, M2 = upM M 0 (nxT M x1) → ∀ H3 : AH, H3 = hs H2 a0 13 0 → (okM M2 ∧ mkd H3 a0) ∧ ∀ H4 : AH, only H3 H4 (pMks a0) → MW H4 a0 M2 → AW l G mX8_passesTo (d + 1) 0 0 Q 35 [vR a0, vI x1, vI (ndM M2)] [] 0 0 H4)) (hd : 15 ≤ d := by omega) : AW l G mX8_passesTo (d + 1) 0 0 Q 4 [vR a0, vI x1, vU] [] 0 0 H := by
  refine a_aload_n dX8_passesTo_4 rfl rfl ?_
  refine a_getR dX8_passesTo_5 fw_RX8_9 rfl rfl (kMod_0 hW.1) (rMod_0_0 hW.1) ?_
  refine a_iconst dX8_passesTo_8 ⟨by decide, by decide⟩ ?_
  refine b_ialdV dX8_passesTo_9 (kMod_1 hW.1) (nMod_1 hW.1) (⟨by decide, by decide⟩) (congrFun hW.2.1 _) ?_
  refine a_iload_n dX8_passesTo_10 rfl rfl ?_
  refine a_icmp_eq dX8_passesTo_11 (tgt := 90) rfl (fun c11 => ?_) (fun c11 => ?_)
  · replace h := h.1 c11
    exact a_vret dX8_passesTo_90 rfl (Nat.le_of_ble_eq_true rfl) (Nat.le_of_ble_eq_true rfl) h
  · replace h := h.2 c11
    refine a_aload_n dX8_passesTo_14 rfl rfl ?_
    refine a_getR dX8_passesTo_15 fw_RX8_9 rfl rfl (kMod_0 hW.1) (rMod_0_0 hW.1) ?_
    refine a_iconst dX8_passesTo_18 ⟨by decide, by decide⟩ ?_
    refine a_aload_n dX8_passesTo_19 rfl rfl ?_
    refine a_iload_n dX8_passesTo_20 rfl rfl ?_
    obtain ⟨q21_0, h⟩ := h
    refine a_callV dX8_passesTo_21 cw_X8_passesTo_21 (as := [vI x1]) rfl rfl (kMod_0 hW.1) (Nat.le_refl _) (Nat.le_of_ble_eq_true rfl) (nocov rfl) (Nat.le_of_ble_eq_true rfl) (Nat.le_of_ble_eq_true rfl) (CL.mono (c_nextTime (show MW H a0 M from ⟨hW.1, hW.2.1, hW.2.2⟩) q21_0) (fun r9 H1 h9 => ?_))
    obtain ⟨e9, o_H1, hW_H1, hX_H1⟩ := h9
    rw [e9]
    replace h := h H1 o_H1 hW_H1 hX_H1
    show AW l G mX8_passesTo (d + 1) 0 0 Q 24 [vR a0, vI x1, vU] [vI (nxT M x1), vI 0, vR (a0 + 1)] 0 0 H1
    refine b_iast dX8_passesTo_24 (kMod_1 hW_H1.1) (nMod_1 hW_H1.1) (⟨by decide, by decide⟩) ?_
    have h_r0_2 := Lay.wr hW_H1.1 ok_Mod (nrf_arr (kMod_1 hW_H1.1) (by decide) (by decide)) (i := 0) (x := (nxT M x1))
    generalize e_H2 : hs H1 (a0 + 1) 0 (nxT M x1) = H2 at h_r0_2 ⊢
    replace h := h H2 e_H2.symm
    obtain ⟨M2, e_M2⟩ : ∃ M2 : Row, M2 = upM M 0 (nxT M x1) := ⟨_, rfl⟩
    replace h := h M2 e_M2
    have row_H2 : rowM H2 a0 = M2 := by rw [← e_H2, rowM_hs, hW_H1.2.1, e_M2]
    refine a_aload_n dX8_passesTo_25 rfl rfl ?_
    refine a_iconst dX8_passesTo_26 ⟨by decide, by decide⟩ ?_
    refine a_putZ dX8_passesTo_27 fp_RX8_63 rfl rfl (kMod_0 h_r0_2) (by decide) ?_
    have h_r0_3 := Lay.wr h_r0_2 ok_Mod (nrf_fld 13 (kMod_0 h_r0_2) (by decide) (by decide)) (i := 13) (x := 0)
    generalize e_H3 : hs H2 a0 13 0 = H3 at h_r0_3 ⊢
    replace h := h H3 e_H3.symm
    have row_H3 := (show rowM H3 a0 = _ from by rw [← e_H3, rowM_ne (by omega), row_H2])
    refine a_aload_n dX8_passesTo_30 rfl rfl ?_
    obtain ⟨q31_0, h⟩ := h
    refine a_callV dX8_passesTo_31 cw_X8_passesTo_31 (as := []) rfl rfl (kMod_0 h_r0_3) (Nat.le_refl _) (Nat.le_of_ble_eq_true rfl) (nocov rfl) (Nat.le_of_ble_eq_true rfl) (Nat.le_of_ble_eq_true rfl) (CL.mono (c_nextDone (show MW H3 a0 M2 from ⟨h_r0_3, row_H3, q31_0⟩) ) (fun r9 H4 h9 => ?_))
    obtain ⟨e9, o_H4, hW_H4⟩ := h9
    rw [e9]
    replace h := h H4 o_H4 hW_H4
    show AW l G mX8_passesTo (d + 1) 0 0 Q 34 [vR a0, vI x1, vU] [vI (ndM M2)] 0 0 H4
    refine a_istore_n dX8_passesTo_34 rfl (Nat.le_of_ble_eq_true rfl) (ls' := [vR a0, vI x1, vI (ndM M2)]) rfl ?_
    exact h

set_option maxRecDepth 20000 in
theorem s_X8_passesTo_35 {l : Launch} {G : GT} {d : Nat} {Q : AV → AH → Prop} {H : AH} {a0 x1 x2 : Int} {M : Row} (hW : MW H a0 M) (h : (x2 = (-1) → ∀ H1 : AH, ∀ M1 : Row, M1 = frzM M → only H H1 (pMt a0) → MW H1 a0 M1 → AW l G mX8_passesTo (d + 1) 0 0 Q 4 [vR a0, vI x1, vU] [] 0 0 H1) ∧ (¬ x2 = (-1) → (0 ≤ x2 ∧ x2 < 24) ∧ ∀ H1 : AH, ∀ M1 : Row, M1 = upM M (56 + 16 * x2 + 7) 2 → MX H H1 a0 M1 → (-2147483648 ≤ 32 + (M1 7) ∧ 32 + (M1 7) ≤ 2147483647) ∧ (0 ≤ (32 + (M1 7)) ∧ (32 + (M1 7)) < 440) ∧ ∀ H2 : AH, H2 = hs H1 (a0 + 1) (32 + (M1 7)) x2 → ∀ M2 : Row, M2 = upM M1 (32 + (M1 7)) x2 → (-2147483648 ≤ (M2 7) + 1 ∧ (M2 7) + 1 ≤ 2147483647) ∧ ∀ H3 : AH, H3 = hs H2 (a0 + 1) 7 ((M2 7) + 1) → ∀ M3 : Row, M3 = upM M2 7 ((M2 7) + 1) → (okM M3 ∧ mkd H3 a0) ∧ ∀ H4 : AH, only H3 H4 (pMks a0) → MW H4 a0 M3 → AW l G mX8_passesTo (d + 1) 0 0 Q 35 [vR a0, vI x1, vI (ndM M3)] [] 0 0 H4)) (hd : 15 ≤ d := by omega) : AW l G mX8_passesTo (d + 1) 0 0 Q 35 [vR a0, vI x1, vI x2] [] 0 0 H := by
  refine a_iload_n dX8_passesTo_35 rfl rfl ?_
  refine a_iconst dX8_passesTo_36 ⟨by decide, by decide⟩ ?_
  refine a_icmp_eq dX8_passesTo_37 (tgt := 83) rfl (fun c37 => ?_) (fun c37 => ?_)
  · replace h := h.1 c37
    refine a_aload_n dX8_passesTo_83 rfl rfl ?_
    refine a_callV dX8_passesTo_84 cw_X8_passesTo_84 (as := []) rfl rfl (kMod_0 hW.1) (Nat.le_refl _) (Nat.le_of_ble_eq_true rfl) (nocov rfl) (Nat.le_of_ble_eq_true rfl) (Nat.le_of_ble_eq_true rfl) (CL.mono (c_freezes (show MW H a0 M from ⟨hW.1, hW.2.1, hW.2.2⟩) ) (fun r9 H1 h9 => ?_))
    obtain ⟨e9, o_H1, hX_H1⟩ := h9
    rw [e9]
    obtain ⟨M1, e_M1⟩ : ∃ M1 : Row, M1 = frzM M := ⟨_, rfl⟩
    rw [← e_M1] at hX_H1
    replace h := h H1 M1 e_M1 o_H1 hX_H1
    show AW l G mX8_passesTo (d + 1) 0 0 Q 87 [vR a0, vI x1, vI x2] [] 0 0 H1
    refine a_goto dX8_passesTo_87 (tgt := 4) rfl ?_
    exact a_weak (wk_e (wk_e (wk_u wk_n))) h
  · replace h := h.2 c37
    refine a_aload_n dX8_passesTo_40 rfl rfl ?_
    refine a_iload_n dX8_passesTo_41 rfl rfl ?_
    refine a_bipush dX8_passesTo_42 (by decide) ?_
    refine a_iconst dX8_passesTo_44 ⟨by decide, by decide⟩ ?_
    obtain ⟨q45_0, h⟩ := h
    refine a_callV dX8_passesTo_45 cw_X8_passesTo_45 (as := [vI x2, vI 7, vI 2]) rfl rfl (kMod_0 hW.1) (Nat.le_refl _) (Nat.le_of_ble_eq_true rfl) (nocov rfl) (Nat.le_of_ble_eq_true rfl) (Nat.le_of_ble_eq_true rfl) (CL.mono (c_setsX hW.1 hW.2.1 ⟨q45_0.1, q45_0.2, by decide, by decide⟩) (fun r9 H1 h9 => ?_))
    obtain ⟨e9, hX_H1⟩ := h9
    rw [e9]
    obtain ⟨M1, e_M1⟩ : ∃ M1 : Row, M1 = upM M (56 + 16 * x2 + 7) 2 := ⟨_, rfl⟩
    rw [← e_M1] at hX_H1
    replace h := h H1 M1 e_M1 hX_H1
    show AW l G mX8_passesTo (d + 1) 0 0 Q 48 [vR a0, vI x1, vI x2] [] 0 0 H1
    refine a_aload_n dX8_passesTo_48 rfl rfl ?_
    refine a_getR dX8_passesTo_49 fw_RX8_9 rfl rfl (kMod_0 hX_H1.2.1) (rMod_0_0 hX_H1.2.1) ?_
    refine a_bipush dX8_passesTo_52 (by decide) ?_
    refine a_aload_n dX8_passesTo_54 rfl rfl ?_
    refine a_getR dX8_passesTo_55 fw_RX8_9 rfl rfl (kMod_0 hX_H1.2.1) (rMod_0_0 hX_H1.2.1) ?_
    refine a_bipush dX8_passesTo_58 (by decide) ?_
    refine b_ialdV dX8_passesTo_60 (kMod_1 hX_H1.2.1) (nMod_1 hX_H1.2.1) (⟨by decide, by decide⟩) (congrFun hX_H1.2.2.1 _) ?_
    obtain ⟨q61_0, h⟩ := h
    refine a_iadd dX8_passesTo_61 q61_0 ?_
    refine a_iload_n dX8_passesTo_62 rfl rfl ?_
    obtain ⟨q63_0, h⟩ := h
    refine b_iast dX8_passesTo_63 (kMod_1 hX_H1.2.1) (nMod_1 hX_H1.2.1) q63_0 ?_
    have h_r0_2 := Lay.wr hX_H1.2.1 ok_Mod (nrf_arr (kMod_1 hX_H1.2.1) (by decide) (by decide)) (i := (32 + (M1 7))) (x := x2)
    generalize e_H2 : hs H1 (a0 + 1) (32 + (M1 7)) x2 = H2 at h_r0_2 ⊢
    replace h := h H2 e_H2.symm
    obtain ⟨M2, e_M2⟩ : ∃ M2 : Row, M2 = upM M1 (32 + (M1 7)) x2 := ⟨_, rfl⟩
    replace h := h M2 e_M2
    have row_H2 : rowM H2 a0 = M2 := by rw [← e_H2, rowM_hs, hX_H1.2.2.1, e_M2]
    refine a_aload_n dX8_passesTo_64 rfl rfl ?_
    refine a_getR dX8_passesTo_65 fw_RX8_9 rfl rfl (kMod_0 h_r0_2) (rMod_0_0 h_r0_2) ?_
    refine a_bipush dX8_passesTo_68 (by decide) ?_
    refine a_dup2 dX8_passesTo_70 rfl rfl ?_
    refine b_ialdV dX8_passesTo_71 (kMod_1 h_r0_2) (nMod_1 h_r0_2) (⟨by decide, by decide⟩) (congrFun row_H2 _) ?_
    refine a_iconst dX8_passesTo_72 ⟨by decide, by decide⟩ ?_
    obtain ⟨q73_0, h⟩ := h
    refine a_iadd dX8_passesTo_73 q73_0 ?_
    refine b_iast dX8_passesTo_74 (kMod_1 h_r0_2) (nMod_1 h_r0_2) (⟨by decide, by decide⟩) ?_
    have h_r0_3 := Lay.wr h_r0_2 ok_Mod (nrf_arr (kMod_1 h_r0_2) (by decide) (by decide)) (i := 7) (x := ((M2 7) + 1))
    generalize e_H3 : hs H2 (a0 + 1) 7 ((M2 7) + 1) = H3 at h_r0_3 ⊢
    replace h := h H3 e_H3.symm
    obtain ⟨M3, e_M3⟩ : ∃ M3 : Row, M3 = upM M2 7 ((M2 7) + 1) := ⟨_, rfl⟩
    replace h := h M3 e_M3
    have row_H3 : rowM H3 a0 = M3 := by rw [← e_H3, rowM_hs, row_H2, e_M3]
    refine a_aload_n dX8_passesTo_75 rfl rfl ?_
    obtain ⟨q76_0, h⟩ := h
    refine a_callV dX8_passesTo_76 cw_X8_passesTo_76 (as := []) rfl rfl (kMod_0 h_r0_3) (Nat.le_refl _) (Nat.le_of_ble_eq_true rfl) (nocov rfl) (Nat.le_of_ble_eq_true rfl) (Nat.le_of_ble_eq_true rfl) (CL.mono (c_nextDone (show MW H3 a0 M3 from ⟨h_r0_3, row_H3, q76_0⟩) ) (fun r9 H4 h9 => ?_))
    obtain ⟨e9, o_H4, hW_H4⟩ := h9
    rw [e9]
    replace h := h H4 o_H4 hW_H4
    show AW l G mX8_passesTo (d + 1) 0 0 Q 79 [vR a0, vI x1, vI x2] [vI (ndM M3)] 0 0 H4
    refine a_istore_n dX8_passesTo_79 rfl (Nat.le_of_ble_eq_true rfl) (ls' := [vR a0, vI x1, vI (ndM M3)]) rfl ?_
    refine a_goto dX8_passesTo_80 (tgt := 35) rfl ?_
    exact h

theorem c_passesTo {l : Launch} {G : GT} {d : Nat} {H : AH} {a : Int} {M : Row} {t : Int} (hW : MW H a M) (hD : okD M) (ht : M 0 ≤ t ∧ t ≤ 207200) (hd : 16 ≤ d := by omega) : CL l G mX8_passesTo d 0 0 [vR a, vI t] H (fun r H' => r = vV ∧ only H H' (pMt a) ∧ MW H' a (pasM M t)) := by
  obtain ⟨d, rfl⟩ : ∃ k, d = k + 1 := ⟨d - 1, by omega⟩
  have hM := hW.2.2.1
  have key : ∀ (n : Nat) (Mc : Row) (H' : AH), okD Mc → fzA Mc → Mc 0 ≤ t → t - Mc 0 ≤ n → pasN t n Mc = pasM M t → only H H' (pMt a) → MW H' a Mc → AW l G mX8_passesTo (d + 1) 0 0 (fun r H' => r = vV ∧ only H H' (pMt a) ∧ MW H' a (pasM M t)) 4 [vR a, vI t, vU] [] 0 0 H' := by
    intro n
    induction n with
    | zero =>
      intro Mc H' hDc hz h1 h2 he ho hW'
      refine s_X8_passesTo_4 hW' ⟨fun _ => ⟨rfl, ho, ?_⟩, fun c => absurd c (by omega)⟩
      rw [← he]
      exact hW'
    | succ n ihn =>
      intro Mc H' hDc hz h1 h2 he ho hW'
      have hMc := hW'.2.2.1
      refine s_X8_passesTo_4 hW' ⟨fun c => ⟨rfl, ho, ?_⟩, fun c => ⟨by have := hMc.1.1; omega, fun H1 o1 w1 m1 H2 e2 M2 eM H3 e3 => ?_⟩⟩
      · rw [pasN, if_pos c] at he
        rw [← he]
        exact hW'
      · rw [pasN, if_neg c] at he
        have h0 := hMc.1.1
        have hx := nxT_in hMc hz (t := t) (by omega)
        have x3 := mx2 w1.1 w1.2.1 e2 e3
        rw [← eM] at x3
        have hM2 : okM M2 := by rw [eM]; exact okM_mv hMc (by omega)
        have hD2 : okD M2 := by rw [eM]; exact mv_D hDc
        obtain ⟨s1, s2, s3, s4, s5⟩ := step_ok hMc hDc hz (t := t) ⟨by omega, ht.2⟩
        have key2 : ∀ (k : Nat) (Mf : Row) (H5 : AH), okD Mf → frzC Mf ≤ k → frzM (finN k Mf) = stepM Mc t → only H H5 (pMt a) → MW H5 a Mf → AW l G mX8_passesTo (d + 1) 0 0 (fun r H' => r = vV ∧ only H H' (pMt a) ∧ MW H' a (pasM M t)) 35 [vR a, vI t, vI (ndM Mf)] [] 0 0 H5 := by
          have fin : ∀ (Mf : Row) (H5 : AH), frzM Mf = stepM Mc t → only H H5 (pMt a) → ∀ H6 : AH, ∀ M6 : Row, M6 = frzM Mf → only H5 H6 (pMt a) → MW H6 a M6 → AW l G mX8_passesTo (d + 1) 0 0 (fun r H' => r = vV ∧ only H H' (pMt a) ∧ MW H' a (pasM M t)) 4 [vR a, vI t, vU] [] 0 0 H6 := by
            intro Mf H5 e5 o5 H6 M6 e6 o6 w6
            rw [e5] at e6
            subst e6
            exact ihn _ H6 s2 s3 (by omega) (by omega) he (o5.trans o6) w6
          intro k
          induction k with
          | zero =>
            intro Mf H5 hDf hc e5 o5 w5
            have hMf := w5.2.2.1
            have hc0 : 0 ≤ frzC Mf := (sm01 (fun k _ => bi_in _)).1
            have e := nd_none hMf (by omega)
            exact s_X8_passesTo_35 w5 ⟨fun _ => fin Mf H5 e5 o5, fun c => absurd e c⟩
          | succ k ihk =>
            intro Mf H5 hDf hc e5 o5 w5
            have hMf := w5.2.2.1
            have h6 := okM_n hMf
            refine s_X8_passesTo_35 w5 ⟨fun c3 => fin Mf H5 (by rw [finN, if_pos c3] at e5; exact e5) o5, fun c3 => ?_⟩
            have f := nd_fl hMf c3
            have h7 := okD_lt hMf hDf f.1 f.2.1
            have g7 := hMf.1.2.2.2.2.2.2.2.1
            refine ⟨by have := f.1; omega, fun H6 M6 e6 x6 => ?_⟩
            have e67 : M6 7 = Mf 7 := by rw [e6, lo_up (by omega) f.1.1 (by omega)]
            rw [e67]
            refine ⟨by omega, by omega, fun H7 e7 M7 eM7 => ?_⟩
            have e77 : M7 7 = Mf 7 := by rw [eM7, upM_ne _ (by omega), e67]
            rw [e77]
            refine ⟨by omega, fun H8 e8 M8 eM8 => ?_⟩
            have eF : M8 = fin1 Mf (ndM Mf) := by rw [eM8, eM7, e6]; rfl
            have hM8 : okM M8 := by rw [eF]; exact okM_fin1 hMf hDf f.1 f.2.1
            have n1 : nrf H6 (a + 1) (32 + Mf 7) := nrf_arr (kMod_1 x6.2.1) (by decide) (by decide)
            have L7 : Lay LMod H7 a := by rw [e7]; exact x6.2.1.wr ok_Mod n1
            have n2 : nrf H7 (a + 1) 7 := nrf_arr (kMod_1 L7) (by decide) (by decide)
            have o68 : only H6 H8 (pMt a) := by rw [e8, e7]; exact (only.wr (Or.inr rfl)).trans (only.wr (Or.inr rfl))
            have k8 : mkd H8 a := Or.inl (by rw [e8, hg_ne _ (by omega), e7, hg_ne _ (by omega)]; exact x6.2.2.2)
            have o8 := (o5.trans x6.1).trans o68
            refine ⟨⟨hM8, k8⟩, fun H9 o9 w9 => ?_⟩
            refine ihk M8 H9 ?_ ?_ ?_ (o8.trans (o9.mono pMks_mt)) w9
            · rw [eF]; exact fin1_D hMf hDf f.1 f.2.1
            · rw [eF, fin1_C hMf hDf f.1 f.2.1]; omega
            · rw [finN, if_neg c3, ← eF] at e5; exact e5
        refine ⟨⟨hM2, x3.mk⟩, fun H4 o4 w4 => key2 24 M2 H4 hD2 ?_ ?_ (((ho.trans (o1.mono pMks_mt)).trans x3.1).trans (o4.mono pMks_mt)) w4⟩
        · have : frzC M2 ≤ (M2 6).toNat := (sm01 (fun k _ => bi_in _)).2
          have := okM_n hM2
          omega
        · rw [eM]; rfl
  refine CL.of (by decide) rfl (Nat.le_of_ble_eq_true rfl) (s_X8_passesTo_0 hW fun H1 M1 e1 o1 w1 => ?_)
  have z := frzM_stab hM
  subst e1
  exact key (t - M 0).toNat (frzM M) H1 (frzM_D hM hD) (frzM_fz hM) (by omega) (by omega) rfl o1 w1

theorem dX8_advance_0 : decode cX8_advance 0 = .ok (.aload_n 0, 1) := by decide +kernel
theorem dX8_advance_1 : decode cX8_advance 1 = .ok (.iload_n 1, 1) := by decide +kernel
theorem dX8_advance_2 : decode cX8_advance 2 = .ok (.iconst 1, 1) := by decide +kernel
theorem dX8_advance_3 : decode cX8_advance 3 = .ok (.sipush 7200, 3) := by decide +kernel
theorem dX8_advance_6 : decode cX8_advance 6 = .ok (.invokestatic 67, 3) := by decide +kernel
theorem dX8_advance_9 : decode cX8_advance 9 = .ok (.invokevirtual 78, 3) := by decide +kernel
theorem dX8_advance_12 : decode cX8_advance 12 = .ok (.ifCond .ne 5, 3) := by decide +kernel
theorem dX8_advance_15 : decode cX8_advance 15 = .ok (.iconst 0, 1) := by decide +kernel
theorem dX8_advance_16 : decode cX8_advance 16 = .ok (.ireturn, 1) := by decide +kernel
theorem dX8_advance_17 : decode cX8_advance 17 = .ok (.aload_n 0, 1) := by decide +kernel
theorem dX8_advance_18 : decode cX8_advance 18 = .ok (.getfield 9, 3) := by decide +kernel
theorem dX8_advance_21 : decode cX8_advance 21 = .ok (.iconst 0, 1) := by decide +kernel
theorem dX8_advance_22 : decode cX8_advance 22 = .ok (.iaload, 1) := by decide +kernel
theorem dX8_advance_23 : decode cX8_advance 23 = .ok (.iload_n 1, 1) := by decide +kernel
theorem dX8_advance_24 : decode cX8_advance 24 = .ok (.iadd, 1) := by decide +kernel
theorem dX8_advance_25 : decode cX8_advance 25 = .ok (.ldc_w 328, 3) := by decide +kernel
theorem dX8_advance_28 : decode cX8_advance 28 = .ok (.if_icmp .le 6, 3) := by decide +kernel
theorem dX8_advance_31 : decode cX8_advance 31 = .ok (.bipush (-2), 2) := by decide +kernel
theorem dX8_advance_33 : decode cX8_advance 33 = .ok (.ireturn, 1) := by decide +kernel
theorem dX8_advance_34 : decode cX8_advance 34 = .ok (.aload_n 0, 1) := by decide +kernel
theorem dX8_advance_35 : decode cX8_advance 35 = .ok (.getfield 9, 3) := by decide +kernel
theorem dX8_advance_38 : decode cX8_advance 38 = .ok (.bipush 7, 2) := by decide +kernel
theorem dX8_advance_40 : decode cX8_advance 40 = .ok (.iaload, 1) := by decide +kernel
theorem dX8_advance_41 : decode cX8_advance 41 = .ok (.istore_n 2, 1) := by decide +kernel
theorem dX8_advance_42 : decode cX8_advance 42 = .ok (.aload_n 0, 1) := by decide +kernel
theorem dX8_advance_43 : decode cX8_advance 43 = .ok (.aload_n 0, 1) := by decide +kernel
theorem dX8_advance_44 : decode cX8_advance 44 = .ok (.getfield 9, 3) := by decide +kernel
theorem dX8_advance_47 : decode cX8_advance 47 = .ok (.iconst 0, 1) := by decide +kernel
theorem dX8_advance_48 : decode cX8_advance 48 = .ok (.iaload, 1) := by decide +kernel
theorem dX8_advance_49 : decode cX8_advance 49 = .ok (.iload_n 1, 1) := by decide +kernel
theorem dX8_advance_50 : decode cX8_advance 50 = .ok (.iadd, 1) := by decide +kernel
theorem dX8_advance_51 : decode cX8_advance 51 = .ok (.invokevirtual 329, 3) := by decide +kernel
theorem dX8_advance_54 : decode cX8_advance 54 = .ok (.aload_n 0, 1) := by decide +kernel
theorem dX8_advance_55 : decode cX8_advance 55 = .ok (.getfield 9, 3) := by decide +kernel
theorem dX8_advance_58 : decode cX8_advance 58 = .ok (.bipush 7, 2) := by decide +kernel
theorem dX8_advance_60 : decode cX8_advance 60 = .ok (.iaload, 1) := by decide +kernel
theorem dX8_advance_61 : decode cX8_advance 61 = .ok (.iload_n 2, 1) := by decide +kernel
theorem dX8_advance_62 : decode cX8_advance 62 = .ok (.isub, 1) := by decide +kernel
theorem dX8_advance_63 : decode cX8_advance 63 = .ok (.ireturn, 1) := by decide +kernel
set_option maxRecDepth 20000 in
theorem s_X8_advance_0 {l : Launch} {G : GT} {d : Nat} {Q : AV → AH → Prop} {H : AH} {a0 x1 : Int} {M : Row} (hW : MW H a0 M) (h : ∀ H1 : AH, H1 = hs H a0 5 (1 - (bi (decide (1 ≤ x1 ∧ x1 ≤ 7200)))) → (1 ≤ x1 ∧ x1 ≤ 7200 → (-2147483648 ≤ (M 0) + x1 ∧ (M 0) + x1 ≤ 2147483647) ∧ (((M 0) + x1) ≤ 200000 → (okD M) ∧ (M 0 ≤ ((M 0) + x1) ∧ ((M 0) + x1) ≤ 207200) ∧ ∀ H2 : AH, ∀ M2 : Row, M2 = pasM M ((M 0) + x1) → only H1 H2 (pMt a0) → MW H2 a0 M2 → (-2147483648 ≤ (M2 7) - (M 7) ∧ (M2 7) - (M 7) ≤ 2147483647) ∧ Q (vI ((M2 7) - (M 7))) H2) ∧ (200000 < ((M 0) + x1) → Q (vI (-2)) H1)) ∧ (¬ (1 ≤ x1 ∧ x1 ≤ 7200) → Q (vI 0) H1)) (hd : 16 ≤ d := by omega) : AW l G mX8_advance (d + 1) 0 0 Q 0 [vR a0, vI x1, vU] [] 0 0 H := by
  refine a_aload_n dX8_advance_0 rfl rfl ?_
  refine a_iload_n dX8_advance_1 rfl rfl ?_
  refine a_iconst dX8_advance_2 ⟨by decide, by decide⟩ ?_
  refine a_sipush dX8_advance_3 (by decide) ?_
  refine a_callS dX8_advance_6 cw_X8_advance_6 (as := [vI x1, vI 1, vI 7200]) rfl rfl (Nat.le_refl _) (Nat.le_of_ble_eq_true rfl) (nocov rfl) (Nat.le_of_ble_eq_true rfl) (Nat.le_of_ble_eq_true rfl) (CL.mono (c_in  ) (fun r9 H9 h9 => ?_))
  rw [h9.1, h9.2]
  (try rw [hW.2.1])
  show AW l G mX8_advance (d + 1) 0 0 Q 9 [vR a0, vI x1, vU] [vI (bi (decide (1 ≤ x1 ∧ x1 ≤ 7200))), vR a0] 0 0 H
  refine a_callV dX8_advance_9 cw_X8_advance_9 (as := [vI (bi (decide (1 ≤ x1 ∧ x1 ≤ 7200)))]) rfl rfl (kMod_0 hW.1) (Nat.le_refl _) (Nat.le_of_ble_eq_true rfl) (nocov rfl) (Nat.le_of_ble_eq_true rfl) (Nat.le_of_ble_eq_true rfl) (CL.mono (c_isNumber hW.1 (bi_01 _)) (fun r9 H9 h9 => ?_))
  rw [h9.1, h9.2]
  (try rw [hW.2.1])
  have h_r0_1 := Lay.wr hW.1 ok_Mod (nrf_fld 5 (kMod_0 hW.1) (by decide) (by decide)) (i := 5) (x := (1 - (bi (decide (1 ≤ x1 ∧ x1 ≤ 7200)))))
  generalize e_H1 : hs H a0 5 (1 - (bi (decide (1 ≤ x1 ∧ x1 ≤ 7200)))) = H1 at h_r0_1 ⊢
  replace h := h H1 e_H1.symm
  have row_H1 := (show rowM H1 a0 = _ from by rw [← e_H1, rowM_ne (by omega), hW.2.1])
  have mk_H1 := (show okM _ ∧ mkd H1 a0 from by rw [← e_H1]; exact ⟨hW.2.2.1, mkd_wr hW.2.2.2 (by omega) (by omega) (by omega)⟩)
  show AW l G mX8_advance (d + 1) 0 0 Q 12 [vR a0, vI x1, vU] [vI (bi (decide (1 ≤ x1 ∧ x1 ≤ 7200)))] 0 0 H1
  refine a_if_ne dX8_advance_12 (tgt := 17) rfl (fun c12 => ?_) (fun c12 => ?_)
  · replace h := h.1 (bi_1 c12)
    refine a_aload_n dX8_advance_17 rfl rfl ?_
    refine a_getR dX8_advance_18 fw_RX8_9 rfl rfl (kMod_0 h_r0_1) (rMod_0_0 h_r0_1) ?_
    refine a_iconst dX8_advance_21 ⟨by decide, by decide⟩ ?_
    refine b_ialdV dX8_advance_22 (kMod_1 h_r0_1) (nMod_1 h_r0_1) (⟨by decide, by decide⟩) (congrFun row_H1 _) ?_
    refine a_iload_n dX8_advance_23 rfl rfl ?_
    obtain ⟨q24_0, h⟩ := h
    refine a_iadd dX8_advance_24 q24_0 ?_
    refine a_ldcw dX8_advance_25 (w_1685) ?_
    show AW l G mX8_advance (d + 1) 0 0 Q 28 [vR a0, vI x1, vU] [vI 200000, vI ((M 0) + x1)] 0 0 H1
    refine a_icmp_le dX8_advance_28 (tgt := 34) rfl (fun c28 => ?_) (fun c28 => ?_)
    · replace h := h.1 c28
      refine a_aload_n dX8_advance_34 rfl rfl ?_
      refine a_getR dX8_advance_35 fw_RX8_9 rfl rfl (kMod_0 h_r0_1) (rMod_0_0 h_r0_1) ?_
      refine a_bipush dX8_advance_38 (by decide) ?_
      refine b_ialdV dX8_advance_40 (kMod_1 h_r0_1) (nMod_1 h_r0_1) (⟨by decide, by decide⟩) (congrFun row_H1 _) ?_
      refine a_istore_n dX8_advance_41 rfl (Nat.le_of_ble_eq_true rfl) (ls' := [vR a0, vI x1, vI (M 7)]) rfl ?_
      refine a_aload_n dX8_advance_42 rfl rfl ?_
      refine a_aload_n dX8_advance_43 rfl rfl ?_
      refine a_getR dX8_advance_44 fw_RX8_9 rfl rfl (kMod_0 h_r0_1) (rMod_0_0 h_r0_1) ?_
      refine a_iconst dX8_advance_47 ⟨by decide, by decide⟩ ?_
      refine b_ialdV dX8_advance_48 (kMod_1 h_r0_1) (nMod_1 h_r0_1) (⟨by decide, by decide⟩) (congrFun row_H1 _) ?_
      refine a_iload_n dX8_advance_49 rfl rfl ?_
      refine a_iadd dX8_advance_50 q24_0 ?_
      obtain ⟨q51_0, h⟩ := h
      obtain ⟨q51_1, h⟩ := h
      refine a_callV dX8_advance_51 cw_X8_advance_51 (as := [vI ((M 0) + x1)]) rfl rfl (kMod_0 h_r0_1) (Nat.le_refl _) (Nat.le_of_ble_eq_true rfl) (nocov rfl) (Nat.le_of_ble_eq_true rfl) (Nat.le_of_ble_eq_true rfl) (CL.mono (c_passesTo (show MW H1 a0 M from ⟨h_r0_1, row_H1, mk_H1⟩) q51_0 q51_1) (fun r9 H2 h9 => ?_))
      obtain ⟨e9, o_H2, hX_H2⟩ := h9
      rw [e9]
      obtain ⟨M2, e_M2⟩ : ∃ M2 : Row, M2 = pasM M ((M 0) + x1) := ⟨_, rfl⟩
      rw [← e_M2] at hX_H2
      replace h := h H2 M2 e_M2 o_H2 hX_H2
      show AW l G mX8_advance (d + 1) 0 0 Q 54 [vR a0, vI x1, vI (M 7)] [] 0 0 H2
      refine a_aload_n dX8_advance_54 rfl rfl ?_
      refine a_getR dX8_advance_55 fw_RX8_9 rfl rfl (kMod_0 hX_H2.1) (rMod_0_0 hX_H2.1) ?_
      refine a_bipush dX8_advance_58 (by decide) ?_
      refine b_ialdV dX8_advance_60 (kMod_1 hX_H2.1) (nMod_1 hX_H2.1) (⟨by decide, by decide⟩) (congrFun hX_H2.2.1 _) ?_
      refine a_iload_n dX8_advance_61 rfl rfl ?_
      obtain ⟨q62_0, h⟩ := h
      refine a_isub dX8_advance_62 q62_0 ?_
      exact a_iret dX8_advance_63 rfl (Nat.le_of_ble_eq_true rfl) (Nat.le_of_ble_eq_true rfl) h
    · replace h := h.2 c28
      refine a_bipush dX8_advance_31 (by decide) ?_
      exact a_iret dX8_advance_33 rfl (Nat.le_of_ble_eq_true rfl) (Nat.le_of_ble_eq_true rfl) h
  · replace h := h.2 (bi_0 c12)
    refine a_iconst dX8_advance_15 ⟨by decide, by decide⟩ ?_
    exact a_iret dX8_advance_16 rfl (Nat.le_of_ble_eq_true rfl) (Nat.le_of_ble_eq_true rfl) h

abbrev okSec (x : Int) : Prop := 1 ≤ x ∧ x ≤ 7200
noncomputable def advM (M : Row) (x : Int) : Row := if okSec x ∧ M 0 + x ≤ 200000 then pasM M (M 0 + x) else M
noncomputable def vAdv (M : Row) (x : Int) : Int := if okSec x then (if M 0 + x ≤ 200000 then (pasM M (M 0 + x)) 7 - M 7 else -2) else 0
theorem c_advance {l : Launch} {G : GT} {d : Nat} {H : AH} {a : Int} {M : Row} {x : Int} (hW : MW H a M) (hD : okD M) (hd : 17 ≤ d := by omega) : CL l G mX8_advance d 0 0 [vR a, vI x] H (mutP a (advM M x) (vI (vAdv M x)) (1 - bi (decide (okSec x))) H) := by
  obtain ⟨d, rfl⟩ : ∃ k, d = k + 1 := ⟨d - 1, by omega⟩
  have hM := hW.2.2.1
  have h0 := hM.1.1
  have h7 := hM.1.2.2.2.2.2.2.2.1
  have hn := okM_n hM
  refine CL.of (by decide) rfl (Nat.le_of_ble_eq_true rfl) (s_X8_advance_0 hW fun H1 e1 => ⟨fun c => ⟨by omega, fun c2 => ⟨hD, by omega, fun H2 M2 e2 o2 w2 => ?_⟩, fun c2 => ?_⟩, fun c => ?_⟩)
  · have p := pasM_ok hM hD (t := M 0 + x) (by omega)
    have h72 := p.1.1.2.2.2.2.2.2.2.1
    have hn2 := okM_n p.1
    rw [advM, if_pos ⟨c, c2⟩, vAdv, if_pos c, if_pos c2]
    subst e2
    exact ⟨by omega, rfl, pmx (pb_pm (pb1 hW e1)) o2 w2⟩
  · rw [advM, if_neg (by omega), vAdv, if_pos c, if_neg (by omega)]
    exact ⟨rfl, pb_pm (pb1 hW e1)⟩
  · rw [advM, if_neg (fun q => c q.1), vAdv, if_neg c]
    exact ⟨rfl, pb_pm (pb1 hW e1)⟩

theorem dX8_assign_0 : decode cX8_assign 0 = .ok (.aload_n 0, 1) := by decide +kernel
theorem dX8_assign_1 : decode cX8_assign 1 = .ok (.iload_n 1, 1) := by decide +kernel
theorem dX8_assign_2 : decode cX8_assign 2 = .ok (.invokevirtual 71, 3) := by decide +kernel
theorem dX8_assign_5 : decode cX8_assign 5 = .ok (.ifCond .eq 11, 3) := by decide +kernel
theorem dX8_assign_8 : decode cX8_assign 8 = .ok (.aload_n 0, 1) := by decide +kernel
theorem dX8_assign_9 : decode cX8_assign 9 = .ok (.iload_n 2, 1) := by decide +kernel
theorem dX8_assign_10 : decode cX8_assign 10 = .ok (.invokevirtual 276, 3) := by decide +kernel
theorem dX8_assign_13 : decode cX8_assign 13 = .ok (.ifCond .ne 5, 3) := by decide +kernel
theorem dX8_assign_16 : decode cX8_assign 16 = .ok (.iconst 0, 1) := by decide +kernel
theorem dX8_assign_17 : decode cX8_assign 17 = .ok (.ireturn, 1) := by decide +kernel
theorem dX8_assign_18 : decode cX8_assign 18 = .ok (.aload_n 0, 1) := by decide +kernel
theorem dX8_assign_19 : decode cX8_assign 19 = .ok (.iload_n 1, 1) := by decide +kernel
theorem dX8_assign_20 : decode cX8_assign 20 = .ok (.iload_n 2, 1) := by decide +kernel
theorem dX8_assign_21 : decode cX8_assign 21 = .ok (.invokevirtual 335, 3) := by decide +kernel
theorem dX8_assign_24 : decode cX8_assign 24 = .ok (.istore_n 3, 1) := by decide +kernel
theorem dX8_assign_25 : decode cX8_assign 25 = .ok (.iload_n 3, 1) := by decide +kernel
theorem dX8_assign_26 : decode cX8_assign 26 = .ok (.ifCond .eq 5, 3) := by decide +kernel
theorem dX8_assign_29 : decode cX8_assign 29 = .ok (.iload_n 3, 1) := by decide +kernel
theorem dX8_assign_30 : decode cX8_assign 30 = .ok (.ireturn, 1) := by decide +kernel
theorem dX8_assign_31 : decode cX8_assign 31 = .ok (.aload_n 0, 1) := by decide +kernel
theorem dX8_assign_32 : decode cX8_assign 32 = .ok (.iload_n 1, 1) := by decide +kernel
theorem dX8_assign_33 : decode cX8_assign 33 = .ok (.bipush 6, 2) := by decide +kernel
theorem dX8_assign_35 : decode cX8_assign 35 = .ok (.invokevirtual 75, 3) := by decide +kernel
theorem dX8_assign_38 : decode cX8_assign 38 = .ok (.istore 4, 2) := by decide +kernel
theorem dX8_assign_40 : decode cX8_assign 40 = .ok (.aload_n 0, 1) := by decide +kernel
theorem dX8_assign_41 : decode cX8_assign 41 = .ok (.iload_n 1, 1) := by decide +kernel
theorem dX8_assign_42 : decode cX8_assign 42 = .ok (.bipush 6, 2) := by decide +kernel
theorem dX8_assign_44 : decode cX8_assign 44 = .ok (.iload_n 2, 1) := by decide +kernel
theorem dX8_assign_45 : decode cX8_assign 45 = .ok (.invokevirtual 315, 3) := by decide +kernel
theorem dX8_assign_48 : decode cX8_assign 48 = .ok (.iload 4, 2) := by decide +kernel
theorem dX8_assign_50 : decode cX8_assign 50 = .ok (.ireturn, 1) := by decide +kernel
set_option maxRecDepth 20000 in
theorem s_X8_assign_0 {l : Launch} {G : GT} {d : Nat} {Q : AV → AH → Prop} {H : AH} {a0 x1 x2 : Int} {M : Row} (hW : MW H a0 M) (h : (0 ≤ M 6 ∧ M 6 ≤ 24) ∧ ∀ H1 : AH, H1 = hs H a0 5 (1 - bi (decide (0 ≤ x1 ∧ x1 < M 6))) → (¬ (0 ≤ x1 ∧ x1 < M 6) → Q (vI 0) H1) ∧ (0 ≤ x1 ∧ x1 < M 6 → (0 ≤ M 5 ∧ M 5 ≤ 3) ∧ ∀ H2 : AH, H2 = hs H1 a0 5 (1 - bi (decide (0 ≤ x2 ∧ x2 < M 5))) → (0 ≤ x2 ∧ x2 < M 5 → (0 ≤ x1 ∧ x1 < 24) ∧ (0 ≤ x2 ∧ x2 < 3) ∧ ((refuM M x1 x2) = 0 → ∀ H3 : AH, ∀ M3 : Row, M3 = upM M (56 + 16 * x1 + 6) x2 → MX H2 H3 a0 M3 → Q (vI (ofM M x1 6)) H3) ∧ (¬ (refuM M x1 x2) = 0 → Q (vI (refuM M x1 x2)) H2)) ∧ (¬ (0 ≤ x2 ∧ x2 < M 5) → Q (vI 0) H2))) (hd : 3 ≤ d := by omega) : AW l G mX8_assign (d + 1) 0 0 Q 0 [vR a0, vI x1, vI x2, vU, vU] [] 0 0 H := by
  refine a_aload_n dX8_assign_0 rfl rfl ?_
  refine a_iload_n dX8_assign_1 rfl rfl ?_
  obtain ⟨q2_0, h⟩ := h
  refine a_callV dX8_assign_2 cw_X8_assign_2 (as := [vI x1]) rfl rfl (kMod_0 hW.1) (Nat.le_refl _) (Nat.le_of_ble_eq_true rfl) (nocov rfl) (Nat.le_of_ble_eq_true rfl) (Nat.le_of_ble_eq_true rfl) (CL.mono (c_isFlight hW.1 (by rw [hW.2.1]; exact q2_0)) (fun r9 H9 h9 => ?_))
  rw [h9.1, h9.2]
  (try rw [hW.2.1])
  have h_r0_1 := Lay.wr hW.1 ok_Mod (nrf_fld 5 (kMod_0 hW.1) (by decide) (by decide)) (i := 5) (x := (1 - bi (decide (0 ≤ x1 ∧ x1 < M 6))))
  generalize e_H1 : hs H a0 5 (1 - bi (decide (0 ≤ x1 ∧ x1 < M 6))) = H1 at h_r0_1 ⊢
  replace h := h H1 e_H1.symm
  have row_H1 := (show rowM H1 a0 = _ from by rw [← e_H1, rowM_ne (by omega), hW.2.1])
  have mk_H1 := (show okM _ ∧ mkd H1 a0 from by rw [← e_H1]; exact ⟨hW.2.2.1, mkd_wr hW.2.2.2 (by omega) (by omega) (by omega)⟩)
  show AW l G mX8_assign (d + 1) 0 0 Q 5 [vR a0, vI x1, vI x2, vU, vU] [vI (bi (decide (0 ≤ x1 ∧ x1 < M 6)))] 0 0 H1
  refine a_if_eq dX8_assign_5 (tgt := 16) rfl (fun c5 => ?_) (fun c5 => ?_)
  · replace h := h.1 (bi_0 c5)
    refine a_iconst dX8_assign_16 ⟨by decide, by decide⟩ ?_
    exact a_iret dX8_assign_17 rfl (Nat.le_of_ble_eq_true rfl) (Nat.le_of_ble_eq_true rfl) h
  · replace h := h.2 (bi_1 c5)
    refine a_aload_n dX8_assign_8 rfl rfl ?_
    refine a_iload_n dX8_assign_9 rfl rfl ?_
    obtain ⟨q10_0, h⟩ := h
    refine a_callV dX8_assign_10 cw_X8_assign_10 (as := [vI x2]) rfl rfl (kMod_0 h_r0_1) (Nat.le_refl _) (Nat.le_of_ble_eq_true rfl) (nocov rfl) (Nat.le_of_ble_eq_true rfl) (Nat.le_of_ble_eq_true rfl) (CL.mono (c_isRunway h_r0_1 (by rw [row_H1]; exact q10_0)) (fun r9 H9 h9 => ?_))
    rw [h9.1, h9.2]
    (try rw [row_H1])
    have h_r0_2 := Lay.wr h_r0_1 ok_Mod (nrf_fld 5 (kMod_0 h_r0_1) (by decide) (by decide)) (i := 5) (x := (1 - bi (decide (0 ≤ x2 ∧ x2 < M 5))))
    generalize e_H2 : hs H1 a0 5 (1 - bi (decide (0 ≤ x2 ∧ x2 < M 5))) = H2 at h_r0_2 ⊢
    replace h := h H2 e_H2.symm
    have row_H2 := (show rowM H2 a0 = _ from by rw [← e_H2, rowM_ne (by omega), row_H1])
    have mk_H2 := (show okM _ ∧ mkd H2 a0 from by rw [← e_H2]; exact ⟨mk_H1.1, mkd_wr mk_H1.2 (by omega) (by omega) (by omega)⟩)
    show AW l G mX8_assign (d + 1) 0 0 Q 13 [vR a0, vI x1, vI x2, vU, vU] [vI (bi (decide (0 ≤ x2 ∧ x2 < M 5)))] 0 0 H2
    refine a_if_ne dX8_assign_13 (tgt := 18) rfl (fun c13 => ?_) (fun c13 => ?_)
    · replace h := h.1 (bi_1 c13)
      refine a_aload_n dX8_assign_18 rfl rfl ?_
      refine a_iload_n dX8_assign_19 rfl rfl ?_
      refine a_iload_n dX8_assign_20 rfl rfl ?_
      obtain ⟨q21_0, h⟩ := h
      obtain ⟨q21_1, h⟩ := h
      refine a_callV dX8_assign_21 cw_X8_assign_21 (as := [vI x1, vI x2]) rfl rfl (kMod_0 h_r0_2) (Nat.le_refl _) (Nat.le_of_ble_eq_true rfl) (nocov rfl) (Nat.le_of_ble_eq_true rfl) (Nat.le_of_ble_eq_true rfl) (CL.mono (c_refusal h_r0_2 q21_0 q21_1) (fun r9 H9 h9 => ?_))
      rw [h9.1, h9.2]
      (try rw [row_H2])
      show AW l G mX8_assign (d + 1) 0 0 Q 24 [vR a0, vI x1, vI x2, vU, vU] [vI (refuM M x1 x2)] 0 0 H2
      refine a_istore_n dX8_assign_24 rfl (Nat.le_of_ble_eq_true rfl) (ls' := [vR a0, vI x1, vI x2, vI (refuM M x1 x2), vU]) rfl ?_
      refine a_iload_n dX8_assign_25 rfl rfl ?_
      refine a_if_eq dX8_assign_26 (tgt := 31) rfl (fun c26 => ?_) (fun c26 => ?_)
      · replace h := h.1 c26
        refine a_aload_n dX8_assign_31 rfl rfl ?_
        refine a_iload_n dX8_assign_32 rfl rfl ?_
        refine a_bipush dX8_assign_33 (by decide) ?_
        refine a_callV dX8_assign_35 cw_X8_assign_35 (as := [vI x1, vI 6]) rfl rfl (kMod_0 h_r0_2) (Nat.le_refl _) (Nat.le_of_ble_eq_true rfl) (nocov rfl) (Nat.le_of_ble_eq_true rfl) (Nat.le_of_ble_eq_true rfl) (CL.mono (c_of h_r0_2 ⟨q21_0.1, q21_0.2, by decide, by decide⟩) (fun r9 H9 h9 => ?_))
        rw [h9.1, h9.2]
        (try rw [row_H2])
        show AW l G mX8_assign (d + 1) 0 0 Q 38 [vR a0, vI x1, vI x2, vI (refuM M x1 x2), vU] [vI (ofM M x1 6)] 0 0 H2
        refine a_istore dX8_assign_38 (Nat.le_of_ble_eq_true rfl) (ls' := [vR a0, vI x1, vI x2, vI (refuM M x1 x2), vI (ofM M x1 6)]) rfl ?_
        refine a_aload_n dX8_assign_40 rfl rfl ?_
        refine a_iload_n dX8_assign_41 rfl rfl ?_
        refine a_bipush dX8_assign_42 (by decide) ?_
        refine a_iload_n dX8_assign_44 rfl rfl ?_
        refine a_callV dX8_assign_45 cw_X8_assign_45 (as := [vI x1, vI 6, vI x2]) rfl rfl (kMod_0 h_r0_2) (Nat.le_refl _) (Nat.le_of_ble_eq_true rfl) (nocov rfl) (Nat.le_of_ble_eq_true rfl) (Nat.le_of_ble_eq_true rfl) (CL.mono (c_setsX h_r0_2 row_H2 ⟨q21_0.1, q21_0.2, by decide, by decide⟩) (fun r9 H3 h9 => ?_))
        obtain ⟨e9, hX_H3⟩ := h9
        rw [e9]
        obtain ⟨M3, e_M3⟩ : ∃ M3 : Row, M3 = upM M (56 + 16 * x1 + 6) x2 := ⟨_, rfl⟩
        rw [← e_M3] at hX_H3
        replace h := h H3 M3 e_M3 hX_H3
        show AW l G mX8_assign (d + 1) 0 0 Q 48 [vR a0, vI x1, vI x2, vI (refuM M x1 x2), vI (ofM M x1 6)] [] 0 0 H3
        refine a_iload dX8_assign_48 rfl ?_
        exact a_iret dX8_assign_50 rfl (Nat.le_of_ble_eq_true rfl) (Nat.le_of_ble_eq_true rfl) h
      · replace h := h.2 c26
        refine a_iload_n dX8_assign_29 rfl rfl ?_
        exact a_iret dX8_assign_30 rfl (Nat.le_of_ble_eq_true rfl) (Nat.le_of_ble_eq_true rfl) h
    · replace h := h.2 (bi_0 c13)
      refine a_iconst dX8_assign_16 ⟨by decide, by decide⟩ ?_
      exact a_iret dX8_assign_17 rfl (Nat.le_of_ble_eq_true rfl) (Nat.le_of_ble_eq_true rfl) h

abbrev okAs (M : Row) (f r : Int) : Prop := (fl M f ∧ rl M r) ∧ refuM M f r = 0
def asgM (M : Row) (f r : Int) : Row := upM M (56 + 16 * f + 6) r
theorem refu_0 {M : Row} {f r : Int} (h : refuM M f r = 0) : ofM M f 7 = 0 ∧ shr (ofM M f 5) r % 2 = 1 := by
  unfold refuM at h
  split at h
  · split at h
    · exact ⟨by assumption, by assumption⟩
    · omega
  · omega
theorem okM_asg {M : Row} (hM : okM M) {f r : Int} (h : okAs M f r) : okM (asgM M f r) := by
  obtain ⟨⟨hf, hr⟩, hu⟩ := h
  refine okM_one (g := f) hM (fun k _ q => lo_up q hf.1 (by omega)) (fun g w q1 _ q2 q3 => of_ne (by omega) (by omega) (Or.inl q1)) ?_
  obtain ⟨h0, h1, h2, h3, h4, h5, h6, h7, h8, h9⟩ := hM.2 f hf.1 hf.2
  unfold okF asgM
  rw [of_ne (by omega) (by omega) (by omega), of_ne (by omega) (by omega) (by omega), of_ne (by omega) (by omega) (by omega), of_ne (by omega) (by omega) (by omega), of_ne (by omega) (by omega) (by omega), of_ne (by omega) (by omega) (by omega), of_same (by omega), of_ne (by omega) (by omega) (by omega), of_ne (by omega) (by omega) (by omega), lo_up (by omega) hf.1 (by omega)]
  exact ⟨h0, h1, h2, h3, h4, h5, hr, h7, h8, (refu_0 hu).2⟩
def vAsg (M : Row) (f r : Int) : Int := if fl M f ∧ rl M r then (if refuM M f r = 0 then ofM M f 6 else refuM M f r) else 0
theorem c_assign {l : Launch} {G : GT} {d : Nat} {H : AH} {a : Int} {M : Row} {f r : Int} (hW : MW H a M) (hd : 4 ≤ d := by omega) : CL l G mX8_assign d 0 0 [vR a, vI f, vI r] H (mutP a (if okAs M f r then asgM M f r else M) (vI (vAsg M f r)) (1 - bi (decide (fl M f ∧ rl M r))) H) := by
  obtain ⟨d, rfl⟩ : ∃ k, d = k + 1 := ⟨d - 1, by omega⟩
  have hM := hW.2.2.1
  have hn := okM_n hM
  have hn5 := okM_5 hM
  refine CL.of (by decide) rfl (Nat.le_of_ble_eq_true rfl) (s_X8_assign_0 hW ⟨by omega, fun H1 e1 => ⟨fun c => ?_, fun c => ⟨by omega, fun H2 e2 => ⟨fun c2 => ⟨by omega, by omega, fun c3 H3 M3 e3 x3 => ?_, fun c3 => ?_⟩, fun c2 => ?_⟩⟩⟩⟩)
  · rw [if_neg (fun q => c q.1.1), vAsg, if_neg (fun q => c q.1), bi_f (fun q => c q.1)]
    rw [bi_f c] at e1
    exact ⟨rfl, pb_pm (pb1 hW e1)⟩
  · rw [if_pos ⟨⟨c, c2⟩, c3⟩, vAsg, if_pos ⟨c, c2⟩, if_pos c3, bi_t ⟨c, c2⟩]
    rw [bi_t c2] at e2
    subst e3
    exact ⟨rfl, pm_mx (pb_pm (pbt (pb1 hW e1) e2)) x3 (okM_asg hM ⟨⟨c, c2⟩, c3⟩)⟩
  · rw [if_neg (fun q => c3 q.2), vAsg, if_pos ⟨c, c2⟩, if_neg c3, bi_t ⟨c, c2⟩]
    rw [bi_t c2] at e2
    exact ⟨rfl, pb_pm (pbt (pb1 hW e1) e2)⟩
  · rw [if_neg (fun q => c2 q.1.2), vAsg, if_neg (fun q => c2 q.2), bi_f (fun q => c2 q.2)]
    rw [bi_f c2] at e2
    exact ⟨rfl, pb_pm (pbt (pb1 hW e1) e2)⟩

theorem dX8_cancel_0 : decode cX8_cancel 0 = .ok (.aload_n 0, 1) := by decide +kernel
theorem dX8_cancel_1 : decode cX8_cancel 1 = .ok (.iload_n 1, 1) := by decide +kernel
theorem dX8_cancel_2 : decode cX8_cancel 2 = .ok (.invokevirtual 71, 3) := by decide +kernel
theorem dX8_cancel_5 : decode cX8_cancel 5 = .ok (.ifCond .ne 5, 3) := by decide +kernel
theorem dX8_cancel_8 : decode cX8_cancel 8 = .ok (.iconst 0, 1) := by decide +kernel
theorem dX8_cancel_9 : decode cX8_cancel 9 = .ok (.ireturn, 1) := by decide +kernel
theorem dX8_cancel_10 : decode cX8_cancel 10 = .ok (.aload_n 0, 1) := by decide +kernel
theorem dX8_cancel_11 : decode cX8_cancel 11 = .ok (.iload_n 1, 1) := by decide +kernel
theorem dX8_cancel_12 : decode cX8_cancel 12 = .ok (.invokevirtual 264, 3) := by decide +kernel
theorem dX8_cancel_15 : decode cX8_cancel 15 = .ok (.ifCond .ne 6, 3) := by decide +kernel
theorem dX8_cancel_18 : decode cX8_cancel 18 = .ok (.bipush (-3), 2) := by decide +kernel
theorem dX8_cancel_20 : decode cX8_cancel 20 = .ok (.ireturn, 1) := by decide +kernel
theorem dX8_cancel_21 : decode cX8_cancel 21 = .ok (.aload_n 0, 1) := by decide +kernel
theorem dX8_cancel_22 : decode cX8_cancel 22 = .ok (.iload_n 1, 1) := by decide +kernel
theorem dX8_cancel_23 : decode cX8_cancel 23 = .ok (.bipush 7, 2) := by decide +kernel
theorem dX8_cancel_25 : decode cX8_cancel 25 = .ok (.iconst 3, 1) := by decide +kernel
theorem dX8_cancel_26 : decode cX8_cancel 26 = .ok (.invokevirtual 315, 3) := by decide +kernel
theorem dX8_cancel_29 : decode cX8_cancel 29 = .ok (.iconst 0, 1) := by decide +kernel
theorem dX8_cancel_30 : decode cX8_cancel 30 = .ok (.istore_n 2, 1) := by decide +kernel
theorem dX8_cancel_31 : decode cX8_cancel 31 = .ok (.iconst 0, 1) := by decide +kernel
theorem dX8_cancel_32 : decode cX8_cancel 32 = .ok (.istore_n 3, 1) := by decide +kernel
theorem dX8_cancel_33 : decode cX8_cancel 33 = .ok (.iload_n 3, 1) := by decide +kernel
theorem dX8_cancel_34 : decode cX8_cancel 34 = .ok (.aload_n 0, 1) := by decide +kernel
theorem dX8_cancel_35 : decode cX8_cancel 35 = .ok (.getfield 9, 3) := by decide +kernel
theorem dX8_cancel_38 : decode cX8_cancel 38 = .ok (.bipush 6, 2) := by decide +kernel
theorem dX8_cancel_40 : decode cX8_cancel 40 = .ok (.iaload, 1) := by decide +kernel
theorem dX8_cancel_41 : decode cX8_cancel 41 = .ok (.if_icmp .ge 25, 3) := by decide +kernel
theorem dX8_cancel_44 : decode cX8_cancel 44 = .ok (.iload_n 2, 1) := by decide +kernel
theorem dX8_cancel_45 : decode cX8_cancel 45 = .ok (.aload_n 0, 1) := by decide +kernel
theorem dX8_cancel_46 : decode cX8_cancel 46 = .ok (.iload_n 3, 1) := by decide +kernel
theorem dX8_cancel_47 : decode cX8_cancel 47 = .ok (.invokevirtual 264, 3) := by decide +kernel
theorem dX8_cancel_50 : decode cX8_cancel 50 = .ok (.ifCond .eq 7, 3) := by decide +kernel
theorem dX8_cancel_53 : decode cX8_cancel 53 = .ok (.iconst 1, 1) := by decide +kernel
theorem dX8_cancel_54 : decode cX8_cancel 54 = .ok (.goto 4, 3) := by decide +kernel
theorem dX8_cancel_57 : decode cX8_cancel 57 = .ok (.iconst 0, 1) := by decide +kernel
theorem dX8_cancel_58 : decode cX8_cancel 58 = .ok (.iadd, 1) := by decide +kernel
theorem dX8_cancel_59 : decode cX8_cancel 59 = .ok (.istore_n 2, 1) := by decide +kernel
theorem dX8_cancel_60 : decode cX8_cancel 60 = .ok (.iinc 3 1, 3) := by decide +kernel
theorem dX8_cancel_63 : decode cX8_cancel 63 = .ok (.goto (-30), 3) := by decide +kernel
theorem dX8_cancel_66 : decode cX8_cancel 66 = .ok (.iload_n 2, 1) := by decide +kernel
theorem dX8_cancel_67 : decode cX8_cancel 67 = .ok (.ireturn, 1) := by decide +kernel
set_option maxRecDepth 20000 in
theorem s_X8_cancel_0 {l : Launch} {G : GT} {d : Nat} {Q : AV → AH → Prop} {H : AH} {a0 x1 : Int} {M : Row} (hW : MW H a0 M) (h : (0 ≤ M 6 ∧ M 6 ≤ 24) ∧ ∀ H1 : AH, H1 = hs H a0 5 (1 - bi (decide (0 ≤ x1 ∧ x1 < M 6))) → (0 ≤ x1 ∧ x1 < M 6 → (0 ≤ x1 ∧ x1 < 24) ∧ (ofM M x1 7 = 0 → ∀ H2 : AH, ∀ M2 : Row, M2 = upM M (56 + 16 * x1 + 7) 3 → MX H1 H2 a0 M2 → AW l G mX8_cancel (d + 1) 0 0 Q 33 [vR a0, vI x1, vI 0, vI 0] [] 0 0 H2) ∧ (¬ (ofM M x1 7 = 0) → Q (vI (-3)) H1)) ∧ (¬ (0 ≤ x1 ∧ x1 < M 6) → Q (vI 0) H1)) (hd : 2 ≤ d := by omega) : AW l G mX8_cancel (d + 1) 0 0 Q 0 [vR a0, vI x1, vU, vU] [] 0 0 H := by
  refine a_aload_n dX8_cancel_0 rfl rfl ?_
  refine a_iload_n dX8_cancel_1 rfl rfl ?_
  obtain ⟨q2_0, h⟩ := h
  refine a_callV dX8_cancel_2 cw_X8_cancel_2 (as := [vI x1]) rfl rfl (kMod_0 hW.1) (Nat.le_refl _) (Nat.le_of_ble_eq_true rfl) (nocov rfl) (Nat.le_of_ble_eq_true rfl) (Nat.le_of_ble_eq_true rfl) (CL.mono (c_isFlight hW.1 (by rw [hW.2.1]; exact q2_0)) (fun r9 H9 h9 => ?_))
  rw [h9.1, h9.2]
  (try rw [hW.2.1])
  have h_r0_1 := Lay.wr hW.1 ok_Mod (nrf_fld 5 (kMod_0 hW.1) (by decide) (by decide)) (i := 5) (x := (1 - bi (decide (0 ≤ x1 ∧ x1 < M 6))))
  generalize e_H1 : hs H a0 5 (1 - bi (decide (0 ≤ x1 ∧ x1 < M 6))) = H1 at h_r0_1 ⊢
  replace h := h H1 e_H1.symm
  have row_H1 := (show rowM H1 a0 = _ from by rw [← e_H1, rowM_ne (by omega), hW.2.1])
  have mk_H1 := (show okM _ ∧ mkd H1 a0 from by rw [← e_H1]; exact ⟨hW.2.2.1, mkd_wr hW.2.2.2 (by omega) (by omega) (by omega)⟩)
  show AW l G mX8_cancel (d + 1) 0 0 Q 5 [vR a0, vI x1, vU, vU] [vI (bi (decide (0 ≤ x1 ∧ x1 < M 6)))] 0 0 H1
  refine a_if_ne dX8_cancel_5 (tgt := 10) rfl (fun c5 => ?_) (fun c5 => ?_)
  · replace h := h.1 (bi_1 c5)
    refine a_aload_n dX8_cancel_10 rfl rfl ?_
    refine a_iload_n dX8_cancel_11 rfl rfl ?_
    obtain ⟨q12_0, h⟩ := h
    refine a_callV dX8_cancel_12 cw_X8_cancel_12 (as := [vI x1]) rfl rfl (kMod_0 h_r0_1) (Nat.le_refl _) (Nat.le_of_ble_eq_true rfl) (nocov rfl) (Nat.le_of_ble_eq_true rfl) (Nat.le_of_ble_eq_true rfl) (CL.mono (c_isPlanned h_r0_1 q12_0) (fun r9 H9 h9 => ?_))
    rw [h9.1, h9.2]
    (try rw [row_H1])
    show AW l G mX8_cancel (d + 1) 0 0 Q 15 [vR a0, vI x1, vU, vU] [vI (bi (decide (ofM M x1 7 = 0)))] 0 0 H1
    refine a_if_ne dX8_cancel_15 (tgt := 21) rfl (fun c15 => ?_) (fun c15 => ?_)
    · replace h := h.1 (bi_1 c15)
      refine a_aload_n dX8_cancel_21 rfl rfl ?_
      refine a_iload_n dX8_cancel_22 rfl rfl ?_
      refine a_bipush dX8_cancel_23 (by decide) ?_
      refine a_iconst dX8_cancel_25 ⟨by decide, by decide⟩ ?_
      refine a_callV dX8_cancel_26 cw_X8_cancel_26 (as := [vI x1, vI 7, vI 3]) rfl rfl (kMod_0 h_r0_1) (Nat.le_refl _) (Nat.le_of_ble_eq_true rfl) (nocov rfl) (Nat.le_of_ble_eq_true rfl) (Nat.le_of_ble_eq_true rfl) (CL.mono (c_setsX h_r0_1 row_H1 ⟨q12_0.1, q12_0.2, by decide, by decide⟩) (fun r9 H2 h9 => ?_))
      obtain ⟨e9, hX_H2⟩ := h9
      rw [e9]
      obtain ⟨M2, e_M2⟩ : ∃ M2 : Row, M2 = upM M (56 + 16 * x1 + 7) 3 := ⟨_, rfl⟩
      rw [← e_M2] at hX_H2
      replace h := h H2 M2 e_M2 hX_H2
      show AW l G mX8_cancel (d + 1) 0 0 Q 29 [vR a0, vI x1, vU, vU] [] 0 0 H2
      refine a_iconst dX8_cancel_29 ⟨by decide, by decide⟩ ?_
      refine a_istore_n dX8_cancel_30 rfl (Nat.le_of_ble_eq_true rfl) (ls' := [vR a0, vI x1, vI 0, vU]) rfl ?_
      refine a_iconst dX8_cancel_31 ⟨by decide, by decide⟩ ?_
      refine a_istore_n dX8_cancel_32 rfl (Nat.le_of_ble_eq_true rfl) (ls' := [vR a0, vI x1, vI 0, vI 0]) rfl ?_
      exact h
    · replace h := h.2 (bi_0 c15)
      refine a_bipush dX8_cancel_18 (by decide) ?_
      exact a_iret dX8_cancel_20 rfl (Nat.le_of_ble_eq_true rfl) (Nat.le_of_ble_eq_true rfl) h
  · replace h := h.2 (bi_0 c5)
    refine a_iconst dX8_cancel_8 ⟨by decide, by decide⟩ ?_
    exact a_iret dX8_cancel_9 rfl (Nat.le_of_ble_eq_true rfl) (Nat.le_of_ble_eq_true rfl) h

set_option maxRecDepth 20000 in
theorem s_X8_cancel_33 {l : Launch} {G : GT} {d : Nat} {Q : AV → AH → Prop} {H : AH} {a0 x1 x2 x3 : Int} {M : Row} (hW : MW H a0 M) (h : ((M 6) ≤ x3 → Q (vI x2) H) ∧ (x3 < (M 6) → (0 ≤ x3 ∧ x3 < 24) ∧ (¬ (ofM M x3 7 = 0) → (-2147483648 ≤ x2 + 0 ∧ x2 + 0 ≤ 2147483647) ∧ (-2147483648 ≤ x3 + 1 ∧ x3 + 1 ≤ 2147483647) ∧ AW l G mX8_cancel (d + 1) 0 0 Q 33 [vR a0, vI x1, vI (x2 + 0), vI (x3 + 1)] [] 0 0 H) ∧ (ofM M x3 7 = 0 → (-2147483648 ≤ x2 + 1 ∧ x2 + 1 ≤ 2147483647) ∧ (-2147483648 ≤ x3 + 1 ∧ x3 + 1 ≤ 2147483647) ∧ AW l G mX8_cancel (d + 1) 0 0 Q 33 [vR a0, vI x1, vI (x2 + 1), vI (x3 + 1)] [] 0 0 H))) (hd : 2 ≤ d := by omega) : AW l G mX8_cancel (d + 1) 0 0 Q 33 [vR a0, vI x1, vI x2, vI x3] [] 0 0 H := by
  refine a_iload_n dX8_cancel_33 rfl rfl ?_
  refine a_aload_n dX8_cancel_34 rfl rfl ?_
  refine a_getR dX8_cancel_35 fw_RX8_9 rfl rfl (kMod_0 hW.1) (rMod_0_0 hW.1) ?_
  refine a_bipush dX8_cancel_38 (by decide) ?_
  refine b_ialdV dX8_cancel_40 (kMod_1 hW.1) (nMod_1 hW.1) (⟨by decide, by decide⟩) (congrFun hW.2.1 _) ?_
  refine a_icmp_ge dX8_cancel_41 (tgt := 66) rfl (fun c41 => ?_) (fun c41 => ?_)
  · replace h := h.1 c41
    refine a_iload_n dX8_cancel_66 rfl rfl ?_
    exact a_iret dX8_cancel_67 rfl (Nat.le_of_ble_eq_true rfl) (Nat.le_of_ble_eq_true rfl) h
  · replace h := h.2 c41
    refine a_iload_n dX8_cancel_44 rfl rfl ?_
    refine a_aload_n dX8_cancel_45 rfl rfl ?_
    refine a_iload_n dX8_cancel_46 rfl rfl ?_
    obtain ⟨q47_0, h⟩ := h
    refine a_callV dX8_cancel_47 cw_X8_cancel_47 (as := [vI x3]) rfl rfl (kMod_0 hW.1) (Nat.le_refl _) (Nat.le_of_ble_eq_true rfl) (nocov rfl) (Nat.le_of_ble_eq_true rfl) (Nat.le_of_ble_eq_true rfl) (CL.mono (c_isPlanned hW.1 q47_0) (fun r9 H9 h9 => ?_))
    rw [h9.1, h9.2]
    (try rw [hW.2.1])
    show AW l G mX8_cancel (d + 1) 0 0 Q 50 [vR a0, vI x1, vI x2, vI x3] [vI (bi (decide (ofM M x3 7 = 0))), vI x2] 0 0 H
    refine a_if_eq dX8_cancel_50 (tgt := 57) rfl (fun c50 => ?_) (fun c50 => ?_)
    · replace h := h.1 (bi_0 c50)
      refine a_iconst dX8_cancel_57 ⟨by decide, by decide⟩ ?_
      obtain ⟨q58_0, h⟩ := h
      refine a_iadd dX8_cancel_58 q58_0 ?_
      refine a_istore_n dX8_cancel_59 rfl (Nat.le_of_ble_eq_true rfl) (ls' := [vR a0, vI x1, vI (x2 + 0), vI x3]) rfl ?_
      obtain ⟨q60_0, h⟩ := h
      refine a_iinc dX8_cancel_60 rfl (Nat.le_of_ble_eq_true rfl) (by decide) q60_0 (ls' := [vR a0, vI x1, vI (x2 + 0), vI (x3 + 1)]) rfl ?_
      refine a_goto dX8_cancel_63 (tgt := 33) rfl ?_
      exact h
    · replace h := h.2 (bi_1 c50)
      refine a_iconst dX8_cancel_53 ⟨by decide, by decide⟩ ?_
      refine a_goto dX8_cancel_54 (tgt := 58) rfl ?_
      obtain ⟨q58_0, h⟩ := h
      refine a_iadd dX8_cancel_58 q58_0 ?_
      refine a_istore_n dX8_cancel_59 rfl (Nat.le_of_ble_eq_true rfl) (ls' := [vR a0, vI x1, vI (x2 + 1), vI x3]) rfl ?_
      obtain ⟨q60_0, h⟩ := h
      refine a_iinc dX8_cancel_60 rfl (Nat.le_of_ble_eq_true rfl) (by decide) q60_0 (ls' := [vR a0, vI x1, vI (x2 + 1), vI (x3 + 1)]) rfl ?_
      refine a_goto dX8_cancel_63 (tgt := 33) rfl ?_
      exact h

abbrev okCn (M : Row) (f : Int) : Prop := fl M f ∧ ofM M f 7 = 0
def cncM (M : Row) (f : Int) : Row := upM M (56 + 16 * f + 7) 3
theorem okM_cnc {M : Row} (hM : okM M) {f : Int} (hf : fl M f) : okM (cncM M f) := by
  refine okM_one (g := f) hM (fun k _ q => lo_up q hf.1 (by omega)) (fun g w q1 _ q2 q3 => of_ne (by omega) (by omega) (Or.inl q1)) ?_
  obtain ⟨h0, h1, h2, h3, h4, h5, h6, h7, h8, h9⟩ := hM.2 f hf.1 hf.2
  unfold okF cncM
  rw [of_ne (by omega) (by omega) (by omega), of_ne (by omega) (by omega) (by omega), of_ne (by omega) (by omega) (by omega), of_ne (by omega) (by omega) (by omega), of_ne (by omega) (by omega) (by omega), of_ne (by omega) (by omega) (by omega), of_ne (by omega) (by omega) (by omega), of_same (by omega), of_ne (by omega) (by omega) (by omega), lo_up (by omega) hf.1 (by omega)]
  exact ⟨h0, h1, h2, h3, h4, h5, h6, by omega, fun q => by omega, h9⟩
def leftN (M : Row) : Nat → Int := sm (fun k => bi (decide (ofM M k 7 = 0)))
def vCnc (M : Row) (f : Int) : Int := if fl M f then (if ofM M f 7 = 0 then leftN (cncM M f) (M 6).toNat else -3) else 0
theorem c_cancel {l : Launch} {G : GT} {d : Nat} {H : AH} {a : Int} {M : Row} {f : Int} (hW : MW H a M) (hd : 3 ≤ d := by omega) : CL l G mX8_cancel d 0 0 [vR a, vI f] H (mutP a (if okCn M f then cncM M f else M) (vI (vCnc M f)) (1 - bi (decide (fl M f))) H) := by
  obtain ⟨d, rfl⟩ : ∃ k, d = k + 1 := ⟨d - 1, by omega⟩
  have hM := hW.2.2.1
  have hn := okM_n hM
  refine CL.of (by decide) rfl (Nat.le_of_ble_eq_true rfl) (s_X8_cancel_0 hW ⟨by omega, fun H1 e1 => ⟨fun c => ⟨by omega, fun c2 H2 M2 e2 x2 => ?_, fun c2 => ?_⟩, fun c => ?_⟩⟩)
  · rw [if_pos ⟨c, c2⟩, vCnc, if_pos c, if_pos c2]
    subst e2
    have hb : pmW a (cncM M f) (1 - bi (decide (fl M f))) H H2 := pm_mx (pb_pm (pb1 hW e1)) x2 (okM_cnc hM c)
    have e6 : (cncM M f) 6 = M 6 := lo_up (by omega) c.1 (by omega)
    have key : ∀ j, j ≤ (M 6).toNat → AW l G mX8_cancel (d + 1) 0 0 (mutP a (cncM M f) (vI (leftN (cncM M f) (M 6).toNat)) (1 - bi (decide (fl M f))) H) 33 [vR a, vI f, vI (leftN (cncM M f) j), vI j] [] 0 0 H2 := by
      refine upN _ ?_ ?_
      · intro j hj ih
        have h9 : 0 ≤ leftN (cncM M f) j ∧ leftN (cncM M f) j ≤ j := sm01 (fun k _ => bi_in _)
        refine s_X8_cancel_33 hb.2.2 ⟨fun q => absurd q (by rw [e6]; omega), fun q => ⟨by omega, fun q2 => ⟨by omega, by omega, ?_⟩, fun q2 => ⟨by omega, by omega, ?_⟩⟩⟩
        · rw [leftN, sm, bi_f q2] at ih
          exact ih
        · rw [leftN, sm, bi_t q2] at ih
          exact ih
      · exact s_X8_cancel_33 hb.2.2 ⟨fun _ => ⟨rfl, hb⟩, fun q => absurd q (by rw [e6]; omega)⟩
    exact key 0 (Nat.zero_le _)
  · rw [if_neg (fun q => c2 q.2), vCnc, if_pos c, if_neg c2]
    exact ⟨rfl, pb_pm (pb1 hW e1)⟩
  · rw [if_neg (fun q => c q.1), vCnc, if_neg c]
    exact ⟨rfl, pb_pm (pb1 hW e1)⟩

theorem dX8_goesAround_0 : decode cX8_goesAround 0 = .ok (.aload_n 0, 1) := by decide +kernel
theorem dX8_goesAround_1 : decode cX8_goesAround 1 = .ok (.getfield 9, 3) := by decide +kernel
theorem dX8_goesAround_4 : decode cX8_goesAround 4 = .ok (.iconst 0, 1) := by decide +kernel
theorem dX8_goesAround_5 : decode cX8_goesAround 5 = .ok (.iaload, 1) := by decide +kernel
theorem dX8_goesAround_6 : decode cX8_goesAround 6 = .ok (.aload_n 0, 1) := by decide +kernel
theorem dX8_goesAround_7 : decode cX8_goesAround 7 = .ok (.getfield 9, 3) := by decide +kernel
theorem dX8_goesAround_10 : decode cX8_goesAround 10 = .ok (.iconst 3, 1) := by decide +kernel
theorem dX8_goesAround_11 : decode cX8_goesAround 11 = .ok (.iaload, 1) := by decide +kernel
theorem dX8_goesAround_12 : decode cX8_goesAround 12 = .ok (.iadd, 1) := by decide +kernel
theorem dX8_goesAround_13 : decode cX8_goesAround 13 = .ok (.istore_n 2, 1) := by decide +kernel
theorem dX8_goesAround_14 : decode cX8_goesAround 14 = .ok (.aload_n 0, 1) := by decide +kernel
theorem dX8_goesAround_15 : decode cX8_goesAround 15 = .ok (.iload_n 1, 1) := by decide +kernel
theorem dX8_goesAround_16 : decode cX8_goesAround 16 = .ok (.iconst 3, 1) := by decide +kernel
theorem dX8_goesAround_17 : decode cX8_goesAround 17 = .ok (.invokevirtual 75, 3) := by decide +kernel
theorem dX8_goesAround_20 : decode cX8_goesAround 20 = .ok (.iload_n 2, 1) := by decide +kernel
theorem dX8_goesAround_21 : decode cX8_goesAround 21 = .ok (.invokestatic 213, 3) := by decide +kernel
theorem dX8_goesAround_24 : decode cX8_goesAround 24 = .ok (.istore_n 3, 1) := by decide +kernel
theorem dX8_goesAround_25 : decode cX8_goesAround 25 = .ok (.aload_n 0, 1) := by decide +kernel
theorem dX8_goesAround_26 : decode cX8_goesAround 26 = .ok (.iload_n 1, 1) := by decide +kernel
theorem dX8_goesAround_27 : decode cX8_goesAround 27 = .ok (.iconst 2, 1) := by decide +kernel
theorem dX8_goesAround_28 : decode cX8_goesAround 28 = .ok (.iload_n 2, 1) := by decide +kernel
theorem dX8_goesAround_29 : decode cX8_goesAround 29 = .ok (.invokevirtual 315, 3) := by decide +kernel
theorem dX8_goesAround_32 : decode cX8_goesAround 32 = .ok (.aload_n 0, 1) := by decide +kernel
theorem dX8_goesAround_33 : decode cX8_goesAround 33 = .ok (.iload_n 1, 1) := by decide +kernel
theorem dX8_goesAround_34 : decode cX8_goesAround 34 = .ok (.iconst 3, 1) := by decide +kernel
theorem dX8_goesAround_35 : decode cX8_goesAround 35 = .ok (.iload_n 3, 1) := by decide +kernel
theorem dX8_goesAround_36 : decode cX8_goesAround 36 = .ok (.invokevirtual 315, 3) := by decide +kernel
theorem dX8_goesAround_39 : decode cX8_goesAround 39 = .ok (.aload_n 0, 1) := by decide +kernel
theorem dX8_goesAround_40 : decode cX8_goesAround 40 = .ok (.iload_n 1, 1) := by decide +kernel
theorem dX8_goesAround_41 : decode cX8_goesAround 41 = .ok (.iconst 4, 1) := by decide +kernel
theorem dX8_goesAround_42 : decode cX8_goesAround 42 = .ok (.aload_n 0, 1) := by decide +kernel
theorem dX8_goesAround_43 : decode cX8_goesAround 43 = .ok (.iload_n 1, 1) := by decide +kernel
theorem dX8_goesAround_44 : decode cX8_goesAround 44 = .ok (.iconst 4, 1) := by decide +kernel
theorem dX8_goesAround_45 : decode cX8_goesAround 45 = .ok (.invokevirtual 75, 3) := by decide +kernel
theorem dX8_goesAround_48 : decode cX8_goesAround 48 = .ok (.iload_n 3, 1) := by decide +kernel
theorem dX8_goesAround_49 : decode cX8_goesAround 49 = .ok (.invokestatic 213, 3) := by decide +kernel
theorem dX8_goesAround_52 : decode cX8_goesAround 52 = .ok (.invokevirtual 315, 3) := by decide +kernel
theorem dX8_goesAround_55 : decode cX8_goesAround 55 = .ok (.aload_n 0, 1) := by decide +kernel
theorem dX8_goesAround_56 : decode cX8_goesAround 56 = .ok (.iload_n 1, 1) := by decide +kernel
theorem dX8_goesAround_57 : decode cX8_goesAround 57 = .ok (.bipush 7, 2) := by decide +kernel
theorem dX8_goesAround_59 : decode cX8_goesAround 59 = .ok (.iconst 0, 1) := by decide +kernel
theorem dX8_goesAround_60 : decode cX8_goesAround 60 = .ok (.invokevirtual 315, 3) := by decide +kernel
theorem dX8_goesAround_63 : decode cX8_goesAround 63 = .ok (.aload_n 0, 1) := by decide +kernel
theorem dX8_goesAround_64 : decode cX8_goesAround 64 = .ok (.iload_n 1, 1) := by decide +kernel
theorem dX8_goesAround_65 : decode cX8_goesAround 65 = .ok (.bipush 9, 2) := by decide +kernel
theorem dX8_goesAround_67 : decode cX8_goesAround 67 = .ok (.aload_n 0, 1) := by decide +kernel
theorem dX8_goesAround_68 : decode cX8_goesAround 68 = .ok (.iload_n 1, 1) := by decide +kernel
theorem dX8_goesAround_69 : decode cX8_goesAround 69 = .ok (.bipush 9, 2) := by decide +kernel
theorem dX8_goesAround_71 : decode cX8_goesAround 71 = .ok (.invokevirtual 75, 3) := by decide +kernel
theorem dX8_goesAround_74 : decode cX8_goesAround 74 = .ok (.iconst 1, 1) := by decide +kernel
theorem dX8_goesAround_75 : decode cX8_goesAround 75 = .ok (.iadd, 1) := by decide +kernel
theorem dX8_goesAround_76 : decode cX8_goesAround 76 = .ok (.invokevirtual 315, 3) := by decide +kernel
theorem dX8_goesAround_79 : decode cX8_goesAround 79 = .ok (.return_, 1) := by decide +kernel
set_option maxRecDepth 20000 in
theorem s_X8_goesAround_0 {l : Launch} {G : GT} {d : Nat} {Q : AV → AH → Prop} {H : AH} {a0 x1 : Int} {M : Row} (hW : MW H a0 M) (h : (-2147483648 ≤ (M 0) + (M 3) ∧ (M 0) + (M 3) ≤ 2147483647) ∧ (0 ≤ x1 ∧ x1 < 24) ∧ ∀ H1 : AH, ∀ M1 : Row, M1 = upM M (56 + 16 * x1 + 2) ((M 0) + (M 3)) → MX H H1 a0 M1 → ∀ H2 : AH, ∀ M2 : Row, M2 = upM M1 (56 + 16 * x1 + 3) (max (ofM M x1 3) ((M 0) + (M 3))) → MX H1 H2 a0 M2 → ∀ H3 : AH, ∀ M3 : Row, M3 = upM M2 (56 + 16 * x1 + 4) (max (ofM M2 x1 4) (max (ofM M x1 3) ((M 0) + (M 3)))) → MX H2 H3 a0 M3 → ∀ H4 : AH, ∀ M4 : Row, M4 = upM M3 (56 + 16 * x1 + 7) 0 → MX H3 H4 a0 M4 → (-2147483648 ≤ (ofM M4 x1 9) + 1 ∧ (ofM M4 x1 9) + 1 ≤ 2147483647) ∧ ∀ H5 : AH, ∀ M5 : Row, M5 = upM M4 (56 + 16 * x1 + 9) ((ofM M4 x1 9) + 1) → MX H4 H5 a0 M5 → Q vV H5) (hd : 1 ≤ d := by omega) : AW l G mX8_goesAround (d + 1) 0 0 Q 0 [vR a0, vI x1, vU, vU] [] 0 0 H := by
  refine a_aload_n dX8_goesAround_0 rfl rfl ?_
  refine a_getR dX8_goesAround_1 fw_RX8_9 rfl rfl (kMod_0 hW.1) (rMod_0_0 hW.1) ?_
  refine a_iconst dX8_goesAround_4 ⟨by decide, by decide⟩ ?_
  refine b_ialdV dX8_goesAround_5 (kMod_1 hW.1) (nMod_1 hW.1) (⟨by decide, by decide⟩) (congrFun hW.2.1 _) ?_
  refine a_aload_n dX8_goesAround_6 rfl rfl ?_
  refine a_getR dX8_goesAround_7 fw_RX8_9 rfl rfl (kMod_0 hW.1) (rMod_0_0 hW.1) ?_
  refine a_iconst dX8_goesAround_10 ⟨by decide, by decide⟩ ?_
  refine b_ialdV dX8_goesAround_11 (kMod_1 hW.1) (nMod_1 hW.1) (⟨by decide, by decide⟩) (congrFun hW.2.1 _) ?_
  obtain ⟨q12_0, h⟩ := h
  refine a_iadd dX8_goesAround_12 q12_0 ?_
  refine a_istore_n dX8_goesAround_13 rfl (Nat.le_of_ble_eq_true rfl) (ls' := [vR a0, vI x1, vI ((M 0) + (M 3)), vU]) rfl ?_
  refine a_aload_n dX8_goesAround_14 rfl rfl ?_
  refine a_iload_n dX8_goesAround_15 rfl rfl ?_
  refine a_iconst dX8_goesAround_16 ⟨by decide, by decide⟩ ?_
  obtain ⟨q17_0, h⟩ := h
  refine a_callV dX8_goesAround_17 cw_X8_goesAround_17 (as := [vI x1, vI 3]) rfl rfl (kMod_0 hW.1) (Nat.le_refl _) (Nat.le_of_ble_eq_true rfl) (nocov rfl) (Nat.le_of_ble_eq_true rfl) (Nat.le_of_ble_eq_true rfl) (CL.mono (c_of hW.1 ⟨q17_0.1, q17_0.2, by decide, by decide⟩) (fun r9 H9 h9 => ?_))
  rw [h9.1, h9.2]
  (try rw [hW.2.1])
  show AW l G mX8_goesAround (d + 1) 0 0 Q 20 [vR a0, vI x1, vI ((M 0) + (M 3)), vU] [vI (ofM M x1 3)] 0 0 H
  refine a_iload_n dX8_goesAround_20 rfl rfl ?_
  refine a_mmax dX8_goesAround_21 cw_X8_goesAround_21 (Nat.le_of_ble_eq_true rfl) (Nat.le_of_ble_eq_true rfl) (Nat.le_of_ble_eq_true rfl) ?_
  refine a_istore_n dX8_goesAround_24 rfl (Nat.le_of_ble_eq_true rfl) (ls' := [vR a0, vI x1, vI ((M 0) + (M 3)), vI (max (ofM M x1 3) ((M 0) + (M 3)))]) rfl ?_
  refine a_aload_n dX8_goesAround_25 rfl rfl ?_
  refine a_iload_n dX8_goesAround_26 rfl rfl ?_
  refine a_iconst dX8_goesAround_27 ⟨by decide, by decide⟩ ?_
  refine a_iload_n dX8_goesAround_28 rfl rfl ?_
  refine a_callV dX8_goesAround_29 cw_X8_goesAround_29 (as := [vI x1, vI 2, vI ((M 0) + (M 3))]) rfl rfl (kMod_0 hW.1) (Nat.le_refl _) (Nat.le_of_ble_eq_true rfl) (nocov rfl) (Nat.le_of_ble_eq_true rfl) (Nat.le_of_ble_eq_true rfl) (CL.mono (c_setsX hW.1 hW.2.1 ⟨q17_0.1, q17_0.2, by decide, by decide⟩) (fun r9 H1 h9 => ?_))
  obtain ⟨e9, hX_H1⟩ := h9
  rw [e9]
  obtain ⟨M1, e_M1⟩ : ∃ M1 : Row, M1 = upM M (56 + 16 * x1 + 2) ((M 0) + (M 3)) := ⟨_, rfl⟩
  rw [← e_M1] at hX_H1
  replace h := h H1 M1 e_M1 hX_H1
  show AW l G mX8_goesAround (d + 1) 0 0 Q 32 [vR a0, vI x1, vI ((M 0) + (M 3)), vI (max (ofM M x1 3) ((M 0) + (M 3)))] [] 0 0 H1
  refine a_aload_n dX8_goesAround_32 rfl rfl ?_
  refine a_iload_n dX8_goesAround_33 rfl rfl ?_
  refine a_iconst dX8_goesAround_34 ⟨by decide, by decide⟩ ?_
  refine a_iload_n dX8_goesAround_35 rfl rfl ?_
  refine a_callV dX8_goesAround_36 cw_X8_goesAround_36 (as := [vI x1, vI 3, vI (max (ofM M x1 3) ((M 0) + (M 3)))]) rfl rfl (kMod_0 hX_H1.2.1) (Nat.le_refl _) (Nat.le_of_ble_eq_true rfl) (nocov rfl) (Nat.le_of_ble_eq_true rfl) (Nat.le_of_ble_eq_true rfl) (CL.mono (c_setsX hX_H1.2.1 hX_H1.2.2.1 ⟨q17_0.1, q17_0.2, by decide, by decide⟩) (fun r9 H2 h9 => ?_))
  obtain ⟨e9, hX_H2⟩ := h9
  rw [e9]
  obtain ⟨M2, e_M2⟩ : ∃ M2 : Row, M2 = upM M1 (56 + 16 * x1 + 3) (max (ofM M x1 3) ((M 0) + (M 3))) := ⟨_, rfl⟩
  rw [← e_M2] at hX_H2
  replace h := h H2 M2 e_M2 hX_H2
  show AW l G mX8_goesAround (d + 1) 0 0 Q 39 [vR a0, vI x1, vI ((M 0) + (M 3)), vI (max (ofM M x1 3) ((M 0) + (M 3)))] [] 0 0 H2
  refine a_aload_n dX8_goesAround_39 rfl rfl ?_
  refine a_iload_n dX8_goesAround_40 rfl rfl ?_
  refine a_iconst dX8_goesAround_41 ⟨by decide, by decide⟩ ?_
  refine a_aload_n dX8_goesAround_42 rfl rfl ?_
  refine a_iload_n dX8_goesAround_43 rfl rfl ?_
  refine a_iconst dX8_goesAround_44 ⟨by decide, by decide⟩ ?_
  refine a_callV dX8_goesAround_45 cw_X8_goesAround_45 (as := [vI x1, vI 4]) rfl rfl (kMod_0 hX_H2.2.1) (Nat.le_refl _) (Nat.le_of_ble_eq_true rfl) (nocov rfl) (Nat.le_of_ble_eq_true rfl) (Nat.le_of_ble_eq_true rfl) (CL.mono (c_of hX_H2.2.1 ⟨q17_0.1, q17_0.2, by decide, by decide⟩) (fun r9 H9 h9 => ?_))
  rw [h9.1, h9.2]
  (try rw [hX_H2.2.2.1])
  show AW l G mX8_goesAround (d + 1) 0 0 Q 48 [vR a0, vI x1, vI ((M 0) + (M 3)), vI (max (ofM M x1 3) ((M 0) + (M 3)))] [vI (ofM M2 x1 4), vI 4, vI x1, vR a0] 0 0 H2
  refine a_iload_n dX8_goesAround_48 rfl rfl ?_
  refine a_mmax dX8_goesAround_49 cw_X8_goesAround_49 (Nat.le_of_ble_eq_true rfl) (Nat.le_of_ble_eq_true rfl) (Nat.le_of_ble_eq_true rfl) ?_
  refine a_callV dX8_goesAround_52 cw_X8_goesAround_52 (as := [vI x1, vI 4, vI (max (ofM M2 x1 4) (max (ofM M x1 3) ((M 0) + (M 3))))]) rfl rfl (kMod_0 hX_H2.2.1) (Nat.le_refl _) (Nat.le_of_ble_eq_true rfl) (nocov rfl) (Nat.le_of_ble_eq_true rfl) (Nat.le_of_ble_eq_true rfl) (CL.mono (c_setsX hX_H2.2.1 hX_H2.2.2.1 ⟨q17_0.1, q17_0.2, by decide, by decide⟩) (fun r9 H3 h9 => ?_))
  obtain ⟨e9, hX_H3⟩ := h9
  rw [e9]
  obtain ⟨M3, e_M3⟩ : ∃ M3 : Row, M3 = upM M2 (56 + 16 * x1 + 4) (max (ofM M2 x1 4) (max (ofM M x1 3) ((M 0) + (M 3)))) := ⟨_, rfl⟩
  rw [← e_M3] at hX_H3
  replace h := h H3 M3 e_M3 hX_H3
  show AW l G mX8_goesAround (d + 1) 0 0 Q 55 [vR a0, vI x1, vI ((M 0) + (M 3)), vI (max (ofM M x1 3) ((M 0) + (M 3)))] [] 0 0 H3
  refine a_aload_n dX8_goesAround_55 rfl rfl ?_
  refine a_iload_n dX8_goesAround_56 rfl rfl ?_
  refine a_bipush dX8_goesAround_57 (by decide) ?_
  refine a_iconst dX8_goesAround_59 ⟨by decide, by decide⟩ ?_
  refine a_callV dX8_goesAround_60 cw_X8_goesAround_60 (as := [vI x1, vI 7, vI 0]) rfl rfl (kMod_0 hX_H3.2.1) (Nat.le_refl _) (Nat.le_of_ble_eq_true rfl) (nocov rfl) (Nat.le_of_ble_eq_true rfl) (Nat.le_of_ble_eq_true rfl) (CL.mono (c_setsX hX_H3.2.1 hX_H3.2.2.1 ⟨q17_0.1, q17_0.2, by decide, by decide⟩) (fun r9 H4 h9 => ?_))
  obtain ⟨e9, hX_H4⟩ := h9
  rw [e9]
  obtain ⟨M4, e_M4⟩ : ∃ M4 : Row, M4 = upM M3 (56 + 16 * x1 + 7) 0 := ⟨_, rfl⟩
  rw [← e_M4] at hX_H4
  replace h := h H4 M4 e_M4 hX_H4
  show AW l G mX8_goesAround (d + 1) 0 0 Q 63 [vR a0, vI x1, vI ((M 0) + (M 3)), vI (max (ofM M x1 3) ((M 0) + (M 3)))] [] 0 0 H4
  refine a_aload_n dX8_goesAround_63 rfl rfl ?_
  refine a_iload_n dX8_goesAround_64 rfl rfl ?_
  refine a_bipush dX8_goesAround_65 (by decide) ?_
  refine a_aload_n dX8_goesAround_67 rfl rfl ?_
  refine a_iload_n dX8_goesAround_68 rfl rfl ?_
  refine a_bipush dX8_goesAround_69 (by decide) ?_
  refine a_callV dX8_goesAround_71 cw_X8_goesAround_71 (as := [vI x1, vI 9]) rfl rfl (kMod_0 hX_H4.2.1) (Nat.le_refl _) (Nat.le_of_ble_eq_true rfl) (nocov rfl) (Nat.le_of_ble_eq_true rfl) (Nat.le_of_ble_eq_true rfl) (CL.mono (c_of hX_H4.2.1 ⟨q17_0.1, q17_0.2, by decide, by decide⟩) (fun r9 H9 h9 => ?_))
  rw [h9.1, h9.2]
  (try rw [hX_H4.2.2.1])
  show AW l G mX8_goesAround (d + 1) 0 0 Q 74 [vR a0, vI x1, vI ((M 0) + (M 3)), vI (max (ofM M x1 3) ((M 0) + (M 3)))] [vI (ofM M4 x1 9), vI 9, vI x1, vR a0] 0 0 H4
  refine a_iconst dX8_goesAround_74 ⟨by decide, by decide⟩ ?_
  obtain ⟨q75_0, h⟩ := h
  refine a_iadd dX8_goesAround_75 q75_0 ?_
  refine a_callV dX8_goesAround_76 cw_X8_goesAround_76 (as := [vI x1, vI 9, vI ((ofM M4 x1 9) + 1)]) rfl rfl (kMod_0 hX_H4.2.1) (Nat.le_refl _) (Nat.le_of_ble_eq_true rfl) (nocov rfl) (Nat.le_of_ble_eq_true rfl) (Nat.le_of_ble_eq_true rfl) (CL.mono (c_setsX hX_H4.2.1 hX_H4.2.2.1 ⟨q17_0.1, q17_0.2, by decide, by decide⟩) (fun r9 H5 h9 => ?_))
  obtain ⟨e9, hX_H5⟩ := h9
  rw [e9]
  obtain ⟨M5, e_M5⟩ : ∃ M5 : Row, M5 = upM M4 (56 + 16 * x1 + 9) ((ofM M4 x1 9) + 1) := ⟨_, rfl⟩
  rw [← e_M5] at hX_H5
  replace h := h H5 M5 e_M5 hX_H5
  show AW l G mX8_goesAround (d + 1) 0 0 Q 79 [vR a0, vI x1, vI ((M 0) + (M 3)), vI (max (ofM M x1 3) ((M 0) + (M 3)))] [] 0 0 H5
  exact a_vret dX8_goesAround_79 rfl (Nat.le_of_ble_eq_true rfl) (Nat.le_of_ble_eq_true rfl) h

def arM (M : Row) (f : Int) : Row := upM (upM (upM (upM (upM M (56 + 16 * f + 2) (M 0 + M 3)) (56 + 16 * f + 3) (max (ofM M f 3) (M 0 + M 3))) (56 + 16 * f + 4) (max (ofM M f 4) (max (ofM M f 3) (M 0 + M 3)))) (56 + 16 * f + 7) 0) (56 + 16 * f + 9) (ofM M f 9 + 1)
theorem arM_lo {M : Row} {f k : Int} (hf : 0 ≤ f) (hk : k < 56) : arM M f k = M k := by
  unfold arM
  rw [lo_up hk hf (by omega), lo_up hk hf (by omega), lo_up hk hf (by omega), lo_up hk hf (by omega), lo_up hk hf (by omega)]
theorem arM_ne {M : Row} {f g w : Int} (hw : 0 ≤ w ∧ w < 16) (h : g ≠ f ∨ (w ≠ 2 ∧ w ≠ 3 ∧ w ≠ 4 ∧ w ≠ 7 ∧ w ≠ 9)) : ofM (arM M f) g w = ofM M g w := by
  unfold arM
  rw [of_ne hw (by omega) (by omega), of_ne hw (by omega) (by omega), of_ne hw (by omega) (by omega), of_ne hw (by omega) (by omega), of_ne hw (by omega) (by omega)]
theorem arM_2 {M : Row} {f : Int} : ofM (arM M f) f 2 = M 0 + M 3 := by
  unfold arM
  rw [of_ne (by omega) (by omega) (by omega), of_ne (by omega) (by omega) (by omega), of_ne (by omega) (by omega) (by omega), of_ne (by omega) (by omega) (by omega), of_same (by omega)]
theorem arM_3 {M : Row} {f : Int} : ofM (arM M f) f 3 = max (ofM M f 3) (M 0 + M 3) := by
  unfold arM
  rw [of_ne (by omega) (by omega) (by omega), of_ne (by omega) (by omega) (by omega), of_ne (by omega) (by omega) (by omega), of_same (by omega)]
theorem arM_4 {M : Row} {f : Int} : ofM (arM M f) f 4 = max (ofM M f 4) (max (ofM M f 3) (M 0 + M 3)) := by
  unfold arM
  rw [of_ne (by omega) (by omega) (by omega), of_ne (by omega) (by omega) (by omega), of_same (by omega)]
theorem arM_7 {M : Row} {f : Int} : ofM (arM M f) f 7 = 0 := by
  unfold arM
  rw [of_ne (by omega) (by omega) (by omega), of_same (by omega)]
theorem arM_9 {M : Row} {f : Int} : ofM (arM M f) f 9 = ofM M f 9 + 1 := by
  unfold arM
  rw [of_same (by omega)]
theorem okM_ar {M : Row} (hM : okM M) {f : Int} (hf : fl M f) : okM (arM M f) := by
  refine okM_one (g := f) hM (fun k _ q => arM_lo hf.1 q) (fun g w q1 _ q2 q3 => arM_ne (by omega) (Or.inl q1)) ?_
  obtain ⟨h0, h1, h2, h3, h4, h5, h6, h7, h8, h9⟩ := hM.2 f hf.1 hf.2
  have g0 := hM.1.1
  have g3 := hM.1.2.2.2.1
  unfold okF
  rw [arM_ne (by omega) (by omega), arM_ne (by omega) (by omega), arM_2, arM_3, arM_4, arM_ne (by omega) (by omega), arM_ne (by omega) (by omega), arM_7, arM_ne (by omega) (by omega), arM_lo hf.1 (by omega)]
  exact ⟨h0, h1, by omega, by omega, by omega, h5, h6, by omega, fun q => by omega, h9⟩
theorem ar_D {M : Row} {f : Int} (hf : 0 ≤ f) (h : okD M) (h1 : ¬ ofM M f 7 = 2) : okD (arM M f) := by
  refine okD_same h (arM_lo hf (by omega)) (arM_lo hf (by omega)) (fun g hg => ?_)
  by_cases e : g = f
  · rw [e, arM_7]; omega
  · rw [arM_ne (by omega) (Or.inl e)]
theorem c_goesAround {l : Launch} {G : GT} {d : Nat} {H : AH} {a : Int} {M : Row} {f : Int} (hW : MW H a M) (hf : fl M f) (h9 : 0 ≤ ofM M f 9 ∧ ofM M f 9 ≤ 1000000000) (hd : 2 ≤ d := by omega) : CL l G mX8_goesAround d 0 0 [vR a, vI f] H (fun r H' => r = vV ∧ only H H' (pMt a) ∧ MW H' a (arM M f)) := by
  obtain ⟨d, rfl⟩ : ∃ k, d = k + 1 := ⟨d - 1, by omega⟩
  have hM := hW.2.2.1
  have hn := okM_n hM
  have g0 := hM.1.1
  have g3 := hM.1.2.2.2.1
  refine CL.of (by decide) rfl (Nat.le_of_ble_eq_true rfl) (s_X8_goesAround_0 hW ⟨by omega, by omega, fun H1 M1 e1 x1 H2 M2 e2 x2 H3 M3 e3 x3 H4 M4 e4 x4 => ?_⟩)
  have q4 : ofM M2 f 4 = ofM M f 4 := by rw [e2, of_ne (by omega) (by omega) (by omega), e1, of_ne (by omega) (by omega) (by omega)]
  have q9 : ofM M4 f 9 = ofM M f 9 := by rw [e4, of_ne (by omega) (by omega) (by omega), e3, of_ne (by omega) (by omega) (by omega), e2, of_ne (by omega) (by omega) (by omega), e1, of_ne (by omega) (by omega) (by omega)]
  rw [q9]
  refine ⟨by omega, fun H5 M5 e5 x5 => ?_⟩
  have eM : M5 = arM M f := by rw [e5, e4, e3, q4, e2, e1]; rfl
  rw [eM] at x5
  exact ⟨rfl, (((x1.1.trans x2.1).trans x3.1).trans x4.1).trans x5.1, x5.mw (okM_ar hM hf)⟩

theorem dX8_goAround_0 : decode cX8_goAround 0 = .ok (.aload_n 0, 1) := by decide +kernel
theorem dX8_goAround_1 : decode cX8_goAround 1 = .ok (.iload_n 1, 1) := by decide +kernel
theorem dX8_goAround_2 : decode cX8_goAround 2 = .ok (.invokevirtual 71, 3) := by decide +kernel
theorem dX8_goAround_5 : decode cX8_goAround 5 = .ok (.ifCond .ne 5, 3) := by decide +kernel
theorem dX8_goAround_8 : decode cX8_goAround 8 = .ok (.iconst 0, 1) := by decide +kernel
theorem dX8_goAround_9 : decode cX8_goAround 9 = .ok (.ireturn, 1) := by decide +kernel
theorem dX8_goAround_10 : decode cX8_goAround 10 = .ok (.aload_n 0, 1) := by decide +kernel
theorem dX8_goAround_11 : decode cX8_goAround 11 = .ok (.iload_n 1, 1) := by decide +kernel
theorem dX8_goAround_12 : decode cX8_goAround 12 = .ok (.invokevirtual 338, 3) := by decide +kernel
theorem dX8_goAround_15 : decode cX8_goAround 15 = .ok (.istore_n 2, 1) := by decide +kernel
theorem dX8_goAround_16 : decode cX8_goAround 16 = .ok (.iload_n 2, 1) := by decide +kernel
theorem dX8_goAround_17 : decode cX8_goAround 17 = .ok (.ifCond .eq 5, 3) := by decide +kernel
theorem dX8_goAround_20 : decode cX8_goAround 20 = .ok (.iload_n 2, 1) := by decide +kernel
theorem dX8_goAround_21 : decode cX8_goAround 21 = .ok (.ireturn, 1) := by decide +kernel
theorem dX8_goAround_22 : decode cX8_goAround 22 = .ok (.aload_n 0, 1) := by decide +kernel
theorem dX8_goAround_23 : decode cX8_goAround 23 = .ok (.iload_n 1, 1) := by decide +kernel
theorem dX8_goAround_24 : decode cX8_goAround 24 = .ok (.invokevirtual 341, 3) := by decide +kernel
theorem dX8_goAround_27 : decode cX8_goAround 27 = .ok (.aload_n 0, 1) := by decide +kernel
theorem dX8_goAround_28 : decode cX8_goAround 28 = .ok (.iload_n 1, 1) := by decide +kernel
theorem dX8_goAround_29 : decode cX8_goAround 29 = .ok (.iconst 2, 1) := by decide +kernel
theorem dX8_goAround_30 : decode cX8_goAround 30 = .ok (.invokevirtual 75, 3) := by decide +kernel
theorem dX8_goAround_33 : decode cX8_goAround 33 = .ok (.ireturn, 1) := by decide +kernel
set_option maxRecDepth 20000 in
theorem s_X8_goAround_0 {l : Launch} {G : GT} {d : Nat} {Q : AV → AH → Prop} {H : AH} {a0 x1 : Int} {M : Row} (hW : MW H a0 M) (h : (0 ≤ M 6 ∧ M 6 ≤ 24) ∧ ∀ H1 : AH, H1 = hs H a0 5 (1 - bi (decide (0 ≤ x1 ∧ x1 < M 6))) → (0 ≤ x1 ∧ x1 < M 6 → (0 ≤ x1 ∧ x1 < 24) ∧ ((noarM M x1) = 0 → (fl M x1) ∧ (0 ≤ ofM M x1 9 ∧ ofM M x1 9 ≤ 1000000000) ∧ ∀ H2 : AH, ∀ M2 : Row, M2 = arM M x1 → only H1 H2 (pMt a0) → MW H2 a0 M2 → Q (vI (ofM M2 x1 2)) H2) ∧ (¬ (noarM M x1) = 0 → Q (vI (noarM M x1)) H1)) ∧ (¬ (0 ≤ x1 ∧ x1 < M 6) → Q (vI 0) H1)) (hd : 2 ≤ d := by omega) : AW l G mX8_goAround (d + 1) 0 0 Q 0 [vR a0, vI x1, vU] [] 0 0 H := by
  refine a_aload_n dX8_goAround_0 rfl rfl ?_
  refine a_iload_n dX8_goAround_1 rfl rfl ?_
  obtain ⟨q2_0, h⟩ := h
  refine a_callV dX8_goAround_2 cw_X8_goAround_2 (as := [vI x1]) rfl rfl (kMod_0 hW.1) (Nat.le_refl _) (Nat.le_of_ble_eq_true rfl) (nocov rfl) (Nat.le_of_ble_eq_true rfl) (Nat.le_of_ble_eq_true rfl) (CL.mono (c_isFlight hW.1 (by rw [hW.2.1]; exact q2_0)) (fun r9 H9 h9 => ?_))
  rw [h9.1, h9.2]
  (try rw [hW.2.1])
  have h_r0_1 := Lay.wr hW.1 ok_Mod (nrf_fld 5 (kMod_0 hW.1) (by decide) (by decide)) (i := 5) (x := (1 - bi (decide (0 ≤ x1 ∧ x1 < M 6))))
  generalize e_H1 : hs H a0 5 (1 - bi (decide (0 ≤ x1 ∧ x1 < M 6))) = H1 at h_r0_1 ⊢
  replace h := h H1 e_H1.symm
  have row_H1 := (show rowM H1 a0 = _ from by rw [← e_H1, rowM_ne (by omega), hW.2.1])
  have mk_H1 := (show okM _ ∧ mkd H1 a0 from by rw [← e_H1]; exact ⟨hW.2.2.1, mkd_wr hW.2.2.2 (by omega) (by omega) (by omega)⟩)
  show AW l G mX8_goAround (d + 1) 0 0 Q 5 [vR a0, vI x1, vU] [vI (bi (decide (0 ≤ x1 ∧ x1 < M 6)))] 0 0 H1
  refine a_if_ne dX8_goAround_5 (tgt := 10) rfl (fun c5 => ?_) (fun c5 => ?_)
  · replace h := h.1 (bi_1 c5)
    refine a_aload_n dX8_goAround_10 rfl rfl ?_
    refine a_iload_n dX8_goAround_11 rfl rfl ?_
    obtain ⟨q12_0, h⟩ := h
    refine a_callV dX8_goAround_12 cw_X8_goAround_12 (as := [vI x1]) rfl rfl (kMod_0 h_r0_1) (Nat.le_refl _) (Nat.le_of_ble_eq_true rfl) (nocov rfl) (Nat.le_of_ble_eq_true rfl) (Nat.le_of_ble_eq_true rfl) (CL.mono (c_noAround h_r0_1 q12_0) (fun r9 H9 h9 => ?_))
    rw [h9.1, h9.2]
    (try rw [row_H1])
    show AW l G mX8_goAround (d + 1) 0 0 Q 15 [vR a0, vI x1, vU] [vI (noarM M x1)] 0 0 H1
    refine a_istore_n dX8_goAround_15 rfl (Nat.le_of_ble_eq_true rfl) (ls' := [vR a0, vI x1, vI (noarM M x1)]) rfl ?_
    refine a_iload_n dX8_goAround_16 rfl rfl ?_
    refine a_if_eq dX8_goAround_17 (tgt := 22) rfl (fun c17 => ?_) (fun c17 => ?_)
    · replace h := h.1 c17
      refine a_aload_n dX8_goAround_22 rfl rfl ?_
      refine a_iload_n dX8_goAround_23 rfl rfl ?_
      obtain ⟨q24_0, h⟩ := h
      obtain ⟨q24_1, h⟩ := h
      refine a_callV dX8_goAround_24 cw_X8_goAround_24 (as := [vI x1]) rfl rfl (kMod_0 h_r0_1) (Nat.le_refl _) (Nat.le_of_ble_eq_true rfl) (nocov rfl) (Nat.le_of_ble_eq_true rfl) (Nat.le_of_ble_eq_true rfl) (CL.mono (c_goesAround (show MW H1 a0 M from ⟨h_r0_1, row_H1, mk_H1⟩) q24_0 q24_1) (fun r9 H2 h9 => ?_))
      obtain ⟨e9, o_H2, hX_H2⟩ := h9
      rw [e9]
      obtain ⟨M2, e_M2⟩ : ∃ M2 : Row, M2 = arM M x1 := ⟨_, rfl⟩
      rw [← e_M2] at hX_H2
      replace h := h H2 M2 e_M2 o_H2 hX_H2
      show AW l G mX8_goAround (d + 1) 0 0 Q 27 [vR a0, vI x1, vI (noarM M x1)] [] 0 0 H2
      refine a_aload_n dX8_goAround_27 rfl rfl ?_
      refine a_iload_n dX8_goAround_28 rfl rfl ?_
      refine a_iconst dX8_goAround_29 ⟨by decide, by decide⟩ ?_
      refine a_callV dX8_goAround_30 cw_X8_goAround_30 (as := [vI x1, vI 2]) rfl rfl (kMod_0 hX_H2.1) (Nat.le_refl _) (Nat.le_of_ble_eq_true rfl) (nocov rfl) (Nat.le_of_ble_eq_true rfl) (Nat.le_of_ble_eq_true rfl) (CL.mono (c_of hX_H2.1 ⟨q12_0.1, q12_0.2, by decide, by decide⟩) (fun r9 H9 h9 => ?_))
      rw [h9.1, h9.2]
      (try rw [hX_H2.2.1])
      show AW l G mX8_goAround (d + 1) 0 0 Q 33 [vR a0, vI x1, vI (noarM M x1)] [vI (ofM M2 x1 2)] 0 0 H2
      exact a_iret dX8_goAround_33 rfl (Nat.le_of_ble_eq_true rfl) (Nat.le_of_ble_eq_true rfl) h
    · replace h := h.2 c17
      refine a_iload_n dX8_goAround_20 rfl rfl ?_
      exact a_iret dX8_goAround_21 rfl (Nat.le_of_ble_eq_true rfl) (Nat.le_of_ble_eq_true rfl) h
  · replace h := h.2 (bi_0 c5)
    refine a_iconst dX8_goAround_8 ⟨by decide, by decide⟩ ?_
    exact a_iret dX8_goAround_9 rfl (Nat.le_of_ble_eq_true rfl) (Nat.le_of_ble_eq_true rfl) h

abbrev okGo (M : Row) (f : Int) : Prop := fl M f ∧ noarM M f = 0
def vGo (M : Row) (f : Int) : Int := if fl M f then (if noarM M f = 0 then M 0 + M 3 else noarM M f) else 0
/-- how often flights went around -/
def arB (M : Row) (B : Int) : Prop := ∀ f, fl M f → 0 ≤ ofM M f 9 ∧ ofM M f 9 ≤ B
theorem c_goAround {l : Launch} {G : GT} {d : Nat} {H : AH} {a : Int} {M : Row} {f : Int} (hW : MW H a M) (hB : arB M 1000000000) (hd : 3 ≤ d := by omega) : CL l G mX8_goAround d 0 0 [vR a, vI f] H (mutP a (if okGo M f then arM M f else M) (vI (vGo M f)) (1 - bi (decide (fl M f))) H) := by
  obtain ⟨d, rfl⟩ : ∃ k, d = k + 1 := ⟨d - 1, by omega⟩
  have hM := hW.2.2.1
  have hn := okM_n hM
  refine CL.of (by decide) rfl (Nat.le_of_ble_eq_true rfl) (s_X8_goAround_0 hW ⟨by omega, fun H1 e1 => ⟨fun c => ⟨by omega, fun c2 => ⟨c, hB f c, fun H2 M2 e2 o2 w2 => ?_⟩, fun c2 => ?_⟩, fun c => ?_⟩⟩)
  · rw [if_pos ⟨c, c2⟩, vGo, if_pos c, if_pos c2]
    subst e2
    exact ⟨by rw [arM_2], pmx (pb_pm (pb1 hW e1)) o2 w2⟩
  · rw [if_neg (fun q => c2 q.2), vGo, if_pos c, if_neg c2]
    exact ⟨rfl, pb_pm (pb1 hW e1)⟩
  · rw [if_neg (fun q => c q.1), vGo, if_neg c]
    exact ⟨rfl, pb_pm (pb1 hW e1)⟩

