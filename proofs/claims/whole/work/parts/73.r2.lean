theorem dX1_readKind_0 : decode cX1_readKind 0 = .ok (.aload_n 0, 1) := by decide +kernel
theorem dX1_readKind_1 : decode cX1_readKind 1 = .ok (.invokevirtual 42, 3) := by decide +kernel
theorem dX1_readKind_4 : decode cX1_readKind 4 = .ok (.ifCond .ne 5, 3) := by decide +kernel
theorem dX1_readKind_7 : decode cX1_readKind 7 = .ok (.iconst 0, 1) := by decide +kernel
theorem dX1_readKind_8 : decode cX1_readKind 8 = .ok (.ireturn, 1) := by decide +kernel
theorem dX1_readKind_9 : decode cX1_readKind 9 = .ok (.aload_n 0, 1) := by decide +kernel
theorem dX1_readKind_10 : decode cX1_readKind 10 = .ok (.ldc 46, 2) := by decide +kernel
theorem dX1_readKind_12 : decode cX1_readKind 12 = .ok (.invokevirtual 48, 3) := by decide +kernel
theorem dX1_readKind_15 : decode cX1_readKind 15 = .ok (.ifCond .eq 11, 3) := by decide +kernel
theorem dX1_readKind_18 : decode cX1_readKind 18 = .ok (.aload_n 0, 1) := by decide +kernel
theorem dX1_readKind_19 : decode cX1_readKind 19 = .ok (.iconst 0, 1) := by decide +kernel
theorem dX1_readKind_20 : decode cX1_readKind 20 = .ok (.putfield 38, 3) := by decide +kernel
theorem dX1_readKind_23 : decode cX1_readKind 23 = .ok (.goto 64, 3) := by decide +kernel
theorem dX1_readKind_26 : decode cX1_readKind 26 = .ok (.aload_n 0, 1) := by decide +kernel
theorem dX1_readKind_27 : decode cX1_readKind 27 = .ok (.ldc 52, 2) := by decide +kernel
theorem dX1_readKind_29 : decode cX1_readKind 29 = .ok (.invokevirtual 48, 3) := by decide +kernel
theorem dX1_readKind_32 : decode cX1_readKind 32 = .ok (.ifCond .eq 11, 3) := by decide +kernel
theorem dX1_readKind_35 : decode cX1_readKind 35 = .ok (.aload_n 0, 1) := by decide +kernel
theorem dX1_readKind_36 : decode cX1_readKind 36 = .ok (.iconst 1, 1) := by decide +kernel
theorem dX1_readKind_37 : decode cX1_readKind 37 = .ok (.putfield 38, 3) := by decide +kernel
theorem dX1_readKind_40 : decode cX1_readKind 40 = .ok (.goto 47, 3) := by decide +kernel
theorem dX1_readKind_43 : decode cX1_readKind 43 = .ok (.aload_n 0, 1) := by decide +kernel
theorem dX1_readKind_44 : decode cX1_readKind 44 = .ok (.ldc 54, 2) := by decide +kernel
theorem dX1_readKind_46 : decode cX1_readKind 46 = .ok (.invokevirtual 48, 3) := by decide +kernel
theorem dX1_readKind_49 : decode cX1_readKind 49 = .ok (.ifCond .eq 11, 3) := by decide +kernel
theorem dX1_readKind_52 : decode cX1_readKind 52 = .ok (.aload_n 0, 1) := by decide +kernel
theorem dX1_readKind_53 : decode cX1_readKind 53 = .ok (.iconst 2, 1) := by decide +kernel
theorem dX1_readKind_54 : decode cX1_readKind 54 = .ok (.putfield 38, 3) := by decide +kernel
theorem dX1_readKind_57 : decode cX1_readKind 57 = .ok (.goto 30, 3) := by decide +kernel
theorem dX1_readKind_60 : decode cX1_readKind 60 = .ok (.aload_n 0, 1) := by decide +kernel
theorem dX1_readKind_61 : decode cX1_readKind 61 = .ok (.ldc 56, 2) := by decide +kernel
theorem dX1_readKind_63 : decode cX1_readKind 63 = .ok (.invokevirtual 48, 3) := by decide +kernel
theorem dX1_readKind_66 : decode cX1_readKind 66 = .ok (.ifCond .eq 11, 3) := by decide +kernel
theorem dX1_readKind_69 : decode cX1_readKind 69 = .ok (.aload_n 0, 1) := by decide +kernel
theorem dX1_readKind_70 : decode cX1_readKind 70 = .ok (.iconst 3, 1) := by decide +kernel
theorem dX1_readKind_71 : decode cX1_readKind 71 = .ok (.putfield 38, 3) := by decide +kernel
theorem dX1_readKind_74 : decode cX1_readKind 74 = .ok (.goto 13, 3) := by decide +kernel
theorem dX1_readKind_77 : decode cX1_readKind 77 = .ok (.aload_n 0, 1) := by decide +kernel
theorem dX1_readKind_78 : decode cX1_readKind 78 = .ok (.iconst 1, 1) := by decide +kernel
theorem dX1_readKind_79 : decode cX1_readKind 79 = .ok (.aload_n 0, 1) := by decide +kernel
theorem dX1_readKind_80 : decode cX1_readKind 80 = .ok (.getfield 31, 3) := by decide +kernel
theorem dX1_readKind_83 : decode cX1_readKind 83 = .ok (.invokevirtual 34, 3) := by decide +kernel
theorem dX1_readKind_86 : decode cX1_readKind 86 = .ok (.ireturn, 1) := by decide +kernel
theorem dX1_readKind_87 : decode cX1_readKind 87 = .ok (.iconst 1, 1) := by decide +kernel
theorem dX1_readKind_88 : decode cX1_readKind 88 = .ok (.ireturn, 1) := by decide +kernel
set_option maxRecDepth 20000 in
theorem s_X1_readKind_0 {l : Launch} {G : GT} {d : Nat} {Q : AV → AH → Prop} {H : AH} {a0 : Int} (hT : gT G) (h_r0 : Lay LRun H a0) (h : CL l G mX1_readWord d 0 0 [vR (a0 + 1)] H (fun r9 H1 => Lay LRun H1 a0 ∧ ∃ y1 : Int, r9 = vI y1 ∧ (¬ y1 = 0 → ∃ w10 : Bool, kWd H1 a0 ws_super w10 ∧ (¬ (w10 = true) → ∃ w27 : Bool, kWd H1 a0 ws_heavy w27 ∧ (¬ (w27 = true) → ∃ w44 : Bool, kWd H1 a0 ws_medium w44 ∧ (¬ (w44 = true) → ∃ w61 : Bool, kWd H1 a0 ws_light w61 ∧ (¬ (w61 = true) → CL l G mX1_fail d 0 0 [vR (a0 + 1), vI 1, vI (hg H1 (a0 + 1) 3)] H1 (fun r9 H2 => Lay LRun H2 a0 ∧ ∃ y2 : Int, r9 = vI y2 ∧ (y2 = 0 ∨ y2 = 1) ∧ Q (vI y2) H2)) ∧ (w61 = true → ∀ H2 : AH, H2 = hs H1 (a0 + 1) 4 3 → Q (vI 1) H2)) ∧ (w44 = true → ∀ H2 : AH, H2 = hs H1 (a0 + 1) 4 2 → Q (vI 1) H2)) ∧ (w27 = true → ∀ H2 : AH, H2 = hs H1 (a0 + 1) 4 1 → Q (vI 1) H2)) ∧ (w10 = true → ∀ H2 : AH, H2 = hs H1 (a0 + 1) 4 0 → Q (vI 1) H2)) ∧ (y1 = 0 → Q (vI 0) H1))) (hd : 4 ≤ d := by omega) : AW l G mX1_readKind (d + 1) 0 0 Q 0 [vR (a0 + 1)] [] 0 0 H := by
  refine a_aload_n dX1_readKind_0 rfl rfl ?_
  refine a_callV dX1_readKind_1 cw_X1_readKind_1 (as := []) rfl rfl (kRun_1 h_r0) (Nat.le_refl _) (Nat.le_of_ble_eq_true rfl) (nocov rfl) (Nat.le_of_ble_eq_true rfl) (Nat.le_of_ble_eq_true rfl) (CL.mono h (fun r9 H1 h => ?_))
  obtain ⟨h_r0_1, y1, e9, h⟩ := h
  rw [e9]
  show AW l G mX1_readKind (d + 1) 0 0 Q 4 [vR (a0 + 1)] [vI y1] 0 0 H1
  refine a_if_ne dX1_readKind_4 (tgt := 9) rfl (fun c4 => ?_) (fun c4 => ?_)
  · replace h := h.1 c4
    refine a_aload_n dX1_readKind_9 rfl rfl ?_
    obtain ⟨w10, qw10, h⟩ := h
    obtain ⟨q9, t9, g9, g8⟩ := hT.2 _ _ _ _ wl_RX1_46
    refine a_ldcX g9 dX1_readKind_10 ?_
    refine a_callV dX1_readKind_12 cw_X1_readKind_12 (as := [vX q9]) rfl rfl (kRun_1 h_r0_1) (Nat.le_refl _) (Nat.le_of_ble_eq_true rfl) (nocov rfl) (Nat.le_of_ble_eq_true rfl) (Nat.le_of_ble_eq_true rfl) (CL.mono (k_wordIs h_r0_1 g8 hT.1 (by decide) qw10) (fun r9 H9 h9 => ?_))
    rw [h9.1, h9.2]
    show AW l G mX1_readKind (d + 1) 0 0 Q 15 [vR (a0 + 1)] [vI (bi (decide (w10 = true)))] 0 0 H1
    refine a_if_eq dX1_readKind_15 (tgt := 26) rfl (fun c15 => ?_) (fun c15 => ?_)
    · replace h := h.1 (bi_0 c15)
      refine a_aload_n dX1_readKind_26 rfl rfl ?_
      obtain ⟨w27, qw27, h⟩ := h
      obtain ⟨q9, t9, g9, g8⟩ := hT.2 _ _ _ _ wl_RX1_52
      refine a_ldcX g9 dX1_readKind_27 ?_
      refine a_callV dX1_readKind_29 cw_X1_readKind_29 (as := [vX q9]) rfl rfl (kRun_1 h_r0_1) (Nat.le_refl _) (Nat.le_of_ble_eq_true rfl) (nocov rfl) (Nat.le_of_ble_eq_true rfl) (Nat.le_of_ble_eq_true rfl) (CL.mono (k_wordIs h_r0_1 g8 hT.1 (by decide) qw27) (fun r9 H9 h9 => ?_))
      rw [h9.1, h9.2]
      show AW l G mX1_readKind (d + 1) 0 0 Q 32 [vR (a0 + 1)] [vI (bi (decide (w27 = true)))] 0 0 H1
      refine a_if_eq dX1_readKind_32 (tgt := 43) rfl (fun c32 => ?_) (fun c32 => ?_)
      · replace h := h.1 (bi_0 c32)
        refine a_aload_n dX1_readKind_43 rfl rfl ?_
        obtain ⟨w44, qw44, h⟩ := h
        obtain ⟨q9, t9, g9, g8⟩ := hT.2 _ _ _ _ wl_RX1_54
        refine a_ldcX g9 dX1_readKind_44 ?_
        refine a_callV dX1_readKind_46 cw_X1_readKind_46 (as := [vX q9]) rfl rfl (kRun_1 h_r0_1) (Nat.le_refl _) (Nat.le_of_ble_eq_true rfl) (nocov rfl) (Nat.le_of_ble_eq_true rfl) (Nat.le_of_ble_eq_true rfl) (CL.mono (k_wordIs h_r0_1 g8 hT.1 (by decide) qw44) (fun r9 H9 h9 => ?_))
        rw [h9.1, h9.2]
        show AW l G mX1_readKind (d + 1) 0 0 Q 49 [vR (a0 + 1)] [vI (bi (decide (w44 = true)))] 0 0 H1
        refine a_if_eq dX1_readKind_49 (tgt := 60) rfl (fun c49 => ?_) (fun c49 => ?_)
        · replace h := h.1 (bi_0 c49)
          refine a_aload_n dX1_readKind_60 rfl rfl ?_
          obtain ⟨w61, qw61, h⟩ := h
          obtain ⟨q9, t9, g9, g8⟩ := hT.2 _ _ _ _ wl_RX1_56
          refine a_ldcX g9 dX1_readKind_61 ?_
          refine a_callV dX1_readKind_63 cw_X1_readKind_63 (as := [vX q9]) rfl rfl (kRun_1 h_r0_1) (Nat.le_refl _) (Nat.le_of_ble_eq_true rfl) (nocov rfl) (Nat.le_of_ble_eq_true rfl) (Nat.le_of_ble_eq_true rfl) (CL.mono (k_wordIs h_r0_1 g8 hT.1 (by decide) qw61) (fun r9 H9 h9 => ?_))
          rw [h9.1, h9.2]
          show AW l G mX1_readKind (d + 1) 0 0 Q 66 [vR (a0 + 1)] [vI (bi (decide (w61 = true)))] 0 0 H1
          refine a_if_eq dX1_readKind_66 (tgt := 77) rfl (fun c66 => ?_) (fun c66 => ?_)
          · replace h := h.1 (bi_0 c66)
            refine a_aload_n dX1_readKind_77 rfl rfl ?_
            refine a_iconst dX1_readKind_78 ⟨by decide, by decide⟩ ?_
            refine a_aload_n dX1_readKind_79 rfl rfl ?_
            refine a_getI dX1_readKind_80 fw_RX1_31 rfl rfl (kRun_1 h_r0_1) ?_
            refine a_callV dX1_readKind_83 cw_X1_readKind_83 (as := [vI 1, vI (hg H1 (a0 + 1) 3)]) rfl rfl (kRun_1 h_r0_1) (Nat.le_refl _) (Nat.le_of_ble_eq_true rfl) (nocov rfl) (Nat.le_of_ble_eq_true rfl) (Nat.le_of_ble_eq_true rfl) (CL.mono h (fun r9 H2 h => ?_))
            obtain ⟨h_r0_2, y2, e9, h⟩ := h
            rw [e9]
            show AW l G mX1_readKind (d + 1) 0 0 Q 86 [vR (a0 + 1)] [vI y2] 0 0 H2
            obtain ⟨q86_0, h⟩ := h
            exact a_zret dX1_readKind_86 rfl q86_0 (Nat.le_of_ble_eq_true rfl) (Nat.le_of_ble_eq_true rfl) h
          · replace h := h.2 (bi_1 c66)
            refine a_aload_n dX1_readKind_69 rfl rfl ?_
            refine a_iconst dX1_readKind_70 ⟨by decide, by decide⟩ ?_
            refine a_putI dX1_readKind_71 fp_RX1_38 rfl rfl (kRun_1 h_r0_1) ?_
            have h_r0_2 := Lay.wr h_r0_1 ok_Run (nrf_fld 4 (kRun_1 h_r0_1) (by decide) (by decide)) (i := 4) (x := 3)
            generalize e_H2 : hs H1 (a0 + 1) 4 3 = H2 at h_r0_2 ⊢
            replace h := h H2 e_H2.symm
            refine a_goto dX1_readKind_74 (tgt := 87) rfl ?_
            refine a_iconst dX1_readKind_87 ⟨by decide, by decide⟩ ?_
            exact a_zret dX1_readKind_88 rfl (by decide) (Nat.le_of_ble_eq_true rfl) (Nat.le_of_ble_eq_true rfl) h
        · replace h := h.2 (bi_1 c49)
          refine a_aload_n dX1_readKind_52 rfl rfl ?_
          refine a_iconst dX1_readKind_53 ⟨by decide, by decide⟩ ?_
          refine a_putI dX1_readKind_54 fp_RX1_38 rfl rfl (kRun_1 h_r0_1) ?_
          have h_r0_2 := Lay.wr h_r0_1 ok_Run (nrf_fld 4 (kRun_1 h_r0_1) (by decide) (by decide)) (i := 4) (x := 2)
          generalize e_H2 : hs H1 (a0 + 1) 4 2 = H2 at h_r0_2 ⊢
          replace h := h H2 e_H2.symm
          refine a_goto dX1_readKind_57 (tgt := 87) rfl ?_
          refine a_iconst dX1_readKind_87 ⟨by decide, by decide⟩ ?_
          exact a_zret dX1_readKind_88 rfl (by decide) (Nat.le_of_ble_eq_true rfl) (Nat.le_of_ble_eq_true rfl) h
      · replace h := h.2 (bi_1 c32)
        refine a_aload_n dX1_readKind_35 rfl rfl ?_
        refine a_iconst dX1_readKind_36 ⟨by decide, by decide⟩ ?_
        refine a_putI dX1_readKind_37 fp_RX1_38 rfl rfl (kRun_1 h_r0_1) ?_
        have h_r0_2 := Lay.wr h_r0_1 ok_Run (nrf_fld 4 (kRun_1 h_r0_1) (by decide) (by decide)) (i := 4) (x := 1)
        generalize e_H2 : hs H1 (a0 + 1) 4 1 = H2 at h_r0_2 ⊢
        replace h := h H2 e_H2.symm
        refine a_goto dX1_readKind_40 (tgt := 87) rfl ?_
        refine a_iconst dX1_readKind_87 ⟨by decide, by decide⟩ ?_
        exact a_zret dX1_readKind_88 rfl (by decide) (Nat.le_of_ble_eq_true rfl) (Nat.le_of_ble_eq_true rfl) h
    · replace h := h.2 (bi_1 c15)
      refine a_aload_n dX1_readKind_18 rfl rfl ?_
      refine a_iconst dX1_readKind_19 ⟨by decide, by decide⟩ ?_
      refine a_putI dX1_readKind_20 fp_RX1_38 rfl rfl (kRun_1 h_r0_1) ?_
      have h_r0_2 := Lay.wr h_r0_1 ok_Run (nrf_fld 4 (kRun_1 h_r0_1) (by decide) (by decide)) (i := 4) (x := 0)
      generalize e_H2 : hs H1 (a0 + 1) 4 0 = H2 at h_r0_2 ⊢
      replace h := h H2 e_H2.symm
      refine a_goto dX1_readKind_23 (tgt := 87) rfl ?_
      refine a_iconst dX1_readKind_87 ⟨by decide, by decide⟩ ?_
      exact a_zret dX1_readKind_88 rfl (by decide) (Nat.le_of_ble_eq_true rfl) (Nat.le_of_ble_eq_true rfl) h
  · replace h := h.2 c4
    refine a_iconst dX1_readKind_7 ⟨by decide, by decide⟩ ?_
    exact a_zret dX1_readKind_8 rfl (by decide) (Nat.le_of_ble_eq_true rfl) (Nat.le_of_ble_eq_true rfl) h


theorem dX3_readRunways_0 : decode cX3_readRunways 0 = .ok (.aload_n 0, 1) := by decide +kernel
theorem dX3_readRunways_1 : decode cX3_readRunways 1 = .ok (.invokevirtual 48, 3) := by decide +kernel
theorem dX3_readRunways_4 : decode cX3_readRunways 4 = .ok (.ifCond .ne 5, 3) := by decide +kernel
theorem dX3_readRunways_7 : decode cX3_readRunways 7 = .ok (.iconst 0, 1) := by decide +kernel
theorem dX3_readRunways_8 : decode cX3_readRunways 8 = .ok (.ireturn, 1) := by decide +kernel
theorem dX3_readRunways_9 : decode cX3_readRunways 9 = .ok (.aload_n 0, 1) := by decide +kernel
theorem dX3_readRunways_10 : decode cX3_readRunways 10 = .ok (.ldc 52, 2) := by decide +kernel
theorem dX3_readRunways_12 : decode cX3_readRunways 12 = .ok (.invokevirtual 54, 3) := by decide +kernel
theorem dX3_readRunways_15 : decode cX3_readRunways 15 = .ok (.ifCond .ne 13, 3) := by decide +kernel
theorem dX3_readRunways_18 : decode cX3_readRunways 18 = .ok (.aload_n 0, 1) := by decide +kernel
theorem dX3_readRunways_19 : decode cX3_readRunways 19 = .ok (.iconst 1, 1) := by decide +kernel
theorem dX3_readRunways_20 : decode cX3_readRunways 20 = .ok (.aload_n 0, 1) := by decide +kernel
theorem dX3_readRunways_21 : decode cX3_readRunways 21 = .ok (.getfield 58, 3) := by decide +kernel
theorem dX3_readRunways_24 : decode cX3_readRunways 24 = .ok (.invokevirtual 40, 3) := by decide +kernel
theorem dX3_readRunways_27 : decode cX3_readRunways 27 = .ok (.ireturn, 1) := by decide +kernel
theorem dX3_readRunways_28 : decode cX3_readRunways 28 = .ok (.aload_n 0, 1) := by decide +kernel
theorem dX3_readRunways_29 : decode cX3_readRunways 29 = .ok (.iconst 1, 1) := by decide +kernel
theorem dX3_readRunways_30 : decode cX3_readRunways 30 = .ok (.iconst 3, 1) := by decide +kernel
theorem dX3_readRunways_31 : decode cX3_readRunways 31 = .ok (.invokevirtual 61, 3) := by decide +kernel
theorem dX3_readRunways_34 : decode cX3_readRunways 34 = .ok (.ifCond .ne 5, 3) := by decide +kernel
theorem dX3_readRunways_37 : decode cX3_readRunways 37 = .ok (.iconst 0, 1) := by decide +kernel
theorem dX3_readRunways_38 : decode cX3_readRunways 38 = .ok (.ireturn, 1) := by decide +kernel
theorem dX3_readRunways_39 : decode cX3_readRunways 39 = .ok (.aload_n 1, 1) := by decide +kernel
theorem dX3_readRunways_40 : decode cX3_readRunways 40 = .ok (.aload_n 0, 1) := by decide +kernel
theorem dX3_readRunways_41 : decode cX3_readRunways 41 = .ok (.getfield 64, 3) := by decide +kernel
theorem dX3_readRunways_44 : decode cX3_readRunways 44 = .ok (.putfield 67, 3) := by decide +kernel
theorem dX3_readRunways_47 : decode cX3_readRunways 47 = .ok (.iconst 1, 1) := by decide +kernel
theorem dX3_readRunways_48 : decode cX3_readRunways 48 = .ok (.ireturn, 1) := by decide +kernel
set_option maxRecDepth 20000 in
theorem s_X3_readRunways_0 {l : Launch} {G : GT} {d : Nat} {Q : AV → AH → Prop} {H : AH} {a0 : Int} (hT : gT G) (h_r0 : Lay LRun H a0) (h : CL l G mX1_readWord d 0 0 [vR (a0 + 1)] H (fun r9 H1 => Lay LRun H1 a0 ∧ ∃ y1 : Int, r9 = vI y1 ∧ (¬ y1 = 0 → ∃ w10 : Bool, kWd H1 a0 ws_runways w10 ∧ (w10 = true → CL l G mX1_readNumber d 0 0 [vR (a0 + 1), vI 1, vI 3] H1 (fun r9 H2 => Lay LRun H2 a0 ∧ ∃ y2 : Int, r9 = vI y2 ∧ (¬ y2 = 0 → ∀ H3 : AH, H3 = hs H2 (a0 + 44) 0 (hg H2 (a0 + 1) 4) → Q (vI 1) H3) ∧ (y2 = 0 → Q (vI 0) H2))) ∧ (¬ (w10 = true) → CL l G mX1_fail d 0 0 [vR (a0 + 1), vI 1, vI (hg H1 (a0 + 1) 3)] H1 (fun r9 H2 => Lay LRun H2 a0 ∧ ∃ y2 : Int, r9 = vI y2 ∧ (y2 = 0 ∨ y2 = 1) ∧ Q (vI y2) H2))) ∧ (y1 = 0 → Q (vI 0) H1))) (hd : 4 ≤ d := by omega) : AW l G mX3_readRunways (d + 1) 0 0 Q 0 [vR (a0 + 1), vR (a0 + 44)] [] 0 0 H := by
  refine a_aload_n dX3_readRunways_0 rfl rfl ?_
  refine a_callV dX3_readRunways_1 cw_X3_readRunways_1 (as := []) rfl rfl (kRun_1 h_r0) (Nat.le_refl _) (Nat.le_of_ble_eq_true rfl) (nocov rfl) (Nat.le_of_ble_eq_true rfl) (Nat.le_of_ble_eq_true rfl) (CL.mono h (fun r9 H1 h => ?_))
  obtain ⟨h_r0_1, y1, e9, h⟩ := h
  rw [e9]
  show AW l G mX3_readRunways (d + 1) 0 0 Q 4 [vR (a0 + 1), vR (a0 + 44)] [vI y1] 0 0 H1
  refine a_if_ne dX3_readRunways_4 (tgt := 9) rfl (fun c4 => ?_) (fun c4 => ?_)
  · replace h := h.1 c4
    refine a_aload_n dX3_readRunways_9 rfl rfl ?_
    obtain ⟨w10, qw10, h⟩ := h
    obtain ⟨q9, t9, g9, g8⟩ := hT.2 _ _ _ _ wl_RX3_52
    refine a_ldcX g9 dX3_readRunways_10 ?_
    refine a_callV dX3_readRunways_12 cw_X3_readRunways_12 (as := [vX q9]) rfl rfl (kRun_1 h_r0_1) (Nat.le_refl _) (Nat.le_of_ble_eq_true rfl) (nocov rfl) (Nat.le_of_ble_eq_true rfl) (Nat.le_of_ble_eq_true rfl) (CL.mono (k_wordIs h_r0_1 g8 hT.1 (by decide) qw10) (fun r9 H9 h9 => ?_))
    rw [h9.1, h9.2]
    show AW l G mX3_readRunways (d + 1) 0 0 Q 15 [vR (a0 + 1), vR (a0 + 44)] [vI (bi (decide (w10 = true)))] 0 0 H1
    refine a_if_ne dX3_readRunways_15 (tgt := 28) rfl (fun c15 => ?_) (fun c15 => ?_)
    · replace h := h.1 (bi_1 c15)
      refine a_aload_n dX3_readRunways_28 rfl rfl ?_
      refine a_iconst dX3_readRunways_29 ⟨by decide, by decide⟩ ?_
      refine a_iconst dX3_readRunways_30 ⟨by decide, by decide⟩ ?_
      refine a_callV dX3_readRunways_31 cw_X3_readRunways_31 (as := [vI 1, vI 3]) rfl rfl (kRun_1 h_r0_1) (Nat.le_refl _) (Nat.le_of_ble_eq_true rfl) (nocov rfl) (Nat.le_of_ble_eq_true rfl) (Nat.le_of_ble_eq_true rfl) (CL.mono h (fun r9 H2 h => ?_))
      obtain ⟨h_r0_2, y2, e9, h⟩ := h
      rw [e9]
      show AW l G mX3_readRunways (d + 1) 0 0 Q 34 [vR (a0 + 1), vR (a0 + 44)] [vI y2] 0 0 H2
      refine a_if_ne dX3_readRunways_34 (tgt := 39) rfl (fun c34 => ?_) (fun c34 => ?_)
      · replace h := h.1 c34
        refine a_aload_n dX3_readRunways_39 rfl rfl ?_
        refine a_aload_n dX3_readRunways_40 rfl rfl ?_
        refine a_getI dX3_readRunways_41 fw_RX3_64 rfl rfl (kRun_1 h_r0_2) ?_
        refine a_putI dX3_readRunways_44 fp_RX3_67 rfl rfl (kRun_44 h_r0_2) ?_
        have h_r0_3 := Lay.wr h_r0_2 ok_Run (nrf_fld 0 (kRun_44 h_r0_2) (by decide) (by decide)) (i := 0) (x := (hg H2 (a0 + 1) 4))
        generalize e_H3 : hs H2 (a0 + 44) 0 (hg H2 (a0 + 1) 4) = H3 at h_r0_3 ⊢
        replace h := h H3 e_H3.symm
        refine a_iconst dX3_readRunways_47 ⟨by decide, by decide⟩ ?_
        exact a_zret dX3_readRunways_48 rfl (by decide) (Nat.le_of_ble_eq_true rfl) (Nat.le_of_ble_eq_true rfl) h
      · replace h := h.2 c34
        refine a_iconst dX3_readRunways_37 ⟨by decide, by decide⟩ ?_
        exact a_zret dX3_readRunways_38 rfl (by decide) (Nat.le_of_ble_eq_true rfl) (Nat.le_of_ble_eq_true rfl) h
    · replace h := h.2 (bi_0 c15)
      refine a_aload_n dX3_readRunways_18 rfl rfl ?_
      refine a_iconst dX3_readRunways_19 ⟨by decide, by decide⟩ ?_
      refine a_aload_n dX3_readRunways_20 rfl rfl ?_
      refine a_getI dX3_readRunways_21 fw_RX3_58 rfl rfl (kRun_1 h_r0_1) ?_
      refine a_callV dX3_readRunways_24 cw_X3_readRunways_24 (as := [vI 1, vI (hg H1 (a0 + 1) 3)]) rfl rfl (kRun_1 h_r0_1) (Nat.le_refl _) (Nat.le_of_ble_eq_true rfl) (nocov rfl) (Nat.le_of_ble_eq_true rfl) (Nat.le_of_ble_eq_true rfl) (CL.mono h (fun r9 H2 h => ?_))
      obtain ⟨h_r0_2, y2, e9, h⟩ := h
      rw [e9]
      show AW l G mX3_readRunways (d + 1) 0 0 Q 27 [vR (a0 + 1), vR (a0 + 44)] [vI y2] 0 0 H2
      obtain ⟨q27_0, h⟩ := h
      exact a_zret dX3_readRunways_27 rfl q27_0 (Nat.le_of_ble_eq_true rfl) (Nat.le_of_ble_eq_true rfl) h
  · replace h := h.2 c4
    refine a_iconst dX3_readRunways_7 ⟨by decide, by decide⟩ ?_
    exact a_zret dX3_readRunways_8 rfl (by decide) (Nat.le_of_ble_eq_true rfl) (Nat.le_of_ble_eq_true rfl) h


theorem dX3_readSetting_0 : decode cX3_readSetting 0 = .ok (.aload_n 0, 1) := by decide +kernel
theorem dX3_readSetting_1 : decode cX3_readSetting 1 = .ok (.ldc 92, 2) := by decide +kernel
theorem dX3_readSetting_3 : decode cX3_readSetting 3 = .ok (.invokevirtual 54, 3) := by decide +kernel
theorem dX3_readSetting_6 : decode cX3_readSetting 6 = .ok (.ifCond .eq 22, 3) := by decide +kernel
theorem dX3_readSetting_9 : decode cX3_readSetting 9 = .ok (.aload_n 0, 1) := by decide +kernel
theorem dX3_readSetting_10 : decode cX3_readSetting 10 = .ok (.iconst 0, 1) := by decide +kernel
theorem dX3_readSetting_11 : decode cX3_readSetting 11 = .ok (.sipush 600, 3) := by decide +kernel
theorem dX3_readSetting_14 : decode cX3_readSetting 14 = .ok (.invokevirtual 61, 3) := by decide +kernel
theorem dX3_readSetting_17 : decode cX3_readSetting 17 = .ok (.istore_n 2, 1) := by decide +kernel
theorem dX3_readSetting_18 : decode cX3_readSetting 18 = .ok (.aload_n 1, 1) := by decide +kernel
theorem dX3_readSetting_19 : decode cX3_readSetting 19 = .ok (.aload_n 0, 1) := by decide +kernel
theorem dX3_readSetting_20 : decode cX3_readSetting 20 = .ok (.getfield 64, 3) := by decide +kernel
theorem dX3_readSetting_23 : decode cX3_readSetting 23 = .ok (.putfield 94, 3) := by decide +kernel
theorem dX3_readSetting_26 : decode cX3_readSetting 26 = .ok (.iload_n 2, 1) := by decide +kernel
theorem dX3_readSetting_27 : decode cX3_readSetting 27 = .ok (.ireturn, 1) := by decide +kernel
theorem dX3_readSetting_28 : decode cX3_readSetting 28 = .ok (.aload_n 0, 1) := by decide +kernel
theorem dX3_readSetting_29 : decode cX3_readSetting 29 = .ok (.ldc 96, 2) := by decide +kernel
theorem dX3_readSetting_31 : decode cX3_readSetting 31 = .ok (.invokevirtual 54, 3) := by decide +kernel
theorem dX3_readSetting_34 : decode cX3_readSetting 34 = .ok (.ifCond .eq 20, 3) := by decide +kernel
theorem dX3_readSetting_37 : decode cX3_readSetting 37 = .ok (.aload_n 0, 1) := by decide +kernel
theorem dX3_readSetting_38 : decode cX3_readSetting 38 = .ok (.iconst 0, 1) := by decide +kernel
theorem dX3_readSetting_39 : decode cX3_readSetting 39 = .ok (.iconst 4, 1) := by decide +kernel
theorem dX3_readSetting_40 : decode cX3_readSetting 40 = .ok (.invokevirtual 61, 3) := by decide +kernel
theorem dX3_readSetting_43 : decode cX3_readSetting 43 = .ok (.istore_n 2, 1) := by decide +kernel
theorem dX3_readSetting_44 : decode cX3_readSetting 44 = .ok (.aload_n 1, 1) := by decide +kernel
theorem dX3_readSetting_45 : decode cX3_readSetting 45 = .ok (.aload_n 0, 1) := by decide +kernel
theorem dX3_readSetting_46 : decode cX3_readSetting 46 = .ok (.getfield 64, 3) := by decide +kernel
theorem dX3_readSetting_49 : decode cX3_readSetting 49 = .ok (.putfield 98, 3) := by decide +kernel
theorem dX3_readSetting_52 : decode cX3_readSetting 52 = .ok (.iload_n 2, 1) := by decide +kernel
theorem dX3_readSetting_53 : decode cX3_readSetting 53 = .ok (.ireturn, 1) := by decide +kernel
theorem dX3_readSetting_54 : decode cX3_readSetting 54 = .ok (.aload_n 0, 1) := by decide +kernel
theorem dX3_readSetting_55 : decode cX3_readSetting 55 = .ok (.ldc 101, 2) := by decide +kernel
theorem dX3_readSetting_57 : decode cX3_readSetting 57 = .ok (.invokevirtual 54, 3) := by decide +kernel
theorem dX3_readSetting_60 : decode cX3_readSetting 60 = .ok (.ifCond .eq 22, 3) := by decide +kernel
theorem dX3_readSetting_63 : decode cX3_readSetting 63 = .ok (.aload_n 0, 1) := by decide +kernel
theorem dX3_readSetting_64 : decode cX3_readSetting 64 = .ok (.iconst 0, 1) := by decide +kernel
theorem dX3_readSetting_65 : decode cX3_readSetting 65 = .ok (.sipush 1800, 3) := by decide +kernel
theorem dX3_readSetting_68 : decode cX3_readSetting 68 = .ok (.invokevirtual 61, 3) := by decide +kernel
theorem dX3_readSetting_71 : decode cX3_readSetting 71 = .ok (.istore_n 2, 1) := by decide +kernel
theorem dX3_readSetting_72 : decode cX3_readSetting 72 = .ok (.aload_n 1, 1) := by decide +kernel
theorem dX3_readSetting_73 : decode cX3_readSetting 73 = .ok (.aload_n 0, 1) := by decide +kernel
theorem dX3_readSetting_74 : decode cX3_readSetting 74 = .ok (.getfield 64, 3) := by decide +kernel
theorem dX3_readSetting_77 : decode cX3_readSetting 77 = .ok (.putfield 103, 3) := by decide +kernel
theorem dX3_readSetting_80 : decode cX3_readSetting 80 = .ok (.iload_n 2, 1) := by decide +kernel
theorem dX3_readSetting_81 : decode cX3_readSetting 81 = .ok (.ireturn, 1) := by decide +kernel
theorem dX3_readSetting_82 : decode cX3_readSetting 82 = .ok (.aload_n 0, 1) := by decide +kernel
theorem dX3_readSetting_83 : decode cX3_readSetting 83 = .ok (.ldc 105, 2) := by decide +kernel
theorem dX3_readSetting_85 : decode cX3_readSetting 85 = .ok (.invokevirtual 54, 3) := by decide +kernel
theorem dX3_readSetting_88 : decode cX3_readSetting 88 = .ok (.ifCond .eq 23, 3) := by decide +kernel
theorem dX3_readSetting_91 : decode cX3_readSetting 91 = .ok (.aload_n 0, 1) := by decide +kernel
theorem dX3_readSetting_92 : decode cX3_readSetting 92 = .ok (.bipush 60, 2) := by decide +kernel
theorem dX3_readSetting_94 : decode cX3_readSetting 94 = .ok (.sipush 3600, 3) := by decide +kernel
theorem dX3_readSetting_97 : decode cX3_readSetting 97 = .ok (.invokevirtual 61, 3) := by decide +kernel
theorem dX3_readSetting_100 : decode cX3_readSetting 100 = .ok (.istore_n 2, 1) := by decide +kernel
theorem dX3_readSetting_101 : decode cX3_readSetting 101 = .ok (.aload_n 1, 1) := by decide +kernel
theorem dX3_readSetting_102 : decode cX3_readSetting 102 = .ok (.aload_n 0, 1) := by decide +kernel
theorem dX3_readSetting_103 : decode cX3_readSetting 103 = .ok (.getfield 64, 3) := by decide +kernel
theorem dX3_readSetting_106 : decode cX3_readSetting 106 = .ok (.putfield 107, 3) := by decide +kernel
theorem dX3_readSetting_109 : decode cX3_readSetting 109 = .ok (.iload_n 2, 1) := by decide +kernel
theorem dX3_readSetting_110 : decode cX3_readSetting 110 = .ok (.ireturn, 1) := by decide +kernel
theorem dX3_readSetting_111 : decode cX3_readSetting 111 = .ok (.aload_n 0, 1) := by decide +kernel
theorem dX3_readSetting_112 : decode cX3_readSetting 112 = .ok (.iconst 1, 1) := by decide +kernel
theorem dX3_readSetting_113 : decode cX3_readSetting 113 = .ok (.aload_n 0, 1) := by decide +kernel
theorem dX3_readSetting_114 : decode cX3_readSetting 114 = .ok (.getfield 58, 3) := by decide +kernel
theorem dX3_readSetting_117 : decode cX3_readSetting 117 = .ok (.invokevirtual 40, 3) := by decide +kernel
theorem dX3_readSetting_120 : decode cX3_readSetting 120 = .ok (.ireturn, 1) := by decide +kernel
set_option maxRecDepth 20000 in
theorem s_X3_readSetting_0 {l : Launch} {G : GT} {d : Nat} {Q : AV → AH → Prop} {H : AH} {a0 : Int} (hT : gT G) (h_r0 : Lay LRun H a0) (h : ∃ w1 : Bool, kWd H a0 ws_mixed w1 ∧ (¬ (w1 = true) → ∃ w29 : Bool, kWd H a0 ws_shift w29 ∧ (¬ (w29 = true) → ∃ w55 : Bool, kWd H a0 ws_freeze w55 ∧ (¬ (w55 = true) → ∃ w83 : Bool, kWd H a0 ws_around w83 ∧ (¬ (w83 = true) → CL l G mX1_fail d 0 0 [vR (a0 + 1), vI 1, vI (hg H (a0 + 1) 3)] H (fun r9 H1 => Lay LRun H1 a0 ∧ ∃ y1 : Int, r9 = vI y1 ∧ (y1 = 0 ∨ y1 = 1) ∧ Q (vI y1) H1)) ∧ (w83 = true → CL l G mX1_readNumber d 0 0 [vR (a0 + 1), vI 60, vI 3600] H (fun r9 H1 => Lay LRun H1 a0 ∧ ∃ y1 : Int, r9 = vI y1 ∧ ∀ H2 : AH, H2 = hs H1 (a0 + 44) 4 (hg H1 (a0 + 1) 4) → (y1 = 0 ∨ y1 = 1) ∧ Q (vI y1) H2))) ∧ (w55 = true → CL l G mX1_readNumber d 0 0 [vR (a0 + 1), vI 0, vI 1800] H (fun r9 H1 => Lay LRun H1 a0 ∧ ∃ y1 : Int, r9 = vI y1 ∧ ∀ H2 : AH, H2 = hs H1 (a0 + 44) 3 (hg H1 (a0 + 1) 4) → (y1 = 0 ∨ y1 = 1) ∧ Q (vI y1) H2))) ∧ (w29 = true → CL l G mX1_readNumber d 0 0 [vR (a0 + 1), vI 0, vI 4] H (fun r9 H1 => Lay LRun H1 a0 ∧ ∃ y1 : Int, r9 = vI y1 ∧ ∀ H2 : AH, H2 = hs H1 (a0 + 44) 2 (hg H1 (a0 + 1) 4) → (y1 = 0 ∨ y1 = 1) ∧ Q (vI y1) H2))) ∧ (w1 = true → CL l G mX1_readNumber d 0 0 [vR (a0 + 1), vI 0, vI 600] H (fun r9 H1 => Lay LRun H1 a0 ∧ ∃ y1 : Int, r9 = vI y1 ∧ ∀ H2 : AH, H2 = hs H1 (a0 + 44) 1 (hg H1 (a0 + 1) 4) → (y1 = 0 ∨ y1 = 1) ∧ Q (vI y1) H2))) (hd : 4 ≤ d := by omega) : AW l G mX3_readSetting (d + 1) 0 0 Q 0 [vR (a0 + 1), vR (a0 + 44), vU] [] 0 0 H := by
  refine a_aload_n dX3_readSetting_0 rfl rfl ?_
  obtain ⟨w1, qw1, h⟩ := h
  obtain ⟨q9, t9, g9, g8⟩ := hT.2 _ _ _ _ wl_RX3_92
  refine a_ldcX g9 dX3_readSetting_1 ?_
  refine a_callV dX3_readSetting_3 cw_X3_readSetting_3 (as := [vX q9]) rfl rfl (kRun_1 h_r0) (Nat.le_refl _) (Nat.le_of_ble_eq_true rfl) (nocov rfl) (Nat.le_of_ble_eq_true rfl) (Nat.le_of_ble_eq_true rfl) (CL.mono (k_wordIs h_r0 g8 hT.1 (by decide) qw1) (fun r9 H9 h9 => ?_))
  rw [h9.1, h9.2]
  show AW l G mX3_readSetting (d + 1) 0 0 Q 6 [vR (a0 + 1), vR (a0 + 44), vU] [vI (bi (decide (w1 = true)))] 0 0 H
  refine a_if_eq dX3_readSetting_6 (tgt := 28) rfl (fun c6 => ?_) (fun c6 => ?_)
  · replace h := h.1 (bi_0 c6)
    refine a_aload_n dX3_readSetting_28 rfl rfl ?_
    obtain ⟨w29, qw29, h⟩ := h
    obtain ⟨q9, t9, g9, g8⟩ := hT.2 _ _ _ _ wl_RX3_96
    refine a_ldcX g9 dX3_readSetting_29 ?_
    refine a_callV dX3_readSetting_31 cw_X3_readSetting_31 (as := [vX q9]) rfl rfl (kRun_1 h_r0) (Nat.le_refl _) (Nat.le_of_ble_eq_true rfl) (nocov rfl) (Nat.le_of_ble_eq_true rfl) (Nat.le_of_ble_eq_true rfl) (CL.mono (k_wordIs h_r0 g8 hT.1 (by decide) qw29) (fun r9 H9 h9 => ?_))
    rw [h9.1, h9.2]
    show AW l G mX3_readSetting (d + 1) 0 0 Q 34 [vR (a0 + 1), vR (a0 + 44), vU] [vI (bi (decide (w29 = true)))] 0 0 H
    refine a_if_eq dX3_readSetting_34 (tgt := 54) rfl (fun c34 => ?_) (fun c34 => ?_)
    · replace h := h.1 (bi_0 c34)
      refine a_aload_n dX3_readSetting_54 rfl rfl ?_
      obtain ⟨w55, qw55, h⟩ := h
      obtain ⟨q9, t9, g9, g8⟩ := hT.2 _ _ _ _ wl_RX3_101
      refine a_ldcX g9 dX3_readSetting_55 ?_
      refine a_callV dX3_readSetting_57 cw_X3_readSetting_57 (as := [vX q9]) rfl rfl (kRun_1 h_r0) (Nat.le_refl _) (Nat.le_of_ble_eq_true rfl) (nocov rfl) (Nat.le_of_ble_eq_true rfl) (Nat.le_of_ble_eq_true rfl) (CL.mono (k_wordIs h_r0 g8 hT.1 (by decide) qw55) (fun r9 H9 h9 => ?_))
      rw [h9.1, h9.2]
      show AW l G mX3_readSetting (d + 1) 0 0 Q 60 [vR (a0 + 1), vR (a0 + 44), vU] [vI (bi (decide (w55 = true)))] 0 0 H
      refine a_if_eq dX3_readSetting_60 (tgt := 82) rfl (fun c60 => ?_) (fun c60 => ?_)
      · replace h := h.1 (bi_0 c60)
        refine a_aload_n dX3_readSetting_82 rfl rfl ?_
        obtain ⟨w83, qw83, h⟩ := h
        obtain ⟨q9, t9, g9, g8⟩ := hT.2 _ _ _ _ wl_RX3_105
        refine a_ldcX g9 dX3_readSetting_83 ?_
        refine a_callV dX3_readSetting_85 cw_X3_readSetting_85 (as := [vX q9]) rfl rfl (kRun_1 h_r0) (Nat.le_refl _) (Nat.le_of_ble_eq_true rfl) (nocov rfl) (Nat.le_of_ble_eq_true rfl) (Nat.le_of_ble_eq_true rfl) (CL.mono (k_wordIs h_r0 g8 hT.1 (by decide) qw83) (fun r9 H9 h9 => ?_))
        rw [h9.1, h9.2]
        show AW l G mX3_readSetting (d + 1) 0 0 Q 88 [vR (a0 + 1), vR (a0 + 44), vU] [vI (bi (decide (w83 = true)))] 0 0 H
        refine a_if_eq dX3_readSetting_88 (tgt := 111) rfl (fun c88 => ?_) (fun c88 => ?_)
        · replace h := h.1 (bi_0 c88)
          refine a_aload_n dX3_readSetting_111 rfl rfl ?_
          refine a_iconst dX3_readSetting_112 ⟨by decide, by decide⟩ ?_
          refine a_aload_n dX3_readSetting_113 rfl rfl ?_
          refine a_getI dX3_readSetting_114 fw_RX3_58 rfl rfl (kRun_1 h_r0) ?_
          refine a_callV dX3_readSetting_117 cw_X3_readSetting_117 (as := [vI 1, vI (hg H (a0 + 1) 3)]) rfl rfl (kRun_1 h_r0) (Nat.le_refl _) (Nat.le_of_ble_eq_true rfl) (nocov rfl) (Nat.le_of_ble_eq_true rfl) (Nat.le_of_ble_eq_true rfl) (CL.mono h (fun r9 H1 h => ?_))
          obtain ⟨h_r0_1, y1, e9, h⟩ := h
          rw [e9]
          show AW l G mX3_readSetting (d + 1) 0 0 Q 120 [vR (a0 + 1), vR (a0 + 44), vU] [vI y1] 0 0 H1
          obtain ⟨q120_0, h⟩ := h
          exact a_zret dX3_readSetting_120 rfl q120_0 (Nat.le_of_ble_eq_true rfl) (Nat.le_of_ble_eq_true rfl) h
        · replace h := h.2 (bi_1 c88)
          refine a_aload_n dX3_readSetting_91 rfl rfl ?_
          refine a_bipush dX3_readSetting_92 (by decide) ?_
          refine a_sipush dX3_readSetting_94 (by decide) ?_
          refine a_callV dX3_readSetting_97 cw_X3_readSetting_97 (as := [vI 60, vI 3600]) rfl rfl (kRun_1 h_r0) (Nat.le_refl _) (Nat.le_of_ble_eq_true rfl) (nocov rfl) (Nat.le_of_ble_eq_true rfl) (Nat.le_of_ble_eq_true rfl) (CL.mono h (fun r9 H1 h => ?_))
          obtain ⟨h_r0_1, y1, e9, h⟩ := h
          rw [e9]
          show AW l G mX3_readSetting (d + 1) 0 0 Q 100 [vR (a0 + 1), vR (a0 + 44), vU] [vI y1] 0 0 H1
          refine a_istore_n dX3_readSetting_100 rfl (Nat.le_of_ble_eq_true rfl) (ls' := [vR (a0 + 1), vR (a0 + 44), vI y1]) rfl ?_
          refine a_aload_n dX3_readSetting_101 rfl rfl ?_
          refine a_aload_n dX3_readSetting_102 rfl rfl ?_
          refine a_getI dX3_readSetting_103 fw_RX3_64 rfl rfl (kRun_1 h_r0_1) ?_
          refine a_putI dX3_readSetting_106 fp_RX3_107 rfl rfl (kRun_44 h_r0_1) ?_
          have h_r0_2 := Lay.wr h_r0_1 ok_Run (nrf_fld 4 (kRun_44 h_r0_1) (by decide) (by decide)) (i := 4) (x := (hg H1 (a0 + 1) 4))
          generalize e_H2 : hs H1 (a0 + 44) 4 (hg H1 (a0 + 1) 4) = H2 at h_r0_2 ⊢
          replace h := h H2 e_H2.symm
          refine a_iload_n dX3_readSetting_109 rfl rfl ?_
          obtain ⟨q110_0, h⟩ := h
          exact a_zret dX3_readSetting_110 rfl q110_0 (Nat.le_of_ble_eq_true rfl) (Nat.le_of_ble_eq_true rfl) h
      · replace h := h.2 (bi_1 c60)
        refine a_aload_n dX3_readSetting_63 rfl rfl ?_
        refine a_iconst dX3_readSetting_64 ⟨by decide, by decide⟩ ?_
        refine a_sipush dX3_readSetting_65 (by decide) ?_
        refine a_callV dX3_readSetting_68 cw_X3_readSetting_68 (as := [vI 0, vI 1800]) rfl rfl (kRun_1 h_r0) (Nat.le_refl _) (Nat.le_of_ble_eq_true rfl) (nocov rfl) (Nat.le_of_ble_eq_true rfl) (Nat.le_of_ble_eq_true rfl) (CL.mono h (fun r9 H1 h => ?_))
        obtain ⟨h_r0_1, y1, e9, h⟩ := h
        rw [e9]
        show AW l G mX3_readSetting (d + 1) 0 0 Q 71 [vR (a0 + 1), vR (a0 + 44), vU] [vI y1] 0 0 H1
        refine a_istore_n dX3_readSetting_71 rfl (Nat.le_of_ble_eq_true rfl) (ls' := [vR (a0 + 1), vR (a0 + 44), vI y1]) rfl ?_
        refine a_aload_n dX3_readSetting_72 rfl rfl ?_
        refine a_aload_n dX3_readSetting_73 rfl rfl ?_
        refine a_getI dX3_readSetting_74 fw_RX3_64 rfl rfl (kRun_1 h_r0_1) ?_
        refine a_putI dX3_readSetting_77 fp_RX3_103 rfl rfl (kRun_44 h_r0_1) ?_
        have h_r0_2 := Lay.wr h_r0_1 ok_Run (nrf_fld 3 (kRun_44 h_r0_1) (by decide) (by decide)) (i := 3) (x := (hg H1 (a0 + 1) 4))
        generalize e_H2 : hs H1 (a0 + 44) 3 (hg H1 (a0 + 1) 4) = H2 at h_r0_2 ⊢
        replace h := h H2 e_H2.symm
        refine a_iload_n dX3_readSetting_80 rfl rfl ?_
        obtain ⟨q81_0, h⟩ := h
        exact a_zret dX3_readSetting_81 rfl q81_0 (Nat.le_of_ble_eq_true rfl) (Nat.le_of_ble_eq_true rfl) h
    · replace h := h.2 (bi_1 c34)
      refine a_aload_n dX3_readSetting_37 rfl rfl ?_
      refine a_iconst dX3_readSetting_38 ⟨by decide, by decide⟩ ?_
      refine a_iconst dX3_readSetting_39 ⟨by decide, by decide⟩ ?_
      refine a_callV dX3_readSetting_40 cw_X3_readSetting_40 (as := [vI 0, vI 4]) rfl rfl (kRun_1 h_r0) (Nat.le_refl _) (Nat.le_of_ble_eq_true rfl) (nocov rfl) (Nat.le_of_ble_eq_true rfl) (Nat.le_of_ble_eq_true rfl) (CL.mono h (fun r9 H1 h => ?_))
      obtain ⟨h_r0_1, y1, e9, h⟩ := h
      rw [e9]
      show AW l G mX3_readSetting (d + 1) 0 0 Q 43 [vR (a0 + 1), vR (a0 + 44), vU] [vI y1] 0 0 H1
      refine a_istore_n dX3_readSetting_43 rfl (Nat.le_of_ble_eq_true rfl) (ls' := [vR (a0 + 1), vR (a0 + 44), vI y1]) rfl ?_
      refine a_aload_n dX3_readSetting_44 rfl rfl ?_
      refine a_aload_n dX3_readSetting_45 rfl rfl ?_
      refine a_getI dX3_readSetting_46 fw_RX3_64 rfl rfl (kRun_1 h_r0_1) ?_
      refine a_putI dX3_readSetting_49 fp_RX3_98 rfl rfl (kRun_44 h_r0_1) ?_
      have h_r0_2 := Lay.wr h_r0_1 ok_Run (nrf_fld 2 (kRun_44 h_r0_1) (by decide) (by decide)) (i := 2) (x := (hg H1 (a0 + 1) 4))
      generalize e_H2 : hs H1 (a0 + 44) 2 (hg H1 (a0 + 1) 4) = H2 at h_r0_2 ⊢
      replace h := h H2 e_H2.symm
      refine a_iload_n dX3_readSetting_52 rfl rfl ?_
      obtain ⟨q53_0, h⟩ := h
      exact a_zret dX3_readSetting_53 rfl q53_0 (Nat.le_of_ble_eq_true rfl) (Nat.le_of_ble_eq_true rfl) h
  · replace h := h.2 (bi_1 c6)
    refine a_aload_n dX3_readSetting_9 rfl rfl ?_
    refine a_iconst dX3_readSetting_10 ⟨by decide, by decide⟩ ?_
    refine a_sipush dX3_readSetting_11 (by decide) ?_
    refine a_callV dX3_readSetting_14 cw_X3_readSetting_14 (as := [vI 0, vI 600]) rfl rfl (kRun_1 h_r0) (Nat.le_refl _) (Nat.le_of_ble_eq_true rfl) (nocov rfl) (Nat.le_of_ble_eq_true rfl) (Nat.le_of_ble_eq_true rfl) (CL.mono h (fun r9 H1 h => ?_))
    obtain ⟨h_r0_1, y1, e9, h⟩ := h
    rw [e9]
    show AW l G mX3_readSetting (d + 1) 0 0 Q 17 [vR (a0 + 1), vR (a0 + 44), vU] [vI y1] 0 0 H1
    refine a_istore_n dX3_readSetting_17 rfl (Nat.le_of_ble_eq_true rfl) (ls' := [vR (a0 + 1), vR (a0 + 44), vI y1]) rfl ?_
    refine a_aload_n dX3_readSetting_18 rfl rfl ?_
    refine a_aload_n dX3_readSetting_19 rfl rfl ?_
    refine a_getI dX3_readSetting_20 fw_RX3_64 rfl rfl (kRun_1 h_r0_1) ?_
    refine a_putI dX3_readSetting_23 fp_RX3_94 rfl rfl (kRun_44 h_r0_1) ?_
    have h_r0_2 := Lay.wr h_r0_1 ok_Run (nrf_fld 1 (kRun_44 h_r0_1) (by decide) (by decide)) (i := 1) (x := (hg H1 (a0 + 1) 4))
    generalize e_H2 : hs H1 (a0 + 44) 1 (hg H1 (a0 + 1) 4) = H2 at h_r0_2 ⊢
    replace h := h H2 e_H2.symm
    refine a_iload_n dX3_readSetting_26 rfl rfl ?_
    obtain ⟨q27_0, h⟩ := h
    exact a_zret dX3_readSetting_27 rfl q27_0 (Nat.le_of_ble_eq_true rfl) (Nat.le_of_ble_eq_true rfl) h


theorem dX3_readWake_0 : decode cX3_readWake 0 = .ok (.aload_n 0, 1) := by decide +kernel
theorem dX3_readWake_1 : decode cX3_readWake 1 = .ok (.invokevirtual 109, 3) := by decide +kernel
theorem dX3_readWake_4 : decode cX3_readWake 4 = .ok (.ifCond .ne 5, 3) := by decide +kernel
theorem dX3_readWake_7 : decode cX3_readWake 7 = .ok (.iconst 0, 1) := by decide +kernel
theorem dX3_readWake_8 : decode cX3_readWake 8 = .ok (.ireturn, 1) := by decide +kernel
theorem dX3_readWake_9 : decode cX3_readWake 9 = .ok (.aload_n 0, 1) := by decide +kernel
theorem dX3_readWake_10 : decode cX3_readWake 10 = .ok (.getfield 64, 3) := by decide +kernel
theorem dX3_readWake_13 : decode cX3_readWake 13 = .ok (.istore_n 2, 1) := by decide +kernel
theorem dX3_readWake_14 : decode cX3_readWake 14 = .ok (.aload_n 0, 1) := by decide +kernel
theorem dX3_readWake_15 : decode cX3_readWake 15 = .ok (.invokevirtual 109, 3) := by decide +kernel
theorem dX3_readWake_18 : decode cX3_readWake 18 = .ok (.ifCond .ne 5, 3) := by decide +kernel
theorem dX3_readWake_21 : decode cX3_readWake 21 = .ok (.iconst 0, 1) := by decide +kernel
theorem dX3_readWake_22 : decode cX3_readWake 22 = .ok (.ireturn, 1) := by decide +kernel
theorem dX3_readWake_23 : decode cX3_readWake 23 = .ok (.aload_n 0, 1) := by decide +kernel
theorem dX3_readWake_24 : decode cX3_readWake 24 = .ok (.getfield 64, 3) := by decide +kernel
theorem dX3_readWake_27 : decode cX3_readWake 27 = .ok (.istore_n 3, 1) := by decide +kernel
theorem dX3_readWake_28 : decode cX3_readWake 28 = .ok (.aload_n 0, 1) := by decide +kernel
theorem dX3_readWake_29 : decode cX3_readWake 29 = .ok (.iconst 0, 1) := by decide +kernel
theorem dX3_readWake_30 : decode cX3_readWake 30 = .ok (.sipush 600, 3) := by decide +kernel
theorem dX3_readWake_33 : decode cX3_readWake 33 = .ok (.invokevirtual 61, 3) := by decide +kernel
theorem dX3_readWake_36 : decode cX3_readWake 36 = .ok (.ifCond .ne 5, 3) := by decide +kernel
theorem dX3_readWake_39 : decode cX3_readWake 39 = .ok (.iconst 0, 1) := by decide +kernel
theorem dX3_readWake_40 : decode cX3_readWake 40 = .ok (.ireturn, 1) := by decide +kernel
theorem dX3_readWake_41 : decode cX3_readWake 41 = .ok (.aload_n 1, 1) := by decide +kernel
theorem dX3_readWake_42 : decode cX3_readWake 42 = .ok (.getfield 112, 3) := by decide +kernel
theorem dX3_readWake_45 : decode cX3_readWake 45 = .ok (.iload_n 2, 1) := by decide +kernel
theorem dX3_readWake_46 : decode cX3_readWake 46 = .ok (.iconst 4, 1) := by decide +kernel
theorem dX3_readWake_47 : decode cX3_readWake 47 = .ok (.imul, 1) := by decide +kernel
theorem dX3_readWake_48 : decode cX3_readWake 48 = .ok (.iload_n 3, 1) := by decide +kernel
theorem dX3_readWake_49 : decode cX3_readWake 49 = .ok (.iadd, 1) := by decide +kernel
theorem dX3_readWake_50 : decode cX3_readWake 50 = .ok (.aload_n 0, 1) := by decide +kernel
theorem dX3_readWake_51 : decode cX3_readWake 51 = .ok (.getfield 64, 3) := by decide +kernel
theorem dX3_readWake_54 : decode cX3_readWake 54 = .ok (.iastore, 1) := by decide +kernel
theorem dX3_readWake_55 : decode cX3_readWake 55 = .ok (.iconst 1, 1) := by decide +kernel
theorem dX3_readWake_56 : decode cX3_readWake 56 = .ok (.ireturn, 1) := by decide +kernel
set_option maxRecDepth 20000 in
theorem s_X3_readWake_0 {l : Launch} {G : GT} {d : Nat} {Q : AV → AH → Prop} {H : AH} {a0 : Int} (h_r0 : Lay LRun H a0) (h : CL l G mX1_readKind d 0 0 [vR (a0 + 1)] H (fun r9 H1 => Lay LRun H1 a0 ∧ ∃ y1 : Int, r9 = vI y1 ∧ (¬ y1 = 0 → CL l G mX1_readKind d 0 0 [vR (a0 + 1)] H1 (fun r9 H2 => Lay LRun H2 a0 ∧ ∃ y2 : Int, r9 = vI y2 ∧ (¬ y2 = 0 → CL l G mX1_readNumber d 0 0 [vR (a0 + 1), vI 0, vI 600] H2 (fun r9 H3 => Lay LRun H3 a0 ∧ ∃ y3 : Int, r9 = vI y3 ∧ (¬ y3 = 0 → (-2147483648 ≤ (hg H1 (a0 + 1) 4) * 4 ∧ (hg H1 (a0 + 1) 4) * 4 ≤ 2147483647) ∧ (-2147483648 ≤ ((hg H1 (a0 + 1) 4) * 4) + (hg H2 (a0 + 1) 4) ∧ ((hg H1 (a0 + 1) 4) * 4) + (hg H2 (a0 + 1) 4) ≤ 2147483647) ∧ (0 ≤ (((hg H1 (a0 + 1) 4) * 4) + (hg H2 (a0 + 1) 4)) ∧ (((hg H1 (a0 + 1) 4) * 4) + (hg H2 (a0 + 1) 4)) < 16) ∧ ∀ H4 : AH, H4 = hs H3 (a0 + 45) (((hg H1 (a0 + 1) 4) * 4) + (hg H2 (a0 + 1) 4)) (hg H3 (a0 + 1) 4) → Q (vI 1) H4) ∧ (y3 = 0 → Q (vI 0) H3))) ∧ (y2 = 0 → Q (vI 0) H2))) ∧ (y1 = 0 → Q (vI 0) H1))) : AW l G mX3_readWake (d + 1) 0 0 Q 0 [vR (a0 + 1), vR (a0 + 44), vU, vU] [] 0 0 H := by
  refine a_aload_n dX3_readWake_0 rfl rfl ?_
  refine a_callV dX3_readWake_1 cw_X3_readWake_1 (as := []) rfl rfl (kRun_1 h_r0) (Nat.le_refl _) (Nat.le_of_ble_eq_true rfl) (nocov rfl) (Nat.le_of_ble_eq_true rfl) (Nat.le_of_ble_eq_true rfl) (CL.mono h (fun r9 H1 h => ?_))
  obtain ⟨h_r0_1, y1, e9, h⟩ := h
  rw [e9]
  show AW l G mX3_readWake (d + 1) 0 0 Q 4 [vR (a0 + 1), vR (a0 + 44), vU, vU] [vI y1] 0 0 H1
  refine a_if_ne dX3_readWake_4 (tgt := 9) rfl (fun c4 => ?_) (fun c4 => ?_)
  · replace h := h.1 c4
    refine a_aload_n dX3_readWake_9 rfl rfl ?_
    refine a_getI dX3_readWake_10 fw_RX3_64 rfl rfl (kRun_1 h_r0_1) ?_
    refine a_istore_n dX3_readWake_13 rfl (Nat.le_of_ble_eq_true rfl) (ls' := [vR (a0 + 1), vR (a0 + 44), vI (hg H1 (a0 + 1) 4), vU]) rfl ?_
    refine a_aload_n dX3_readWake_14 rfl rfl ?_
    refine a_callV dX3_readWake_15 cw_X3_readWake_15 (as := []) rfl rfl (kRun_1 h_r0_1) (Nat.le_refl _) (Nat.le_of_ble_eq_true rfl) (nocov rfl) (Nat.le_of_ble_eq_true rfl) (Nat.le_of_ble_eq_true rfl) (CL.mono h (fun r9 H2 h => ?_))
    obtain ⟨h_r0_2, y2, e9, h⟩ := h
    rw [e9]
    show AW l G mX3_readWake (d + 1) 0 0 Q 18 [vR (a0 + 1), vR (a0 + 44), vI (hg H1 (a0 + 1) 4), vU] [vI y2] 0 0 H2
    refine a_if_ne dX3_readWake_18 (tgt := 23) rfl (fun c18 => ?_) (fun c18 => ?_)
    · replace h := h.1 c18
      refine a_aload_n dX3_readWake_23 rfl rfl ?_
      refine a_getI dX3_readWake_24 fw_RX3_64 rfl rfl (kRun_1 h_r0_2) ?_
      refine a_istore_n dX3_readWake_27 rfl (Nat.le_of_ble_eq_true rfl) (ls' := [vR (a0 + 1), vR (a0 + 44), vI (hg H1 (a0 + 1) 4), vI (hg H2 (a0 + 1) 4)]) rfl ?_
      refine a_aload_n dX3_readWake_28 rfl rfl ?_
      refine a_iconst dX3_readWake_29 ⟨by decide, by decide⟩ ?_
      refine a_sipush dX3_readWake_30 (by decide) ?_
      refine a_callV dX3_readWake_33 cw_X3_readWake_33 (as := [vI 0, vI 600]) rfl rfl (kRun_1 h_r0_2) (Nat.le_refl _) (Nat.le_of_ble_eq_true rfl) (nocov rfl) (Nat.le_of_ble_eq_true rfl) (Nat.le_of_ble_eq_true rfl) (CL.mono h (fun r9 H3 h => ?_))
      obtain ⟨h_r0_3, y3, e9, h⟩ := h
      rw [e9]
      show AW l G mX3_readWake (d + 1) 0 0 Q 36 [vR (a0 + 1), vR (a0 + 44), vI (hg H1 (a0 + 1) 4), vI (hg H2 (a0 + 1) 4)] [vI y3] 0 0 H3
      refine a_if_ne dX3_readWake_36 (tgt := 41) rfl (fun c36 => ?_) (fun c36 => ?_)
      · replace h := h.1 c36
        refine a_aload_n dX3_readWake_41 rfl rfl ?_
        refine a_getR dX3_readWake_42 fw_RX3_112 rfl rfl (kRun_44 h_r0_3) (rRun_44_5 h_r0_3) ?_
        refine a_iload_n dX3_readWake_45 rfl rfl ?_
        refine a_iconst dX3_readWake_46 ⟨by decide, by decide⟩ ?_
        obtain ⟨q47_0, h⟩ := h
        refine a_imul dX3_readWake_47 q47_0 ?_
        refine a_iload_n dX3_readWake_48 rfl rfl ?_
        obtain ⟨q49_0, h⟩ := h
        refine a_iadd dX3_readWake_49 q49_0 ?_
        refine a_aload_n dX3_readWake_50 rfl rfl ?_
        refine a_getI dX3_readWake_51 fw_RX3_64 rfl rfl (kRun_1 h_r0_3) ?_
        obtain ⟨q54_0, h⟩ := h
        refine b_iast dX3_readWake_54 (kRun_45 h_r0_3) (nRun_45 h_r0_3) q54_0 ?_
        have h_r0_4 := Lay.wr h_r0_3 ok_Run (nrf_arr (kRun_45 h_r0_3) (by decide) (by decide)) (i := (((hg H1 (a0 + 1) 4) * 4) + (hg H2 (a0 + 1) 4))) (x := (hg H3 (a0 + 1) 4))
        generalize e_H4 : hs H3 (a0 + 45) (((hg H1 (a0 + 1) 4) * 4) + (hg H2 (a0 + 1) 4)) (hg H3 (a0 + 1) 4) = H4 at h_r0_4 ⊢
        replace h := h H4 e_H4.symm
        refine a_iconst dX3_readWake_55 ⟨by decide, by decide⟩ ?_
        exact a_zret dX3_readWake_56 rfl (by decide) (Nat.le_of_ble_eq_true rfl) (Nat.le_of_ble_eq_true rfl) h
      · replace h := h.2 c36
        refine a_iconst dX3_readWake_39 ⟨by decide, by decide⟩ ?_
        exact a_zret dX3_readWake_40 rfl (by decide) (Nat.le_of_ble_eq_true rfl) (Nat.le_of_ble_eq_true rfl) h
    · replace h := h.2 c18
      refine a_iconst dX3_readWake_21 ⟨by decide, by decide⟩ ?_
      exact a_zret dX3_readWake_22 rfl (by decide) (Nat.le_of_ble_eq_true rfl) (Nat.le_of_ble_eq_true rfl) h
  · replace h := h.2 c4
    refine a_iconst dX3_readWake_7 ⟨by decide, by decide⟩ ?_
    exact a_zret dX3_readWake_8 rfl (by decide) (Nat.le_of_ble_eq_true rfl) (Nat.le_of_ble_eq_true rfl) h


theorem dX3_readCost_0 : decode cX3_readCost 0 = .ok (.aload_n 0, 1) := by decide +kernel
theorem dX3_readCost_1 : decode cX3_readCost 1 = .ok (.invokevirtual 109, 3) := by decide +kernel
theorem dX3_readCost_4 : decode cX3_readCost 4 = .ok (.ifCond .ne 5, 3) := by decide +kernel
theorem dX3_readCost_7 : decode cX3_readCost 7 = .ok (.iconst 0, 1) := by decide +kernel
theorem dX3_readCost_8 : decode cX3_readCost 8 = .ok (.ireturn, 1) := by decide +kernel
theorem dX3_readCost_9 : decode cX3_readCost 9 = .ok (.aload_n 0, 1) := by decide +kernel
theorem dX3_readCost_10 : decode cX3_readCost 10 = .ok (.getfield 64, 3) := by decide +kernel
theorem dX3_readCost_13 : decode cX3_readCost 13 = .ok (.istore_n 2, 1) := by decide +kernel
theorem dX3_readCost_14 : decode cX3_readCost 14 = .ok (.aload_n 0, 1) := by decide +kernel
theorem dX3_readCost_15 : decode cX3_readCost 15 = .ok (.iconst 0, 1) := by decide +kernel
theorem dX3_readCost_16 : decode cX3_readCost 16 = .ok (.sipush 9999, 3) := by decide +kernel
theorem dX3_readCost_19 : decode cX3_readCost 19 = .ok (.invokevirtual 61, 3) := by decide +kernel
theorem dX3_readCost_22 : decode cX3_readCost 22 = .ok (.ifCond .ne 5, 3) := by decide +kernel
theorem dX3_readCost_25 : decode cX3_readCost 25 = .ok (.iconst 0, 1) := by decide +kernel
theorem dX3_readCost_26 : decode cX3_readCost 26 = .ok (.ireturn, 1) := by decide +kernel
theorem dX3_readCost_27 : decode cX3_readCost 27 = .ok (.aload_n 1, 1) := by decide +kernel
theorem dX3_readCost_28 : decode cX3_readCost 28 = .ok (.getfield 115, 3) := by decide +kernel
theorem dX3_readCost_31 : decode cX3_readCost 31 = .ok (.iload_n 2, 1) := by decide +kernel
theorem dX3_readCost_32 : decode cX3_readCost 32 = .ok (.aload_n 0, 1) := by decide +kernel
theorem dX3_readCost_33 : decode cX3_readCost 33 = .ok (.getfield 64, 3) := by decide +kernel
theorem dX3_readCost_36 : decode cX3_readCost 36 = .ok (.iastore, 1) := by decide +kernel
theorem dX3_readCost_37 : decode cX3_readCost 37 = .ok (.aload_n 0, 1) := by decide +kernel
theorem dX3_readCost_38 : decode cX3_readCost 38 = .ok (.iconst 0, 1) := by decide +kernel
theorem dX3_readCost_39 : decode cX3_readCost 39 = .ok (.sipush 9999, 3) := by decide +kernel
theorem dX3_readCost_42 : decode cX3_readCost 42 = .ok (.invokevirtual 61, 3) := by decide +kernel
theorem dX3_readCost_45 : decode cX3_readCost 45 = .ok (.ifCond .ne 5, 3) := by decide +kernel
theorem dX3_readCost_48 : decode cX3_readCost 48 = .ok (.iconst 0, 1) := by decide +kernel
theorem dX3_readCost_49 : decode cX3_readCost 49 = .ok (.ireturn, 1) := by decide +kernel
theorem dX3_readCost_50 : decode cX3_readCost 50 = .ok (.aload_n 1, 1) := by decide +kernel
theorem dX3_readCost_51 : decode cX3_readCost 51 = .ok (.getfield 118, 3) := by decide +kernel
theorem dX3_readCost_54 : decode cX3_readCost 54 = .ok (.iload_n 2, 1) := by decide +kernel
theorem dX3_readCost_55 : decode cX3_readCost 55 = .ok (.aload_n 0, 1) := by decide +kernel
theorem dX3_readCost_56 : decode cX3_readCost 56 = .ok (.getfield 64, 3) := by decide +kernel
theorem dX3_readCost_59 : decode cX3_readCost 59 = .ok (.iastore, 1) := by decide +kernel
theorem dX3_readCost_60 : decode cX3_readCost 60 = .ok (.iconst 1, 1) := by decide +kernel
theorem dX3_readCost_61 : decode cX3_readCost 61 = .ok (.ireturn, 1) := by decide +kernel
set_option maxRecDepth 20000 in
theorem s_X3_readCost_0 {l : Launch} {G : GT} {d : Nat} {Q : AV → AH → Prop} {H : AH} {a0 : Int} (h_r0 : Lay LRun H a0) (h : CL l G mX1_readKind d 0 0 [vR (a0 + 1)] H (fun r9 H1 => Lay LRun H1 a0 ∧ ∃ y1 : Int, r9 = vI y1 ∧ (¬ y1 = 0 → CL l G mX1_readNumber d 0 0 [vR (a0 + 1), vI 0, vI 9999] H1 (fun r9 H2 => Lay LRun H2 a0 ∧ ∃ y2 : Int, r9 = vI y2 ∧ (¬ y2 = 0 → (0 ≤ (hg H1 (a0 + 1) 4) ∧ (hg H1 (a0 + 1) 4) < 4) ∧ ∀ H3 : AH, H3 = hs H2 (a0 + 46) (hg H1 (a0 + 1) 4) (hg H2 (a0 + 1) 4) → CL l G mX1_readNumber d 0 0 [vR (a0 + 1), vI 0, vI 9999] H3 (fun r9 H4 => Lay LRun H4 a0 ∧ ∃ y4 : Int, r9 = vI y4 ∧ (¬ y4 = 0 → ∀ H5 : AH, H5 = hs H4 (a0 + 47) (hg H1 (a0 + 1) 4) (hg H4 (a0 + 1) 4) → Q (vI 1) H5) ∧ (y4 = 0 → Q (vI 0) H4))) ∧ (y2 = 0 → Q (vI 0) H2))) ∧ (y1 = 0 → Q (vI 0) H1))) : AW l G mX3_readCost (d + 1) 0 0 Q 0 [vR (a0 + 1), vR (a0 + 44), vU] [] 0 0 H := by
  refine a_aload_n dX3_readCost_0 rfl rfl ?_
  refine a_callV dX3_readCost_1 cw_X3_readCost_1 (as := []) rfl rfl (kRun_1 h_r0) (Nat.le_refl _) (Nat.le_of_ble_eq_true rfl) (nocov rfl) (Nat.le_of_ble_eq_true rfl) (Nat.le_of_ble_eq_true rfl) (CL.mono h (fun r9 H1 h => ?_))
  obtain ⟨h_r0_1, y1, e9, h⟩ := h
  rw [e9]
  show AW l G mX3_readCost (d + 1) 0 0 Q 4 [vR (a0 + 1), vR (a0 + 44), vU] [vI y1] 0 0 H1
  refine a_if_ne dX3_readCost_4 (tgt := 9) rfl (fun c4 => ?_) (fun c4 => ?_)
  · replace h := h.1 c4
    refine a_aload_n dX3_readCost_9 rfl rfl ?_
    refine a_getI dX3_readCost_10 fw_RX3_64 rfl rfl (kRun_1 h_r0_1) ?_
    refine a_istore_n dX3_readCost_13 rfl (Nat.le_of_ble_eq_true rfl) (ls' := [vR (a0 + 1), vR (a0 + 44), vI (hg H1 (a0 + 1) 4)]) rfl ?_
    refine a_aload_n dX3_readCost_14 rfl rfl ?_
    refine a_iconst dX3_readCost_15 ⟨by decide, by decide⟩ ?_
    refine a_sipush dX3_readCost_16 (by decide) ?_
    refine a_callV dX3_readCost_19 cw_X3_readCost_19 (as := [vI 0, vI 9999]) rfl rfl (kRun_1 h_r0_1) (Nat.le_refl _) (Nat.le_of_ble_eq_true rfl) (nocov rfl) (Nat.le_of_ble_eq_true rfl) (Nat.le_of_ble_eq_true rfl) (CL.mono h (fun r9 H2 h => ?_))
    obtain ⟨h_r0_2, y2, e9, h⟩ := h
    rw [e9]
    show AW l G mX3_readCost (d + 1) 0 0 Q 22 [vR (a0 + 1), vR (a0 + 44), vI (hg H1 (a0 + 1) 4)] [vI y2] 0 0 H2
    refine a_if_ne dX3_readCost_22 (tgt := 27) rfl (fun c22 => ?_) (fun c22 => ?_)
    · replace h := h.1 c22
      refine a_aload_n dX3_readCost_27 rfl rfl ?_
      refine a_getR dX3_readCost_28 fw_RX3_115 rfl rfl (kRun_44 h_r0_2) (rRun_44_6 h_r0_2) ?_
      refine a_iload_n dX3_readCost_31 rfl rfl ?_
      refine a_aload_n dX3_readCost_32 rfl rfl ?_
      refine a_getI dX3_readCost_33 fw_RX3_64 rfl rfl (kRun_1 h_r0_2) ?_
      obtain ⟨q36_0, h⟩ := h
      refine b_iast dX3_readCost_36 (kRun_46 h_r0_2) (nRun_46 h_r0_2) q36_0 ?_
      have h_r0_3 := Lay.wr h_r0_2 ok_Run (nrf_arr (kRun_46 h_r0_2) (by decide) (by decide)) (i := (hg H1 (a0 + 1) 4)) (x := (hg H2 (a0 + 1) 4))
      generalize e_H3 : hs H2 (a0 + 46) (hg H1 (a0 + 1) 4) (hg H2 (a0 + 1) 4) = H3 at h_r0_3 ⊢
      replace h := h H3 e_H3.symm
      refine a_aload_n dX3_readCost_37 rfl rfl ?_
      refine a_iconst dX3_readCost_38 ⟨by decide, by decide⟩ ?_
      refine a_sipush dX3_readCost_39 (by decide) ?_
      refine a_callV dX3_readCost_42 cw_X3_readCost_42 (as := [vI 0, vI 9999]) rfl rfl (kRun_1 h_r0_3) (Nat.le_refl _) (Nat.le_of_ble_eq_true rfl) (nocov rfl) (Nat.le_of_ble_eq_true rfl) (Nat.le_of_ble_eq_true rfl) (CL.mono h (fun r9 H4 h => ?_))
      obtain ⟨h_r0_4, y4, e9, h⟩ := h
      rw [e9]
      show AW l G mX3_readCost (d + 1) 0 0 Q 45 [vR (a0 + 1), vR (a0 + 44), vI (hg H1 (a0 + 1) 4)] [vI y4] 0 0 H4
      refine a_if_ne dX3_readCost_45 (tgt := 50) rfl (fun c45 => ?_) (fun c45 => ?_)
      · replace h := h.1 c45
        refine a_aload_n dX3_readCost_50 rfl rfl ?_
        refine a_getR dX3_readCost_51 fw_RX3_118 rfl rfl (kRun_44 h_r0_4) (rRun_44_7 h_r0_4) ?_
        refine a_iload_n dX3_readCost_54 rfl rfl ?_
        refine a_aload_n dX3_readCost_55 rfl rfl ?_
        refine a_getI dX3_readCost_56 fw_RX3_64 rfl rfl (kRun_1 h_r0_4) ?_
        refine b_iast dX3_readCost_59 (kRun_47 h_r0_4) (nRun_47 h_r0_4) q36_0 ?_
        have h_r0_5 := Lay.wr h_r0_4 ok_Run (nrf_arr (kRun_47 h_r0_4) (by decide) (by decide)) (i := (hg H1 (a0 + 1) 4)) (x := (hg H4 (a0 + 1) 4))
        generalize e_H5 : hs H4 (a0 + 47) (hg H1 (a0 + 1) 4) (hg H4 (a0 + 1) 4) = H5 at h_r0_5 ⊢
        replace h := h H5 e_H5.symm
        refine a_iconst dX3_readCost_60 ⟨by decide, by decide⟩ ?_
        exact a_zret dX3_readCost_61 rfl (by decide) (Nat.le_of_ble_eq_true rfl) (Nat.le_of_ble_eq_true rfl) h
      · replace h := h.2 c45
        refine a_iconst dX3_readCost_48 ⟨by decide, by decide⟩ ?_
        exact a_zret dX3_readCost_49 rfl (by decide) (Nat.le_of_ble_eq_true rfl) (Nat.le_of_ble_eq_true rfl) h
    · replace h := h.2 c22
      refine a_iconst dX3_readCost_25 ⟨by decide, by decide⟩ ?_
      exact a_zret dX3_readCost_26 rfl (by decide) (Nat.le_of_ble_eq_true rfl) (Nat.le_of_ble_eq_true rfl) h
  · replace h := h.2 c4
    refine a_iconst dX3_readCost_7 ⟨by decide, by decide⟩ ?_
    exact a_zret dX3_readCost_8 rfl (by decide) (Nat.le_of_ble_eq_true rfl) (Nat.le_of_ble_eq_true rfl) h


theorem dX3_readName_0 : decode cX3_readName 0 = .ok (.aload_n 0, 1) := by decide +kernel
theorem dX3_readName_1 : decode cX3_readName 1 = .ok (.invokevirtual 48, 3) := by decide +kernel
theorem dX3_readName_4 : decode cX3_readName 4 = .ok (.ifCond .ne 5, 3) := by decide +kernel
theorem dX3_readName_7 : decode cX3_readName 7 = .ok (.iconst 0, 1) := by decide +kernel
theorem dX3_readName_8 : decode cX3_readName 8 = .ok (.ireturn, 1) := by decide +kernel
theorem dX3_readName_9 : decode cX3_readName 9 = .ok (.aload_n 0, 1) := by decide +kernel
theorem dX3_readName_10 : decode cX3_readName 10 = .ok (.getfield 29, 3) := by decide +kernel
theorem dX3_readName_13 : decode cX3_readName 13 = .ok (.aload_n 0, 1) := by decide +kernel
theorem dX3_readName_14 : decode cX3_readName 14 = .ok (.getfield 58, 3) := by decide +kernel
theorem dX3_readName_17 : decode cX3_readName 17 = .ok (.isub, 1) := by decide +kernel
theorem dX3_readName_18 : decode cX3_readName 18 = .ok (.istore_n 2, 1) := by decide +kernel
theorem dX3_readName_19 : decode cX3_readName 19 = .ok (.iload_n 2, 1) := by decide +kernel
theorem dX3_readName_20 : decode cX3_readName 20 = .ok (.bipush 6, 2) := by decide +kernel
theorem dX3_readName_22 : decode cX3_readName 22 = .ok (.if_icmp .le 13, 3) := by decide +kernel
theorem dX3_readName_25 : decode cX3_readName 25 = .ok (.aload_n 0, 1) := by decide +kernel
theorem dX3_readName_26 : decode cX3_readName 26 = .ok (.iconst 1, 1) := by decide +kernel
theorem dX3_readName_27 : decode cX3_readName 27 = .ok (.aload_n 0, 1) := by decide +kernel
theorem dX3_readName_28 : decode cX3_readName 28 = .ok (.getfield 58, 3) := by decide +kernel
theorem dX3_readName_31 : decode cX3_readName 31 = .ok (.invokevirtual 40, 3) := by decide +kernel
theorem dX3_readName_34 : decode cX3_readName 34 = .ok (.ireturn, 1) := by decide +kernel
theorem dX3_readName_35 : decode cX3_readName 35 = .ok (.aload_n 1, 1) := by decide +kernel
theorem dX3_readName_36 : decode cX3_readName 36 = .ok (.aload_n 0, 1) := by decide +kernel
theorem dX3_readName_37 : decode cX3_readName 37 = .ok (.getfield 36, 3) := by decide +kernel
theorem dX3_readName_40 : decode cX3_readName 40 = .ok (.aload_n 0, 1) := by decide +kernel
theorem dX3_readName_41 : decode cX3_readName 41 = .ok (.getfield 58, 3) := by decide +kernel
theorem dX3_readName_44 : decode cX3_readName 44 = .ok (.iload_n 2, 1) := by decide +kernel
theorem dX3_readName_45 : decode cX3_readName 45 = .ok (.invokevirtual 148, 3) := by decide +kernel
theorem dX3_readName_48 : decode cX3_readName 48 = .ok (.iconst (-1), 1) := by decide +kernel
theorem dX3_readName_49 : decode cX3_readName 49 = .ok (.if_icmp .eq 13, 3) := by decide +kernel
theorem dX3_readName_52 : decode cX3_readName 52 = .ok (.aload_n 0, 1) := by decide +kernel
theorem dX3_readName_53 : decode cX3_readName 53 = .ok (.iconst 3, 1) := by decide +kernel
theorem dX3_readName_54 : decode cX3_readName 54 = .ok (.aload_n 0, 1) := by decide +kernel
theorem dX3_readName_55 : decode cX3_readName 55 = .ok (.getfield 58, 3) := by decide +kernel
theorem dX3_readName_58 : decode cX3_readName 58 = .ok (.invokevirtual 40, 3) := by decide +kernel
theorem dX3_readName_61 : decode cX3_readName 61 = .ok (.ireturn, 1) := by decide +kernel
theorem dX3_readName_62 : decode cX3_readName 62 = .ok (.aload_n 1, 1) := by decide +kernel
theorem dX3_readName_63 : decode cX3_readName 63 = .ok (.aload_n 0, 1) := by decide +kernel
theorem dX3_readName_64 : decode cX3_readName 64 = .ok (.getfield 36, 3) := by decide +kernel
theorem dX3_readName_67 : decode cX3_readName 67 = .ok (.aload_n 0, 1) := by decide +kernel
theorem dX3_readName_68 : decode cX3_readName 68 = .ok (.getfield 58, 3) := by decide +kernel
theorem dX3_readName_71 : decode cX3_readName 71 = .ok (.iload_n 2, 1) := by decide +kernel
theorem dX3_readName_72 : decode cX3_readName 72 = .ok (.invokevirtual 152, 3) := by decide +kernel
theorem dX3_readName_75 : decode cX3_readName 75 = .ok (.iconst 1, 1) := by decide +kernel
theorem dX3_readName_76 : decode cX3_readName 76 = .ok (.ireturn, 1) := by decide +kernel
set_option maxRecDepth 20000 in
theorem s_X3_readName_0 {l : Launch} {G : GT} {d : Nat} {Q : AV → AH → Prop} {H : AH} {a0 : Int} (h_r0 : Lay LRun H a0) (h : CL l G mX1_readWord d 0 0 [vR (a0 + 1)] H (fun r9 H1 => Lay LRun H1 a0 ∧ ∃ y1 : Int, r9 = vI y1 ∧ (¬ y1 = 0 → (-2147483648 ≤ (hg H1 (a0 + 1) 2) - (hg H1 (a0 + 1) 3) ∧ (hg H1 (a0 + 1) 2) - (hg H1 (a0 + 1) 3) ≤ 2147483647) ∧ (((hg H1 (a0 + 1) 2) - (hg H1 (a0 + 1) 3)) ≤ 6 → CL l G mX0_named d 0 0 [vR (a0 + 48), vR (a0 + 2), vI (hg H1 (a0 + 1) 3), vI ((hg H1 (a0 + 1) 2) - (hg H1 (a0 + 1) 3))] H1 (fun r9 H2 => Lay LRun H2 a0 ∧ ∃ y2 : Int, r9 = vI y2 ∧ (y2 = (-1) → CL l G mX0_nameNext d 0 0 [vR (a0 + 48), vR (a0 + 2), vI (hg H2 (a0 + 1) 3), vI ((hg H1 (a0 + 1) 2) - (hg H1 (a0 + 1) 3))] H2 (fun r9 H3 => Lay LRun H3 a0 ∧ r9 = vV ∧ Q (vI 1) H3)) ∧ (¬ y2 = (-1) → CL l G mX1_fail d 0 0 [vR (a0 + 1), vI 3, vI (hg H2 (a0 + 1) 3)] H2 (fun r9 H3 => Lay LRun H3 a0 ∧ ∃ y3 : Int, r9 = vI y3 ∧ (y3 = 0 ∨ y3 = 1) ∧ Q (vI y3) H3)))) ∧ (6 < ((hg H1 (a0 + 1) 2) - (hg H1 (a0 + 1) 3)) → CL l G mX1_fail d 0 0 [vR (a0 + 1), vI 1, vI (hg H1 (a0 + 1) 3)] H1 (fun r9 H2 => Lay LRun H2 a0 ∧ ∃ y2 : Int, r9 = vI y2 ∧ (y2 = 0 ∨ y2 = 1) ∧ Q (vI y2) H2))) ∧ (y1 = 0 → Q (vI 0) H1))) : AW l G mX3_readName (d + 1) 0 0 Q 0 [vR (a0 + 1), vR (a0 + 48), vU] [] 0 0 H := by
  refine a_aload_n dX3_readName_0 rfl rfl ?_
  refine a_callV dX3_readName_1 cw_X3_readName_1 (as := []) rfl rfl (kRun_1 h_r0) (Nat.le_refl _) (Nat.le_of_ble_eq_true rfl) (nocov rfl) (Nat.le_of_ble_eq_true rfl) (Nat.le_of_ble_eq_true rfl) (CL.mono h (fun r9 H1 h => ?_))
  obtain ⟨h_r0_1, y1, e9, h⟩ := h
  rw [e9]
  show AW l G mX3_readName (d + 1) 0 0 Q 4 [vR (a0 + 1), vR (a0 + 48), vU] [vI y1] 0 0 H1
  refine a_if_ne dX3_readName_4 (tgt := 9) rfl (fun c4 => ?_) (fun c4 => ?_)
  · replace h := h.1 c4
    refine a_aload_n dX3_readName_9 rfl rfl ?_
    refine a_getI dX3_readName_10 fw_RX3_29 rfl rfl (kRun_1 h_r0_1) ?_
    refine a_aload_n dX3_readName_13 rfl rfl ?_
    refine a_getI dX3_readName_14 fw_RX3_58 rfl rfl (kRun_1 h_r0_1) ?_
    obtain ⟨q17_0, h⟩ := h
    refine a_isub dX3_readName_17 q17_0 ?_
    refine a_istore_n dX3_readName_18 rfl (Nat.le_of_ble_eq_true rfl) (ls' := [vR (a0 + 1), vR (a0 + 48), vI ((hg H1 (a0 + 1) 2) - (hg H1 (a0 + 1) 3))]) rfl ?_
    refine a_iload_n dX3_readName_19 rfl rfl ?_
    refine a_bipush dX3_readName_20 (by decide) ?_
    refine a_icmp_le dX3_readName_22 (tgt := 35) rfl (fun c22 => ?_) (fun c22 => ?_)
    · replace h := h.1 c22
      refine a_aload_n dX3_readName_35 rfl rfl ?_
      refine a_aload_n dX3_readName_36 rfl rfl ?_
      refine a_getR dX3_readName_37 fw_RX3_36 rfl rfl (kRun_1 h_r0_1) (rRun_1_0 h_r0_1) ?_
      refine a_aload_n dX3_readName_40 rfl rfl ?_
      refine a_getI dX3_readName_41 fw_RX3_58 rfl rfl (kRun_1 h_r0_1) ?_
      refine a_iload_n dX3_readName_44 rfl rfl ?_
      refine a_callV dX3_readName_45 cw_X3_readName_45 (as := [vR (a0 + 2), vI (hg H1 (a0 + 1) 3), vI ((hg H1 (a0 + 1) 2) - (hg H1 (a0 + 1) 3))]) rfl rfl (kRun_48 h_r0_1) (Nat.le_refl _) (Nat.le_of_ble_eq_true rfl) (nocov rfl) (Nat.le_of_ble_eq_true rfl) (Nat.le_of_ble_eq_true rfl) (CL.mono h (fun r9 H2 h => ?_))
      obtain ⟨h_r0_2, y2, e9, h⟩ := h
      rw [e9]
      show AW l G mX3_readName (d + 1) 0 0 Q 48 [vR (a0 + 1), vR (a0 + 48), vI ((hg H1 (a0 + 1) 2) - (hg H1 (a0 + 1) 3))] [vI y2] 0 0 H2
      refine a_iconst dX3_readName_48 ⟨by decide, by decide⟩ ?_
      refine a_icmp_eq dX3_readName_49 (tgt := 62) rfl (fun c49 => ?_) (fun c49 => ?_)
      · replace h := h.1 c49
        refine a_aload_n dX3_readName_62 rfl rfl ?_
        refine a_aload_n dX3_readName_63 rfl rfl ?_
        refine a_getR dX3_readName_64 fw_RX3_36 rfl rfl (kRun_1 h_r0_2) (rRun_1_0 h_r0_2) ?_
        refine a_aload_n dX3_readName_67 rfl rfl ?_
        refine a_getI dX3_readName_68 fw_RX3_58 rfl rfl (kRun_1 h_r0_2) ?_
        refine a_iload_n dX3_readName_71 rfl rfl ?_
        refine a_callV dX3_readName_72 cw_X3_readName_72 (as := [vR (a0 + 2), vI (hg H2 (a0 + 1) 3), vI ((hg H1 (a0 + 1) 2) - (hg H1 (a0 + 1) 3))]) rfl rfl (kRun_48 h_r0_2) (Nat.le_refl _) (Nat.le_of_ble_eq_true rfl) (nocov rfl) (Nat.le_of_ble_eq_true rfl) (Nat.le_of_ble_eq_true rfl) (CL.mono h (fun r9 H3 h => ?_))
        obtain ⟨h_r0_3, e9, h⟩ := h
        rw [e9]
        show AW l G mX3_readName (d + 1) 0 0 Q 75 [vR (a0 + 1), vR (a0 + 48), vI ((hg H1 (a0 + 1) 2) - (hg H1 (a0 + 1) 3))] [] 0 0 H3
        refine a_iconst dX3_readName_75 ⟨by decide, by decide⟩ ?_
        exact a_zret dX3_readName_76 rfl (by decide) (Nat.le_of_ble_eq_true rfl) (Nat.le_of_ble_eq_true rfl) h
      · replace h := h.2 c49
        refine a_aload_n dX3_readName_52 rfl rfl ?_
        refine a_iconst dX3_readName_53 ⟨by decide, by decide⟩ ?_
        refine a_aload_n dX3_readName_54 rfl rfl ?_
        refine a_getI dX3_readName_55 fw_RX3_58 rfl rfl (kRun_1 h_r0_2) ?_
        refine a_callV dX3_readName_58 cw_X3_readName_58 (as := [vI 3, vI (hg H2 (a0 + 1) 3)]) rfl rfl (kRun_1 h_r0_2) (Nat.le_refl _) (Nat.le_of_ble_eq_true rfl) (nocov rfl) (Nat.le_of_ble_eq_true rfl) (Nat.le_of_ble_eq_true rfl) (CL.mono h (fun r9 H3 h => ?_))
        obtain ⟨h_r0_3, y3, e9, h⟩ := h
        rw [e9]
        show AW l G mX3_readName (d + 1) 0 0 Q 61 [vR (a0 + 1), vR (a0 + 48), vI ((hg H1 (a0 + 1) 2) - (hg H1 (a0 + 1) 3))] [vI y3] 0 0 H3
        obtain ⟨q61_0, h⟩ := h
        exact a_zret dX3_readName_61 rfl q61_0 (Nat.le_of_ble_eq_true rfl) (Nat.le_of_ble_eq_true rfl) h
    · replace h := h.2 c22
      refine a_aload_n dX3_readName_25 rfl rfl ?_
      refine a_iconst dX3_readName_26 ⟨by decide, by decide⟩ ?_
      refine a_aload_n dX3_readName_27 rfl rfl ?_
      refine a_getI dX3_readName_28 fw_RX3_58 rfl rfl (kRun_1 h_r0_1) ?_
      refine a_callV dX3_readName_31 cw_X3_readName_31 (as := [vI 1, vI (hg H1 (a0 + 1) 3)]) rfl rfl (kRun_1 h_r0_1) (Nat.le_refl _) (Nat.le_of_ble_eq_true rfl) (nocov rfl) (Nat.le_of_ble_eq_true rfl) (Nat.le_of_ble_eq_true rfl) (CL.mono h (fun r9 H2 h => ?_))
      obtain ⟨h_r0_2, y2, e9, h⟩ := h
      rw [e9]
      show AW l G mX3_readName (d + 1) 0 0 Q 34 [vR (a0 + 1), vR (a0 + 48), vI ((hg H1 (a0 + 1) 2) - (hg H1 (a0 + 1) 3))] [vI y2] 0 0 H2
      obtain ⟨q34_0, h⟩ := h
      exact a_zret dX3_readName_34 rfl q34_0 (Nat.le_of_ble_eq_true rfl) (Nat.le_of_ble_eq_true rfl) h
  · replace h := h.2 c4
    refine a_iconst dX3_readName_7 ⟨by decide, by decide⟩ ?_
    exact a_zret dX3_readName_8 rfl (by decide) (Nat.le_of_ble_eq_true rfl) (Nat.le_of_ble_eq_true rfl) h


theorem dX3_readTimes_0 : decode cX3_readTimes 0 = .ok (.aload_n 0, 1) := by decide +kernel
theorem dX3_readTimes_1 : decode cX3_readTimes 1 = .ok (.iconst 0, 1) := by decide +kernel
theorem dX3_readTimes_2 : decode cX3_readTimes 2 = .ok (.ldc 156, 2) := by decide +kernel
theorem dX3_readTimes_4 : decode cX3_readTimes 4 = .ok (.invokevirtual 61, 3) := by decide +kernel
theorem dX3_readTimes_7 : decode cX3_readTimes 7 = .ok (.ifCond .ne 5, 3) := by decide +kernel
theorem dX3_readTimes_10 : decode cX3_readTimes 10 = .ok (.iconst 0, 1) := by decide +kernel
theorem dX3_readTimes_11 : decode cX3_readTimes 11 = .ok (.ireturn, 1) := by decide +kernel
theorem dX3_readTimes_12 : decode cX3_readTimes 12 = .ok (.aload_n 1, 1) := by decide +kernel
theorem dX3_readTimes_13 : decode cX3_readTimes 13 = .ok (.getfield 157, 3) := by decide +kernel
theorem dX3_readTimes_16 : decode cX3_readTimes 16 = .ok (.iload_n 2, 1) := by decide +kernel
theorem dX3_readTimes_17 : decode cX3_readTimes 17 = .ok (.aload_n 0, 1) := by decide +kernel
theorem dX3_readTimes_18 : decode cX3_readTimes 18 = .ok (.getfield 64, 3) := by decide +kernel
theorem dX3_readTimes_21 : decode cX3_readTimes 21 = .ok (.iastore, 1) := by decide +kernel
theorem dX3_readTimes_22 : decode cX3_readTimes 22 = .ok (.aload_n 0, 1) := by decide +kernel
theorem dX3_readTimes_23 : decode cX3_readTimes 23 = .ok (.aload_n 1, 1) := by decide +kernel
theorem dX3_readTimes_24 : decode cX3_readTimes 24 = .ok (.getfield 157, 3) := by decide +kernel
theorem dX3_readTimes_27 : decode cX3_readTimes 27 = .ok (.iload_n 2, 1) := by decide +kernel
theorem dX3_readTimes_28 : decode cX3_readTimes 28 = .ok (.iaload, 1) := by decide +kernel
theorem dX3_readTimes_29 : decode cX3_readTimes 29 = .ok (.ldc 156, 2) := by decide +kernel
theorem dX3_readTimes_31 : decode cX3_readTimes 31 = .ok (.invokevirtual 61, 3) := by decide +kernel
theorem dX3_readTimes_34 : decode cX3_readTimes 34 = .ok (.ifCond .ne 5, 3) := by decide +kernel
theorem dX3_readTimes_37 : decode cX3_readTimes 37 = .ok (.iconst 0, 1) := by decide +kernel
theorem dX3_readTimes_38 : decode cX3_readTimes 38 = .ok (.ireturn, 1) := by decide +kernel
theorem dX3_readTimes_39 : decode cX3_readTimes 39 = .ok (.aload_n 1, 1) := by decide +kernel
theorem dX3_readTimes_40 : decode cX3_readTimes 40 = .ok (.getfield 160, 3) := by decide +kernel
theorem dX3_readTimes_43 : decode cX3_readTimes 43 = .ok (.iload_n 2, 1) := by decide +kernel
theorem dX3_readTimes_44 : decode cX3_readTimes 44 = .ok (.aload_n 0, 1) := by decide +kernel
theorem dX3_readTimes_45 : decode cX3_readTimes 45 = .ok (.getfield 64, 3) := by decide +kernel
theorem dX3_readTimes_48 : decode cX3_readTimes 48 = .ok (.iastore, 1) := by decide +kernel
theorem dX3_readTimes_49 : decode cX3_readTimes 49 = .ok (.aload_n 0, 1) := by decide +kernel
theorem dX3_readTimes_50 : decode cX3_readTimes 50 = .ok (.aload_n 1, 1) := by decide +kernel
theorem dX3_readTimes_51 : decode cX3_readTimes 51 = .ok (.getfield 160, 3) := by decide +kernel
theorem dX3_readTimes_54 : decode cX3_readTimes 54 = .ok (.iload_n 2, 1) := by decide +kernel
theorem dX3_readTimes_55 : decode cX3_readTimes 55 = .ok (.iaload, 1) := by decide +kernel
theorem dX3_readTimes_56 : decode cX3_readTimes 56 = .ok (.ldc 156, 2) := by decide +kernel
theorem dX3_readTimes_58 : decode cX3_readTimes 58 = .ok (.invokevirtual 61, 3) := by decide +kernel
theorem dX3_readTimes_61 : decode cX3_readTimes 61 = .ok (.ifCond .ne 5, 3) := by decide +kernel
theorem dX3_readTimes_64 : decode cX3_readTimes 64 = .ok (.iconst 0, 1) := by decide +kernel
theorem dX3_readTimes_65 : decode cX3_readTimes 65 = .ok (.ireturn, 1) := by decide +kernel
theorem dX3_readTimes_66 : decode cX3_readTimes 66 = .ok (.aload_n 1, 1) := by decide +kernel
theorem dX3_readTimes_67 : decode cX3_readTimes 67 = .ok (.getfield 163, 3) := by decide +kernel
theorem dX3_readTimes_70 : decode cX3_readTimes 70 = .ok (.iload_n 2, 1) := by decide +kernel
theorem dX3_readTimes_71 : decode cX3_readTimes 71 = .ok (.aload_n 0, 1) := by decide +kernel
theorem dX3_readTimes_72 : decode cX3_readTimes 72 = .ok (.getfield 64, 3) := by decide +kernel
theorem dX3_readTimes_75 : decode cX3_readTimes 75 = .ok (.iastore, 1) := by decide +kernel
theorem dX3_readTimes_76 : decode cX3_readTimes 76 = .ok (.iconst 1, 1) := by decide +kernel
theorem dX3_readTimes_77 : decode cX3_readTimes 77 = .ok (.ireturn, 1) := by decide +kernel
set_option maxRecDepth 20000 in
theorem s_X3_readTimes_0 {l : Launch} {G : GT} {d : Nat} {Q : AV → AH → Prop} {H : AH} {a0 x2 : Int} (h_r0 : Lay LRun H a0) (h : CL l G mX1_readNumber d 0 0 [vR (a0 + 1), vI 0, vI 99999] H (fun r9 H1 => Lay LRun H1 a0 ∧ ∃ y1 : Int, r9 = vI y1 ∧ (¬ y1 = 0 → (0 ≤ x2 ∧ x2 < 24) ∧ ∀ H2 : AH, H2 = hs H1 (a0 + 53) x2 (hg H1 (a0 + 1) 4) → CL l G mX1_readNumber d 0 0 [vR (a0 + 1), vI (hg H2 (a0 + 53) x2), vI 99999] H2 (fun r9 H3 => Lay LRun H3 a0 ∧ ∃ y3 : Int, r9 = vI y3 ∧ (¬ y3 = 0 → ∀ H4 : AH, H4 = hs H3 (a0 + 54) x2 (hg H3 (a0 + 1) 4) → CL l G mX1_readNumber d 0 0 [vR (a0 + 1), vI (hg H4 (a0 + 54) x2), vI 99999] H4 (fun r9 H5 => Lay LRun H5 a0 ∧ ∃ y5 : Int, r9 = vI y5 ∧ (¬ y5 = 0 → ∀ H6 : AH, H6 = hs H5 (a0 + 55) x2 (hg H5 (a0 + 1) 4) → Q (vI 1) H6) ∧ (y5 = 0 → Q (vI 0) H5))) ∧ (y3 = 0 → Q (vI 0) H3))) ∧ (y1 = 0 → Q (vI 0) H1))) : AW l G mX3_readTimes (d + 1) 0 0 Q 0 [vR (a0 + 1), vR (a0 + 48), vI x2] [] 0 0 H := by
  refine a_aload_n dX3_readTimes_0 rfl rfl ?_
  refine a_iconst dX3_readTimes_1 ⟨by decide, by decide⟩ ?_
  refine a_ldc dX3_readTimes_2 (w_489) ?_
  show AW l G mX3_readTimes (d + 1) 0 0 Q 4 [vR (a0 + 1), vR (a0 + 48), vI x2] [vI 99999, vI 0, vR (a0 + 1)] 0 0 H
  refine a_callV dX3_readTimes_4 cw_X3_readTimes_4 (as := [vI 0, vI 99999]) rfl rfl (kRun_1 h_r0) (Nat.le_refl _) (Nat.le_of_ble_eq_true rfl) (nocov rfl) (Nat.le_of_ble_eq_true rfl) (Nat.le_of_ble_eq_true rfl) (CL.mono h (fun r9 H1 h => ?_))
  obtain ⟨h_r0_1, y1, e9, h⟩ := h
  rw [e9]
  show AW l G mX3_readTimes (d + 1) 0 0 Q 7 [vR (a0 + 1), vR (a0 + 48), vI x2] [vI y1] 0 0 H1
  refine a_if_ne dX3_readTimes_7 (tgt := 12) rfl (fun c7 => ?_) (fun c7 => ?_)
  · replace h := h.1 c7
    refine a_aload_n dX3_readTimes_12 rfl rfl ?_
    refine a_getR dX3_readTimes_13 fw_RX3_157 rfl rfl (kRun_48 h_r0_1) (rRun_48_5 h_r0_1) ?_
    refine a_iload_n dX3_readTimes_16 rfl rfl ?_
    refine a_aload_n dX3_readTimes_17 rfl rfl ?_
    refine a_getI dX3_readTimes_18 fw_RX3_64 rfl rfl (kRun_1 h_r0_1) ?_
    obtain ⟨q21_0, h⟩ := h
    refine b_iast dX3_readTimes_21 (kRun_53 h_r0_1) (nRun_53 h_r0_1) q21_0 ?_
    have h_r0_2 := Lay.wr h_r0_1 ok_Run (nrf_arr (kRun_53 h_r0_1) (by decide) (by decide)) (i := x2) (x := (hg H1 (a0 + 1) 4))
    generalize e_H2 : hs H1 (a0 + 53) x2 (hg H1 (a0 + 1) 4) = H2 at h_r0_2 ⊢
    replace h := h H2 e_H2.symm
    refine a_aload_n dX3_readTimes_22 rfl rfl ?_
    refine a_aload_n dX3_readTimes_23 rfl rfl ?_
    refine a_getR dX3_readTimes_24 fw_RX3_157 rfl rfl (kRun_48 h_r0_2) (rRun_48_5 h_r0_2) ?_
    refine a_iload_n dX3_readTimes_27 rfl rfl ?_
    refine b_iald dX3_readTimes_28 (kRun_53 h_r0_2) (nRun_53 h_r0_2) q21_0 ?_
    refine a_ldc dX3_readTimes_29 (w_489) ?_
    show AW l G mX3_readTimes (d + 1) 0 0 Q 31 [vR (a0 + 1), vR (a0 + 48), vI x2] [vI 99999, vI (hg H2 (a0 + 53) x2), vR (a0 + 1)] 0 0 H2
    refine a_callV dX3_readTimes_31 cw_X3_readTimes_31 (as := [vI (hg H2 (a0 + 53) x2), vI 99999]) rfl rfl (kRun_1 h_r0_2) (Nat.le_refl _) (Nat.le_of_ble_eq_true rfl) (nocov rfl) (Nat.le_of_ble_eq_true rfl) (Nat.le_of_ble_eq_true rfl) (CL.mono h (fun r9 H3 h => ?_))
    obtain ⟨h_r0_3, y3, e9, h⟩ := h
    rw [e9]
    show AW l G mX3_readTimes (d + 1) 0 0 Q 34 [vR (a0 + 1), vR (a0 + 48), vI x2] [vI y3] 0 0 H3
    refine a_if_ne dX3_readTimes_34 (tgt := 39) rfl (fun c34 => ?_) (fun c34 => ?_)
    · replace h := h.1 c34
      refine a_aload_n dX3_readTimes_39 rfl rfl ?_
      refine a_getR dX3_readTimes_40 fw_RX3_160 rfl rfl (kRun_48 h_r0_3) (rRun_48_6 h_r0_3) ?_
      refine a_iload_n dX3_readTimes_43 rfl rfl ?_
      refine a_aload_n dX3_readTimes_44 rfl rfl ?_
      refine a_getI dX3_readTimes_45 fw_RX3_64 rfl rfl (kRun_1 h_r0_3) ?_
      refine b_iast dX3_readTimes_48 (kRun_54 h_r0_3) (nRun_54 h_r0_3) q21_0 ?_
      have h_r0_4 := Lay.wr h_r0_3 ok_Run (nrf_arr (kRun_54 h_r0_3) (by decide) (by decide)) (i := x2) (x := (hg H3 (a0 + 1) 4))
      generalize e_H4 : hs H3 (a0 + 54) x2 (hg H3 (a0 + 1) 4) = H4 at h_r0_4 ⊢
      replace h := h H4 e_H4.symm
      refine a_aload_n dX3_readTimes_49 rfl rfl ?_
      refine a_aload_n dX3_readTimes_50 rfl rfl ?_
      refine a_getR dX3_readTimes_51 fw_RX3_160 rfl rfl (kRun_48 h_r0_4) (rRun_48_6 h_r0_4) ?_
      refine a_iload_n dX3_readTimes_54 rfl rfl ?_
      refine b_iald dX3_readTimes_55 (kRun_54 h_r0_4) (nRun_54 h_r0_4) q21_0 ?_
      refine a_ldc dX3_readTimes_56 (w_489) ?_
      show AW l G mX3_readTimes (d + 1) 0 0 Q 58 [vR (a0 + 1), vR (a0 + 48), vI x2] [vI 99999, vI (hg H4 (a0 + 54) x2), vR (a0 + 1)] 0 0 H4
      refine a_callV dX3_readTimes_58 cw_X3_readTimes_58 (as := [vI (hg H4 (a0 + 54) x2), vI 99999]) rfl rfl (kRun_1 h_r0_4) (Nat.le_refl _) (Nat.le_of_ble_eq_true rfl) (nocov rfl) (Nat.le_of_ble_eq_true rfl) (Nat.le_of_ble_eq_true rfl) (CL.mono h (fun r9 H5 h => ?_))
      obtain ⟨h_r0_5, y5, e9, h⟩ := h
      rw [e9]
      show AW l G mX3_readTimes (d + 1) 0 0 Q 61 [vR (a0 + 1), vR (a0 + 48), vI x2] [vI y5] 0 0 H5
      refine a_if_ne dX3_readTimes_61 (tgt := 66) rfl (fun c61 => ?_) (fun c61 => ?_)
      · replace h := h.1 c61
        refine a_aload_n dX3_readTimes_66 rfl rfl ?_
        refine a_getR dX3_readTimes_67 fw_RX3_163 rfl rfl (kRun_48 h_r0_5) (rRun_48_7 h_r0_5) ?_
        refine a_iload_n dX3_readTimes_70 rfl rfl ?_
        refine a_aload_n dX3_readTimes_71 rfl rfl ?_
        refine a_getI dX3_readTimes_72 fw_RX3_64 rfl rfl (kRun_1 h_r0_5) ?_
        refine b_iast dX3_readTimes_75 (kRun_55 h_r0_5) (nRun_55 h_r0_5) q21_0 ?_
        have h_r0_6 := Lay.wr h_r0_5 ok_Run (nrf_arr (kRun_55 h_r0_5) (by decide) (by decide)) (i := x2) (x := (hg H5 (a0 + 1) 4))
        generalize e_H6 : hs H5 (a0 + 55) x2 (hg H5 (a0 + 1) 4) = H6 at h_r0_6 ⊢
        replace h := h H6 e_H6.symm
        refine a_iconst dX3_readTimes_76 ⟨by decide, by decide⟩ ?_
        exact a_zret dX3_readTimes_77 rfl (by decide) (Nat.le_of_ble_eq_true rfl) (Nat.le_of_ble_eq_true rfl) h
      · replace h := h.2 c61
        refine a_iconst dX3_readTimes_64 ⟨by decide, by decide⟩ ?_
        exact a_zret dX3_readTimes_65 rfl (by decide) (Nat.le_of_ble_eq_true rfl) (Nat.le_of_ble_eq_true rfl) h
    · replace h := h.2 c34
      refine a_iconst dX3_readTimes_37 ⟨by decide, by decide⟩ ?_
      exact a_zret dX3_readTimes_38 rfl (by decide) (Nat.le_of_ble_eq_true rfl) (Nat.le_of_ble_eq_true rfl) h
  · replace h := h.2 c7
    refine a_iconst dX3_readTimes_10 ⟨by decide, by decide⟩ ?_
    exact a_zret dX3_readTimes_11 rfl (by decide) (Nat.le_of_ble_eq_true rfl) (Nat.le_of_ble_eq_true rfl) h


theorem dX3_readFlight_0 : decode cX3_readFlight 0 = .ok (.aload_n 1, 1) := by decide +kernel
theorem dX3_readFlight_1 : decode cX3_readFlight 1 = .ok (.getfield 121, 3) := by decide +kernel
theorem dX3_readFlight_4 : decode cX3_readFlight 4 = .ok (.astore_n 3, 1) := by decide +kernel
theorem dX3_readFlight_5 : decode cX3_readFlight 5 = .ok (.aload_n 3, 1) := by decide +kernel
theorem dX3_readFlight_6 : decode cX3_readFlight 6 = .ok (.getfield 125, 3) := by decide +kernel
theorem dX3_readFlight_9 : decode cX3_readFlight 9 = .ok (.istore 4, 2) := by decide +kernel
theorem dX3_readFlight_11 : decode cX3_readFlight 11 = .ok (.iload 4, 2) := by decide +kernel
theorem dX3_readFlight_13 : decode cX3_readFlight 13 = .ok (.bipush 24, 2) := by decide +kernel
theorem dX3_readFlight_15 : decode cX3_readFlight 15 = .ok (.if_icmp .lt 13, 3) := by decide +kernel
theorem dX3_readFlight_18 : decode cX3_readFlight 18 = .ok (.aload_n 0, 1) := by decide +kernel
theorem dX3_readFlight_19 : decode cX3_readFlight 19 = .ok (.iconst 4, 1) := by decide +kernel
theorem dX3_readFlight_20 : decode cX3_readFlight 20 = .ok (.aload_n 0, 1) := by decide +kernel
theorem dX3_readFlight_21 : decode cX3_readFlight 21 = .ok (.getfield 58, 3) := by decide +kernel
theorem dX3_readFlight_24 : decode cX3_readFlight 24 = .ok (.invokevirtual 40, 3) := by decide +kernel
theorem dX3_readFlight_27 : decode cX3_readFlight 27 = .ok (.ireturn, 1) := by decide +kernel
theorem dX3_readFlight_28 : decode cX3_readFlight 28 = .ok (.aload_n 0, 1) := by decide +kernel
theorem dX3_readFlight_29 : decode cX3_readFlight 29 = .ok (.aload_n 3, 1) := by decide +kernel
theorem dX3_readFlight_30 : decode cX3_readFlight 30 = .ok (.invokestatic 130, 3) := by decide +kernel
theorem dX3_readFlight_33 : decode cX3_readFlight 33 = .ok (.ifCond .eq 10, 3) := by decide +kernel
theorem dX3_readFlight_36 : decode cX3_readFlight 36 = .ok (.aload_n 0, 1) := by decide +kernel
theorem dX3_readFlight_37 : decode cX3_readFlight 37 = .ok (.invokevirtual 109, 3) := by decide +kernel
theorem dX3_readFlight_40 : decode cX3_readFlight 40 = .ok (.ifCond .ne 5, 3) := by decide +kernel
theorem dX3_readFlight_43 : decode cX3_readFlight 43 = .ok (.iconst 0, 1) := by decide +kernel
theorem dX3_readFlight_44 : decode cX3_readFlight 44 = .ok (.ireturn, 1) := by decide +kernel
theorem dX3_readFlight_45 : decode cX3_readFlight 45 = .ok (.aload_n 3, 1) := by decide +kernel
theorem dX3_readFlight_46 : decode cX3_readFlight 46 = .ok (.getfield 134, 3) := by decide +kernel
theorem dX3_readFlight_49 : decode cX3_readFlight 49 = .ok (.iload 4, 2) := by decide +kernel
theorem dX3_readFlight_51 : decode cX3_readFlight 51 = .ok (.iload_n 2, 1) := by decide +kernel
theorem dX3_readFlight_52 : decode cX3_readFlight 52 = .ok (.bastore, 1) := by decide +kernel
theorem dX3_readFlight_53 : decode cX3_readFlight 53 = .ok (.aload_n 3, 1) := by decide +kernel
theorem dX3_readFlight_54 : decode cX3_readFlight 54 = .ok (.getfield 138, 3) := by decide +kernel
theorem dX3_readFlight_57 : decode cX3_readFlight 57 = .ok (.iload 4, 2) := by decide +kernel
theorem dX3_readFlight_59 : decode cX3_readFlight 59 = .ok (.aload_n 0, 1) := by decide +kernel
theorem dX3_readFlight_60 : decode cX3_readFlight 60 = .ok (.getfield 64, 3) := by decide +kernel
theorem dX3_readFlight_63 : decode cX3_readFlight 63 = .ok (.iastore, 1) := by decide +kernel
theorem dX3_readFlight_64 : decode cX3_readFlight 64 = .ok (.aload_n 0, 1) := by decide +kernel
theorem dX3_readFlight_65 : decode cX3_readFlight 65 = .ok (.aload_n 3, 1) := by decide +kernel
theorem dX3_readFlight_66 : decode cX3_readFlight 66 = .ok (.iload 4, 2) := by decide +kernel
theorem dX3_readFlight_68 : decode cX3_readFlight 68 = .ok (.invokestatic 141, 3) := by decide +kernel
theorem dX3_readFlight_71 : decode cX3_readFlight 71 = .ok (.ifCond .ne 5, 3) := by decide +kernel
theorem dX3_readFlight_74 : decode cX3_readFlight 74 = .ok (.iconst 0, 1) := by decide +kernel
theorem dX3_readFlight_75 : decode cX3_readFlight 75 = .ok (.ireturn, 1) := by decide +kernel
theorem dX3_readFlight_76 : decode cX3_readFlight 76 = .ok (.aload_n 0, 1) := by decide +kernel
theorem dX3_readFlight_77 : decode cX3_readFlight 77 = .ok (.iconst 1, 1) := by decide +kernel
theorem dX3_readFlight_78 : decode cX3_readFlight 78 = .ok (.iconst 1, 1) := by decide +kernel
theorem dX3_readFlight_79 : decode cX3_readFlight 79 = .ok (.aload_n 1, 1) := by decide +kernel
theorem dX3_readFlight_80 : decode cX3_readFlight 80 = .ok (.getfield 14, 3) := by decide +kernel
theorem dX3_readFlight_83 : decode cX3_readFlight 83 = .ok (.getfield 67, 3) := by decide +kernel
theorem dX3_readFlight_86 : decode cX3_readFlight 86 = .ok (.ishl, 1) := by decide +kernel
theorem dX3_readFlight_87 : decode cX3_readFlight 87 = .ok (.iconst 1, 1) := by decide +kernel
theorem dX3_readFlight_88 : decode cX3_readFlight 88 = .ok (.isub, 1) := by decide +kernel
theorem dX3_readFlight_89 : decode cX3_readFlight 89 = .ok (.invokevirtual 61, 3) := by decide +kernel
theorem dX3_readFlight_92 : decode cX3_readFlight 92 = .ok (.ifCond .ne 5, 3) := by decide +kernel
theorem dX3_readFlight_95 : decode cX3_readFlight 95 = .ok (.iconst 0, 1) := by decide +kernel
theorem dX3_readFlight_96 : decode cX3_readFlight 96 = .ok (.ireturn, 1) := by decide +kernel
theorem dX3_readFlight_97 : decode cX3_readFlight 97 = .ok (.aload_n 3, 1) := by decide +kernel
theorem dX3_readFlight_98 : decode cX3_readFlight 98 = .ok (.getfield 145, 3) := by decide +kernel
theorem dX3_readFlight_101 : decode cX3_readFlight 101 = .ok (.iload 4, 2) := by decide +kernel
theorem dX3_readFlight_103 : decode cX3_readFlight 103 = .ok (.aload_n 0, 1) := by decide +kernel
theorem dX3_readFlight_104 : decode cX3_readFlight 104 = .ok (.getfield 64, 3) := by decide +kernel
theorem dX3_readFlight_107 : decode cX3_readFlight 107 = .ok (.iastore, 1) := by decide +kernel
theorem dX3_readFlight_108 : decode cX3_readFlight 108 = .ok (.aload_n 3, 1) := by decide +kernel
theorem dX3_readFlight_109 : decode cX3_readFlight 109 = .ok (.iload 4, 2) := by decide +kernel
theorem dX3_readFlight_111 : decode cX3_readFlight 111 = .ok (.iconst 1, 1) := by decide +kernel
theorem dX3_readFlight_112 : decode cX3_readFlight 112 = .ok (.iadd, 1) := by decide +kernel
theorem dX3_readFlight_113 : decode cX3_readFlight 113 = .ok (.putfield 125, 3) := by decide +kernel
theorem dX3_readFlight_116 : decode cX3_readFlight 116 = .ok (.iconst 1, 1) := by decide +kernel
theorem dX3_readFlight_117 : decode cX3_readFlight 117 = .ok (.ireturn, 1) := by decide +kernel
set_option maxRecDepth 20000 in
theorem s_X3_readFlight_0 {l : Launch} {G : GT} {d : Nat} {Q : AV → AH → Prop} {H : AH} {a0 x2 : Int} (h_r0 : Lay LRun H a0) (h : ((hg H (a0 + 48) 0) < 24 → CL l G mX3_readName d 0 0 [vR (a0 + 1), vR (a0 + 48)] H (fun r9 H1 => Lay LRun H1 a0 ∧ ∃ y1 : Int, r9 = vI y1 ∧ (y1 = 0 → Q (vI 0) H1) ∧ (¬ y1 = 0 → CL l G mX1_readKind d 0 0 [vR (a0 + 1)] H1 (fun r9 H2 => Lay LRun H2 a0 ∧ ∃ y2 : Int, r9 = vI y2 ∧ (¬ y2 = 0 → (0 ≤ (hg H (a0 + 48) 0) ∧ (hg H (a0 + 48) 0) < 24) ∧ (x2 = 0 ∨ x2 = 1) ∧ ∀ H3 : AH, H3 = hs H2 (a0 + 51) (hg H (a0 + 48) 0) x2 → ∀ H4 : AH, H4 = hs H3 (a0 + 52) (hg H (a0 + 48) 0) (hg H3 (a0 + 1) 4) → CL l G mX3_readTimes d 0 0 [vR (a0 + 1), vR (a0 + 48), vI (hg H (a0 + 48) 0)] H4 (fun r9 H5 => Lay LRun H5 a0 ∧ ∃ y5 : Int, r9 = vI y5 ∧ (¬ y5 = 0 → (0 ≤ (hg H5 (a0 + 44) 0) ∧ (hg H5 (a0 + 44) 0) ≤ 30) ∧ (-2147483648 ≤ (pw (hg H5 (a0 + 44) 0)) - 1 ∧ (pw (hg H5 (a0 + 44) 0)) - 1 ≤ 2147483647) ∧ CL l G mX1_readNumber d 0 0 [vR (a0 + 1), vI 1, vI ((pw (hg H5 (a0 + 44) 0)) - 1)] H5 (fun r9 H6 => Lay LRun H6 a0 ∧ ∃ y6 : Int, r9 = vI y6 ∧ (¬ y6 = 0 → ∀ H7 : AH, H7 = hs H6 (a0 + 56) (hg H (a0 + 48) 0) (hg H6 (a0 + 1) 4) → (-2147483648 ≤ (hg H (a0 + 48) 0) + 1 ∧ (hg H (a0 + 48) 0) + 1 ≤ 2147483647) ∧ ∀ H8 : AH, H8 = hs H7 (a0 + 48) 0 ((hg H (a0 + 48) 0) + 1) → Q (vI 1) H8) ∧ (y6 = 0 → Q (vI 0) H6))) ∧ (y5 = 0 → Q (vI 0) H5))) ∧ (y2 = 0 → Q (vI 0) H2))))) ∧ (24 ≤ (hg H (a0 + 48) 0) → CL l G mX1_fail d 0 0 [vR (a0 + 1), vI 4, vI (hg H (a0 + 1) 3)] H (fun r9 H1 => Lay LRun H1 a0 ∧ ∃ y1 : Int, r9 = vI y1 ∧ (y1 = 0 ∨ y1 = 1) ∧ Q (vI y1) H1))) : AW l G mX3_readFlight (d + 1) 0 0 Q 0 [vR (a0 + 1), vR (a0 + 43), vI x2, vU, vU] [] 0 0 H := by
  refine a_aload_n dX3_readFlight_0 rfl rfl ?_
  refine a_getR dX3_readFlight_1 fw_RX3_121 rfl rfl (kRun_43 h_r0) (rRun_43_1 h_r0) ?_
  refine a_astore_n dX3_readFlight_4 rfl (Nat.le_of_ble_eq_true rfl) (ls' := [vR (a0 + 1), vR (a0 + 43), vI x2, vR (a0 + 48), vU]) rfl ?_
  refine a_aload_n dX3_readFlight_5 rfl rfl ?_
  refine a_getI dX3_readFlight_6 fw_RX3_125 rfl rfl (kRun_48 h_r0) ?_
  refine a_istore dX3_readFlight_9 (Nat.le_of_ble_eq_true rfl) (ls' := [vR (a0 + 1), vR (a0 + 43), vI x2, vR (a0 + 48), vI (hg H (a0 + 48) 0)]) rfl ?_
  refine a_iload dX3_readFlight_11 rfl ?_
  refine a_bipush dX3_readFlight_13 (by decide) ?_
  refine a_icmp_lt dX3_readFlight_15 (tgt := 28) rfl (fun c15 => ?_) (fun c15 => ?_)
  · replace h := h.1 c15
    refine a_aload_n dX3_readFlight_28 rfl rfl ?_
    refine a_aload_n dX3_readFlight_29 rfl rfl ?_
    refine a_callS dX3_readFlight_30 cw_X3_readFlight_30 (as := [vR (a0 + 1), vR (a0 + 48)]) rfl rfl (Nat.le_refl _) (Nat.le_of_ble_eq_true rfl) (nocov rfl) (Nat.le_of_ble_eq_true rfl) (Nat.le_of_ble_eq_true rfl) (CL.mono h (fun r9 H1 h => ?_))
    obtain ⟨h_r0_1, y1, e9, h⟩ := h
    rw [e9]
    show AW l G mX3_readFlight (d + 1) 0 0 Q 33 [vR (a0 + 1), vR (a0 + 43), vI x2, vR (a0 + 48), vI (hg H (a0 + 48) 0)] [vI y1] 0 0 H1
    refine a_if_eq dX3_readFlight_33 (tgt := 43) rfl (fun c33 => ?_) (fun c33 => ?_)
    · replace h := h.1 c33
      refine a_iconst dX3_readFlight_43 ⟨by decide, by decide⟩ ?_
      exact a_zret dX3_readFlight_44 rfl (by decide) (Nat.le_of_ble_eq_true rfl) (Nat.le_of_ble_eq_true rfl) h
    · replace h := h.2 c33
      refine a_aload_n dX3_readFlight_36 rfl rfl ?_
      refine a_callV dX3_readFlight_37 cw_X3_readFlight_37 (as := []) rfl rfl (kRun_1 h_r0_1) (Nat.le_refl _) (Nat.le_of_ble_eq_true rfl) (nocov rfl) (Nat.le_of_ble_eq_true rfl) (Nat.le_of_ble_eq_true rfl) (CL.mono h (fun r9 H2 h => ?_))
      obtain ⟨h_r0_2, y2, e9, h⟩ := h
      rw [e9]
      show AW l G mX3_readFlight (d + 1) 0 0 Q 40 [vR (a0 + 1), vR (a0 + 43), vI x2, vR (a0 + 48), vI (hg H (a0 + 48) 0)] [vI y2] 0 0 H2
      refine a_if_ne dX3_readFlight_40 (tgt := 45) rfl (fun c40 => ?_) (fun c40 => ?_)
      · replace h := h.1 c40
        refine a_aload_n dX3_readFlight_45 rfl rfl ?_
        refine a_getR dX3_readFlight_46 fw_RX3_134 rfl rfl (kRun_48 h_r0_2) (rRun_48_3 h_r0_2) ?_
        refine a_iload dX3_readFlight_49 rfl ?_
        refine a_iload_n dX3_readFlight_51 rfl rfl ?_
        obtain ⟨q52_0, h⟩ := h
        obtain ⟨q52_1, h⟩ := h
        refine b_zast dX3_readFlight_52 (kRun_51 h_r0_2) (nRun_51 h_r0_2) q52_0 q52_1 ?_
        have h_r0_3 := Lay.wr h_r0_2 ok_Run (nrf_arr (kRun_51 h_r0_2) (by decide) (by decide)) (i := (hg H (a0 + 48) 0)) (x := x2)
        generalize e_H3 : hs H2 (a0 + 51) (hg H (a0 + 48) 0) x2 = H3 at h_r0_3 ⊢
        replace h := h H3 e_H3.symm
        refine a_aload_n dX3_readFlight_53 rfl rfl ?_
        refine a_getR dX3_readFlight_54 fw_RX3_138 rfl rfl (kRun_48 h_r0_3) (rRun_48_4 h_r0_3) ?_
        refine a_iload dX3_readFlight_57 rfl ?_
        refine a_aload_n dX3_readFlight_59 rfl rfl ?_
        refine a_getI dX3_readFlight_60 fw_RX3_64 rfl rfl (kRun_1 h_r0_3) ?_
        refine b_iast dX3_readFlight_63 (kRun_52 h_r0_3) (nRun_52 h_r0_3) q52_0 ?_
        have h_r0_4 := Lay.wr h_r0_3 ok_Run (nrf_arr (kRun_52 h_r0_3) (by decide) (by decide)) (i := (hg H (a0 + 48) 0)) (x := (hg H3 (a0 + 1) 4))
        generalize e_H4 : hs H3 (a0 + 52) (hg H (a0 + 48) 0) (hg H3 (a0 + 1) 4) = H4 at h_r0_4 ⊢
        replace h := h H4 e_H4.symm
        refine a_aload_n dX3_readFlight_64 rfl rfl ?_
        refine a_aload_n dX3_readFlight_65 rfl rfl ?_
        refine a_iload dX3_readFlight_66 rfl ?_
        refine a_callS dX3_readFlight_68 cw_X3_readFlight_68 (as := [vR (a0 + 1), vR (a0 + 48), vI (hg H (a0 + 48) 0)]) rfl rfl (Nat.le_refl _) (Nat.le_of_ble_eq_true rfl) (nocov rfl) (Nat.le_of_ble_eq_true rfl) (Nat.le_of_ble_eq_true rfl) (CL.mono h (fun r9 H5 h => ?_))
        obtain ⟨h_r0_5, y5, e9, h⟩ := h
        rw [e9]
        show AW l G mX3_readFlight (d + 1) 0 0 Q 71 [vR (a0 + 1), vR (a0 + 43), vI x2, vR (a0 + 48), vI (hg H (a0 + 48) 0)] [vI y5] 0 0 H5
        refine a_if_ne dX3_readFlight_71 (tgt := 76) rfl (fun c71 => ?_) (fun c71 => ?_)
        · replace h := h.1 c71
          refine a_aload_n dX3_readFlight_76 rfl rfl ?_
          refine a_iconst dX3_readFlight_77 ⟨by decide, by decide⟩ ?_
          refine a_iconst dX3_readFlight_78 ⟨by decide, by decide⟩ ?_
          refine a_aload_n dX3_readFlight_79 rfl rfl ?_
          refine a_getR dX3_readFlight_80 fw_RX3_14 rfl rfl (kRun_43 h_r0_5) (rRun_43_0 h_r0_5) ?_
          refine a_getI dX3_readFlight_83 fw_RX3_67 rfl rfl (kRun_44 h_r0_5) ?_
          obtain ⟨q86_0, h⟩ := h
          refine a_ishl dX3_readFlight_86 q86_0 ?_
          refine a_iconst dX3_readFlight_87 ⟨by decide, by decide⟩ ?_
          obtain ⟨q88_0, h⟩ := h
          refine a_isub dX3_readFlight_88 q88_0 ?_
          refine a_callV dX3_readFlight_89 cw_X3_readFlight_89 (as := [vI 1, vI ((pw (hg H5 (a0 + 44) 0)) - 1)]) rfl rfl (kRun_1 h_r0_5) (Nat.le_refl _) (Nat.le_of_ble_eq_true rfl) (nocov rfl) (Nat.le_of_ble_eq_true rfl) (Nat.le_of_ble_eq_true rfl) (CL.mono h (fun r9 H6 h => ?_))
          obtain ⟨h_r0_6, y6, e9, h⟩ := h
          rw [e9]
          show AW l G mX3_readFlight (d + 1) 0 0 Q 92 [vR (a0 + 1), vR (a0 + 43), vI x2, vR (a0 + 48), vI (hg H (a0 + 48) 0)] [vI y6] 0 0 H6
          refine a_if_ne dX3_readFlight_92 (tgt := 97) rfl (fun c92 => ?_) (fun c92 => ?_)
          · replace h := h.1 c92
            refine a_aload_n dX3_readFlight_97 rfl rfl ?_
            refine a_getR dX3_readFlight_98 fw_RX3_145 rfl rfl (kRun_48 h_r0_6) (rRun_48_8 h_r0_6) ?_
            refine a_iload dX3_readFlight_101 rfl ?_
            refine a_aload_n dX3_readFlight_103 rfl rfl ?_
            refine a_getI dX3_readFlight_104 fw_RX3_64 rfl rfl (kRun_1 h_r0_6) ?_
            refine b_iast dX3_readFlight_107 (kRun_56 h_r0_6) (nRun_56 h_r0_6) q52_0 ?_
            have h_r0_7 := Lay.wr h_r0_6 ok_Run (nrf_arr (kRun_56 h_r0_6) (by decide) (by decide)) (i := (hg H (a0 + 48) 0)) (x := (hg H6 (a0 + 1) 4))
            generalize e_H7 : hs H6 (a0 + 56) (hg H (a0 + 48) 0) (hg H6 (a0 + 1) 4) = H7 at h_r0_7 ⊢
            replace h := h H7 e_H7.symm
            refine a_aload_n dX3_readFlight_108 rfl rfl ?_
            refine a_iload dX3_readFlight_109 rfl ?_
            refine a_iconst dX3_readFlight_111 ⟨by decide, by decide⟩ ?_
            obtain ⟨q112_0, h⟩ := h
            refine a_iadd dX3_readFlight_112 q112_0 ?_
            refine a_putI dX3_readFlight_113 fp_RX3_125 rfl rfl (kRun_48 h_r0_7) ?_
            have h_r0_8 := Lay.wr h_r0_7 ok_Run (nrf_fld 0 (kRun_48 h_r0_7) (by decide) (by decide)) (i := 0) (x := ((hg H (a0 + 48) 0) + 1))
            generalize e_H8 : hs H7 (a0 + 48) 0 ((hg H (a0 + 48) 0) + 1) = H8 at h_r0_8 ⊢
            replace h := h H8 e_H8.symm
            refine a_iconst dX3_readFlight_116 ⟨by decide, by decide⟩ ?_
            exact a_zret dX3_readFlight_117 rfl (by decide) (Nat.le_of_ble_eq_true rfl) (Nat.le_of_ble_eq_true rfl) h
          · replace h := h.2 c92
            refine a_iconst dX3_readFlight_95 ⟨by decide, by decide⟩ ?_
            exact a_zret dX3_readFlight_96 rfl (by decide) (Nat.le_of_ble_eq_true rfl) (Nat.le_of_ble_eq_true rfl) h
        · replace h := h.2 c71
          refine a_iconst dX3_readFlight_74 ⟨by decide, by decide⟩ ?_
          exact a_zret dX3_readFlight_75 rfl (by decide) (Nat.le_of_ble_eq_true rfl) (Nat.le_of_ble_eq_true rfl) h
      · replace h := h.2 c40
        refine a_iconst dX3_readFlight_43 ⟨by decide, by decide⟩ ?_
        exact a_zret dX3_readFlight_44 rfl (by decide) (Nat.le_of_ble_eq_true rfl) (Nat.le_of_ble_eq_true rfl) h
  · replace h := h.2 c15
    refine a_aload_n dX3_readFlight_18 rfl rfl ?_
    refine a_iconst dX3_readFlight_19 ⟨by decide, by decide⟩ ?_
    refine a_aload_n dX3_readFlight_20 rfl rfl ?_
    refine a_getI dX3_readFlight_21 fw_RX3_58 rfl rfl (kRun_1 h_r0) ?_
    refine a_callV dX3_readFlight_24 cw_X3_readFlight_24 (as := [vI 4, vI (hg H (a0 + 1) 3)]) rfl rfl (kRun_1 h_r0) (Nat.le_refl _) (Nat.le_of_ble_eq_true rfl) (nocov rfl) (Nat.le_of_ble_eq_true rfl) (Nat.le_of_ble_eq_true rfl) (CL.mono h (fun r9 H1 h => ?_))
    obtain ⟨h_r0_1, y1, e9, h⟩ := h
    rw [e9]
    show AW l G mX3_readFlight (d + 1) 0 0 Q 27 [vR (a0 + 1), vR (a0 + 43), vI x2, vR (a0 + 48), vI (hg H (a0 + 48) 0)] [vI y1] 0 0 H1
    obtain ⟨q27_0, h⟩ := h
    exact a_zret dX3_readFlight_27 rfl q27_0 (Nat.le_of_ble_eq_true rfl) (Nat.le_of_ble_eq_true rfl) h


theorem dX3_readStatement_0 : decode cX3_readStatement 0 = .ok (.aload_n 0, 1) := by decide +kernel
theorem dX3_readStatement_1 : decode cX3_readStatement 1 = .ok (.invokevirtual 48, 3) := by decide +kernel
theorem dX3_readStatement_4 : decode cX3_readStatement 4 = .ok (.ifCond .ne 5, 3) := by decide +kernel
theorem dX3_readStatement_7 : decode cX3_readStatement 7 = .ok (.iconst 0, 1) := by decide +kernel
theorem dX3_readStatement_8 : decode cX3_readStatement 8 = .ok (.ireturn, 1) := by decide +kernel
theorem dX3_readStatement_9 : decode cX3_readStatement 9 = .ok (.aload_n 0, 1) := by decide +kernel
theorem dX3_readStatement_10 : decode cX3_readStatement 10 = .ok (.ldc 71, 2) := by decide +kernel
theorem dX3_readStatement_12 : decode cX3_readStatement 12 = .ok (.invokevirtual 54, 3) := by decide +kernel
theorem dX3_readStatement_15 : decode cX3_readStatement 15 = .ok (.ifCond .eq 10, 3) := by decide +kernel
theorem dX3_readStatement_18 : decode cX3_readStatement 18 = .ok (.aload_n 0, 1) := by decide +kernel
theorem dX3_readStatement_19 : decode cX3_readStatement 19 = .ok (.aload_n 1, 1) := by decide +kernel
theorem dX3_readStatement_20 : decode cX3_readStatement 20 = .ok (.iconst 1, 1) := by decide +kernel
theorem dX3_readStatement_21 : decode cX3_readStatement 21 = .ok (.invokestatic 73, 3) := by decide +kernel
theorem dX3_readStatement_24 : decode cX3_readStatement 24 = .ok (.ireturn, 1) := by decide +kernel
theorem dX3_readStatement_25 : decode cX3_readStatement 25 = .ok (.aload_n 0, 1) := by decide +kernel
theorem dX3_readStatement_26 : decode cX3_readStatement 26 = .ok (.ldc 77, 2) := by decide +kernel
theorem dX3_readStatement_28 : decode cX3_readStatement 28 = .ok (.invokevirtual 54, 3) := by decide +kernel
theorem dX3_readStatement_31 : decode cX3_readStatement 31 = .ok (.ifCond .eq 10, 3) := by decide +kernel
theorem dX3_readStatement_34 : decode cX3_readStatement 34 = .ok (.aload_n 0, 1) := by decide +kernel
theorem dX3_readStatement_35 : decode cX3_readStatement 35 = .ok (.aload_n 1, 1) := by decide +kernel
theorem dX3_readStatement_36 : decode cX3_readStatement 36 = .ok (.iconst 0, 1) := by decide +kernel
theorem dX3_readStatement_37 : decode cX3_readStatement 37 = .ok (.invokestatic 73, 3) := by decide +kernel
theorem dX3_readStatement_40 : decode cX3_readStatement 40 = .ok (.ireturn, 1) := by decide +kernel
theorem dX3_readStatement_41 : decode cX3_readStatement 41 = .ok (.aload_n 0, 1) := by decide +kernel
theorem dX3_readStatement_42 : decode cX3_readStatement 42 = .ok (.ldc 79, 2) := by decide +kernel
theorem dX3_readStatement_44 : decode cX3_readStatement 44 = .ok (.invokevirtual 54, 3) := by decide +kernel
theorem dX3_readStatement_47 : decode cX3_readStatement 47 = .ok (.ifCond .eq 12, 3) := by decide +kernel
theorem dX3_readStatement_50 : decode cX3_readStatement 50 = .ok (.aload_n 0, 1) := by decide +kernel
theorem dX3_readStatement_51 : decode cX3_readStatement 51 = .ok (.aload_n 1, 1) := by decide +kernel
theorem dX3_readStatement_52 : decode cX3_readStatement 52 = .ok (.getfield 14, 3) := by decide +kernel
theorem dX3_readStatement_55 : decode cX3_readStatement 55 = .ok (.invokestatic 81, 3) := by decide +kernel
theorem dX3_readStatement_58 : decode cX3_readStatement 58 = .ok (.ireturn, 1) := by decide +kernel
theorem dX3_readStatement_59 : decode cX3_readStatement 59 = .ok (.aload_n 0, 1) := by decide +kernel
theorem dX3_readStatement_60 : decode cX3_readStatement 60 = .ok (.ldc 84, 2) := by decide +kernel
theorem dX3_readStatement_62 : decode cX3_readStatement 62 = .ok (.invokevirtual 54, 3) := by decide +kernel
theorem dX3_readStatement_65 : decode cX3_readStatement 65 = .ok (.ifCond .eq 12, 3) := by decide +kernel
theorem dX3_readStatement_68 : decode cX3_readStatement 68 = .ok (.aload_n 0, 1) := by decide +kernel
theorem dX3_readStatement_69 : decode cX3_readStatement 69 = .ok (.aload_n 1, 1) := by decide +kernel
theorem dX3_readStatement_70 : decode cX3_readStatement 70 = .ok (.getfield 14, 3) := by decide +kernel
theorem dX3_readStatement_73 : decode cX3_readStatement 73 = .ok (.invokestatic 86, 3) := by decide +kernel
theorem dX3_readStatement_76 : decode cX3_readStatement 76 = .ok (.ireturn, 1) := by decide +kernel
theorem dX3_readStatement_77 : decode cX3_readStatement 77 = .ok (.aload_n 0, 1) := by decide +kernel
theorem dX3_readStatement_78 : decode cX3_readStatement 78 = .ok (.aload_n 1, 1) := by decide +kernel
theorem dX3_readStatement_79 : decode cX3_readStatement 79 = .ok (.getfield 14, 3) := by decide +kernel
theorem dX3_readStatement_82 : decode cX3_readStatement 82 = .ok (.invokestatic 89, 3) := by decide +kernel
theorem dX3_readStatement_85 : decode cX3_readStatement 85 = .ok (.ireturn, 1) := by decide +kernel
set_option maxRecDepth 20000 in
theorem s_X3_readStatement_0 {l : Launch} {G : GT} {d : Nat} {Q : AV → AH → Prop} {H : AH} {a0 : Int} (hT : gT G) (h_r0 : Lay LRun H a0) (h : CL l G mX1_readWord d 0 0 [vR (a0 + 1)] H (fun r9 H1 => Lay LRun H1 a0 ∧ ∃ y1 : Int, r9 = vI y1 ∧ (¬ y1 = 0 → ∃ w10 : Bool, kWd H1 a0 ws_arrival w10 ∧ (¬ (w10 = true) → ∃ w26 : Bool, kWd H1 a0 ws_departure w26 ∧ (¬ (w26 = true) → ∃ w42 : Bool, kWd H1 a0 ws_wake w42 ∧ (¬ (w42 = true) → ∃ w60 : Bool, kWd H1 a0 ws_cost w60 ∧ (¬ (w60 = true) → CL l G mX3_readSetting d 0 0 [vR (a0 + 1), vR (a0 + 44)] H1 (fun r9 H2 => Lay LRun H2 a0 ∧ ∃ y2 : Int, r9 = vI y2 ∧ (y2 = 0 ∨ y2 = 1) ∧ Q (vI y2) H2)) ∧ (w60 = true → CL l G mX3_readCost d 0 0 [vR (a0 + 1), vR (a0 + 44)] H1 (fun r9 H2 => Lay LRun H2 a0 ∧ ∃ y2 : Int, r9 = vI y2 ∧ (y2 = 0 ∨ y2 = 1) ∧ Q (vI y2) H2))) ∧ (w42 = true → CL l G mX3_readWake d 0 0 [vR (a0 + 1), vR (a0 + 44)] H1 (fun r9 H2 => Lay LRun H2 a0 ∧ ∃ y2 : Int, r9 = vI y2 ∧ (y2 = 0 ∨ y2 = 1) ∧ Q (vI y2) H2))) ∧ (w26 = true → CL l G mX3_readFlight d 0 0 [vR (a0 + 1), vR (a0 + 43), vI 0] H1 (fun r9 H2 => Lay LRun H2 a0 ∧ ∃ y2 : Int, r9 = vI y2 ∧ (y2 = 0 ∨ y2 = 1) ∧ Q (vI y2) H2))) ∧ (w10 = true → CL l G mX3_readFlight d 0 0 [vR (a0 + 1), vR (a0 + 43), vI 1] H1 (fun r9 H2 => Lay LRun H2 a0 ∧ ∃ y2 : Int, r9 = vI y2 ∧ (y2 = 0 ∨ y2 = 1) ∧ Q (vI y2) H2))) ∧ (y1 = 0 → Q (vI 0) H1))) (hd : 4 ≤ d := by omega) : AW l G mX3_readStatement (d + 1) 0 0 Q 0 [vR (a0 + 1), vR (a0 + 43)] [] 0 0 H := by
  refine a_aload_n dX3_readStatement_0 rfl rfl ?_
  refine a_callV dX3_readStatement_1 cw_X3_readStatement_1 (as := []) rfl rfl (kRun_1 h_r0) (Nat.le_refl _) (Nat.le_of_ble_eq_true rfl) (nocov rfl) (Nat.le_of_ble_eq_true rfl) (Nat.le_of_ble_eq_true rfl) (CL.mono h (fun r9 H1 h => ?_))
  obtain ⟨h_r0_1, y1, e9, h⟩ := h
  rw [e9]
  show AW l G mX3_readStatement (d + 1) 0 0 Q 4 [vR (a0 + 1), vR (a0 + 43)] [vI y1] 0 0 H1
  refine a_if_ne dX3_readStatement_4 (tgt := 9) rfl (fun c4 => ?_) (fun c4 => ?_)
  · replace h := h.1 c4
    refine a_aload_n dX3_readStatement_9 rfl rfl ?_
    obtain ⟨w10, qw10, h⟩ := h
    obtain ⟨q9, t9, g9, g8⟩ := hT.2 _ _ _ _ wl_RX3_71
    refine a_ldcX g9 dX3_readStatement_10 ?_
    refine a_callV dX3_readStatement_12 cw_X3_readStatement_12 (as := [vX q9]) rfl rfl (kRun_1 h_r0_1) (Nat.le_refl _) (Nat.le_of_ble_eq_true rfl) (nocov rfl) (Nat.le_of_ble_eq_true rfl) (Nat.le_of_ble_eq_true rfl) (CL.mono (k_wordIs h_r0_1 g8 hT.1 (by decide) qw10) (fun r9 H9 h9 => ?_))
    rw [h9.1, h9.2]
    show AW l G mX3_readStatement (d + 1) 0 0 Q 15 [vR (a0 + 1), vR (a0 + 43)] [vI (bi (decide (w10 = true)))] 0 0 H1
    refine a_if_eq dX3_readStatement_15 (tgt := 25) rfl (fun c15 => ?_) (fun c15 => ?_)
    · replace h := h.1 (bi_0 c15)
      refine a_aload_n dX3_readStatement_25 rfl rfl ?_
      obtain ⟨w26, qw26, h⟩ := h
      obtain ⟨q9, t9, g9, g8⟩ := hT.2 _ _ _ _ wl_RX3_77
      refine a_ldcX g9 dX3_readStatement_26 ?_
      refine a_callV dX3_readStatement_28 cw_X3_readStatement_28 (as := [vX q9]) rfl rfl (kRun_1 h_r0_1) (Nat.le_refl _) (Nat.le_of_ble_eq_true rfl) (nocov rfl) (Nat.le_of_ble_eq_true rfl) (Nat.le_of_ble_eq_true rfl) (CL.mono (k_wordIs h_r0_1 g8 hT.1 (by decide) qw26) (fun r9 H9 h9 => ?_))
      rw [h9.1, h9.2]
      show AW l G mX3_readStatement (d + 1) 0 0 Q 31 [vR (a0 + 1), vR (a0 + 43)] [vI (bi (decide (w26 = true)))] 0 0 H1
      refine a_if_eq dX3_readStatement_31 (tgt := 41) rfl (fun c31 => ?_) (fun c31 => ?_)
      · replace h := h.1 (bi_0 c31)
        refine a_aload_n dX3_readStatement_41 rfl rfl ?_
        obtain ⟨w42, qw42, h⟩ := h
        obtain ⟨q9, t9, g9, g8⟩ := hT.2 _ _ _ _ wl_RX3_79
        refine a_ldcX g9 dX3_readStatement_42 ?_
        refine a_callV dX3_readStatement_44 cw_X3_readStatement_44 (as := [vX q9]) rfl rfl (kRun_1 h_r0_1) (Nat.le_refl _) (Nat.le_of_ble_eq_true rfl) (nocov rfl) (Nat.le_of_ble_eq_true rfl) (Nat.le_of_ble_eq_true rfl) (CL.mono (k_wordIs h_r0_1 g8 hT.1 (by decide) qw42) (fun r9 H9 h9 => ?_))
        rw [h9.1, h9.2]
        show AW l G mX3_readStatement (d + 1) 0 0 Q 47 [vR (a0 + 1), vR (a0 + 43)] [vI (bi (decide (w42 = true)))] 0 0 H1
        refine a_if_eq dX3_readStatement_47 (tgt := 59) rfl (fun c47 => ?_) (fun c47 => ?_)
        · replace h := h.1 (bi_0 c47)
          refine a_aload_n dX3_readStatement_59 rfl rfl ?_
          obtain ⟨w60, qw60, h⟩ := h
          obtain ⟨q9, t9, g9, g8⟩ := hT.2 _ _ _ _ wl_RX3_84
          refine a_ldcX g9 dX3_readStatement_60 ?_
          refine a_callV dX3_readStatement_62 cw_X3_readStatement_62 (as := [vX q9]) rfl rfl (kRun_1 h_r0_1) (Nat.le_refl _) (Nat.le_of_ble_eq_true rfl) (nocov rfl) (Nat.le_of_ble_eq_true rfl) (Nat.le_of_ble_eq_true rfl) (CL.mono (k_wordIs h_r0_1 g8 hT.1 (by decide) qw60) (fun r9 H9 h9 => ?_))
          rw [h9.1, h9.2]
          show AW l G mX3_readStatement (d + 1) 0 0 Q 65 [vR (a0 + 1), vR (a0 + 43)] [vI (bi (decide (w60 = true)))] 0 0 H1
          refine a_if_eq dX3_readStatement_65 (tgt := 77) rfl (fun c65 => ?_) (fun c65 => ?_)
          · replace h := h.1 (bi_0 c65)
            refine a_aload_n dX3_readStatement_77 rfl rfl ?_
            refine a_aload_n dX3_readStatement_78 rfl rfl ?_
            refine a_getR dX3_readStatement_79 fw_RX3_14 rfl rfl (kRun_43 h_r0_1) (rRun_43_0 h_r0_1) ?_
            refine a_callS dX3_readStatement_82 cw_X3_readStatement_82 (as := [vR (a0 + 1), vR (a0 + 44)]) rfl rfl (Nat.le_refl _) (Nat.le_of_ble_eq_true rfl) (nocov rfl) (Nat.le_of_ble_eq_true rfl) (Nat.le_of_ble_eq_true rfl) (CL.mono h (fun r9 H2 h => ?_))
            obtain ⟨h_r0_2, y2, e9, h⟩ := h
            rw [e9]
            show AW l G mX3_readStatement (d + 1) 0 0 Q 85 [vR (a0 + 1), vR (a0 + 43)] [vI y2] 0 0 H2
            obtain ⟨q85_0, h⟩ := h
            exact a_zret dX3_readStatement_85 rfl q85_0 (Nat.le_of_ble_eq_true rfl) (Nat.le_of_ble_eq_true rfl) h
          · replace h := h.2 (bi_1 c65)
            refine a_aload_n dX3_readStatement_68 rfl rfl ?_
            refine a_aload_n dX3_readStatement_69 rfl rfl ?_
            refine a_getR dX3_readStatement_70 fw_RX3_14 rfl rfl (kRun_43 h_r0_1) (rRun_43_0 h_r0_1) ?_
            refine a_callS dX3_readStatement_73 cw_X3_readStatement_73 (as := [vR (a0 + 1), vR (a0 + 44)]) rfl rfl (Nat.le_refl _) (Nat.le_of_ble_eq_true rfl) (nocov rfl) (Nat.le_of_ble_eq_true rfl) (Nat.le_of_ble_eq_true rfl) (CL.mono h (fun r9 H2 h => ?_))
            obtain ⟨h_r0_2, y2, e9, h⟩ := h
            rw [e9]
            show AW l G mX3_readStatement (d + 1) 0 0 Q 76 [vR (a0 + 1), vR (a0 + 43)] [vI y2] 0 0 H2
            obtain ⟨q76_0, h⟩ := h
            exact a_zret dX3_readStatement_76 rfl q76_0 (Nat.le_of_ble_eq_true rfl) (Nat.le_of_ble_eq_true rfl) h
        · replace h := h.2 (bi_1 c47)
          refine a_aload_n dX3_readStatement_50 rfl rfl ?_
          refine a_aload_n dX3_readStatement_51 rfl rfl ?_
          refine a_getR dX3_readStatement_52 fw_RX3_14 rfl rfl (kRun_43 h_r0_1) (rRun_43_0 h_r0_1) ?_
          refine a_callS dX3_readStatement_55 cw_X3_readStatement_55 (as := [vR (a0 + 1), vR (a0 + 44)]) rfl rfl (Nat.le_refl _) (Nat.le_of_ble_eq_true rfl) (nocov rfl) (Nat.le_of_ble_eq_true rfl) (Nat.le_of_ble_eq_true rfl) (CL.mono h (fun r9 H2 h => ?_))
          obtain ⟨h_r0_2, y2, e9, h⟩ := h
          rw [e9]
          show AW l G mX3_readStatement (d + 1) 0 0 Q 58 [vR (a0 + 1), vR (a0 + 43)] [vI y2] 0 0 H2
          obtain ⟨q58_0, h⟩ := h
          exact a_zret dX3_readStatement_58 rfl q58_0 (Nat.le_of_ble_eq_true rfl) (Nat.le_of_ble_eq_true rfl) h
      · replace h := h.2 (bi_1 c31)
        refine a_aload_n dX3_readStatement_34 rfl rfl ?_
        refine a_aload_n dX3_readStatement_35 rfl rfl ?_
        refine a_iconst dX3_readStatement_36 ⟨by decide, by decide⟩ ?_
        refine a_callS dX3_readStatement_37 cw_X3_readStatement_37 (as := [vR (a0 + 1), vR (a0 + 43), vI 0]) rfl rfl (Nat.le_refl _) (Nat.le_of_ble_eq_true rfl) (nocov rfl) (Nat.le_of_ble_eq_true rfl) (Nat.le_of_ble_eq_true rfl) (CL.mono h (fun r9 H2 h => ?_))
        obtain ⟨h_r0_2, y2, e9, h⟩ := h
        rw [e9]
        show AW l G mX3_readStatement (d + 1) 0 0 Q 40 [vR (a0 + 1), vR (a0 + 43)] [vI y2] 0 0 H2
        obtain ⟨q40_0, h⟩ := h
        exact a_zret dX3_readStatement_40 rfl q40_0 (Nat.le_of_ble_eq_true rfl) (Nat.le_of_ble_eq_true rfl) h
    · replace h := h.2 (bi_1 c15)
      refine a_aload_n dX3_readStatement_18 rfl rfl ?_
      refine a_aload_n dX3_readStatement_19 rfl rfl ?_
      refine a_iconst dX3_readStatement_20 ⟨by decide, by decide⟩ ?_
      refine a_callS dX3_readStatement_21 cw_X3_readStatement_21 (as := [vR (a0 + 1), vR (a0 + 43), vI 1]) rfl rfl (Nat.le_refl _) (Nat.le_of_ble_eq_true rfl) (nocov rfl) (Nat.le_of_ble_eq_true rfl) (Nat.le_of_ble_eq_true rfl) (CL.mono h (fun r9 H2 h => ?_))
      obtain ⟨h_r0_2, y2, e9, h⟩ := h
      rw [e9]
      show AW l G mX3_readStatement (d + 1) 0 0 Q 24 [vR (a0 + 1), vR (a0 + 43)] [vI y2] 0 0 H2
      obtain ⟨q24_0, h⟩ := h
      exact a_zret dX3_readStatement_24 rfl q24_0 (Nat.le_of_ble_eq_true rfl) (Nat.le_of_ble_eq_true rfl) h
  · replace h := h.2 c4
    refine a_iconst dX3_readStatement_7 ⟨by decide, by decide⟩ ?_
    exact a_zret dX3_readStatement_8 rfl (by decide) (Nat.le_of_ble_eq_true rfl) (Nat.le_of_ble_eq_true rfl) h


theorem dX3_read_0 : decode cX3_read 0 = .ok (.aload_n 0, 1) := by decide +kernel
theorem dX3_read_1 : decode cX3_read 1 = .ok (.invokevirtual 9, 3) := by decide +kernel
theorem dX3_read_4 : decode cX3_read 4 = .ok (.aload_n 0, 1) := by decide +kernel
theorem dX3_read_5 : decode cX3_read 5 = .ok (.aload_n 1, 1) := by decide +kernel
theorem dX3_read_6 : decode cX3_read 6 = .ok (.getfield 14, 3) := by decide +kernel
theorem dX3_read_9 : decode cX3_read 9 = .ok (.invokestatic 20, 3) := by decide +kernel
theorem dX3_read_12 : decode cX3_read 12 = .ok (.ifCond .ne 5, 3) := by decide +kernel
theorem dX3_read_15 : decode cX3_read 15 = .ok (.iconst 0, 1) := by decide +kernel
theorem dX3_read_16 : decode cX3_read 16 = .ok (.ireturn, 1) := by decide +kernel
theorem dX3_read_17 : decode cX3_read 17 = .ok (.iconst 0, 1) := by decide +kernel
theorem dX3_read_18 : decode cX3_read 18 = .ok (.istore_n 2, 1) := by decide +kernel
theorem dX3_read_19 : decode cX3_read 19 = .ok (.iload_n 2, 1) := by decide +kernel
theorem dX3_read_20 : decode cX3_read 20 = .ok (.sipush 900, 3) := by decide +kernel
theorem dX3_read_23 : decode cX3_read 23 = .ok (.if_icmp .gt 70, 3) := by decide +kernel
theorem dX3_read_26 : decode cX3_read 26 = .ok (.aload_n 0, 1) := by decide +kernel
theorem dX3_read_27 : decode cX3_read 27 = .ok (.invokevirtual 26, 3) := by decide +kernel
theorem dX3_read_30 : decode cX3_read 30 = .ok (.aload_n 0, 1) := by decide +kernel
theorem dX3_read_31 : decode cX3_read 31 = .ok (.getfield 29, 3) := by decide +kernel
theorem dX3_read_34 : decode cX3_read 34 = .ok (.aload_n 0, 1) := by decide +kernel
theorem dX3_read_35 : decode cX3_read 35 = .ok (.getfield 33, 3) := by decide +kernel
theorem dX3_read_38 : decode cX3_read 38 = .ok (.if_icmp .lt 5, 3) := by decide +kernel
theorem dX3_read_41 : decode cX3_read 41 = .ok (.iconst 1, 1) := by decide +kernel
theorem dX3_read_42 : decode cX3_read 42 = .ok (.ireturn, 1) := by decide +kernel
theorem dX3_read_43 : decode cX3_read 43 = .ok (.aload_n 0, 1) := by decide +kernel
theorem dX3_read_44 : decode cX3_read 44 = .ok (.getfield 36, 3) := by decide +kernel
theorem dX3_read_47 : decode cX3_read 47 = .ok (.aload_n 0, 1) := by decide +kernel
theorem dX3_read_48 : decode cX3_read 48 = .ok (.getfield 29, 3) := by decide +kernel
theorem dX3_read_51 : decode cX3_read 51 = .ok (.iaload, 1) := by decide +kernel
theorem dX3_read_52 : decode cX3_read 52 = .ok (.bipush 59, 2) := by decide +kernel
theorem dX3_read_54 : decode cX3_read 54 = .ok (.if_icmp .eq 13, 3) := by decide +kernel
theorem dX3_read_57 : decode cX3_read 57 = .ok (.aload_n 0, 1) := by decide +kernel
theorem dX3_read_58 : decode cX3_read 58 = .ok (.iconst 1, 1) := by decide +kernel
theorem dX3_read_59 : decode cX3_read 59 = .ok (.aload_n 0, 1) := by decide +kernel
theorem dX3_read_60 : decode cX3_read 60 = .ok (.getfield 29, 3) := by decide +kernel
theorem dX3_read_63 : decode cX3_read 63 = .ok (.invokevirtual 40, 3) := by decide +kernel
theorem dX3_read_66 : decode cX3_read 66 = .ok (.ireturn, 1) := by decide +kernel
theorem dX3_read_67 : decode cX3_read 67 = .ok (.aload_n 0, 1) := by decide +kernel
theorem dX3_read_68 : decode cX3_read 68 = .ok (.dup, 1) := by decide +kernel
theorem dX3_read_69 : decode cX3_read 69 = .ok (.getfield 29, 3) := by decide +kernel
theorem dX3_read_72 : decode cX3_read 72 = .ok (.iconst 1, 1) := by decide +kernel
theorem dX3_read_73 : decode cX3_read 73 = .ok (.iadd, 1) := by decide +kernel
theorem dX3_read_74 : decode cX3_read 74 = .ok (.putfield 29, 3) := by decide +kernel
theorem dX3_read_77 : decode cX3_read 77 = .ok (.aload_n 0, 1) := by decide +kernel
theorem dX3_read_78 : decode cX3_read 78 = .ok (.aload_n 1, 1) := by decide +kernel
theorem dX3_read_79 : decode cX3_read 79 = .ok (.invokestatic 44, 3) := by decide +kernel
theorem dX3_read_82 : decode cX3_read 82 = .ok (.ifCond .ne 5, 3) := by decide +kernel
theorem dX3_read_85 : decode cX3_read 85 = .ok (.iconst 0, 1) := by decide +kernel
theorem dX3_read_86 : decode cX3_read 86 = .ok (.ireturn, 1) := by decide +kernel
theorem dX3_read_87 : decode cX3_read 87 = .ok (.iinc 2 1, 3) := by decide +kernel
theorem dX3_read_90 : decode cX3_read 90 = .ok (.goto (-71), 3) := by decide +kernel
theorem dX3_read_93 : decode cX3_read 93 = .ok (.iconst 1, 1) := by decide +kernel
theorem dX3_read_94 : decode cX3_read 94 = .ok (.ireturn, 1) := by decide +kernel
set_option maxRecDepth 20000 in
theorem s_X3_read_0 {l : Launch} {G : GT} {d : Nat} {Q : AV → AH → Prop} {H : AH} {a0 : Int} (h_r0 : Lay LRun H a0) (h : CL l G mX1_rewind d 0 0 [vR (a0 + 1)] H (fun r9 H1 => Lay LRun H1 a0 ∧ r9 = vV ∧ CL l G mX3_readRunways d 0 0 [vR (a0 + 1), vR (a0 + 44)] H1 (fun r9 H2 => Lay LRun H2 a0 ∧ ∃ y2 : Int, r9 = vI y2 ∧ (¬ y2 = 0 → AW l G mX3_read (d + 1) 0 0 Q 19 [vR (a0 + 1), vR (a0 + 43), vI 0] [] 0 0 H2) ∧ (y2 = 0 → Q (vI 0) H2)))) : AW l G mX3_read (d + 1) 0 0 Q 0 [vR (a0 + 1), vR (a0 + 43), vU] [] 0 0 H := by
  refine a_aload_n dX3_read_0 rfl rfl ?_
  refine a_callV dX3_read_1 cw_X3_read_1 (as := []) rfl rfl (kRun_1 h_r0) (Nat.le_refl _) (Nat.le_of_ble_eq_true rfl) (nocov rfl) (Nat.le_of_ble_eq_true rfl) (Nat.le_of_ble_eq_true rfl) (CL.mono h (fun r9 H1 h => ?_))
  obtain ⟨h_r0_1, e9, h⟩ := h
  rw [e9]
  show AW l G mX3_read (d + 1) 0 0 Q 4 [vR (a0 + 1), vR (a0 + 43), vU] [] 0 0 H1
  refine a_aload_n dX3_read_4 rfl rfl ?_
  refine a_aload_n dX3_read_5 rfl rfl ?_
  refine a_getR dX3_read_6 fw_RX3_14 rfl rfl (kRun_43 h_r0_1) (rRun_43_0 h_r0_1) ?_
  refine a_callS dX3_read_9 cw_X3_read_9 (as := [vR (a0 + 1), vR (a0 + 44)]) rfl rfl (Nat.le_refl _) (Nat.le_of_ble_eq_true rfl) (nocov rfl) (Nat.le_of_ble_eq_true rfl) (Nat.le_of_ble_eq_true rfl) (CL.mono h (fun r9 H2 h => ?_))
  obtain ⟨h_r0_2, y2, e9, h⟩ := h
  rw [e9]
  show AW l G mX3_read (d + 1) 0 0 Q 12 [vR (a0 + 1), vR (a0 + 43), vU] [vI y2] 0 0 H2
  refine a_if_ne dX3_read_12 (tgt := 17) rfl (fun c12 => ?_) (fun c12 => ?_)
  · replace h := h.1 c12
    refine a_iconst dX3_read_17 ⟨by decide, by decide⟩ ?_
    refine a_istore_n dX3_read_18 rfl (Nat.le_of_ble_eq_true rfl) (ls' := [vR (a0 + 1), vR (a0 + 43), vI 0]) rfl ?_
    exact h
  · replace h := h.2 c12
    refine a_iconst dX3_read_15 ⟨by decide, by decide⟩ ?_
    exact a_zret dX3_read_16 rfl (by decide) (Nat.le_of_ble_eq_true rfl) (Nat.le_of_ble_eq_true rfl) h

set_option maxRecDepth 20000 in
theorem s_X3_read_19 {l : Launch} {G : GT} {d : Nat} {Q : AV → AH → Prop} {H : AH} {a0 x2 : Int} (h_r0 : Lay LRun H a0) (h : (900 < x2 → Q (vI 1) H) ∧ (x2 ≤ 900 → CL l G mX1_skipSpaces d 0 0 [vR (a0 + 1)] H (fun r9 H1 => Lay LRun H1 a0 ∧ r9 = vV ∧ ((hg H1 (a0 + 1) 2) < (hg H1 (a0 + 1) 1) → (0 ≤ (hg H1 (a0 + 1) 2) ∧ (hg H1 (a0 + 1) 2) < 900) ∧ ((hg H1 (a0 + 2) (hg H1 (a0 + 1) 2)) = 59 → (-2147483648 ≤ (hg H1 (a0 + 1) 2) + 1 ∧ (hg H1 (a0 + 1) 2) + 1 ≤ 2147483647) ∧ ∀ H2 : AH, H2 = hs H1 (a0 + 1) 2 ((hg H1 (a0 + 1) 2) + 1) → CL l G mX3_readStatement d 0 0 [vR (a0 + 1), vR (a0 + 43)] H2 (fun r9 H3 => Lay LRun H3 a0 ∧ ∃ y3 : Int, r9 = vI y3 ∧ (¬ y3 = 0 → (-2147483648 ≤ x2 + 1 ∧ x2 + 1 ≤ 2147483647) ∧ AW l G mX3_read (d + 1) 0 0 Q 19 [vR (a0 + 1), vR (a0 + 43), vI (x2 + 1)] [] 0 0 H3) ∧ (y3 = 0 → Q (vI 0) H3))) ∧ (¬ (hg H1 (a0 + 2) (hg H1 (a0 + 1) 2)) = 59 → CL l G mX1_fail d 0 0 [vR (a0 + 1), vI 1, vI (hg H1 (a0 + 1) 2)] H1 (fun r9 H2 => Lay LRun H2 a0 ∧ ∃ y2 : Int, r9 = vI y2 ∧ (y2 = 0 ∨ y2 = 1) ∧ Q (vI y2) H2))) ∧ ((hg H1 (a0 + 1) 1) ≤ (hg H1 (a0 + 1) 2) → Q (vI 1) H1)))) : AW l G mX3_read (d + 1) 0 0 Q 19 [vR (a0 + 1), vR (a0 + 43), vI x2] [] 0 0 H := by
  refine a_iload_n dX3_read_19 rfl rfl ?_
  refine a_sipush dX3_read_20 (by decide) ?_
  refine a_icmp_gt dX3_read_23 (tgt := 93) rfl (fun c23 => ?_) (fun c23 => ?_)
  · replace h := h.1 c23
    refine a_iconst dX3_read_93 ⟨by decide, by decide⟩ ?_
    exact a_zret dX3_read_94 rfl (by decide) (Nat.le_of_ble_eq_true rfl) (Nat.le_of_ble_eq_true rfl) h
  · replace h := h.2 c23
    refine a_aload_n dX3_read_26 rfl rfl ?_
    refine a_callV dX3_read_27 cw_X3_read_27 (as := []) rfl rfl (kRun_1 h_r0) (Nat.le_refl _) (Nat.le_of_ble_eq_true rfl) (nocov rfl) (Nat.le_of_ble_eq_true rfl) (Nat.le_of_ble_eq_true rfl) (CL.mono h (fun r9 H1 h => ?_))
    obtain ⟨h_r0_1, e9, h⟩ := h
    rw [e9]
    show AW l G mX3_read (d + 1) 0 0 Q 30 [vR (a0 + 1), vR (a0 + 43), vI x2] [] 0 0 H1
    refine a_aload_n dX3_read_30 rfl rfl ?_
    refine a_getI dX3_read_31 fw_RX3_29 rfl rfl (kRun_1 h_r0_1) ?_
    refine a_aload_n dX3_read_34 rfl rfl ?_
    refine a_getI dX3_read_35 fw_RX3_33 rfl rfl (kRun_1 h_r0_1) ?_
    refine a_icmp_lt dX3_read_38 (tgt := 43) rfl (fun c38 => ?_) (fun c38 => ?_)
    · replace h := h.1 c38
      refine a_aload_n dX3_read_43 rfl rfl ?_
      refine a_getR dX3_read_44 fw_RX3_36 rfl rfl (kRun_1 h_r0_1) (rRun_1_0 h_r0_1) ?_
      refine a_aload_n dX3_read_47 rfl rfl ?_
      refine a_getI dX3_read_48 fw_RX3_29 rfl rfl (kRun_1 h_r0_1) ?_
      obtain ⟨q51_0, h⟩ := h
      refine b_iald dX3_read_51 (kRun_2 h_r0_1) (nRun_2 h_r0_1) q51_0 ?_
      refine a_bipush dX3_read_52 (by decide) ?_
      refine a_icmp_eq dX3_read_54 (tgt := 67) rfl (fun c54 => ?_) (fun c54 => ?_)
      · replace h := h.1 c54
        refine a_aload_n dX3_read_67 rfl rfl ?_
        refine a_dup dX3_read_68 rfl ?_
        refine a_getI dX3_read_69 fw_RX3_29 rfl rfl (kRun_1 h_r0_1) ?_
        refine a_iconst dX3_read_72 ⟨by decide, by decide⟩ ?_
        obtain ⟨q73_0, h⟩ := h
        refine a_iadd dX3_read_73 q73_0 ?_
        refine a_putI dX3_read_74 fp_RX3_29 rfl rfl (kRun_1 h_r0_1) ?_
        have h_r0_2 := Lay.wr h_r0_1 ok_Run (nrf_fld 2 (kRun_1 h_r0_1) (by decide) (by decide)) (i := 2) (x := ((hg H1 (a0 + 1) 2) + 1))
        generalize e_H2 : hs H1 (a0 + 1) 2 ((hg H1 (a0 + 1) 2) + 1) = H2 at h_r0_2 ⊢
        replace h := h H2 e_H2.symm
        refine a_aload_n dX3_read_77 rfl rfl ?_
        refine a_aload_n dX3_read_78 rfl rfl ?_
        refine a_callS dX3_read_79 cw_X3_read_79 (as := [vR (a0 + 1), vR (a0 + 43)]) rfl rfl (Nat.le_refl _) (Nat.le_of_ble_eq_true rfl) (nocov rfl) (Nat.le_of_ble_eq_true rfl) (Nat.le_of_ble_eq_true rfl) (CL.mono h (fun r9 H3 h => ?_))
        obtain ⟨h_r0_3, y3, e9, h⟩ := h
        rw [e9]
        show AW l G mX3_read (d + 1) 0 0 Q 82 [vR (a0 + 1), vR (a0 + 43), vI x2] [vI y3] 0 0 H3
        refine a_if_ne dX3_read_82 (tgt := 87) rfl (fun c82 => ?_) (fun c82 => ?_)
        · replace h := h.1 c82
          obtain ⟨q87_0, h⟩ := h
          refine a_iinc dX3_read_87 rfl (Nat.le_of_ble_eq_true rfl) (by decide) q87_0 (ls' := [vR (a0 + 1), vR (a0 + 43), vI (x2 + 1)]) rfl ?_
          refine a_goto dX3_read_90 (tgt := 19) rfl ?_
          exact h
        · replace h := h.2 c82
          refine a_iconst dX3_read_85 ⟨by decide, by decide⟩ ?_
          exact a_zret dX3_read_86 rfl (by decide) (Nat.le_of_ble_eq_true rfl) (Nat.le_of_ble_eq_true rfl) h
      · replace h := h.2 c54
        refine a_aload_n dX3_read_57 rfl rfl ?_
        refine a_iconst dX3_read_58 ⟨by decide, by decide⟩ ?_
        refine a_aload_n dX3_read_59 rfl rfl ?_
        refine a_getI dX3_read_60 fw_RX3_29 rfl rfl (kRun_1 h_r0_1) ?_
        refine a_callV dX3_read_63 cw_X3_read_63 (as := [vI 1, vI (hg H1 (a0 + 1) 2)]) rfl rfl (kRun_1 h_r0_1) (Nat.le_refl _) (Nat.le_of_ble_eq_true rfl) (nocov rfl) (Nat.le_of_ble_eq_true rfl) (Nat.le_of_ble_eq_true rfl) (CL.mono h (fun r9 H2 h => ?_))
        obtain ⟨h_r0_2, y2, e9, h⟩ := h
        rw [e9]
        show AW l G mX3_read (d + 1) 0 0 Q 66 [vR (a0 + 1), vR (a0 + 43), vI x2] [vI y2] 0 0 H2
        obtain ⟨q66_0, h⟩ := h
        exact a_zret dX3_read_66 rfl q66_0 (Nat.le_of_ble_eq_true rfl) (Nat.le_of_ble_eq_true rfl) h
    · replace h := h.2 c38
      refine a_iconst dX3_read_41 ⟨by decide, by decide⟩ ?_
      exact a_zret dX3_read_42 rfl (by decide) (Nat.le_of_ble_eq_true rfl) (Nat.le_of_ble_eq_true rfl) h


theorem dX0_sameLetters_0 : decode cX0_sameLetters 0 = .ok (.iconst 0, 1) := by decide +kernel
theorem dX0_sameLetters_1 : decode cX0_sameLetters 1 = .ok (.istore 4, 2) := by decide +kernel
theorem dX0_sameLetters_3 : decode cX0_sameLetters 3 = .ok (.iload 4, 2) := by decide +kernel
theorem dX0_sameLetters_5 : decode cX0_sameLetters 5 = .ok (.aload_n 0, 1) := by decide +kernel
theorem dX0_sameLetters_6 : decode cX0_sameLetters 6 = .ok (.getfield 15, 3) := by decide +kernel
theorem dX0_sameLetters_9 : decode cX0_sameLetters 9 = .ok (.iload_n 1, 1) := by decide +kernel
theorem dX0_sameLetters_10 : decode cX0_sameLetters 10 = .ok (.iaload, 1) := by decide +kernel
theorem dX0_sameLetters_11 : decode cX0_sameLetters 11 = .ok (.if_icmp .ge 32, 3) := by decide +kernel
theorem dX0_sameLetters_14 : decode cX0_sameLetters 14 = .ok (.aload_n 0, 1) := by decide +kernel
theorem dX0_sameLetters_15 : decode cX0_sameLetters 15 = .ok (.getfield 9, 3) := by decide +kernel
theorem dX0_sameLetters_18 : decode cX0_sameLetters 18 = .ok (.iload_n 1, 1) := by decide +kernel
theorem dX0_sameLetters_19 : decode cX0_sameLetters 19 = .ok (.bipush 6, 2) := by decide +kernel
theorem dX0_sameLetters_21 : decode cX0_sameLetters 21 = .ok (.imul, 1) := by decide +kernel
theorem dX0_sameLetters_22 : decode cX0_sameLetters 22 = .ok (.iload 4, 2) := by decide +kernel
theorem dX0_sameLetters_24 : decode cX0_sameLetters 24 = .ok (.iadd, 1) := by decide +kernel
theorem dX0_sameLetters_25 : decode cX0_sameLetters 25 = .ok (.iaload, 1) := by decide +kernel
theorem dX0_sameLetters_26 : decode cX0_sameLetters 26 = .ok (.aload_n 2, 1) := by decide +kernel
theorem dX0_sameLetters_27 : decode cX0_sameLetters 27 = .ok (.iload_n 3, 1) := by decide +kernel
theorem dX0_sameLetters_28 : decode cX0_sameLetters 28 = .ok (.iload 4, 2) := by decide +kernel
theorem dX0_sameLetters_30 : decode cX0_sameLetters 30 = .ok (.iadd, 1) := by decide +kernel
theorem dX0_sameLetters_31 : decode cX0_sameLetters 31 = .ok (.iaload, 1) := by decide +kernel
theorem dX0_sameLetters_32 : decode cX0_sameLetters 32 = .ok (.if_icmp .eq 5, 3) := by decide +kernel
theorem dX0_sameLetters_35 : decode cX0_sameLetters 35 = .ok (.iconst 0, 1) := by decide +kernel
theorem dX0_sameLetters_36 : decode cX0_sameLetters 36 = .ok (.ireturn, 1) := by decide +kernel
theorem dX0_sameLetters_37 : decode cX0_sameLetters 37 = .ok (.iinc 4 1, 3) := by decide +kernel
theorem dX0_sameLetters_40 : decode cX0_sameLetters 40 = .ok (.goto (-37), 3) := by decide +kernel
theorem dX0_sameLetters_43 : decode cX0_sameLetters 43 = .ok (.iconst 1, 1) := by decide +kernel
theorem dX0_sameLetters_44 : decode cX0_sameLetters 44 = .ok (.ireturn, 1) := by decide +kernel
set_option maxRecDepth 20000 in
theorem s_X0_sameLetters_0 {l : Launch} {G : GT} {d : Nat} {Q : AV → AH → Prop} {H : AH} {a0 a2 x1 x3 : Int} (h_r0 : Lay LFli H a0) (h_r2 : Lay (LArr 10 900) H a2) (h : AW l G mX0_sameLetters d 0 0 Q 3 [vR a0, vI x1, vR a2, vI x3, vI 0] [] 0 0 H) : AW l G mX0_sameLetters d 0 0 Q 0 [vR a0, vI x1, vR a2, vI x3, vU] [] 0 0 H := by
  refine a_iconst dX0_sameLetters_0 ⟨by decide, by decide⟩ ?_
  refine a_istore dX0_sameLetters_1 (Nat.le_of_ble_eq_true rfl) (ls' := [vR a0, vI x1, vR a2, vI x3, vI 0]) rfl ?_
  exact h

set_option maxRecDepth 20000 in
theorem s_X0_sameLetters_3 {l : Launch} {G : GT} {d : Nat} {Q : AV → AH → Prop} {H : AH} {a0 a2 x1 x3 x4 : Int} (h_r0 : Lay LFli H a0) (h_r2 : Lay (LArr 10 900) H a2) (h : (0 ≤ x1 ∧ x1 < 24) ∧ ((hg H (a0 + 2) x1) ≤ x4 → Q (vI 1) H) ∧ (x4 < (hg H (a0 + 2) x1) → (-2147483648 ≤ x1 * 6 ∧ x1 * 6 ≤ 2147483647) ∧ (-2147483648 ≤ (x1 * 6) + x4 ∧ (x1 * 6) + x4 ≤ 2147483647) ∧ (0 ≤ ((x1 * 6) + x4) ∧ ((x1 * 6) + x4) < 144) ∧ (-2147483648 ≤ x3 + x4 ∧ x3 + x4 ≤ 2147483647) ∧ (0 ≤ (x3 + x4) ∧ (x3 + x4) < 900) ∧ ((hg H (a0 + 1) ((x1 * 6) + x4)) = (hg H a2 (x3 + x4)) → (-2147483648 ≤ x4 + 1 ∧ x4 + 1 ≤ 2147483647) ∧ AW l G mX0_sameLetters d 0 0 Q 3 [vR a0, vI x1, vR a2, vI x3, vI (x4 + 1)] [] 0 0 H) ∧ (¬ (hg H (a0 + 1) ((x1 * 6) + x4)) = (hg H a2 (x3 + x4)) → Q (vI 0) H))) : AW l G mX0_sameLetters d 0 0 Q 3 [vR a0, vI x1, vR a2, vI x3, vI x4] [] 0 0 H := by
  refine a_iload dX0_sameLetters_3 rfl ?_
  refine a_aload_n dX0_sameLetters_5 rfl rfl ?_
  refine a_getR dX0_sameLetters_6 fw_RX0_15 rfl rfl (kFli_0 h_r0) (rFli_0_2 h_r0) ?_
  refine a_iload_n dX0_sameLetters_9 rfl rfl ?_
  obtain ⟨q10_0, h⟩ := h
  refine b_iald dX0_sameLetters_10 (kFli_2 h_r0) (nFli_2 h_r0) q10_0 ?_
  refine a_icmp_ge dX0_sameLetters_11 (tgt := 43) rfl (fun c11 => ?_) (fun c11 => ?_)
  · replace h := h.1 c11
    refine a_iconst dX0_sameLetters_43 ⟨by decide, by decide⟩ ?_
    exact a_zret dX0_sameLetters_44 rfl (by decide) (Nat.le_of_ble_eq_true rfl) (Nat.le_of_ble_eq_true rfl) h
  · replace h := h.2 c11
    refine a_aload_n dX0_sameLetters_14 rfl rfl ?_
    refine a_getR dX0_sameLetters_15 fw_RX0_9 rfl rfl (kFli_0 h_r0) (rFli_0_1 h_r0) ?_
    refine a_iload_n dX0_sameLetters_18 rfl rfl ?_
    refine a_bipush dX0_sameLetters_19 (by decide) ?_
    obtain ⟨q21_0, h⟩ := h
    refine a_imul dX0_sameLetters_21 q21_0 ?_
    refine a_iload dX0_sameLetters_22 rfl ?_
    obtain ⟨q24_0, h⟩ := h
    refine a_iadd dX0_sameLetters_24 q24_0 ?_
    obtain ⟨q25_0, h⟩ := h
    refine b_iald dX0_sameLetters_25 (kFli_1 h_r0) (nFli_1 h_r0) q25_0 ?_
    refine a_aload_n dX0_sameLetters_26 rfl rfl ?_
    refine a_iload_n dX0_sameLetters_27 rfl rfl ?_
    refine a_iload dX0_sameLetters_28 rfl ?_
    obtain ⟨q30_0, h⟩ := h
    refine a_iadd dX0_sameLetters_30 q30_0 ?_
    obtain ⟨q31_0, h⟩ := h
    refine b_iald dX0_sameLetters_31 (kArr_0 h_r2) (nArr_0 h_r2) q31_0 ?_
    refine a_icmp_eq dX0_sameLetters_32 (tgt := 37) rfl (fun c32 => ?_) (fun c32 => ?_)
    · replace h := h.1 c32
      obtain ⟨q37_0, h⟩ := h
      refine a_iinc dX0_sameLetters_37 rfl (Nat.le_of_ble_eq_true rfl) (by decide) q37_0 (ls' := [vR a0, vI x1, vR a2, vI x3, vI (x4 + 1)]) rfl ?_
      refine a_goto dX0_sameLetters_40 (tgt := 3) rfl ?_
      exact h
    · replace h := h.2 c32
      refine a_iconst dX0_sameLetters_35 ⟨by decide, by decide⟩ ?_
      exact a_zret dX0_sameLetters_36 rfl (by decide) (Nat.le_of_ble_eq_true rfl) (Nat.le_of_ble_eq_true rfl) h


theorem dX0_named_0 : decode cX0_named 0 = .ok (.iconst 0, 1) := by decide +kernel
theorem dX0_named_1 : decode cX0_named 1 = .ok (.istore 4, 2) := by decide +kernel
theorem dX0_named_3 : decode cX0_named 3 = .ok (.iload 4, 2) := by decide +kernel
theorem dX0_named_5 : decode cX0_named 5 = .ok (.aload_n 0, 1) := by decide +kernel
theorem dX0_named_6 : decode cX0_named 6 = .ok (.getfield 37, 3) := by decide +kernel
theorem dX0_named_9 : decode cX0_named 9 = .ok (.if_icmp .ge 34, 3) := by decide +kernel
theorem dX0_named_12 : decode cX0_named 12 = .ok (.aload_n 0, 1) := by decide +kernel
theorem dX0_named_13 : decode cX0_named 13 = .ok (.getfield 15, 3) := by decide +kernel
theorem dX0_named_16 : decode cX0_named 16 = .ok (.iload 4, 2) := by decide +kernel
theorem dX0_named_18 : decode cX0_named 18 = .ok (.iaload, 1) := by decide +kernel
theorem dX0_named_19 : decode cX0_named 19 = .ok (.iload_n 3, 1) := by decide +kernel
theorem dX0_named_20 : decode cX0_named 20 = .ok (.if_icmp .ne 17, 3) := by decide +kernel
theorem dX0_named_23 : decode cX0_named 23 = .ok (.aload_n 0, 1) := by decide +kernel
theorem dX0_named_24 : decode cX0_named 24 = .ok (.iload 4, 2) := by decide +kernel
theorem dX0_named_26 : decode cX0_named 26 = .ok (.aload_n 1, 1) := by decide +kernel
theorem dX0_named_27 : decode cX0_named 27 = .ok (.iload_n 2, 1) := by decide +kernel
theorem dX0_named_28 : decode cX0_named 28 = .ok (.invokevirtual 47, 3) := by decide +kernel
theorem dX0_named_31 : decode cX0_named 31 = .ok (.ifCond .eq 6, 3) := by decide +kernel
theorem dX0_named_34 : decode cX0_named 34 = .ok (.iload 4, 2) := by decide +kernel
theorem dX0_named_36 : decode cX0_named 36 = .ok (.ireturn, 1) := by decide +kernel
theorem dX0_named_37 : decode cX0_named 37 = .ok (.iinc 4 1, 3) := by decide +kernel
theorem dX0_named_40 : decode cX0_named 40 = .ok (.goto (-37), 3) := by decide +kernel
theorem dX0_named_43 : decode cX0_named 43 = .ok (.iconst (-1), 1) := by decide +kernel
theorem dX0_named_44 : decode cX0_named 44 = .ok (.ireturn, 1) := by decide +kernel
set_option maxRecDepth 20000 in
theorem s_X0_named_0 {l : Launch} {G : GT} {d : Nat} {Q : AV → AH → Prop} {H : AH} {a0 a1 x2 x3 : Int} (h_r0 : Lay LFli H a0) (h_r1 : Lay (LArr 10 900) H a1) (h : AW l G mX0_named (d + 1) 0 0 Q 3 [vR a0, vR a1, vI x2, vI x3, vI 0] [] 0 0 H) : AW l G mX0_named (d + 1) 0 0 Q 0 [vR a0, vR a1, vI x2, vI x3, vU] [] 0 0 H := by
  refine a_iconst dX0_named_0 ⟨by decide, by decide⟩ ?_
  refine a_istore dX0_named_1 (Nat.le_of_ble_eq_true rfl) (ls' := [vR a0, vR a1, vI x2, vI x3, vI 0]) rfl ?_
  exact h

set_option maxRecDepth 20000 in
theorem s_X0_named_3 {l : Launch} {G : GT} {d : Nat} {Q : AV → AH → Prop} {H : AH} {a0 a1 x2 x3 x4 : Int} (h_r0 : Lay LFli H a0) (h_r1 : Lay (LArr 10 900) H a1) (h : ((hg H a0 0) ≤ x4 → Q (vI (-1)) H) ∧ (x4 < (hg H a0 0) → (0 ≤ x4 ∧ x4 < 24) ∧ (¬ (hg H (a0 + 2) x4) = x3 → (-2147483648 ≤ x4 + 1 ∧ x4 + 1 ≤ 2147483647) ∧ AW l G mX0_named (d + 1) 0 0 Q 3 [vR a0, vR a1, vI x2, vI x3, vI (x4 + 1)] [] 0 0 H) ∧ ((hg H (a0 + 2) x4) = x3 → CL l G mX0_sameLetters d 0 0 [vR a0, vI x4, vR a1, vI x2] H (fun r9 H1 => Lay LFli H1 a0 ∧ Lay (LArr 10 900) H1 a1 ∧ ∃ y1 : Int, r9 = vI y1 ∧ (y1 = 0 → (-2147483648 ≤ x4 + 1 ∧ x4 + 1 ≤ 2147483647) ∧ AW l G mX0_named (d + 1) 0 0 Q 3 [vR a0, vR a1, vI x2, vI x3, vI (x4 + 1)] [] 0 0 H1) ∧ (¬ y1 = 0 → Q (vI x4) H1))))) : AW l G mX0_named (d + 1) 0 0 Q 3 [vR a0, vR a1, vI x2, vI x3, vI x4] [] 0 0 H := by
  refine a_iload dX0_named_3 rfl ?_
  refine a_aload_n dX0_named_5 rfl rfl ?_
  refine a_getI dX0_named_6 fw_RX0_37 rfl rfl (kFli_0 h_r0) ?_
  refine a_icmp_ge dX0_named_9 (tgt := 43) rfl (fun c9 => ?_) (fun c9 => ?_)
  · replace h := h.1 c9
    refine a_iconst dX0_named_43 ⟨by decide, by decide⟩ ?_
    exact a_iret dX0_named_44 rfl (Nat.le_of_ble_eq_true rfl) (Nat.le_of_ble_eq_true rfl) h
  · replace h := h.2 c9
    refine a_aload_n dX0_named_12 rfl rfl ?_
    refine a_getR dX0_named_13 fw_RX0_15 rfl rfl (kFli_0 h_r0) (rFli_0_2 h_r0) ?_
    refine a_iload dX0_named_16 rfl ?_
    obtain ⟨q18_0, h⟩ := h
    refine b_iald dX0_named_18 (kFli_2 h_r0) (nFli_2 h_r0) q18_0 ?_
    refine a_iload_n dX0_named_19 rfl rfl ?_
    refine a_icmp_ne dX0_named_20 (tgt := 37) rfl (fun c20 => ?_) (fun c20 => ?_)
    · replace h := h.1 c20
      obtain ⟨q37_0, h⟩ := h
      refine a_iinc dX0_named_37 rfl (Nat.le_of_ble_eq_true rfl) (by decide) q37_0 (ls' := [vR a0, vR a1, vI x2, vI x3, vI (x4 + 1)]) rfl ?_
      refine a_goto dX0_named_40 (tgt := 3) rfl ?_
      exact h
    · replace h := h.2 c20
      refine a_aload_n dX0_named_23 rfl rfl ?_
      refine a_iload dX0_named_24 rfl ?_
      refine a_aload_n dX0_named_26 rfl rfl ?_
      refine a_iload_n dX0_named_27 rfl rfl ?_
      refine a_callV dX0_named_28 cw_X0_named_28 (as := [vI x4, vR a1, vI x2]) rfl rfl (kFli_0 h_r0) (Nat.le_refl _) (Nat.le_of_ble_eq_true rfl) (nocov rfl) (Nat.le_of_ble_eq_true rfl) (Nat.le_of_ble_eq_true rfl) (CL.mono h (fun r9 H1 h => ?_))
      obtain ⟨h_r0_1, h_r1_1, y1, e9, h⟩ := h
      rw [e9]
      show AW l G mX0_named (d + 1) 0 0 Q 31 [vR a0, vR a1, vI x2, vI x3, vI x4] [vI y1] 0 0 H1
      refine a_if_eq dX0_named_31 (tgt := 37) rfl (fun c31 => ?_) (fun c31 => ?_)
      · replace h := h.1 c31
        obtain ⟨q37_0, h⟩ := h
        refine a_iinc dX0_named_37 rfl (Nat.le_of_ble_eq_true rfl) (by decide) q37_0 (ls' := [vR a0, vR a1, vI x2, vI x3, vI (x4 + 1)]) rfl ?_
        refine a_goto dX0_named_40 (tgt := 3) rfl ?_
        exact h
      · replace h := h.2 c31
        refine a_iload dX0_named_34 rfl ?_
        exact a_iret dX0_named_36 rfl (Nat.le_of_ble_eq_true rfl) (Nat.le_of_ble_eq_true rfl) h


theorem dX0_nameNext_0 : decode cX0_nameNext 0 = .ok (.aload_n 0, 1) := by decide +kernel
theorem dX0_nameNext_1 : decode cX0_nameNext 1 = .ok (.getfield 15, 3) := by decide +kernel
theorem dX0_nameNext_4 : decode cX0_nameNext 4 = .ok (.aload_n 0, 1) := by decide +kernel
theorem dX0_nameNext_5 : decode cX0_nameNext 5 = .ok (.getfield 37, 3) := by decide +kernel
theorem dX0_nameNext_8 : decode cX0_nameNext 8 = .ok (.iload_n 3, 1) := by decide +kernel
theorem dX0_nameNext_9 : decode cX0_nameNext 9 = .ok (.iastore, 1) := by decide +kernel
theorem dX0_nameNext_10 : decode cX0_nameNext 10 = .ok (.iconst 0, 1) := by decide +kernel
theorem dX0_nameNext_11 : decode cX0_nameNext 11 = .ok (.istore 4, 2) := by decide +kernel
theorem dX0_nameNext_13 : decode cX0_nameNext 13 = .ok (.iload 4, 2) := by decide +kernel
theorem dX0_nameNext_15 : decode cX0_nameNext 15 = .ok (.iload_n 3, 1) := by decide +kernel
theorem dX0_nameNext_16 : decode cX0_nameNext 16 = .ok (.if_icmp .ge 30, 3) := by decide +kernel
theorem dX0_nameNext_19 : decode cX0_nameNext 19 = .ok (.aload_n 0, 1) := by decide +kernel
theorem dX0_nameNext_20 : decode cX0_nameNext 20 = .ok (.getfield 9, 3) := by decide +kernel
theorem dX0_nameNext_23 : decode cX0_nameNext 23 = .ok (.aload_n 0, 1) := by decide +kernel
theorem dX0_nameNext_24 : decode cX0_nameNext 24 = .ok (.getfield 37, 3) := by decide +kernel
theorem dX0_nameNext_27 : decode cX0_nameNext 27 = .ok (.bipush 6, 2) := by decide +kernel
theorem dX0_nameNext_29 : decode cX0_nameNext 29 = .ok (.imul, 1) := by decide +kernel
theorem dX0_nameNext_30 : decode cX0_nameNext 30 = .ok (.iload 4, 2) := by decide +kernel
theorem dX0_nameNext_32 : decode cX0_nameNext 32 = .ok (.iadd, 1) := by decide +kernel
theorem dX0_nameNext_33 : decode cX0_nameNext 33 = .ok (.aload_n 1, 1) := by decide +kernel
theorem dX0_nameNext_34 : decode cX0_nameNext 34 = .ok (.iload_n 2, 1) := by decide +kernel
theorem dX0_nameNext_35 : decode cX0_nameNext 35 = .ok (.iload 4, 2) := by decide +kernel
theorem dX0_nameNext_37 : decode cX0_nameNext 37 = .ok (.iadd, 1) := by decide +kernel
theorem dX0_nameNext_38 : decode cX0_nameNext 38 = .ok (.iaload, 1) := by decide +kernel
theorem dX0_nameNext_39 : decode cX0_nameNext 39 = .ok (.iastore, 1) := by decide +kernel
theorem dX0_nameNext_40 : decode cX0_nameNext 40 = .ok (.iinc 4 1, 3) := by decide +kernel
theorem dX0_nameNext_43 : decode cX0_nameNext 43 = .ok (.goto (-30), 3) := by decide +kernel
theorem dX0_nameNext_46 : decode cX0_nameNext 46 = .ok (.return_, 1) := by decide +kernel
set_option maxRecDepth 20000 in
theorem s_X0_nameNext_0 {l : Launch} {G : GT} {d : Nat} {Q : AV → AH → Prop} {H : AH} {a0 x2 x3 : Int} (h_r0 : Lay LRun H a0) (h : (0 ≤ (hg H (a0 + 48) 0) ∧ (hg H (a0 + 48) 0) < 24) ∧ ∀ H1 : AH, H1 = hs H (a0 + 50) (hg H (a0 + 48) 0) x3 → AW l G mX0_nameNext d 0 0 Q 13 [vR (a0 + 48), vR (a0 + 2), vI x2, vI x3, vI 0] [] 0 0 H1) : AW l G mX0_nameNext d 0 0 Q 0 [vR (a0 + 48), vR (a0 + 2), vI x2, vI x3, vU] [] 0 0 H := by
  refine a_aload_n dX0_nameNext_0 rfl rfl ?_
  refine a_getR dX0_nameNext_1 fw_RX0_15 rfl rfl (kRun_48 h_r0) (rRun_48_2 h_r0) ?_
  refine a_aload_n dX0_nameNext_4 rfl rfl ?_
  refine a_getI dX0_nameNext_5 fw_RX0_37 rfl rfl (kRun_48 h_r0) ?_
  refine a_iload_n dX0_nameNext_8 rfl rfl ?_
  obtain ⟨q9_0, h⟩ := h
  refine b_iast dX0_nameNext_9 (kRun_50 h_r0) (nRun_50 h_r0) q9_0 ?_
  have h_r0_1 := Lay.wr h_r0 ok_Run (nrf_arr (kRun_50 h_r0) (by decide) (by decide)) (i := (hg H (a0 + 48) 0)) (x := x3)
  generalize e_H1 : hs H (a0 + 50) (hg H (a0 + 48) 0) x3 = H1 at h_r0_1 ⊢
  replace h := h H1 e_H1.symm
  refine a_iconst dX0_nameNext_10 ⟨by decide, by decide⟩ ?_
  refine a_istore dX0_nameNext_11 (Nat.le_of_ble_eq_true rfl) (ls' := [vR (a0 + 48), vR (a0 + 2), vI x2, vI x3, vI 0]) rfl ?_
  exact h

set_option maxRecDepth 20000 in
theorem s_X0_nameNext_13 {l : Launch} {G : GT} {d : Nat} {Q : AV → AH → Prop} {H : AH} {a0 x2 x3 x4 : Int} (h_r0 : Lay LRun H a0) (h : (x3 ≤ x4 → Q vV H) ∧ (x4 < x3 → (-2147483648 ≤ (hg H (a0 + 48) 0) * 6 ∧ (hg H (a0 + 48) 0) * 6 ≤ 2147483647) ∧ (-2147483648 ≤ ((hg H (a0 + 48) 0) * 6) + x4 ∧ ((hg H (a0 + 48) 0) * 6) + x4 ≤ 2147483647) ∧ (-2147483648 ≤ x2 + x4 ∧ x2 + x4 ≤ 2147483647) ∧ (0 ≤ (x2 + x4) ∧ (x2 + x4) < 900) ∧ (0 ≤ (((hg H (a0 + 48) 0) * 6) + x4) ∧ (((hg H (a0 + 48) 0) * 6) + x4) < 144) ∧ ∀ H1 : AH, H1 = hs H (a0 + 49) (((hg H (a0 + 48) 0) * 6) + x4) (hg H (a0 + 2) (x2 + x4)) → (-2147483648 ≤ x4 + 1 ∧ x4 + 1 ≤ 2147483647) ∧ AW l G mX0_nameNext d 0 0 Q 13 [vR (a0 + 48), vR (a0 + 2), vI x2, vI x3, vI (x4 + 1)] [] 0 0 H1)) : AW l G mX0_nameNext d 0 0 Q 13 [vR (a0 + 48), vR (a0 + 2), vI x2, vI x3, vI x4] [] 0 0 H := by
  refine a_iload dX0_nameNext_13 rfl ?_
  refine a_iload_n dX0_nameNext_15 rfl rfl ?_
  refine a_icmp_ge dX0_nameNext_16 (tgt := 46) rfl (fun c16 => ?_) (fun c16 => ?_)
  · replace h := h.1 c16
    exact a_vret dX0_nameNext_46 rfl (Nat.le_of_ble_eq_true rfl) (Nat.le_of_ble_eq_true rfl) h
  · replace h := h.2 c16
    refine a_aload_n dX0_nameNext_19 rfl rfl ?_
    refine a_getR dX0_nameNext_20 fw_RX0_9 rfl rfl (kRun_48 h_r0) (rRun_48_1 h_r0) ?_
    refine a_aload_n dX0_nameNext_23 rfl rfl ?_
    refine a_getI dX0_nameNext_24 fw_RX0_37 rfl rfl (kRun_48 h_r0) ?_
    refine a_bipush dX0_nameNext_27 (by decide) ?_
    obtain ⟨q29_0, h⟩ := h
    refine a_imul dX0_nameNext_29 q29_0 ?_
    refine a_iload dX0_nameNext_30 rfl ?_
    obtain ⟨q32_0, h⟩ := h
    refine a_iadd dX0_nameNext_32 q32_0 ?_
    refine a_aload_n dX0_nameNext_33 rfl rfl ?_
    refine a_iload_n dX0_nameNext_34 rfl rfl ?_
    refine a_iload dX0_nameNext_35 rfl ?_
    obtain ⟨q37_0, h⟩ := h
    refine a_iadd dX0_nameNext_37 q37_0 ?_
    obtain ⟨q38_0, h⟩ := h
    refine b_iald dX0_nameNext_38 (kRun_2 h_r0) (nRun_2 h_r0) q38_0 ?_
    obtain ⟨q39_0, h⟩ := h
    refine b_iast dX0_nameNext_39 (kRun_49 h_r0) (nRun_49 h_r0) q39_0 ?_
    have h_r0_1 := Lay.wr h_r0 ok_Run (nrf_arr (kRun_49 h_r0) (by decide) (by decide)) (i := (((hg H (a0 + 48) 0) * 6) + x4)) (x := (hg H (a0 + 2) (x2 + x4)))
    generalize e_H1 : hs H (a0 + 49) (((hg H (a0 + 48) 0) * 6) + x4) (hg H (a0 + 2) (x2 + x4)) = H1 at h_r0_1 ⊢
    replace h := h H1 e_H1.symm
    obtain ⟨q40_0, h⟩ := h
    refine a_iinc dX0_nameNext_40 rfl (Nat.le_of_ble_eq_true rfl) (by decide) q40_0 (ls' := [vR (a0 + 48), vR (a0 + 2), vI x2, vI x3, vI (x4 + 1)]) rfl ?_
    refine a_goto dX0_nameNext_43 (tgt := 13) rfl ?_
    exact h


theorem dX7_load_0 : decode cX7_load 0 = .ok (.aload_n 0, 1) := by decide +kernel
theorem dX7_load_1 : decode cX7_load 1 = .ok (.getfield 30, 3) := by decide +kernel
theorem dX7_load_4 : decode cX7_load 4 = .ok (.invokevirtual 41, 3) := by decide +kernel
theorem dX7_load_7 : decode cX7_load 7 = .ok (.aload_n 0, 1) := by decide +kernel
theorem dX7_load_8 : decode cX7_load 8 = .ok (.getfield 10, 3) := by decide +kernel
theorem dX7_load_11 : decode cX7_load 11 = .ok (.aload_n 0, 1) := by decide +kernel
theorem dX7_load_12 : decode cX7_load 12 = .ok (.getfield 30, 3) := by decide +kernel
theorem dX7_load_15 : decode cX7_load 15 = .ok (.invokestatic 58, 3) := by decide +kernel
theorem dX7_load_18 : decode cX7_load 18 = .ok (.istore_n 1, 1) := by decide +kernel
theorem dX7_load_19 : decode cX7_load 19 = .ok (.aload_n 0, 1) := by decide +kernel
theorem dX7_load_20 : decode cX7_load 20 = .ok (.getfield 10, 3) := by decide +kernel
theorem dX7_load_23 : decode cX7_load 23 = .ok (.iconst 0, 1) := by decide +kernel
theorem dX7_load_24 : decode cX7_load 24 = .ok (.putfield 51, 3) := by decide +kernel
theorem dX7_load_27 : decode cX7_load 27 = .ok (.aload_n 0, 1) := by decide +kernel
theorem dX7_load_28 : decode cX7_load 28 = .ok (.aload_n 0, 1) := by decide +kernel
theorem dX7_load_29 : decode cX7_load 29 = .ok (.getfield 10, 3) := by decide +kernel
theorem dX7_load_32 : decode cX7_load 32 = .ok (.getfield 64, 3) := by decide +kernel
theorem dX7_load_35 : decode cX7_load 35 = .ok (.putfield 37, 3) := by decide +kernel
theorem dX7_load_38 : decode cX7_load 38 = .ok (.iload_n 1, 1) := by decide +kernel
theorem dX7_load_39 : decode cX7_load 39 = .ok (.ifCond .ne 14, 3) := by decide +kernel
theorem dX7_load_42 : decode cX7_load 42 = .ok (.bipush (-100), 2) := by decide +kernel
theorem dX7_load_44 : decode cX7_load 44 = .ok (.aload_n 0, 1) := by decide +kernel
theorem dX7_load_45 : decode cX7_load 45 = .ok (.getfield 10, 3) := by decide +kernel
theorem dX7_load_48 : decode cX7_load 48 = .ok (.getfield 67, 3) := by decide +kernel
theorem dX7_load_51 : decode cX7_load 51 = .ok (.isub, 1) := by decide +kernel
theorem dX7_load_52 : decode cX7_load 52 = .ok (.ireturn, 1) := by decide +kernel
theorem dX7_load_53 : decode cX7_load 53 = .ok (.aload_n 0, 1) := by decide +kernel
theorem dX7_load_54 : decode cX7_load 54 = .ok (.getfield 30, 3) := by decide +kernel
theorem dX7_load_57 : decode cX7_load 57 = .ok (.invokevirtual 70, 3) := by decide +kernel
theorem dX7_load_60 : decode cX7_load 60 = .ok (.aload_n 0, 1) := by decide +kernel
theorem dX7_load_61 : decode cX7_load 61 = .ok (.getfield 26, 3) := by decide +kernel
theorem dX7_load_64 : decode cX7_load 64 = .ok (.aload_n 0, 1) := by decide +kernel
theorem dX7_load_65 : decode cX7_load 65 = .ok (.getfield 30, 3) := by decide +kernel
theorem dX7_load_68 : decode cX7_load 68 = .ok (.invokevirtual 73, 3) := by decide +kernel
theorem dX7_load_71 : decode cX7_load 71 = .ok (.aload_n 0, 1) := by decide +kernel
theorem dX7_load_72 : decode cX7_load 72 = .ok (.getfield 26, 3) := by decide +kernel
theorem dX7_load_75 : decode cX7_load 75 = .ok (.getfield 77, 3) := by decide +kernel
theorem dX7_load_78 : decode cX7_load 78 = .ok (.getfield 81, 3) := by decide +kernel
theorem dX7_load_81 : decode cX7_load 81 = .ok (.ireturn, 1) := by decide +kernel
set_option maxRecDepth 20000 in
theorem s_X7_load_0 {l : Launch} {G : GT} {d : Nat} {Q : AV → AH → Prop} {H : AH} {a0 : Int} (h_r0 : Lay LRun H a0) (h : CL l G mX6_clear d 0 0 [vR (a0 + 43)] H (fun r9 H1 => Lay LRun H1 a0 ∧ r9 = vV ∧ CL l G mX3_read d 0 0 [vR (a0 + 1), vR (a0 + 43)] H1 (fun r9 H2 => Lay LRun H2 a0 ∧ ∃ y2 : Int, r9 = vI y2 ∧ ∀ H3 : AH, H3 = hs H2 (a0 + 1) 1 0 → ∀ H4 : AH, H4 = hs H3 a0 5 (hg H3 (a0 + 1) 5) → (¬ y2 = 0 → CL l G mX6_assignByTargets d 0 0 [vR (a0 + 43)] H4 (fun r9 H5 => Lay LRun H5 a0 ∧ r9 = vV ∧ CL l G mX6_copyFrom d 0 0 [vR (a0 + 20), vR (a0 + 43)] H5 (fun r9 H6 => ∃ M6 : Row, Lay LRun H6 a0 ∧ SK H6 (a0 + 20) M6 ∧ r9 = vV ∧ Q (vI (M6 6)) H6))) ∧ (y2 = 0 → (-2147483648 ≤ (-100) - (hg H4 (a0 + 1) 6) ∧ (-100) - (hg H4 (a0 + 1) 6) ≤ 2147483647) ∧ Q (vI ((-100) - (hg H4 (a0 + 1) 6))) H4)))) : AW l G mX7_load (d + 1) 0 0 Q 0 [vR a0, vU] [] 0 0 H := by
  refine a_aload_n dX7_load_0 rfl rfl ?_
  refine a_getR dX7_load_1 fw_RX7_30 rfl rfl (kRun_0 h_r0) (rRun_0_3 h_r0) ?_
  refine a_callV dX7_load_4 cw_X7_load_4 (as := []) rfl rfl (kRun_43 h_r0) (Nat.le_refl _) (Nat.le_of_ble_eq_true rfl) (nocov rfl) (Nat.le_of_ble_eq_true rfl) (Nat.le_of_ble_eq_true rfl) (CL.mono h (fun r9 H1 h => ?_))
  obtain ⟨h_r0_1, e9, h⟩ := h
  rw [e9]
  show AW l G mX7_load (d + 1) 0 0 Q 7 [vR a0, vU] [] 0 0 H1
  refine a_aload_n dX7_load_7 rfl rfl ?_
  refine a_getR dX7_load_8 fw_RX7_10 rfl rfl (kRun_0 h_r0_1) (rRun_0_0 h_r0_1) ?_
  refine a_aload_n dX7_load_11 rfl rfl ?_
  refine a_getR dX7_load_12 fw_RX7_30 rfl rfl (kRun_0 h_r0_1) (rRun_0_3 h_r0_1) ?_
  refine a_callS dX7_load_15 cw_X7_load_15 (as := [vR (a0 + 1), vR (a0 + 43)]) rfl rfl (Nat.le_refl _) (Nat.le_of_ble_eq_true rfl) (nocov rfl) (Nat.le_of_ble_eq_true rfl) (Nat.le_of_ble_eq_true rfl) (CL.mono h (fun r9 H2 h => ?_))
  obtain ⟨h_r0_2, y2, e9, h⟩ := h
  rw [e9]
  show AW l G mX7_load (d + 1) 0 0 Q 18 [vR a0, vU] [vI y2] 0 0 H2
  refine a_istore_n dX7_load_18 rfl (Nat.le_of_ble_eq_true rfl) (ls' := [vR a0, vI y2]) rfl ?_
  refine a_aload_n dX7_load_19 rfl rfl ?_
  refine a_getR dX7_load_20 fw_RX7_10 rfl rfl (kRun_0 h_r0_2) (rRun_0_0 h_r0_2) ?_
  refine a_iconst dX7_load_23 ⟨by decide, by decide⟩ ?_
  refine a_putI dX7_load_24 fp_RX7_51 rfl rfl (kRun_1 h_r0_2) ?_
  have h_r0_3 := Lay.wr h_r0_2 ok_Run (nrf_fld 1 (kRun_1 h_r0_2) (by decide) (by decide)) (i := 1) (x := 0)
  generalize e_H3 : hs H2 (a0 + 1) 1 0 = H3 at h_r0_3 ⊢
  replace h := h H3 e_H3.symm
  refine a_aload_n dX7_load_27 rfl rfl ?_
  refine a_aload_n dX7_load_28 rfl rfl ?_
  refine a_getR dX7_load_29 fw_RX7_10 rfl rfl (kRun_0 h_r0_3) (rRun_0_0 h_r0_3) ?_
  refine a_getI dX7_load_32 fw_RX7_64 rfl rfl (kRun_1 h_r0_3) ?_
  refine a_putI dX7_load_35 fp_RX7_37 rfl rfl (kRun_0 h_r0_3) ?_
  have h_r0_4 := Lay.wr h_r0_3 ok_Run (nrf_fld 5 (kRun_0 h_r0_3) (by decide) (by decide)) (i := 5) (x := (hg H3 (a0 + 1) 5))
  generalize e_H4 : hs H3 a0 5 (hg H3 (a0 + 1) 5) = H4 at h_r0_4 ⊢
  replace h := h H4 e_H4.symm
  refine a_iload_n dX7_load_38 rfl rfl ?_
  refine a_if_ne dX7_load_39 (tgt := 53) rfl (fun c39 => ?_) (fun c39 => ?_)
  · replace h := h.1 c39
    refine a_aload_n dX7_load_53 rfl rfl ?_
    refine a_getR dX7_load_54 fw_RX7_30 rfl rfl (kRun_0 h_r0_4) (rRun_0_3 h_r0_4) ?_
    refine a_callV dX7_load_57 cw_X7_load_57 (as := []) rfl rfl (kRun_43 h_r0_4) (Nat.le_refl _) (Nat.le_of_ble_eq_true rfl) (nocov rfl) (Nat.le_of_ble_eq_true rfl) (Nat.le_of_ble_eq_true rfl) (CL.mono h (fun r9 H5 h => ?_))
    obtain ⟨h_r0_5, e9, h⟩ := h
    rw [e9]
    show AW l G mX7_load (d + 1) 0 0 Q 60 [vR a0, vI y2] [] 0 0 H5
    refine a_aload_n dX7_load_60 rfl rfl ?_
    refine a_getR dX7_load_61 fw_RX7_26 rfl rfl (kRun_0 h_r0_5) (rRun_0_2 h_r0_5) ?_
    refine a_aload_n dX7_load_64 rfl rfl ?_
    refine a_getR dX7_load_65 fw_RX7_30 rfl rfl (kRun_0 h_r0_5) (rRun_0_3 h_r0_5) ?_
    refine a_callV dX7_load_68 cw_X7_load_68 (as := [vR (a0 + 43)]) rfl rfl (kRun_20 h_r0_5) (Nat.le_refl _) (Nat.le_of_ble_eq_true rfl) (nocov rfl) (Nat.le_of_ble_eq_true rfl) (Nat.le_of_ble_eq_true rfl) (CL.mono h (fun r9 H6 h => ?_))
    obtain ⟨M6, h_r0_6, hSr0_20_6, e9, h⟩ := h
    rw [e9]
    show AW l G mX7_load (d + 1) 0 0 Q 71 [vR a0, vI y2] [] 0 0 H6
    refine a_aload_n dX7_load_71 rfl rfl ?_
    refine a_getR dX7_load_72 fw_RX7_26 rfl rfl (kRun_0 h_r0_6) (rRun_0_2 h_r0_6) ?_
    refine a_getR dX7_load_75 fw_RX7_77 rfl rfl (kRun_20 h_r0_6) (rRun_20_1 h_r0_6) ?_
    refine a_getIV dX7_load_78 fw_RX7_81 rfl rfl (kRun_25 h_r0_6) (sko (by omega) (sk_5_0 hSr0_20_6)) ?_
    exact a_iret dX7_load_81 rfl (Nat.le_of_ble_eq_true rfl) (Nat.le_of_ble_eq_true rfl) h
  · replace h := h.2 c39
    refine a_bipush dX7_load_42 (by decide) ?_
    refine a_aload_n dX7_load_44 rfl rfl ?_
    refine a_getR dX7_load_45 fw_RX7_10 rfl rfl (kRun_0 h_r0_4) (rRun_0_0 h_r0_4) ?_
    refine a_getI dX7_load_48 fw_RX7_67 rfl rfl (kRun_1 h_r0_4) ?_
    obtain ⟨q51_0, h⟩ := h
    refine a_isub dX7_load_51 q51_0 ?_
    exact a_iret dX7_load_52 rfl (Nat.le_of_ble_eq_true rfl) (Nat.le_of_ble_eq_true rfl) h


theorem dX7_find_0 : decode cX7_find 0 = .ok (.aload_n 0, 1) := by decide +kernel
theorem dX7_find_1 : decode cX7_find 1 = .ok (.getfield 26, 3) := by decide +kernel
theorem dX7_find_4 : decode cX7_find 4 = .ok (.getfield 77, 3) := by decide +kernel
theorem dX7_find_7 : decode cX7_find 7 = .ok (.aload_n 0, 1) := by decide +kernel
theorem dX7_find_8 : decode cX7_find 8 = .ok (.getfield 10, 3) := by decide +kernel
theorem dX7_find_11 : decode cX7_find 11 = .ok (.getfield 54, 3) := by decide +kernel
theorem dX7_find_14 : decode cX7_find 14 = .ok (.iconst 0, 1) := by decide +kernel
theorem dX7_find_15 : decode cX7_find 15 = .ok (.aload_n 0, 1) := by decide +kernel
theorem dX7_find_16 : decode cX7_find 16 = .ok (.getfield 10, 3) := by decide +kernel
theorem dX7_find_19 : decode cX7_find 19 = .ok (.getfield 51, 3) := by decide +kernel
theorem dX7_find_22 : decode cX7_find 22 = .ok (.invokevirtual 86, 3) := by decide +kernel
theorem dX7_find_25 : decode cX7_find 25 = .ok (.istore_n 1, 1) := by decide +kernel
theorem dX7_find_26 : decode cX7_find 26 = .ok (.aload_n 0, 1) := by decide +kernel
theorem dX7_find_27 : decode cX7_find 27 = .ok (.getfield 10, 3) := by decide +kernel
theorem dX7_find_30 : decode cX7_find 30 = .ok (.iconst 0, 1) := by decide +kernel
theorem dX7_find_31 : decode cX7_find 31 = .ok (.putfield 51, 3) := by decide +kernel
theorem dX7_find_34 : decode cX7_find 34 = .ok (.iload_n 1, 1) := by decide +kernel
theorem dX7_find_35 : decode cX7_find 35 = .ok (.ireturn, 1) := by decide +kernel
set_option maxRecDepth 20000 in
theorem s_X7_find_0 {l : Launch} {G : GT} {d : Nat} {Q : AV → AH → Prop} {H : AH} {a0 : Int} (h_r0 : Lay LRun H a0) (h : CL l G mX0_named d 0 0 [vR (a0 + 25), vR (a0 + 2), vI 0, vI (hg H (a0 + 1) 1)] H (fun r9 H1 => Lay LRun H1 a0 ∧ ∃ y1 : Int, r9 = vI y1 ∧ ∀ H2 : AH, H2 = hs H1 (a0 + 1) 1 0 → Q (vI y1) H2)) : AW l G mX7_find (d + 1) 0 0 Q 0 [vR a0, vU] [] 0 0 H := by
  refine a_aload_n dX7_find_0 rfl rfl ?_
  refine a_getR dX7_find_1 fw_RX7_26 rfl rfl (kRun_0 h_r0) (rRun_0_2 h_r0) ?_
  refine a_getR dX7_find_4 fw_RX7_77 rfl rfl (kRun_20 h_r0) (rRun_20_1 h_r0) ?_
  refine a_aload_n dX7_find_7 rfl rfl ?_
  refine a_getR dX7_find_8 fw_RX7_10 rfl rfl (kRun_0 h_r0) (rRun_0_0 h_r0) ?_
  refine a_getR dX7_find_11 fw_RX7_54 rfl rfl (kRun_1 h_r0) (rRun_1_0 h_r0) ?_
  refine a_iconst dX7_find_14 ⟨by decide, by decide⟩ ?_
  refine a_aload_n dX7_find_15 rfl rfl ?_
  refine a_getR dX7_find_16 fw_RX7_10 rfl rfl (kRun_0 h_r0) (rRun_0_0 h_r0) ?_
  refine a_getI dX7_find_19 fw_RX7_51 rfl rfl (kRun_1 h_r0) ?_
  refine a_callV dX7_find_22 cw_X7_find_22 (as := [vR (a0 + 2), vI 0, vI (hg H (a0 + 1) 1)]) rfl rfl (kRun_25 h_r0) (Nat.le_refl _) (Nat.le_of_ble_eq_true rfl) (nocov rfl) (Nat.le_of_ble_eq_true rfl) (Nat.le_of_ble_eq_true rfl) (CL.mono h (fun r9 H1 h => ?_))
  obtain ⟨h_r0_1, y1, e9, h⟩ := h
  rw [e9]
  show AW l G mX7_find (d + 1) 0 0 Q 25 [vR a0, vU] [vI y1] 0 0 H1
  refine a_istore_n dX7_find_25 rfl (Nat.le_of_ble_eq_true rfl) (ls' := [vR a0, vI y1]) rfl ?_
  refine a_aload_n dX7_find_26 rfl rfl ?_
  refine a_getR dX7_find_27 fw_RX7_10 rfl rfl (kRun_0 h_r0_1) (rRun_0_0 h_r0_1) ?_
  refine a_iconst dX7_find_30 ⟨by decide, by decide⟩ ?_
  refine a_putI dX7_find_31 fp_RX7_51 rfl rfl (kRun_1 h_r0_1) ?_
  have h_r0_2 := Lay.wr h_r0_1 ok_Run (nrf_fld 1 (kRun_1 h_r0_1) (by decide) (by decide)) (i := 1) (x := 0)
  generalize e_H2 : hs H1 (a0 + 1) 1 0 = H2 at h_r0_2 ⊢
  replace h := h H2 e_H2.symm
  refine a_iload_n dX7_find_34 rfl rfl ?_
  exact a_iret dX7_find_35 rfl (Nat.le_of_ble_eq_true rfl) (Nat.le_of_ble_eq_true rfl) h


theorem dX7_loadError_0 : decode cX7_loadError 0 = .ok (.aload_n 0, 1) := by decide +kernel
theorem dX7_loadError_1 : decode cX7_loadError 1 = .ok (.getfield 37, 3) := by decide +kernel
theorem dX7_loadError_4 : decode cX7_loadError 4 = .ok (.ireturn, 1) := by decide +kernel
set_option maxRecDepth 20000 in
theorem s_X7_loadError_0 {l : Launch} {G : GT} {d : Nat} {Q : AV → AH → Prop} {H : AH} {a0 : Int} (h_r0 : Lay LRun H a0) (h : Q (vI (hg H a0 5)) H) : AW l G mX7_loadError d 0 0 Q 0 [vR a0] [] 0 0 H := by
  refine a_aload_n dX7_loadError_0 rfl rfl ?_
  refine a_getI dX7_loadError_1 fw_RX7_37 rfl rfl (kRun_0 h_r0) ?_
  exact a_iret dX7_loadError_4 rfl (Nat.le_of_ble_eq_true rfl) (Nat.le_of_ble_eq_true rfl) h


theorem dX7_appendByte_0 : decode cX7_appendByte 0 = .ok (.iload_n 1, 1) := by decide +kernel
theorem dX7_appendByte_1 : decode cX7_appendByte 1 = .ok (.ifCond .lt 10, 3) := by decide +kernel
theorem dX7_appendByte_4 : decode cX7_appendByte 4 = .ok (.iload_n 1, 1) := by decide +kernel
theorem dX7_appendByte_5 : decode cX7_appendByte 5 = .ok (.sipush 255, 3) := by decide +kernel
theorem dX7_appendByte_8 : decode cX7_appendByte 8 = .ok (.if_icmp .le 13, 3) := by decide +kernel
theorem dX7_appendByte_11 : decode cX7_appendByte 11 = .ok (.new 44, 3) := by decide +kernel
theorem dX7_appendByte_14 : decode cX7_appendByte 14 = .ok (.dup, 1) := by decide +kernel
theorem dX7_appendByte_15 : decode cX7_appendByte 15 = .ok (.ldc 46, 2) := by decide +kernel
theorem dX7_appendByte_17 : decode cX7_appendByte 17 = .ok (.invokespecial 48, 3) := by decide +kernel
theorem dX7_appendByte_20 : decode cX7_appendByte 20 = .ok (.athrow, 1) := by decide +kernel
theorem dX7_appendByte_21 : decode cX7_appendByte 21 = .ok (.aload_n 0, 1) := by decide +kernel
theorem dX7_appendByte_22 : decode cX7_appendByte 22 = .ok (.getfield 10, 3) := by decide +kernel
theorem dX7_appendByte_25 : decode cX7_appendByte 25 = .ok (.getfield 51, 3) := by decide +kernel
theorem dX7_appendByte_28 : decode cX7_appendByte 28 = .ok (.sipush 900, 3) := by decide +kernel
theorem dX7_appendByte_31 : decode cX7_appendByte 31 = .ok (.if_icmp .lt 6, 3) := by decide +kernel
theorem dX7_appendByte_34 : decode cX7_appendByte 34 = .ok (.bipush (-2), 2) := by decide +kernel
theorem dX7_appendByte_36 : decode cX7_appendByte 36 = .ok (.ireturn, 1) := by decide +kernel
theorem dX7_appendByte_37 : decode cX7_appendByte 37 = .ok (.aload_n 0, 1) := by decide +kernel
theorem dX7_appendByte_38 : decode cX7_appendByte 38 = .ok (.getfield 10, 3) := by decide +kernel
theorem dX7_appendByte_41 : decode cX7_appendByte 41 = .ok (.getfield 54, 3) := by decide +kernel
theorem dX7_appendByte_44 : decode cX7_appendByte 44 = .ok (.aload_n 0, 1) := by decide +kernel
theorem dX7_appendByte_45 : decode cX7_appendByte 45 = .ok (.getfield 10, 3) := by decide +kernel
theorem dX7_appendByte_48 : decode cX7_appendByte 48 = .ok (.getfield 51, 3) := by decide +kernel
theorem dX7_appendByte_51 : decode cX7_appendByte 51 = .ok (.iload_n 1, 1) := by decide +kernel
theorem dX7_appendByte_52 : decode cX7_appendByte 52 = .ok (.iastore, 1) := by decide +kernel
theorem dX7_appendByte_53 : decode cX7_appendByte 53 = .ok (.aload_n 0, 1) := by decide +kernel
theorem dX7_appendByte_54 : decode cX7_appendByte 54 = .ok (.getfield 10, 3) := by decide +kernel
theorem dX7_appendByte_57 : decode cX7_appendByte 57 = .ok (.dup, 1) := by decide +kernel
theorem dX7_appendByte_58 : decode cX7_appendByte 58 = .ok (.getfield 51, 3) := by decide +kernel
theorem dX7_appendByte_61 : decode cX7_appendByte 61 = .ok (.iconst 1, 1) := by decide +kernel
theorem dX7_appendByte_62 : decode cX7_appendByte 62 = .ok (.iadd, 1) := by decide +kernel
theorem dX7_appendByte_63 : decode cX7_appendByte 63 = .ok (.putfield 51, 3) := by decide +kernel
theorem dX7_appendByte_66 : decode cX7_appendByte 66 = .ok (.aload_n 0, 1) := by decide +kernel
theorem dX7_appendByte_67 : decode cX7_appendByte 67 = .ok (.getfield 10, 3) := by decide +kernel
theorem dX7_appendByte_70 : decode cX7_appendByte 70 = .ok (.getfield 51, 3) := by decide +kernel
theorem dX7_appendByte_73 : decode cX7_appendByte 73 = .ok (.ireturn, 1) := by decide +kernel
set_option maxRecDepth 20000 in
theorem s_X7_appendByte_0 {l : Launch} {G : GT} {d : Nat} {Q : AV → AH → Prop} {H : AH} {a0 x1 : Int} (hG : GX l G) (h_r0 : Lay LRun H a0) (h : (x1 < 0 → Q (vT 0) H) ∧ (0 ≤ x1 → (x1 ≤ 255 → ((hg H (a0 + 1) 1) < 900 → (0 ≤ (hg H (a0 + 1) 1) ∧ (hg H (a0 + 1) 1) < 900) ∧ ∀ H1 : AH, H1 = hs H (a0 + 2) (hg H (a0 + 1) 1) x1 → (-2147483648 ≤ (hg H1 (a0 + 1) 1) + 1 ∧ (hg H1 (a0 + 1) 1) + 1 ≤ 2147483647) ∧ ∀ H2 : AH, H2 = hs H1 (a0 + 1) 1 ((hg H1 (a0 + 1) 1) + 1) → Q (vI (hg H2 (a0 + 1) 1)) H2) ∧ (900 ≤ (hg H (a0 + 1) 1) → Q (vI (-2)) H)) ∧ (255 < x1 → Q (vT 0) H))) (hd : 6 ≤ d := by omega) : AW l G mX7_appendByte d 4 24 Q 0 [vR a0, vI x1] [] 0 0 H := by
  refine a_iload_n dX7_appendByte_0 rfl rfl ?_
  refine a_if_lt dX7_appendByte_1 (tgt := 11) rfl (fun c1 => ?_) (fun c1 => ?_)
  · replace h := h.1 c1
    exact a_thrS 0 hG dX7_appendByte_11 dX7_appendByte_14 dX7_appendByte_15 dX7_appendByte_17 dX7_appendByte_20 rfl rfl (by unfold exK; decide) (text := "a byte is 0 to 255") (by decide) (Nat.le_of_ble_eq_true rfl) (by omega) (Nat.le_of_ble_eq_true rfl) (Nat.le_of_ble_eq_true rfl) h
  · replace h := h.2 c1
    refine a_iload_n dX7_appendByte_4 rfl rfl ?_
    refine a_sipush dX7_appendByte_5 (by decide) ?_
    refine a_icmp_le dX7_appendByte_8 (tgt := 21) rfl (fun c8 => ?_) (fun c8 => ?_)
    · replace h := h.1 c8
      refine a_aload_n dX7_appendByte_21 rfl rfl ?_
      refine a_getR dX7_appendByte_22 fw_RX7_10 rfl rfl (kRun_0 h_r0) (rRun_0_0 h_r0) ?_
      refine a_getI dX7_appendByte_25 fw_RX7_51 rfl rfl (kRun_1 h_r0) ?_
      refine a_sipush dX7_appendByte_28 (by decide) ?_
      refine a_icmp_lt dX7_appendByte_31 (tgt := 37) rfl (fun c31 => ?_) (fun c31 => ?_)
      · replace h := h.1 c31
        refine a_aload_n dX7_appendByte_37 rfl rfl ?_
        refine a_getR dX7_appendByte_38 fw_RX7_10 rfl rfl (kRun_0 h_r0) (rRun_0_0 h_r0) ?_
        refine a_getR dX7_appendByte_41 fw_RX7_54 rfl rfl (kRun_1 h_r0) (rRun_1_0 h_r0) ?_
        refine a_aload_n dX7_appendByte_44 rfl rfl ?_
        refine a_getR dX7_appendByte_45 fw_RX7_10 rfl rfl (kRun_0 h_r0) (rRun_0_0 h_r0) ?_
        refine a_getI dX7_appendByte_48 fw_RX7_51 rfl rfl (kRun_1 h_r0) ?_
        refine a_iload_n dX7_appendByte_51 rfl rfl ?_
        obtain ⟨q52_0, h⟩ := h
        refine b_iast dX7_appendByte_52 (kRun_2 h_r0) (nRun_2 h_r0) q52_0 ?_
        have h_r0_1 := Lay.wr h_r0 ok_Run (nrf_arr (kRun_2 h_r0) (by decide) (by decide)) (i := (hg H (a0 + 1) 1)) (x := x1)
        generalize e_H1 : hs H (a0 + 2) (hg H (a0 + 1) 1) x1 = H1 at h_r0_1 ⊢
        replace h := h H1 e_H1.symm
        refine a_aload_n dX7_appendByte_53 rfl rfl ?_
        refine a_getR dX7_appendByte_54 fw_RX7_10 rfl rfl (kRun_0 h_r0_1) (rRun_0_0 h_r0_1) ?_
        refine a_dup dX7_appendByte_57 rfl ?_
        refine a_getI dX7_appendByte_58 fw_RX7_51 rfl rfl (kRun_1 h_r0_1) ?_
        refine a_iconst dX7_appendByte_61 ⟨by decide, by decide⟩ ?_
        obtain ⟨q62_0, h⟩ := h
        refine a_iadd dX7_appendByte_62 q62_0 ?_
        refine a_putI dX7_appendByte_63 fp_RX7_51 rfl rfl (kRun_1 h_r0_1) ?_
        have h_r0_2 := Lay.wr h_r0_1 ok_Run (nrf_fld 1 (kRun_1 h_r0_1) (by decide) (by decide)) (i := 1) (x := ((hg H1 (a0 + 1) 1) + 1))
        generalize e_H2 : hs H1 (a0 + 1) 1 ((hg H1 (a0 + 1) 1) + 1) = H2 at h_r0_2 ⊢
        replace h := h H2 e_H2.symm
        refine a_aload_n dX7_appendByte_66 rfl rfl ?_
        refine a_getR dX7_appendByte_67 fw_RX7_10 rfl rfl (kRun_0 h_r0_2) (rRun_0_0 h_r0_2) ?_
        refine a_getI dX7_appendByte_70 fw_RX7_51 rfl rfl (kRun_1 h_r0_2) ?_
        exact a_iret dX7_appendByte_73 rfl (Nat.le_of_ble_eq_true rfl) (Nat.le_of_ble_eq_true rfl) h
      · replace h := h.2 c31
        refine a_bipush dX7_appendByte_34 (by decide) ?_
        exact a_iret dX7_appendByte_36 rfl (Nat.le_of_ble_eq_true rfl) (Nat.le_of_ble_eq_true rfl) h
    · replace h := h.2 c8
      exact a_thrS 0 hG dX7_appendByte_11 dX7_appendByte_14 dX7_appendByte_15 dX7_appendByte_17 dX7_appendByte_20 rfl rfl (by unfold exK; decide) (text := "a byte is 0 to 255") (by decide) (Nat.le_of_ble_eq_true rfl) (by omega) (Nat.le_of_ble_eq_true rfl) (Nat.le_of_ble_eq_true rfl) h


set_option maxRecDepth 20000 in
theorem s_X0_mayUseq_0 {l : Launch} {G : GT} {d : Nat} {Q : AV → AH → Prop} {H : AH} {a0 x1 x2 : Int} (h_r0 : Lay LFli H a0) (h : (0 ≤ x1 ∧ x1 < 24) ∧ (0 ≤ x2 ∧ x2 ≤ 31) ∧ (¬ ((shr (hg H (a0 + 8) x1) x2) % 2) = 1 → Q (vI 0) H) ∧ (((shr (hg H (a0 + 8) x1) x2) % 2) = 1 → Q (vI 1) H)) : AW l G mX0_mayUse d 0 0 Q 0 [vR a0, vI x1, vI x2] [] 0 0 H := by
  refine a_aload_n dX0_mayUse_0 rfl rfl ?_
  refine a_getR dX0_mayUse_1 fw_RX0_34 rfl rfl (kFli_0 h_r0) (rFli_0_8 h_r0) ?_
  refine a_iload_n dX0_mayUse_4 rfl rfl ?_
  obtain ⟨q5_0, h⟩ := h
  refine b_iald dX0_mayUse_5 (kFli_8 h_r0) (nFli_8 h_r0) q5_0 ?_
  refine a_iload_n dX0_mayUse_6 rfl rfl ?_
  obtain ⟨q7_0, h⟩ := h
  refine a_ishr dX0_mayUse_7 q7_0 ?_
  refine a_iconst dX0_mayUse_8 ⟨by decide, by decide⟩ ?_
  refine a_iand1 dX0_mayUse_9 ?_
  refine a_iconst dX0_mayUse_10 ⟨by decide, by decide⟩ ?_
  refine a_icmp_ne dX0_mayUse_11 (tgt := 18) rfl (fun c11 => ?_) (fun c11 => ?_)
  · replace h := h.1 c11
    refine a_iconst dX0_mayUse_18 ⟨by decide, by decide⟩ ?_
    exact a_zret dX0_mayUse_19 rfl (by decide) (Nat.le_of_ble_eq_true rfl) (Nat.le_of_ble_eq_true rfl) h
  · replace h := h.2 c11
    refine a_iconst dX0_mayUse_14 ⟨by decide, by decide⟩ ?_
    refine a_goto dX0_mayUse_15 (tgt := 19) rfl ?_
    exact a_zret dX0_mayUse_19 rfl (by decide) (Nat.le_of_ble_eq_true rfl) (Nat.le_of_ble_eq_true rfl) h


set_option maxRecDepth 20000 in
theorem s_X0_comesBeforeq_0 {l : Launch} {G : GT} {d : Nat} {Q : AV → AH → Prop} {H : AH} {a0 x1 x2 : Int} (h_r0 : Lay LFli H a0) (h : (0 ≤ x1 ∧ x1 < 24) ∧ (0 ≤ x2 ∧ x2 < 24) ∧ ((hg H (a0 + 6) x1) < (hg H (a0 + 6) x2) → Q (vI 1) H) ∧ ((hg H (a0 + 6) x2) ≤ (hg H (a0 + 6) x1) → (¬ (hg H (a0 + 6) x1) = (hg H (a0 + 6) x2) → Q (vI 0) H) ∧ ((hg H (a0 + 6) x1) = (hg H (a0 + 6) x2) → (x2 ≤ x1 → Q (vI 0) H) ∧ (x1 < x2 → Q (vI 1) H)))) : AW l G mX0_comesBefore d 0 0 Q 0 [vR a0, vI x1, vI x2] [] 0 0 H := by
  refine a_aload_n dX0_comesBefore_0 rfl rfl ?_
  refine a_getR dX0_comesBefore_1 fw_RX0_28 rfl rfl (kFli_0 h_r0) (rFli_0_6 h_r0) ?_
  refine a_iload_n dX0_comesBefore_4 rfl rfl ?_
  obtain ⟨q5_0, h⟩ := h
  refine b_iald dX0_comesBefore_5 (kFli_6 h_r0) (nFli_6 h_r0) q5_0 ?_
  refine a_aload_n dX0_comesBefore_6 rfl rfl ?_
  refine a_getR dX0_comesBefore_7 fw_RX0_28 rfl rfl (kFli_0 h_r0) (rFli_0_6 h_r0) ?_
  refine a_iload_n dX0_comesBefore_10 rfl rfl ?_
  obtain ⟨q11_0, h⟩ := h
  refine b_iald dX0_comesBefore_11 (kFli_6 h_r0) (nFli_6 h_r0) q11_0 ?_
  refine a_icmp_lt dX0_comesBefore_12 (tgt := 35) rfl (fun c12 => ?_) (fun c12 => ?_)
  · replace h := h.1 c12
    refine a_iconst dX0_comesBefore_35 ⟨by decide, by decide⟩ ?_
    refine a_goto dX0_comesBefore_36 (tgt := 40) rfl ?_
    exact a_zret dX0_comesBefore_40 rfl (by decide) (Nat.le_of_ble_eq_true rfl) (Nat.le_of_ble_eq_true rfl) h
  · replace h := h.2 c12
    refine a_aload_n dX0_comesBefore_15 rfl rfl ?_
    refine a_getR dX0_comesBefore_16 fw_RX0_28 rfl rfl (kFli_0 h_r0) (rFli_0_6 h_r0) ?_
    refine a_iload_n dX0_comesBefore_19 rfl rfl ?_
    refine b_iald dX0_comesBefore_20 (kFli_6 h_r0) (nFli_6 h_r0) q5_0 ?_
    refine a_aload_n dX0_comesBefore_21 rfl rfl ?_
    refine a_getR dX0_comesBefore_22 fw_RX0_28 rfl rfl (kFli_0 h_r0) (rFli_0_6 h_r0) ?_
    refine a_iload_n dX0_comesBefore_25 rfl rfl ?_
    refine b_iald dX0_comesBefore_26 (kFli_6 h_r0) (nFli_6 h_r0) q11_0 ?_
    refine a_icmp_ne dX0_comesBefore_27 (tgt := 39) rfl (fun c27 => ?_) (fun c27 => ?_)
    · replace h := h.1 c27
      refine a_iconst dX0_comesBefore_39 ⟨by decide, by decide⟩ ?_
      exact a_zret dX0_comesBefore_40 rfl (by decide) (Nat.le_of_ble_eq_true rfl) (Nat.le_of_ble_eq_true rfl) h
    · replace h := h.2 c27
      refine a_iload_n dX0_comesBefore_30 rfl rfl ?_
      refine a_iload_n dX0_comesBefore_31 rfl rfl ?_
      refine a_icmp_ge dX0_comesBefore_32 (tgt := 39) rfl (fun c32 => ?_) (fun c32 => ?_)
      · replace h := h.1 c32
        refine a_iconst dX0_comesBefore_39 ⟨by decide, by decide⟩ ?_
        exact a_zret dX0_comesBefore_40 rfl (by decide) (Nat.le_of_ble_eq_true rfl) (Nat.le_of_ble_eq_true rfl) h
      · replace h := h.2 c32
        refine a_iconst dX0_comesBefore_35 ⟨by decide, by decide⟩ ?_
        refine a_goto dX0_comesBefore_36 (tgt := 40) rfl ?_
        exact a_zret dX0_comesBefore_40 rfl (by decide) (Nat.le_of_ble_eq_true rfl) (Nat.le_of_ble_eq_true rfl) h


theorem dX6_emptiestFor_0 : decode cX6_emptiestFor 0 = .ok (.iconst (-1), 1) := by decide +kernel
theorem dX6_emptiestFor_1 : decode cX6_emptiestFor 1 = .ok (.istore_n 2, 1) := by decide +kernel
theorem dX6_emptiestFor_2 : decode cX6_emptiestFor 2 = .ok (.iconst 0, 1) := by decide +kernel
theorem dX6_emptiestFor_3 : decode cX6_emptiestFor 3 = .ok (.istore_n 3, 1) := by decide +kernel
theorem dX6_emptiestFor_4 : decode cX6_emptiestFor 4 = .ok (.iload_n 3, 1) := by decide +kernel
theorem dX6_emptiestFor_5 : decode cX6_emptiestFor 5 = .ok (.aload_n 0, 1) := by decide +kernel
theorem dX6_emptiestFor_6 : decode cX6_emptiestFor 6 = .ok (.getfield 12, 3) := by decide +kernel
theorem dX6_emptiestFor_9 : decode cX6_emptiestFor 9 = .ok (.getfield 91, 3) := by decide +kernel
theorem dX6_emptiestFor_12 : decode cX6_emptiestFor 12 = .ok (.if_icmp .ge 43, 3) := by decide +kernel
theorem dX6_emptiestFor_15 : decode cX6_emptiestFor 15 = .ok (.aload_n 0, 1) := by decide +kernel
theorem dX6_emptiestFor_16 : decode cX6_emptiestFor 16 = .ok (.getfield 21, 3) := by decide +kernel
theorem dX6_emptiestFor_19 : decode cX6_emptiestFor 19 = .ok (.iload_n 1, 1) := by decide +kernel
theorem dX6_emptiestFor_20 : decode cX6_emptiestFor 20 = .ok (.iload_n 3, 1) := by decide +kernel
theorem dX6_emptiestFor_21 : decode cX6_emptiestFor 21 = .ok (.invokevirtual 94, 3) := by decide +kernel
theorem dX6_emptiestFor_24 : decode cX6_emptiestFor 24 = .ok (.ifCond .eq 25, 3) := by decide +kernel
theorem dX6_emptiestFor_27 : decode cX6_emptiestFor 27 = .ok (.iload_n 2, 1) := by decide +kernel
theorem dX6_emptiestFor_28 : decode cX6_emptiestFor 28 = .ok (.iconst (-1), 1) := by decide +kernel
theorem dX6_emptiestFor_29 : decode cX6_emptiestFor 29 = .ok (.if_icmp .eq 18, 3) := by decide +kernel
theorem dX6_emptiestFor_32 : decode cX6_emptiestFor 32 = .ok (.aload_n 0, 1) := by decide +kernel
theorem dX6_emptiestFor_33 : decode cX6_emptiestFor 33 = .ok (.getfield 44, 3) := by decide +kernel
theorem dX6_emptiestFor_36 : decode cX6_emptiestFor 36 = .ok (.iload_n 3, 1) := by decide +kernel
theorem dX6_emptiestFor_37 : decode cX6_emptiestFor 37 = .ok (.iaload, 1) := by decide +kernel
theorem dX6_emptiestFor_38 : decode cX6_emptiestFor 38 = .ok (.aload_n 0, 1) := by decide +kernel
theorem dX6_emptiestFor_39 : decode cX6_emptiestFor 39 = .ok (.getfield 44, 3) := by decide +kernel
theorem dX6_emptiestFor_42 : decode cX6_emptiestFor 42 = .ok (.iload_n 2, 1) := by decide +kernel
theorem dX6_emptiestFor_43 : decode cX6_emptiestFor 43 = .ok (.iaload, 1) := by decide +kernel
theorem dX6_emptiestFor_44 : decode cX6_emptiestFor 44 = .ok (.if_icmp .ge 5, 3) := by decide +kernel
theorem dX6_emptiestFor_47 : decode cX6_emptiestFor 47 = .ok (.iload_n 3, 1) := by decide +kernel
theorem dX6_emptiestFor_48 : decode cX6_emptiestFor 48 = .ok (.istore_n 2, 1) := by decide +kernel
theorem dX6_emptiestFor_49 : decode cX6_emptiestFor 49 = .ok (.iinc 3 1, 3) := by decide +kernel
theorem dX6_emptiestFor_52 : decode cX6_emptiestFor 52 = .ok (.goto (-48), 3) := by decide +kernel
theorem dX6_emptiestFor_55 : decode cX6_emptiestFor 55 = .ok (.iload_n 2, 1) := by decide +kernel
theorem dX6_emptiestFor_56 : decode cX6_emptiestFor 56 = .ok (.iconst (-1), 1) := by decide +kernel
theorem dX6_emptiestFor_57 : decode cX6_emptiestFor 57 = .ok (.if_icmp .ne 7, 3) := by decide +kernel
theorem dX6_emptiestFor_60 : decode cX6_emptiestFor 60 = .ok (.iconst 0, 1) := by decide +kernel
theorem dX6_emptiestFor_61 : decode cX6_emptiestFor 61 = .ok (.goto 4, 3) := by decide +kernel
theorem dX6_emptiestFor_64 : decode cX6_emptiestFor 64 = .ok (.iload_n 2, 1) := by decide +kernel
theorem dX6_emptiestFor_65 : decode cX6_emptiestFor 65 = .ok (.ireturn, 1) := by decide +kernel
set_option maxRecDepth 20000 in
theorem s_X6_emptiestFor_0 {l : Launch} {G : GT} {d : Nat} {Q : AV → AH → Prop} {H : AH} {a0 x1 : Int} (h_r0 : Lay LSta H a0) (h : AW l G mX6_emptiestFor (d + 1) 0 0 Q 4 [vR a0, vI x1, vI (-1), vI 0] [] 0 0 H) : AW l G mX6_emptiestFor (d + 1) 0 0 Q 0 [vR a0, vI x1, vU, vU] [] 0 0 H := by
  refine a_iconst dX6_emptiestFor_0 ⟨by decide, by decide⟩ ?_
  refine a_istore_n dX6_emptiestFor_1 rfl (Nat.le_of_ble_eq_true rfl) (ls' := [vR a0, vI x1, vI (-1), vU]) rfl ?_
  refine a_iconst dX6_emptiestFor_2 ⟨by decide, by decide⟩ ?_
  refine a_istore_n dX6_emptiestFor_3 rfl (Nat.le_of_ble_eq_true rfl) (ls' := [vR a0, vI x1, vI (-1), vI 0]) rfl ?_
  exact h

set_option maxRecDepth 20000 in
theorem s_X6_emptiestFor_4 {l : Launch} {G : GT} {d : Nat} {Q : AV → AH → Prop} {H : AH} {a0 x1 x2 x3 : Int} (h_r0 : Lay LSta H a0) (h : ((hg H (a0 + 1) 0) ≤ x3 → (¬ x2 = (-1) → Q (vI x2) H) ∧ (x2 = (-1) → Q (vI 0) H)) ∧ (x3 < (hg H (a0 + 1) 0) → CL l G mX0_mayUse d 0 0 [vR (a0 + 5), vI x1, vI x3] H (fun r9 H1 => Lay LSta H1 a0 ∧ ∃ y1 : Int, r9 = vI y1 ∧ (y1 = 0 → (-2147483648 ≤ x3 + 1 ∧ x3 + 1 ≤ 2147483647) ∧ AW l G mX6_emptiestFor (d + 1) 0 0 Q 4 [vR a0, vI x1, vI x2, vI (x3 + 1)] [] 0 0 H1) ∧ (¬ y1 = 0 → (x2 = (-1) → (-2147483648 ≤ x3 + 1 ∧ x3 + 1 ≤ 2147483647) ∧ AW l G mX6_emptiestFor (d + 1) 0 0 Q 4 [vR a0, vI x1, vI x3, vI (x3 + 1)] [] 0 0 H1) ∧ (¬ x2 = (-1) → (0 ≤ x3 ∧ x3 < 3) ∧ (0 ≤ x2 ∧ x2 < 3) ∧ ((hg H1 (a0 + 20) x2) ≤ (hg H1 (a0 + 20) x3) → (-2147483648 ≤ x3 + 1 ∧ x3 + 1 ≤ 2147483647) ∧ AW l G mX6_emptiestFor (d + 1) 0 0 Q 4 [vR a0, vI x1, vI x2, vI (x3 + 1)] [] 0 0 H1) ∧ ((hg H1 (a0 + 20) x3) < (hg H1 (a0 + 20) x2) → (-2147483648 ≤ x3 + 1 ∧ x3 + 1 ≤ 2147483647) ∧ AW l G mX6_emptiestFor (d + 1) 0 0 Q 4 [vR a0, vI x1, vI x3, vI (x3 + 1)] [] 0 0 H1)))))) : AW l G mX6_emptiestFor (d + 1) 0 0 Q 4 [vR a0, vI x1, vI x2, vI x3] [] 0 0 H := by
  refine a_iload_n dX6_emptiestFor_4 rfl rfl ?_
  refine a_aload_n dX6_emptiestFor_5 rfl rfl ?_
  refine a_getR dX6_emptiestFor_6 fw_RX6_12 rfl rfl (kSta_0 h_r0) (rSta_0_0 h_r0) ?_
  refine a_getI dX6_emptiestFor_9 fw_RX6_91 rfl rfl (kSta_1 h_r0) ?_
  refine a_icmp_ge dX6_emptiestFor_12 (tgt := 55) rfl (fun c12 => ?_) (fun c12 => ?_)
  · replace h := h.1 c12
    refine a_iload_n dX6_emptiestFor_55 rfl rfl ?_
    refine a_iconst dX6_emptiestFor_56 ⟨by decide, by decide⟩ ?_
    refine a_icmp_ne dX6_emptiestFor_57 (tgt := 64) rfl (fun c57 => ?_) (fun c57 => ?_)
    · replace h := h.1 c57
      refine a_iload_n dX6_emptiestFor_64 rfl rfl ?_
      exact a_iret dX6_emptiestFor_65 rfl (Nat.le_of_ble_eq_true rfl) (Nat.le_of_ble_eq_true rfl) h
    · replace h := h.2 c57
      refine a_iconst dX6_emptiestFor_60 ⟨by decide, by decide⟩ ?_
      refine a_goto dX6_emptiestFor_61 (tgt := 65) rfl ?_
      exact a_iret dX6_emptiestFor_65 rfl (Nat.le_of_ble_eq_true rfl) (Nat.le_of_ble_eq_true rfl) h
  · replace h := h.2 c12
    refine a_aload_n dX6_emptiestFor_15 rfl rfl ?_
    refine a_getR dX6_emptiestFor_16 fw_RX6_21 rfl rfl (kSta_0 h_r0) (rSta_0_1 h_r0) ?_
    refine a_iload_n dX6_emptiestFor_19 rfl rfl ?_
    refine a_iload_n dX6_emptiestFor_20 rfl rfl ?_
    refine a_callV dX6_emptiestFor_21 cw_X6_emptiestFor_21 (as := [vI x1, vI x3]) rfl rfl (kSta_5 h_r0) (Nat.le_refl _) (Nat.le_of_ble_eq_true rfl) (nocov rfl) (Nat.le_of_ble_eq_true rfl) (Nat.le_of_ble_eq_true rfl) (CL.mono h (fun r9 H1 h => ?_))
    obtain ⟨h_r0_1, y1, e9, h⟩ := h
    rw [e9]
    show AW l G mX6_emptiestFor (d + 1) 0 0 Q 24 [vR a0, vI x1, vI x2, vI x3] [vI y1] 0 0 H1
    refine a_if_eq dX6_emptiestFor_24 (tgt := 49) rfl (fun c24 => ?_) (fun c24 => ?_)
    · replace h := h.1 c24
      obtain ⟨q49_0, h⟩ := h
      refine a_iinc dX6_emptiestFor_49 rfl (Nat.le_of_ble_eq_true rfl) (by decide) q49_0 (ls' := [vR a0, vI x1, vI x2, vI (x3 + 1)]) rfl ?_
      refine a_goto dX6_emptiestFor_52 (tgt := 4) rfl ?_
      exact h
    · replace h := h.2 c24
      refine a_iload_n dX6_emptiestFor_27 rfl rfl ?_
      refine a_iconst dX6_emptiestFor_28 ⟨by decide, by decide⟩ ?_
      refine a_icmp_eq dX6_emptiestFor_29 (tgt := 47) rfl (fun c29 => ?_) (fun c29 => ?_)
      · replace h := h.1 c29
        refine a_iload_n dX6_emptiestFor_47 rfl rfl ?_
        refine a_istore_n dX6_emptiestFor_48 rfl (Nat.le_of_ble_eq_true rfl) (ls' := [vR a0, vI x1, vI x3, vI x3]) rfl ?_
        obtain ⟨q49_0, h⟩ := h
        refine a_iinc dX6_emptiestFor_49 rfl (Nat.le_of_ble_eq_true rfl) (by decide) q49_0 (ls' := [vR a0, vI x1, vI x3, vI (x3 + 1)]) rfl ?_
        refine a_goto dX6_emptiestFor_52 (tgt := 4) rfl ?_
        exact h
      · replace h := h.2 c29
        refine a_aload_n dX6_emptiestFor_32 rfl rfl ?_
        refine a_getR dX6_emptiestFor_33 fw_RX6_44 rfl rfl (kSta_0 h_r0_1) (rSta_0_10 h_r0_1) ?_
        refine a_iload_n dX6_emptiestFor_36 rfl rfl ?_
        obtain ⟨q37_0, h⟩ := h
        refine b_iald dX6_emptiestFor_37 (kSta_20 h_r0_1) (nSta_20 h_r0_1) q37_0 ?_
        refine a_aload_n dX6_emptiestFor_38 rfl rfl ?_
        refine a_getR dX6_emptiestFor_39 fw_RX6_44 rfl rfl (kSta_0 h_r0_1) (rSta_0_10 h_r0_1) ?_
        refine a_iload_n dX6_emptiestFor_42 rfl rfl ?_
        obtain ⟨q43_0, h⟩ := h
        refine b_iald dX6_emptiestFor_43 (kSta_20 h_r0_1) (nSta_20 h_r0_1) q43_0 ?_
        refine a_icmp_ge dX6_emptiestFor_44 (tgt := 49) rfl (fun c44 => ?_) (fun c44 => ?_)
        · replace h := h.1 c44
          obtain ⟨q49_0, h⟩ := h
          refine a_iinc dX6_emptiestFor_49 rfl (Nat.le_of_ble_eq_true rfl) (by decide) q49_0 (ls' := [vR a0, vI x1, vI x2, vI (x3 + 1)]) rfl ?_
          refine a_goto dX6_emptiestFor_52 (tgt := 4) rfl ?_
          exact h
        · replace h := h.2 c44
          refine a_iload_n dX6_emptiestFor_47 rfl rfl ?_
          refine a_istore_n dX6_emptiestFor_48 rfl (Nat.le_of_ble_eq_true rfl) (ls' := [vR a0, vI x1, vI x3, vI x3]) rfl ?_
          obtain ⟨q49_0, h⟩ := h
          refine a_iinc dX6_emptiestFor_49 rfl (Nat.le_of_ble_eq_true rfl) (by decide) q49_0 (ls' := [vR a0, vI x1, vI x3, vI (x3 + 1)]) rfl ?_
          refine a_goto dX6_emptiestFor_52 (tgt := 4) rfl ?_
          exact h


theorem dX6_assignByTargets_0 : decode cX6_assignByTargets 0 = .ok (.iconst 0, 1) := by decide +kernel
theorem dX6_assignByTargets_1 : decode cX6_assignByTargets 1 = .ok (.istore_n 1, 1) := by decide +kernel
theorem dX6_assignByTargets_2 : decode cX6_assignByTargets 2 = .ok (.iload_n 1, 1) := by decide +kernel
theorem dX6_assignByTargets_3 : decode cX6_assignByTargets 3 = .ok (.aload_n 0, 1) := by decide +kernel
theorem dX6_assignByTargets_4 : decode cX6_assignByTargets 4 = .ok (.getfield 21, 3) := by decide +kernel
theorem dX6_assignByTargets_7 : decode cX6_assignByTargets 7 = .ok (.getfield 57, 3) := by decide +kernel
theorem dX6_assignByTargets_10 : decode cX6_assignByTargets 10 = .ok (.if_icmp .ge 37, 3) := by decide +kernel
theorem dX6_assignByTargets_13 : decode cX6_assignByTargets 13 = .ok (.aload_n 0, 1) := by decide +kernel
theorem dX6_assignByTargets_14 : decode cX6_assignByTargets 14 = .ok (.getfield 25, 3) := by decide +kernel
theorem dX6_assignByTargets_17 : decode cX6_assignByTargets 17 = .ok (.iload_n 1, 1) := by decide +kernel
theorem dX6_assignByTargets_18 : decode cX6_assignByTargets 18 = .ok (.iconst (-1), 1) := by decide +kernel
theorem dX6_assignByTargets_19 : decode cX6_assignByTargets 19 = .ok (.iastore, 1) := by decide +kernel
theorem dX6_assignByTargets_20 : decode cX6_assignByTargets 20 = .ok (.aload_n 0, 1) := by decide +kernel
theorem dX6_assignByTargets_21 : decode cX6_assignByTargets 21 = .ok (.getfield 29, 3) := by decide +kernel
theorem dX6_assignByTargets_24 : decode cX6_assignByTargets 24 = .ok (.iload_n 1, 1) := by decide +kernel
theorem dX6_assignByTargets_25 : decode cX6_assignByTargets 25 = .ok (.iconst 0, 1) := by decide +kernel
theorem dX6_assignByTargets_26 : decode cX6_assignByTargets 26 = .ok (.iastore, 1) := by decide +kernel
theorem dX6_assignByTargets_27 : decode cX6_assignByTargets 27 = .ok (.aload_n 0, 1) := by decide +kernel
theorem dX6_assignByTargets_28 : decode cX6_assignByTargets 28 = .ok (.getfield 32, 3) := by decide +kernel
theorem dX6_assignByTargets_31 : decode cX6_assignByTargets 31 = .ok (.iload_n 1, 1) := by decide +kernel
theorem dX6_assignByTargets_32 : decode cX6_assignByTargets 32 = .ok (.iconst 0, 1) := by decide +kernel
theorem dX6_assignByTargets_33 : decode cX6_assignByTargets 33 = .ok (.iastore, 1) := by decide +kernel
theorem dX6_assignByTargets_34 : decode cX6_assignByTargets 34 = .ok (.aload_n 0, 1) := by decide +kernel
theorem dX6_assignByTargets_35 : decode cX6_assignByTargets 35 = .ok (.getfield 35, 3) := by decide +kernel
theorem dX6_assignByTargets_38 : decode cX6_assignByTargets 38 = .ok (.iload_n 1, 1) := by decide +kernel
theorem dX6_assignByTargets_39 : decode cX6_assignByTargets 39 = .ok (.iconst 0, 1) := by decide +kernel
theorem dX6_assignByTargets_40 : decode cX6_assignByTargets 40 = .ok (.iastore, 1) := by decide +kernel
theorem dX6_assignByTargets_41 : decode cX6_assignByTargets 41 = .ok (.iinc 1 1, 3) := by decide +kernel
theorem dX6_assignByTargets_44 : decode cX6_assignByTargets 44 = .ok (.goto (-42), 3) := by decide +kernel
theorem dX6_assignByTargets_47 : decode cX6_assignByTargets 47 = .ok (.iconst 0, 1) := by decide +kernel
theorem dX6_assignByTargets_48 : decode cX6_assignByTargets 48 = .ok (.istore_n 1, 1) := by decide +kernel
theorem dX6_assignByTargets_49 : decode cX6_assignByTargets 49 = .ok (.iload_n 1, 1) := by decide +kernel
theorem dX6_assignByTargets_50 : decode cX6_assignByTargets 50 = .ok (.aload_n 0, 1) := by decide +kernel
theorem dX6_assignByTargets_51 : decode cX6_assignByTargets 51 = .ok (.getfield 21, 3) := by decide +kernel
theorem dX6_assignByTargets_54 : decode cX6_assignByTargets 54 = .ok (.getfield 57, 3) := by decide +kernel
theorem dX6_assignByTargets_57 : decode cX6_assignByTargets 57 = .ok (.if_icmp .ge 87, 3) := by decide +kernel
theorem dX6_assignByTargets_60 : decode cX6_assignByTargets 60 = .ok (.iconst (-1), 1) := by decide +kernel
theorem dX6_assignByTargets_61 : decode cX6_assignByTargets 61 = .ok (.istore_n 2, 1) := by decide +kernel
theorem dX6_assignByTargets_62 : decode cX6_assignByTargets 62 = .ok (.iconst 0, 1) := by decide +kernel
theorem dX6_assignByTargets_63 : decode cX6_assignByTargets 63 = .ok (.istore_n 3, 1) := by decide +kernel
theorem dX6_assignByTargets_64 : decode cX6_assignByTargets 64 = .ok (.iload_n 3, 1) := by decide +kernel
theorem dX6_assignByTargets_65 : decode cX6_assignByTargets 65 = .ok (.aload_n 0, 1) := by decide +kernel
theorem dX6_assignByTargets_66 : decode cX6_assignByTargets 66 = .ok (.getfield 21, 3) := by decide +kernel
theorem dX6_assignByTargets_69 : decode cX6_assignByTargets 69 = .ok (.getfield 57, 3) := by decide +kernel
theorem dX6_assignByTargets_72 : decode cX6_assignByTargets 72 = .ok (.if_icmp .ge 38, 3) := by decide +kernel
theorem dX6_assignByTargets_75 : decode cX6_assignByTargets 75 = .ok (.aload_n 0, 1) := by decide +kernel
theorem dX6_assignByTargets_76 : decode cX6_assignByTargets 76 = .ok (.getfield 25, 3) := by decide +kernel
theorem dX6_assignByTargets_79 : decode cX6_assignByTargets 79 = .ok (.iload_n 3, 1) := by decide +kernel
theorem dX6_assignByTargets_80 : decode cX6_assignByTargets 80 = .ok (.iaload, 1) := by decide +kernel
theorem dX6_assignByTargets_81 : decode cX6_assignByTargets 81 = .ok (.iconst (-1), 1) := by decide +kernel
theorem dX6_assignByTargets_82 : decode cX6_assignByTargets 82 = .ok (.if_icmp .ne 22, 3) := by decide +kernel
theorem dX6_assignByTargets_85 : decode cX6_assignByTargets 85 = .ok (.iload_n 2, 1) := by decide +kernel
theorem dX6_assignByTargets_86 : decode cX6_assignByTargets 86 = .ok (.iconst (-1), 1) := by decide +kernel
theorem dX6_assignByTargets_87 : decode cX6_assignByTargets 87 = .ok (.if_icmp .eq 15, 3) := by decide +kernel
theorem dX6_assignByTargets_90 : decode cX6_assignByTargets 90 = .ok (.aload_n 0, 1) := by decide +kernel
theorem dX6_assignByTargets_91 : decode cX6_assignByTargets 91 = .ok (.getfield 21, 3) := by decide +kernel
theorem dX6_assignByTargets_94 : decode cX6_assignByTargets 94 = .ok (.iload_n 3, 1) := by decide +kernel
theorem dX6_assignByTargets_95 : decode cX6_assignByTargets 95 = .ok (.iload_n 2, 1) := by decide +kernel
theorem dX6_assignByTargets_96 : decode cX6_assignByTargets 96 = .ok (.invokevirtual 83, 3) := by decide +kernel
theorem dX6_assignByTargets_99 : decode cX6_assignByTargets 99 = .ok (.ifCond .eq 5, 3) := by decide +kernel
theorem dX6_assignByTargets_102 : decode cX6_assignByTargets 102 = .ok (.iload_n 3, 1) := by decide +kernel
theorem dX6_assignByTargets_103 : decode cX6_assignByTargets 103 = .ok (.istore_n 2, 1) := by decide +kernel
theorem dX6_assignByTargets_104 : decode cX6_assignByTargets 104 = .ok (.iinc 3 1, 3) := by decide +kernel
theorem dX6_assignByTargets_107 : decode cX6_assignByTargets 107 = .ok (.goto (-43), 3) := by decide +kernel
theorem dX6_assignByTargets_110 : decode cX6_assignByTargets 110 = .ok (.iload_n 2, 1) := by decide +kernel
theorem dX6_assignByTargets_111 : decode cX6_assignByTargets 111 = .ok (.iconst (-1), 1) := by decide +kernel
theorem dX6_assignByTargets_112 : decode cX6_assignByTargets 112 = .ok (.if_icmp .eq 26, 3) := by decide +kernel
theorem dX6_assignByTargets_115 : decode cX6_assignByTargets 115 = .ok (.aload_n 0, 1) := by decide +kernel
theorem dX6_assignByTargets_116 : decode cX6_assignByTargets 116 = .ok (.iload_n 2, 1) := by decide +kernel
theorem dX6_assignByTargets_117 : decode cX6_assignByTargets 117 = .ok (.invokevirtual 87, 3) := by decide +kernel
theorem dX6_assignByTargets_120 : decode cX6_assignByTargets 120 = .ok (.istore_n 3, 1) := by decide +kernel
theorem dX6_assignByTargets_121 : decode cX6_assignByTargets 121 = .ok (.aload_n 0, 1) := by decide +kernel
theorem dX6_assignByTargets_122 : decode cX6_assignByTargets 122 = .ok (.getfield 25, 3) := by decide +kernel
theorem dX6_assignByTargets_125 : decode cX6_assignByTargets 125 = .ok (.iload_n 2, 1) := by decide +kernel
theorem dX6_assignByTargets_126 : decode cX6_assignByTargets 126 = .ok (.iload_n 3, 1) := by decide +kernel
theorem dX6_assignByTargets_127 : decode cX6_assignByTargets 127 = .ok (.iastore, 1) := by decide +kernel
theorem dX6_assignByTargets_128 : decode cX6_assignByTargets 128 = .ok (.aload_n 0, 1) := by decide +kernel
theorem dX6_assignByTargets_129 : decode cX6_assignByTargets 129 = .ok (.getfield 44, 3) := by decide +kernel
theorem dX6_assignByTargets_132 : decode cX6_assignByTargets 132 = .ok (.iload_n 3, 1) := by decide +kernel
theorem dX6_assignByTargets_133 : decode cX6_assignByTargets 133 = .ok (.dup2, 1) := by decide +kernel
theorem dX6_assignByTargets_134 : decode cX6_assignByTargets 134 = .ok (.iaload, 1) := by decide +kernel
theorem dX6_assignByTargets_135 : decode cX6_assignByTargets 135 = .ok (.iconst 1, 1) := by decide +kernel
theorem dX6_assignByTargets_136 : decode cX6_assignByTargets 136 = .ok (.iadd, 1) := by decide +kernel
theorem dX6_assignByTargets_137 : decode cX6_assignByTargets 137 = .ok (.iastore, 1) := by decide +kernel
theorem dX6_assignByTargets_138 : decode cX6_assignByTargets 138 = .ok (.iinc 1 1, 3) := by decide +kernel
theorem dX6_assignByTargets_141 : decode cX6_assignByTargets 141 = .ok (.goto (-92), 3) := by decide +kernel
theorem dX6_assignByTargets_144 : decode cX6_assignByTargets 144 = .ok (.return_, 1) := by decide +kernel
set_option maxRecDepth 20000 in
theorem s_X6_assignByTargets_0 {l : Launch} {G : GT} {d : Nat} {Q : AV → AH → Prop} {H : AH} {a0 : Int} (h_r0 : Lay LSta H a0) (h : AW l G mX6_assignByTargets (d + 1) 0 0 Q 2 [vR a0, vI 0, vU, vU] [] 0 0 H) : AW l G mX6_assignByTargets (d + 1) 0 0 Q 0 [vR a0, vU, vU, vU] [] 0 0 H := by
  refine a_iconst dX6_assignByTargets_0 ⟨by decide, by decide⟩ ?_
  refine a_istore_n dX6_assignByTargets_1 rfl (Nat.le_of_ble_eq_true rfl) (ls' := [vR a0, vI 0, vU, vU]) rfl ?_
  exact h

set_option maxRecDepth 20000 in
theorem s_X6_assignByTargets_2 {l : Launch} {G : GT} {d : Nat} {Q : AV → AH → Prop} {H : AH} {a0 x1 : Int} (h_r0 : Lay LSta H a0) (h : ((hg H (a0 + 5) 0) ≤ x1 → AW l G mX6_assignByTargets (d + 1) 0 0 Q 49 [vR a0, vI 0, vU, vU] [] 0 0 H) ∧ (x1 < (hg H (a0 + 5) 0) → (0 ≤ x1 ∧ x1 < 24) ∧ ∀ H1 : AH, H1 = hs H (a0 + 14) x1 (-1) → ∀ H2 : AH, H2 = hs H1 (a0 + 15) x1 0 → ∀ H3 : AH, H3 = hs H2 (a0 + 16) x1 0 → ∀ H4 : AH, H4 = hs H3 (a0 + 17) x1 0 → (-2147483648 ≤ x1 + 1 ∧ x1 + 1 ≤ 2147483647) ∧ AW l G mX6_assignByTargets (d + 1) 0 0 Q 2 [vR a0, vI (x1 + 1), vU, vU] [] 0 0 H4)) : AW l G mX6_assignByTargets (d + 1) 0 0 Q 2 [vR a0, vI x1, vU, vU] [] 0 0 H := by
  refine a_iload_n dX6_assignByTargets_2 rfl rfl ?_
  refine a_aload_n dX6_assignByTargets_3 rfl rfl ?_
  refine a_getR dX6_assignByTargets_4 fw_RX6_21 rfl rfl (kSta_0 h_r0) (rSta_0_1 h_r0) ?_
  refine a_getI dX6_assignByTargets_7 fw_RX6_57 rfl rfl (kSta_5 h_r0) ?_
  refine a_icmp_ge dX6_assignByTargets_10 (tgt := 47) rfl (fun c10 => ?_) (fun c10 => ?_)
  · replace h := h.1 c10
    refine a_iconst dX6_assignByTargets_47 ⟨by decide, by decide⟩ ?_
    refine a_istore_n dX6_assignByTargets_48 rfl (Nat.le_of_ble_eq_true rfl) (ls' := [vR a0, vI 0, vU, vU]) rfl ?_
    exact h
  · replace h := h.2 c10
    refine a_aload_n dX6_assignByTargets_13 rfl rfl ?_
    refine a_getR dX6_assignByTargets_14 fw_RX6_25 rfl rfl (kSta_0 h_r0) (rSta_0_3 h_r0) ?_
    refine a_iload_n dX6_assignByTargets_17 rfl rfl ?_
    refine a_iconst dX6_assignByTargets_18 ⟨by decide, by decide⟩ ?_
    obtain ⟨q19_0, h⟩ := h
    refine b_iast dX6_assignByTargets_19 (kSta_14 h_r0) (nSta_14 h_r0) q19_0 ?_
    have h_r0_1 := Lay.wr h_r0 ok_Sta (nrf_arr (kSta_14 h_r0) (by decide) (by decide)) (i := x1) (x := (-1))
    generalize e_H1 : hs H (a0 + 14) x1 (-1) = H1 at h_r0_1 ⊢
    replace h := h H1 e_H1.symm
    refine a_aload_n dX6_assignByTargets_20 rfl rfl ?_
    refine a_getR dX6_assignByTargets_21 fw_RX6_29 rfl rfl (kSta_0 h_r0_1) (rSta_0_4 h_r0_1) ?_
    refine a_iload_n dX6_assignByTargets_24 rfl rfl ?_
    refine a_iconst dX6_assignByTargets_25 ⟨by decide, by decide⟩ ?_
    refine b_iast dX6_assignByTargets_26 (kSta_15 h_r0_1) (nSta_15 h_r0_1) q19_0 ?_
    have h_r0_2 := Lay.wr h_r0_1 ok_Sta (nrf_arr (kSta_15 h_r0_1) (by decide) (by decide)) (i := x1) (x := 0)
    generalize e_H2 : hs H1 (a0 + 15) x1 0 = H2 at h_r0_2 ⊢
    replace h := h H2 e_H2.symm
    refine a_aload_n dX6_assignByTargets_27 rfl rfl ?_
    refine a_getR dX6_assignByTargets_28 fw_RX6_32 rfl rfl (kSta_0 h_r0_2) (rSta_0_5 h_r0_2) ?_
    refine a_iload_n dX6_assignByTargets_31 rfl rfl ?_
    refine a_iconst dX6_assignByTargets_32 ⟨by decide, by decide⟩ ?_
    refine b_iast dX6_assignByTargets_33 (kSta_16 h_r0_2) (nSta_16 h_r0_2) q19_0 ?_
    have h_r0_3 := Lay.wr h_r0_2 ok_Sta (nrf_arr (kSta_16 h_r0_2) (by decide) (by decide)) (i := x1) (x := 0)
    generalize e_H3 : hs H2 (a0 + 16) x1 0 = H3 at h_r0_3 ⊢
    replace h := h H3 e_H3.symm
    refine a_aload_n dX6_assignByTargets_34 rfl rfl ?_
    refine a_getR dX6_assignByTargets_35 fw_RX6_35 rfl rfl (kSta_0 h_r0_3) (rSta_0_6 h_r0_3) ?_
    refine a_iload_n dX6_assignByTargets_38 rfl rfl ?_
    refine a_iconst dX6_assignByTargets_39 ⟨by decide, by decide⟩ ?_
    refine b_iast dX6_assignByTargets_40 (kSta_17 h_r0_3) (nSta_17 h_r0_3) q19_0 ?_
    have h_r0_4 := Lay.wr h_r0_3 ok_Sta (nrf_arr (kSta_17 h_r0_3) (by decide) (by decide)) (i := x1) (x := 0)
    generalize e_H4 : hs H3 (a0 + 17) x1 0 = H4 at h_r0_4 ⊢
    replace h := h H4 e_H4.symm
    obtain ⟨q41_0, h⟩ := h
    refine a_iinc dX6_assignByTargets_41 rfl (Nat.le_of_ble_eq_true rfl) (by decide) q41_0 (ls' := [vR a0, vI (x1 + 1), vU, vU]) rfl ?_
    refine a_goto dX6_assignByTargets_44 (tgt := 2) rfl ?_
    exact h

set_option maxRecDepth 20000 in
theorem s_X6_assignByTargets_49 {l : Launch} {G : GT} {d : Nat} {Q : AV → AH → Prop} {H : AH} {a0 x1 : Int} (h_r0 : Lay LSta H a0) (h : ((hg H (a0 + 5) 0) ≤ x1 → Q vV H) ∧ (x1 < (hg H (a0 + 5) 0) → AW l G mX6_assignByTargets (d + 1) 0 0 Q 64 [vR a0, vI x1, vI (-1), vI 0] [] 0 0 H)) : AW l G mX6_assignByTargets (d + 1) 0 0 Q 49 [vR a0, vI x1, vU, vU] [] 0 0 H := by
  refine a_iload_n dX6_assignByTargets_49 rfl rfl ?_
  refine a_aload_n dX6_assignByTargets_50 rfl rfl ?_
  refine a_getR dX6_assignByTargets_51 fw_RX6_21 rfl rfl (kSta_0 h_r0) (rSta_0_1 h_r0) ?_
  refine a_getI dX6_assignByTargets_54 fw_RX6_57 rfl rfl (kSta_5 h_r0) ?_
  refine a_icmp_ge dX6_assignByTargets_57 (tgt := 144) rfl (fun c57 => ?_) (fun c57 => ?_)
  · replace h := h.1 c57
    exact a_vret dX6_assignByTargets_144 rfl (Nat.le_of_ble_eq_true rfl) (Nat.le_of_ble_eq_true rfl) h
  · replace h := h.2 c57
    refine a_iconst dX6_assignByTargets_60 ⟨by decide, by decide⟩ ?_
    refine a_istore_n dX6_assignByTargets_61 rfl (Nat.le_of_ble_eq_true rfl) (ls' := [vR a0, vI x1, vI (-1), vU]) rfl ?_
    refine a_iconst dX6_assignByTargets_62 ⟨by decide, by decide⟩ ?_
    refine a_istore_n dX6_assignByTargets_63 rfl (Nat.le_of_ble_eq_true rfl) (ls' := [vR a0, vI x1, vI (-1), vI 0]) rfl ?_
    exact h

set_option maxRecDepth 20000 in
theorem s_X6_assignByTargets_64 {l : Launch} {G : GT} {d : Nat} {Q : AV → AH → Prop} {H : AH} {a0 x1 x2 x3 : Int} (h_r0 : Lay LSta H a0) (h : ((hg H (a0 + 5) 0) ≤ x3 → (x2 = (-1) → (-2147483648 ≤ x1 + 1 ∧ x1 + 1 ≤ 2147483647) ∧ AW l G mX6_assignByTargets (d + 1) 0 0 Q 49 [vR a0, vI (x1 + 1), vU, vU] [] 0 0 H) ∧ (¬ x2 = (-1) → CL l G mX6_emptiestFor d 0 0 [vR a0, vI x2] H (fun r9 H1 => Lay LSta H1 a0 ∧ ∃ y1 : Int, r9 = vI y1 ∧ (0 ≤ x2 ∧ x2 < 24) ∧ ∀ H2 : AH, H2 = hs H1 (a0 + 14) x2 y1 → (0 ≤ y1 ∧ y1 < 3) ∧ (-2147483648 ≤ (hg H2 (a0 + 20) y1) + 1 ∧ (hg H2 (a0 + 20) y1) + 1 ≤ 2147483647) ∧ ∀ H3 : AH, H3 = hs H2 (a0 + 20) y1 ((hg H2 (a0 + 20) y1) + 1) → (-2147483648 ≤ x1 + 1 ∧ x1 + 1 ≤ 2147483647) ∧ AW l G mX6_assignByTargets (d + 1) 0 0 Q 49 [vR a0, vI (x1 + 1), vU, vU] [] 0 0 H3))) ∧ (x3 < (hg H (a0 + 5) 0) → (0 ≤ x3 ∧ x3 < 24) ∧ (¬ (hg H (a0 + 14) x3) = (-1) → (-2147483648 ≤ x3 + 1 ∧ x3 + 1 ≤ 2147483647) ∧ AW l G mX6_assignByTargets (d + 1) 0 0 Q 64 [vR a0, vI x1, vI x2, vI (x3 + 1)] [] 0 0 H) ∧ ((hg H (a0 + 14) x3) = (-1) → (x2 = (-1) → (-2147483648 ≤ x3 + 1 ∧ x3 + 1 ≤ 2147483647) ∧ AW l G mX6_assignByTargets (d + 1) 0 0 Q 64 [vR a0, vI x1, vI x3, vI (x3 + 1)] [] 0 0 H) ∧ (¬ x2 = (-1) → CL l G mX0_comesBefore d 0 0 [vR (a0 + 5), vI x3, vI x2] H (fun r9 H1 => Lay LSta H1 a0 ∧ ∃ y1 : Int, r9 = vI y1 ∧ (y1 = 0 → (-2147483648 ≤ x3 + 1 ∧ x3 + 1 ≤ 2147483647) ∧ AW l G mX6_assignByTargets (d + 1) 0 0 Q 64 [vR a0, vI x1, vI x2, vI (x3 + 1)] [] 0 0 H1) ∧ (¬ y1 = 0 → (-2147483648 ≤ x3 + 1 ∧ x3 + 1 ≤ 2147483647) ∧ AW l G mX6_assignByTargets (d + 1) 0 0 Q 64 [vR a0, vI x1, vI x3, vI (x3 + 1)] [] 0 0 H1)))))) : AW l G mX6_assignByTargets (d + 1) 0 0 Q 64 [vR a0, vI x1, vI x2, vI x3] [] 0 0 H := by
  refine a_iload_n dX6_assignByTargets_64 rfl rfl ?_
  refine a_aload_n dX6_assignByTargets_65 rfl rfl ?_
  refine a_getR dX6_assignByTargets_66 fw_RX6_21 rfl rfl (kSta_0 h_r0) (rSta_0_1 h_r0) ?_
  refine a_getI dX6_assignByTargets_69 fw_RX6_57 rfl rfl (kSta_5 h_r0) ?_
  refine a_icmp_ge dX6_assignByTargets_72 (tgt := 110) rfl (fun c72 => ?_) (fun c72 => ?_)
  · replace h := h.1 c72
    refine a_iload_n dX6_assignByTargets_110 rfl rfl ?_
    refine a_iconst dX6_assignByTargets_111 ⟨by decide, by decide⟩ ?_
    refine a_icmp_eq dX6_assignByTargets_112 (tgt := 138) rfl (fun c112 => ?_) (fun c112 => ?_)
    · replace h := h.1 c112
      obtain ⟨q138_0, h⟩ := h
      refine a_iinc dX6_assignByTargets_138 rfl (Nat.le_of_ble_eq_true rfl) (by decide) q138_0 (ls' := [vR a0, vI (x1 + 1), vI x2, vI x3]) rfl ?_
      refine a_goto dX6_assignByTargets_141 (tgt := 49) rfl ?_
      exact a_weak (wk_e (wk_e (wk_u (wk_u wk_n)))) h
    · replace h := h.2 c112
      refine a_aload_n dX6_assignByTargets_115 rfl rfl ?_
      refine a_iload_n dX6_assignByTargets_116 rfl rfl ?_
      refine a_callV dX6_assignByTargets_117 cw_X6_assignByTargets_117 (as := [vI x2]) rfl rfl (kSta_0 h_r0) (Nat.le_refl _) (Nat.le_of_ble_eq_true rfl) (nocov rfl) (Nat.le_of_ble_eq_true rfl) (Nat.le_of_ble_eq_true rfl) (CL.mono h (fun r9 H1 h => ?_))
      obtain ⟨h_r0_1, y1, e9, h⟩ := h
      rw [e9]
      show AW l G mX6_assignByTargets (d + 1) 0 0 Q 120 [vR a0, vI x1, vI x2, vI x3] [vI y1] 0 0 H1
      refine a_istore_n dX6_assignByTargets_120 rfl (Nat.le_of_ble_eq_true rfl) (ls' := [vR a0, vI x1, vI x2, vI y1]) rfl ?_
      refine a_aload_n dX6_assignByTargets_121 rfl rfl ?_
      refine a_getR dX6_assignByTargets_122 fw_RX6_25 rfl rfl (kSta_0 h_r0_1) (rSta_0_3 h_r0_1) ?_
      refine a_iload_n dX6_assignByTargets_125 rfl rfl ?_
      refine a_iload_n dX6_assignByTargets_126 rfl rfl ?_
      obtain ⟨q127_0, h⟩ := h
      refine b_iast dX6_assignByTargets_127 (kSta_14 h_r0_1) (nSta_14 h_r0_1) q127_0 ?_
      have h_r0_2 := Lay.wr h_r0_1 ok_Sta (nrf_arr (kSta_14 h_r0_1) (by decide) (by decide)) (i := x2) (x := y1)
      generalize e_H2 : hs H1 (a0 + 14) x2 y1 = H2 at h_r0_2 ⊢
      replace h := h H2 e_H2.symm
      refine a_aload_n dX6_assignByTargets_128 rfl rfl ?_
      refine a_getR dX6_assignByTargets_129 fw_RX6_44 rfl rfl (kSta_0 h_r0_2) (rSta_0_10 h_r0_2) ?_
      refine a_iload_n dX6_assignByTargets_132 rfl rfl ?_
      refine a_dup2 dX6_assignByTargets_133 rfl rfl ?_
      obtain ⟨q134_0, h⟩ := h
      refine b_iald dX6_assignByTargets_134 (kSta_20 h_r0_2) (nSta_20 h_r0_2) q134_0 ?_
      refine a_iconst dX6_assignByTargets_135 ⟨by decide, by decide⟩ ?_
      obtain ⟨q136_0, h⟩ := h
      refine a_iadd dX6_assignByTargets_136 q136_0 ?_
      refine b_iast dX6_assignByTargets_137 (kSta_20 h_r0_2) (nSta_20 h_r0_2) q134_0 ?_
      have h_r0_3 := Lay.wr h_r0_2 ok_Sta (nrf_arr (kSta_20 h_r0_2) (by decide) (by decide)) (i := y1) (x := ((hg H2 (a0 + 20) y1) + 1))
      generalize e_H3 : hs H2 (a0 + 20) y1 ((hg H2 (a0 + 20) y1) + 1) = H3 at h_r0_3 ⊢
      replace h := h H3 e_H3.symm
      obtain ⟨q138_0, h⟩ := h
      refine a_iinc dX6_assignByTargets_138 rfl (Nat.le_of_ble_eq_true rfl) (by decide) q138_0 (ls' := [vR a0, vI (x1 + 1), vI x2, vI y1]) rfl ?_
      refine a_goto dX6_assignByTargets_141 (tgt := 49) rfl ?_
      exact a_weak (wk_e (wk_e (wk_u (wk_u wk_n)))) h
  · replace h := h.2 c72
    refine a_aload_n dX6_assignByTargets_75 rfl rfl ?_
    refine a_getR dX6_assignByTargets_76 fw_RX6_25 rfl rfl (kSta_0 h_r0) (rSta_0_3 h_r0) ?_
    refine a_iload_n dX6_assignByTargets_79 rfl rfl ?_
    obtain ⟨q80_0, h⟩ := h
    refine b_iald dX6_assignByTargets_80 (kSta_14 h_r0) (nSta_14 h_r0) q80_0 ?_
    refine a_iconst dX6_assignByTargets_81 ⟨by decide, by decide⟩ ?_
    refine a_icmp_ne dX6_assignByTargets_82 (tgt := 104) rfl (fun c82 => ?_) (fun c82 => ?_)
    · replace h := h.1 c82
      obtain ⟨q104_0, h⟩ := h
      refine a_iinc dX6_assignByTargets_104 rfl (Nat.le_of_ble_eq_true rfl) (by decide) q104_0 (ls' := [vR a0, vI x1, vI x2, vI (x3 + 1)]) rfl ?_
      refine a_goto dX6_assignByTargets_107 (tgt := 64) rfl ?_
      exact h
    · replace h := h.2 c82
      refine a_iload_n dX6_assignByTargets_85 rfl rfl ?_
      refine a_iconst dX6_assignByTargets_86 ⟨by decide, by decide⟩ ?_
      refine a_icmp_eq dX6_assignByTargets_87 (tgt := 102) rfl (fun c87 => ?_) (fun c87 => ?_)
      · replace h := h.1 c87
        refine a_iload_n dX6_assignByTargets_102 rfl rfl ?_
        refine a_istore_n dX6_assignByTargets_103 rfl (Nat.le_of_ble_eq_true rfl) (ls' := [vR a0, vI x1, vI x3, vI x3]) rfl ?_
        obtain ⟨q104_0, h⟩ := h
        refine a_iinc dX6_assignByTargets_104 rfl (Nat.le_of_ble_eq_true rfl) (by decide) q104_0 (ls' := [vR a0, vI x1, vI x3, vI (x3 + 1)]) rfl ?_
        refine a_goto dX6_assignByTargets_107 (tgt := 64) rfl ?_
        exact h
      · replace h := h.2 c87
        refine a_aload_n dX6_assignByTargets_90 rfl rfl ?_
        refine a_getR dX6_assignByTargets_91 fw_RX6_21 rfl rfl (kSta_0 h_r0) (rSta_0_1 h_r0) ?_
        refine a_iload_n dX6_assignByTargets_94 rfl rfl ?_
        refine a_iload_n dX6_assignByTargets_95 rfl rfl ?_
        refine a_callV dX6_assignByTargets_96 cw_X6_assignByTargets_96 (as := [vI x3, vI x2]) rfl rfl (kSta_5 h_r0) (Nat.le_refl _) (Nat.le_of_ble_eq_true rfl) (nocov rfl) (Nat.le_of_ble_eq_true rfl) (Nat.le_of_ble_eq_true rfl) (CL.mono h (fun r9 H1 h => ?_))
        obtain ⟨h_r0_1, y1, e9, h⟩ := h
        rw [e9]
        show AW l G mX6_assignByTargets (d + 1) 0 0 Q 99 [vR a0, vI x1, vI x2, vI x3] [vI y1] 0 0 H1
        refine a_if_eq dX6_assignByTargets_99 (tgt := 104) rfl (fun c99 => ?_) (fun c99 => ?_)
        · replace h := h.1 c99
          obtain ⟨q104_0, h⟩ := h
          refine a_iinc dX6_assignByTargets_104 rfl (Nat.le_of_ble_eq_true rfl) (by decide) q104_0 (ls' := [vR a0, vI x1, vI x2, vI (x3 + 1)]) rfl ?_
          refine a_goto dX6_assignByTargets_107 (tgt := 64) rfl ?_
          exact h
        · replace h := h.2 c99
          refine a_iload_n dX6_assignByTargets_102 rfl rfl ?_
          refine a_istore_n dX6_assignByTargets_103 rfl (Nat.le_of_ble_eq_true rfl) (ls' := [vR a0, vI x1, vI x3, vI x3]) rfl ?_
          obtain ⟨q104_0, h⟩ := h
          refine a_iinc dX6_assignByTargets_104 rfl (Nat.le_of_ble_eq_true rfl) (by decide) q104_0 (ls' := [vR a0, vI x1, vI x3, vI (x3 + 1)]) rfl ?_
          refine a_goto dX6_assignByTargets_107 (tgt := 64) rfl ?_
          exact h


