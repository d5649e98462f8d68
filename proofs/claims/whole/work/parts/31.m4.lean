theorem dX8_timeNow_0 : decode cX8_timeNow 0 = .ok (.aload_n 0, 1) := by decide +kernel
theorem dX8_timeNow_1 : decode cX8_timeNow 1 = .ok (.invokevirtual 261, 3) := by decide +kernel
theorem dX8_timeNow_4 : decode cX8_timeNow 4 = .ok (.aload_n 0, 1) := by decide +kernel
theorem dX8_timeNow_5 : decode cX8_timeNow 5 = .ok (.iload_n 1, 1) := by decide +kernel
theorem dX8_timeNow_6 : decode cX8_timeNow 6 = .ok (.invokevirtual 264, 3) := by decide +kernel
theorem dX8_timeNow_9 : decode cX8_timeNow 9 = .ok (.ifCond .eq 12, 3) := by decide +kernel
theorem dX8_timeNow_12 : decode cX8_timeNow 12 = .ok (.aload_n 0, 1) := by decide +kernel
theorem dX8_timeNow_13 : decode cX8_timeNow 13 = .ok (.getfield 39, 3) := by decide +kernel
theorem dX8_timeNow_16 : decode cX8_timeNow 16 = .ok (.iload_n 1, 1) := by decide +kernel
theorem dX8_timeNow_17 : decode cX8_timeNow 17 = .ok (.iaload, 1) := by decide +kernel
theorem dX8_timeNow_18 : decode cX8_timeNow 18 = .ok (.goto 10, 3) := by decide +kernel
theorem dX8_timeNow_21 : decode cX8_timeNow 21 = .ok (.aload_n 0, 1) := by decide +kernel
theorem dX8_timeNow_22 : decode cX8_timeNow 22 = .ok (.iload_n 1, 1) := by decide +kernel
theorem dX8_timeNow_23 : decode cX8_timeNow 23 = .ok (.bipush 8, 2) := by decide +kernel
theorem dX8_timeNow_25 : decode cX8_timeNow 25 = .ok (.invokevirtual 75, 3) := by decide +kernel
theorem dX8_timeNow_28 : decode cX8_timeNow 28 = .ok (.ireturn, 1) := by decide +kernel
set_option maxRecDepth 20000 in
theorem s_X8_timeNow_0 {l : Launch} {G : GT} {d : Nat} {Q : AV → AH → Prop} {H : AH} {a0 x1 : Int} {M : Row} (hW : MW H a0 M) (h : ∀ H1 : AH, only H H1 (pMks a0) → MW H1 a0 M → Made H1 a0 M → (0 ≤ x1 ∧ x1 < 24) ∧ (¬ (ofM M x1 7 = 0) → Q (vI (ofM M x1 8)) H1) ∧ (ofM M x1 7 = 0 → Q (vI (hg H1 (a0 + 10) x1)) H1)) (hd : 14 ≤ d := by omega) : AW l G mX8_timeNow (d + 1) 0 0 Q 0 [vR a0, vI x1] [] 0 0 H := by
  refine a_aload_n dX8_timeNow_0 rfl rfl ?_
  refine a_callV dX8_timeNow_1 cw_X8_timeNow_1 (as := []) rfl rfl (kMod_0 hW.1) (Nat.le_refl _) (Nat.le_of_ble_eq_true rfl) (nocov rfl) (Nat.le_of_ble_eq_true rfl) (Nat.le_of_ble_eq_true rfl) (CL.mono (c_makesQ (show MW H a0 M from ⟨hW.1, hW.2.1, hW.2.2⟩) ) (fun r9 H1 h9 => ?_))
  obtain ⟨e9, o_H1, hW_H1, hX_H1⟩ := h9
  rw [e9]
  replace h := h H1 o_H1 hW_H1 hX_H1
  show AW l G mX8_timeNow (d + 1) 0 0 Q 4 [vR a0, vI x1] [] 0 0 H1
  refine a_aload_n dX8_timeNow_4 rfl rfl ?_
  refine a_iload_n dX8_timeNow_5 rfl rfl ?_
  obtain ⟨q6_0, h⟩ := h
  refine a_callV dX8_timeNow_6 cw_X8_timeNow_6 (as := [vI x1]) rfl rfl (kMod_0 hW_H1.1) (Nat.le_refl _) (Nat.le_of_ble_eq_true rfl) (nocov rfl) (Nat.le_of_ble_eq_true rfl) (Nat.le_of_ble_eq_true rfl) (CL.mono (c_isPlanned hW_H1.1 q6_0) (fun r9 H9 h9 => ?_))
  rw [h9.1, h9.2]
  (try rw [hW_H1.2.1])
  show AW l G mX8_timeNow (d + 1) 0 0 Q 9 [vR a0, vI x1] [vI (bi (decide (ofM M x1 7 = 0)))] 0 0 H1
  refine a_if_eq dX8_timeNow_9 (tgt := 21) rfl (fun c9 => ?_) (fun c9 => ?_)
  · replace h := h.1 (bi_0 c9)
    refine a_aload_n dX8_timeNow_21 rfl rfl ?_
    refine a_iload_n dX8_timeNow_22 rfl rfl ?_
    refine a_bipush dX8_timeNow_23 (by decide) ?_
    refine a_callV dX8_timeNow_25 cw_X8_timeNow_25 (as := [vI x1, vI 8]) rfl rfl (kMod_0 hW_H1.1) (Nat.le_refl _) (Nat.le_of_ble_eq_true rfl) (nocov rfl) (Nat.le_of_ble_eq_true rfl) (Nat.le_of_ble_eq_true rfl) (CL.mono (c_of hW_H1.1 ⟨q6_0.1, q6_0.2, by decide, by decide⟩) (fun r9 H9 h9 => ?_))
    rw [h9.1, h9.2]
    (try rw [hW_H1.2.1])
    show AW l G mX8_timeNow (d + 1) 0 0 Q 28 [vR a0, vI x1] [vI (ofM M x1 8)] 0 0 H1
    exact a_iret dX8_timeNow_28 rfl (Nat.le_of_ble_eq_true rfl) (Nat.le_of_ble_eq_true rfl) h
  · replace h := h.2 (bi_1 c9)
    refine a_aload_n dX8_timeNow_12 rfl rfl ?_
    refine a_getR dX8_timeNow_13 fw_RX8_39 rfl rfl (kMod_0 hW_H1.1) (rMod_0_17 hW_H1.1) ?_
    refine a_iload_n dX8_timeNow_16 rfl rfl ?_
    refine b_iald dX8_timeNow_17 (kMod_10 hW_H1.1) (nMod_10 hW_H1.1) q6_0 ?_
    refine a_goto dX8_timeNow_18 (tgt := 28) rfl ?_
    exact a_iret dX8_timeNow_28 rfl (Nat.le_of_ble_eq_true rfl) (Nat.le_of_ble_eq_true rfl) h

theorem c_timeNow {l : Launch} {G : GT} {d : Nat} {H : AH} {a f : Int} {M : Row} (hW : MW H a M) (hf : 0 ≤ f ∧ f < M 6) (hd : 15 ≤ d := by omega) : CL l G mX8_timeNow d 0 0 [vR a, vI f] H (qP a M (vI (tmNow M f)) H) := by
  obtain ⟨d, rfl⟩ : ∃ k, d = k + 1 := ⟨d - 1, by omega⟩
  have hn := okM_n hW.2.2.1
  refine CL.of (by decide) rfl (Nat.le_of_ble_eq_true rfl) (s_X8_timeNow_0 hW fun H1 o1 w1 m1 => ⟨by omega, fun c => ⟨by rw [tmNow, if_neg c], o1, w1⟩, fun c => ⟨by rw [tmNow, if_pos c, m1.time hW.2.2.1 hf c], o1, w1⟩⟩)

theorem dX8_isLateNow_0 : decode cX8_isLateNow 0 = .ok (.aload_n 0, 1) := by decide +kernel
theorem dX8_isLateNow_1 : decode cX8_isLateNow 1 = .ok (.iload_n 1, 1) := by decide +kernel
theorem dX8_isLateNow_2 : decode cX8_isLateNow 2 = .ok (.invokevirtual 267, 3) := by decide +kernel
theorem dX8_isLateNow_5 : decode cX8_isLateNow 5 = .ok (.ifCond .eq 21, 3) := by decide +kernel
theorem dX8_isLateNow_8 : decode cX8_isLateNow 8 = .ok (.aload_n 0, 1) := by decide +kernel
theorem dX8_isLateNow_9 : decode cX8_isLateNow 9 = .ok (.iload_n 1, 1) := by decide +kernel
theorem dX8_isLateNow_10 : decode cX8_isLateNow 10 = .ok (.invokevirtual 270, 3) := by decide +kernel
theorem dX8_isLateNow_13 : decode cX8_isLateNow 13 = .ok (.aload_n 0, 1) := by decide +kernel
theorem dX8_isLateNow_14 : decode cX8_isLateNow 14 = .ok (.iload_n 1, 1) := by decide +kernel
theorem dX8_isLateNow_15 : decode cX8_isLateNow 15 = .ok (.iconst 4, 1) := by decide +kernel
theorem dX8_isLateNow_16 : decode cX8_isLateNow 16 = .ok (.invokevirtual 75, 3) := by decide +kernel
theorem dX8_isLateNow_19 : decode cX8_isLateNow 19 = .ok (.if_icmp .le 7, 3) := by decide +kernel
theorem dX8_isLateNow_22 : decode cX8_isLateNow 22 = .ok (.iconst 1, 1) := by decide +kernel
theorem dX8_isLateNow_23 : decode cX8_isLateNow 23 = .ok (.goto 4, 3) := by decide +kernel
theorem dX8_isLateNow_26 : decode cX8_isLateNow 26 = .ok (.iconst 0, 1) := by decide +kernel
theorem dX8_isLateNow_27 : decode cX8_isLateNow 27 = .ok (.ireturn, 1) := by decide +kernel
set_option maxRecDepth 20000 in
theorem s_X8_isLateNow_0 {l : Launch} {G : GT} {d : Nat} {Q : AV → AH → Prop} {H : AH} {a0 x1 : Int} {M : Row} (hW : MW H a0 M) (h : (0 ≤ x1 ∧ x1 < 24) ∧ (¬ (¬ ofM M x1 7 = 3) → Q (vI 0) H) ∧ (¬ ofM M x1 7 = 3 → (0 ≤ x1 ∧ x1 < M 6) ∧ ∀ H1 : AH, only H H1 (pMks a0) → MW H1 a0 M → ((tmNow M x1) ≤ (ofM M x1 4) → Q (vI 0) H1) ∧ ((ofM M x1 4) < (tmNow M x1) → Q (vI 1) H1))) (hd : 15 ≤ d := by omega) : AW l G mX8_isLateNow (d + 1) 0 0 Q 0 [vR a0, vI x1] [] 0 0 H := by
  refine a_aload_n dX8_isLateNow_0 rfl rfl ?_
  refine a_iload_n dX8_isLateNow_1 rfl rfl ?_
  obtain ⟨q2_0, h⟩ := h
  refine a_callV dX8_isLateNow_2 cw_X8_isLateNow_2 (as := [vI x1]) rfl rfl (kMod_0 hW.1) (Nat.le_refl _) (Nat.le_of_ble_eq_true rfl) (nocov rfl) (Nat.le_of_ble_eq_true rfl) (Nat.le_of_ble_eq_true rfl) (CL.mono (c_isThere hW.1 q2_0) (fun r9 H9 h9 => ?_))
  rw [h9.1, h9.2]
  (try rw [hW.2.1])
  show AW l G mX8_isLateNow (d + 1) 0 0 Q 5 [vR a0, vI x1] [vI (bi (decide (¬ ofM M x1 7 = 3)))] 0 0 H
  refine a_if_eq dX8_isLateNow_5 (tgt := 26) rfl (fun c5 => ?_) (fun c5 => ?_)
  · replace h := h.1 (bi_0 c5)
    refine a_iconst dX8_isLateNow_26 ⟨by decide, by decide⟩ ?_
    exact a_zret dX8_isLateNow_27 rfl (by decide) (Nat.le_of_ble_eq_true rfl) (Nat.le_of_ble_eq_true rfl) h
  · replace h := h.2 (bi_1 c5)
    refine a_aload_n dX8_isLateNow_8 rfl rfl ?_
    refine a_iload_n dX8_isLateNow_9 rfl rfl ?_
    obtain ⟨q10_0, h⟩ := h
    refine a_callV dX8_isLateNow_10 cw_X8_isLateNow_10 (as := [vI x1]) rfl rfl (kMod_0 hW.1) (Nat.le_refl _) (Nat.le_of_ble_eq_true rfl) (nocov rfl) (Nat.le_of_ble_eq_true rfl) (Nat.le_of_ble_eq_true rfl) (CL.mono (c_timeNow (show MW H a0 M from ⟨hW.1, hW.2.1, hW.2.2⟩) q10_0) (fun r9 H1 h9 => ?_))
    obtain ⟨e9, o_H1, hW_H1⟩ := h9
    rw [e9]
    replace h := h H1 o_H1 hW_H1
    show AW l G mX8_isLateNow (d + 1) 0 0 Q 13 [vR a0, vI x1] [vI (tmNow M x1)] 0 0 H1
    refine a_aload_n dX8_isLateNow_13 rfl rfl ?_
    refine a_iload_n dX8_isLateNow_14 rfl rfl ?_
    refine a_iconst dX8_isLateNow_15 ⟨by decide, by decide⟩ ?_
    refine a_callV dX8_isLateNow_16 cw_X8_isLateNow_16 (as := [vI x1, vI 4]) rfl rfl (kMod_0 hW_H1.1) (Nat.le_refl _) (Nat.le_of_ble_eq_true rfl) (nocov rfl) (Nat.le_of_ble_eq_true rfl) (Nat.le_of_ble_eq_true rfl) (CL.mono (c_of hW_H1.1 ⟨q2_0.1, q2_0.2, by decide, by decide⟩) (fun r9 H9 h9 => ?_))
    rw [h9.1, h9.2]
    (try rw [hW_H1.2.1])
    show AW l G mX8_isLateNow (d + 1) 0 0 Q 19 [vR a0, vI x1] [vI (ofM M x1 4), vI (tmNow M x1)] 0 0 H1
    refine a_icmp_le dX8_isLateNow_19 (tgt := 26) rfl (fun c19 => ?_) (fun c19 => ?_)
    · replace h := h.1 c19
      refine a_iconst dX8_isLateNow_26 ⟨by decide, by decide⟩ ?_
      exact a_zret dX8_isLateNow_27 rfl (by decide) (Nat.le_of_ble_eq_true rfl) (Nat.le_of_ble_eq_true rfl) h
    · replace h := h.2 c19
      refine a_iconst dX8_isLateNow_22 ⟨by decide, by decide⟩ ?_
      refine a_goto dX8_isLateNow_23 (tgt := 27) rfl ?_
      exact a_zret dX8_isLateNow_27 rfl (by decide) (Nat.le_of_ble_eq_true rfl) (Nat.le_of_ble_eq_true rfl) h

theorem c_isLateNow {l : Launch} {G : GT} {d : Nat} {H : AH} {a f : Int} {M : Row} (hW : MW H a M) (hf : 0 ≤ f ∧ f < M 6) (hd : 16 ≤ d := by omega) : CL l G mX8_isLateNow d 0 0 [vR a, vI f] H (qP a M (vI (bi (decide (¬ ofM M f 7 = 3 ∧ ofM M f 4 < tmNow M f)))) H) := by
  obtain ⟨d, rfl⟩ : ∃ k, d = k + 1 := ⟨d - 1, by omega⟩
  have hn := okM_n hW.2.2.1
  refine CL.of (by decide) rfl (Nat.le_of_ble_eq_true rfl) (s_X8_isLateNow_0 hW ⟨by omega, fun c => ⟨by rw [bi_f (fun q => c q.1)], only.rf, hW⟩, fun c => ⟨hf, fun H1 o1 w1 => ⟨fun c2 => ⟨by rw [bi_f (fun q => by omega)], o1, w1⟩, fun c2 => ⟨by rw [bi_t ⟨c, c2⟩], o1, w1⟩⟩⟩⟩)

theorem dX8_costNow_0 : decode cX8_costNow 0 = .ok (.aload_n 0, 1) := by decide +kernel
theorem dX8_costNow_1 : decode cX8_costNow 1 = .ok (.iload_n 1, 1) := by decide +kernel
theorem dX8_costNow_2 : decode cX8_costNow 2 = .ok (.invokevirtual 267, 3) := by decide +kernel
theorem dX8_costNow_5 : decode cX8_costNow 5 = .ok (.ifCond .eq 16, 3) := by decide +kernel
theorem dX8_costNow_8 : decode cX8_costNow 8 = .ok (.aload_n 0, 1) := by decide +kernel
theorem dX8_costNow_9 : decode cX8_costNow 9 = .ok (.iload_n 1, 1) := by decide +kernel
theorem dX8_costNow_10 : decode cX8_costNow 10 = .ok (.aload_n 0, 1) := by decide +kernel
theorem dX8_costNow_11 : decode cX8_costNow 11 = .ok (.iload_n 1, 1) := by decide +kernel
theorem dX8_costNow_12 : decode cX8_costNow 12 = .ok (.invokevirtual 270, 3) := by decide +kernel
theorem dX8_costNow_15 : decode cX8_costNow 15 = .ok (.invokevirtual 236, 3) := by decide +kernel
theorem dX8_costNow_18 : decode cX8_costNow 18 = .ok (.goto 4, 3) := by decide +kernel
theorem dX8_costNow_21 : decode cX8_costNow 21 = .ok (.lconst 0, 1) := by decide +kernel
theorem dX8_costNow_22 : decode cX8_costNow 22 = .ok (.lreturn, 1) := by decide +kernel
set_option maxRecDepth 20000 in
theorem s_X8_costNow_0 {l : Launch} {G : GT} {d : Nat} {Q : AV → AH → Prop} {H : AH} {a0 x1 : Int} {M : Row} (hW : MW H a0 M) (h : (0 ≤ x1 ∧ x1 < 24) ∧ (¬ (¬ ofM M x1 7 = 3) → Q (vJ 0) H) ∧ (¬ ofM M x1 7 = 3 → (0 ≤ x1 ∧ x1 < M 6) ∧ ∀ H1 : AH, only H H1 (pMks a0) → MW H1 a0 M → (0 ≤ (tmNow M x1) ∧ (tmNow M x1) ≤ 400000) ∧ Q (vJ (costM M x1 (tmNow M x1))) H1)) (hd : 15 ≤ d := by omega) : AW l G mX8_costNow (d + 1) 0 0 Q 0 [vR a0, vI x1] [] 0 0 H := by
  refine a_aload_n dX8_costNow_0 rfl rfl ?_
  refine a_iload_n dX8_costNow_1 rfl rfl ?_
  obtain ⟨q2_0, h⟩ := h
  refine a_callV dX8_costNow_2 cw_X8_costNow_2 (as := [vI x1]) rfl rfl (kMod_0 hW.1) (Nat.le_refl _) (Nat.le_of_ble_eq_true rfl) (nocov rfl) (Nat.le_of_ble_eq_true rfl) (Nat.le_of_ble_eq_true rfl) (CL.mono (c_isThere hW.1 q2_0) (fun r9 H9 h9 => ?_))
  rw [h9.1, h9.2]
  (try rw [hW.2.1])
  show AW l G mX8_costNow (d + 1) 0 0 Q 5 [vR a0, vI x1] [vI (bi (decide (¬ ofM M x1 7 = 3)))] 0 0 H
  refine a_if_eq dX8_costNow_5 (tgt := 21) rfl (fun c5 => ?_) (fun c5 => ?_)
  · replace h := h.1 (bi_0 c5)
    refine a_lconst dX8_costNow_21 ?_
    show AW l G mX8_costNow (d + 1) 0 0 Q 22 [vR a0, vI x1] [vJ 0] 0 0 H
    exact a_lret dX8_costNow_22 rfl (Nat.le_of_ble_eq_true rfl) (Nat.le_of_ble_eq_true rfl) h
  · replace h := h.2 (bi_1 c5)
    refine a_aload_n dX8_costNow_8 rfl rfl ?_
    refine a_iload_n dX8_costNow_9 rfl rfl ?_
    refine a_aload_n dX8_costNow_10 rfl rfl ?_
    refine a_iload_n dX8_costNow_11 rfl rfl ?_
    obtain ⟨q12_0, h⟩ := h
    refine a_callV dX8_costNow_12 cw_X8_costNow_12 (as := [vI x1]) rfl rfl (kMod_0 hW.1) (Nat.le_refl _) (Nat.le_of_ble_eq_true rfl) (nocov rfl) (Nat.le_of_ble_eq_true rfl) (Nat.le_of_ble_eq_true rfl) (CL.mono (c_timeNow (show MW H a0 M from ⟨hW.1, hW.2.1, hW.2.2⟩) q12_0) (fun r9 H1 h9 => ?_))
    obtain ⟨e9, o_H1, hW_H1⟩ := h9
    rw [e9]
    replace h := h H1 o_H1 hW_H1
    show AW l G mX8_costNow (d + 1) 0 0 Q 15 [vR a0, vI x1] [vI (tmNow M x1), vI x1, vR a0] 0 0 H1
    obtain ⟨q15_2, h⟩ := h
    refine a_callV dX8_costNow_15 cw_X8_costNow_15 (as := [vI x1, vI (tmNow M x1)]) rfl rfl (kMod_0 hW_H1.1) (Nat.le_refl _) (Nat.le_of_ble_eq_true rfl) (nocov rfl) (Nat.le_of_ble_eq_true rfl) (Nat.le_of_ble_eq_true rfl) (CL.mono (c_costAt hW_H1.1 (by rw [hW_H1.2.1]; exact hW_H1.2.2.1) (by rw [hW_H1.2.1]; exact q12_0) q15_2) (fun r9 H9 h9 => ?_))
    rw [h9.1, h9.2]
    (try rw [hW_H1.2.1])
    show AW l G mX8_costNow (d + 1) 0 0 Q 18 [vR a0, vI x1] [vJ (costM M x1 (tmNow M x1))] 0 0 H1
    refine a_goto dX8_costNow_18 (tgt := 22) rfl ?_
    exact a_lret dX8_costNow_22 rfl (Nat.le_of_ble_eq_true rfl) (Nat.le_of_ble_eq_true rfl) h

noncomputable def cNow (M : Row) (f : Int) : Int := if ofM M f 7 = 3 then 0 else costM M f (tmNow M f)
theorem cNow_in {M : Row} (hM : okM M) {f : Int} (hf : 0 ≤ f ∧ f < M 6) : 0 ≤ cNow M f ∧ cNow M f ≤ 5000000000 := by
  unfold cNow
  split
  · omega
  · have h1 := tmNow_in hM hf (by assumption)
    exact hM.cost hf (by omega)
theorem c_costNow {l : Launch} {G : GT} {d : Nat} {H : AH} {a f : Int} {M : Row} (hW : MW H a M) (hf : 0 ≤ f ∧ f < M 6) (hd : 16 ≤ d := by omega) : CL l G mX8_costNow d 0 0 [vR a, vI f] H (qP a M (vJ (cNow M f)) H) := by
  obtain ⟨d, rfl⟩ : ∃ k, d = k + 1 := ⟨d - 1, by omega⟩
  have hn := okM_n hW.2.2.1
  refine CL.of (by decide) rfl (Nat.le_of_ble_eq_true rfl) (s_X8_costNow_0 hW ⟨by omega, fun c => ⟨by rw [cNow, if_pos (Decidable.byContradiction c)], only.rf, hW⟩, fun c => ⟨hf, fun H1 o1 w1 => ⟨by have := tmNow_in hW.2.2.1 hf c; omega, by rw [cNow, if_neg c], o1, w1⟩⟩⟩)

theorem dX8_total_0 : decode cX8_total 0 = .ok (.lconst 0, 1) := by decide +kernel
theorem dX8_total_1 : decode cX8_total 1 = .ok (.lstore_n 1, 1) := by decide +kernel
theorem dX8_total_2 : decode cX8_total 2 = .ok (.iconst 0, 1) := by decide +kernel
theorem dX8_total_3 : decode cX8_total 3 = .ok (.istore_n 3, 1) := by decide +kernel
theorem dX8_total_4 : decode cX8_total 4 = .ok (.iload_n 3, 1) := by decide +kernel
theorem dX8_total_5 : decode cX8_total 5 = .ok (.aload_n 0, 1) := by decide +kernel
theorem dX8_total_6 : decode cX8_total 6 = .ok (.getfield 9, 3) := by decide +kernel
theorem dX8_total_9 : decode cX8_total 9 = .ok (.bipush 6, 2) := by decide +kernel
theorem dX8_total_11 : decode cX8_total 11 = .ok (.iaload, 1) := by decide +kernel
theorem dX8_total_12 : decode cX8_total 12 = .ok (.if_icmp .ge 17, 3) := by decide +kernel
theorem dX8_total_15 : decode cX8_total 15 = .ok (.lload_n 1, 1) := by decide +kernel
theorem dX8_total_16 : decode cX8_total 16 = .ok (.aload_n 0, 1) := by decide +kernel
theorem dX8_total_17 : decode cX8_total 17 = .ok (.iload_n 3, 1) := by decide +kernel
theorem dX8_total_18 : decode cX8_total 18 = .ok (.invokevirtual 282, 3) := by decide +kernel
theorem dX8_total_21 : decode cX8_total 21 = .ok (.ladd, 1) := by decide +kernel
theorem dX8_total_22 : decode cX8_total 22 = .ok (.lstore_n 1, 1) := by decide +kernel
theorem dX8_total_23 : decode cX8_total 23 = .ok (.iinc 3 1, 3) := by decide +kernel
theorem dX8_total_26 : decode cX8_total 26 = .ok (.goto (-22), 3) := by decide +kernel
theorem dX8_total_29 : decode cX8_total 29 = .ok (.lload_n 1, 1) := by decide +kernel
theorem dX8_total_30 : decode cX8_total 30 = .ok (.lreturn, 1) := by decide +kernel
set_option maxRecDepth 20000 in
theorem s_X8_total_0 {l : Launch} {G : GT} {d : Nat} {Q : AV → AH → Prop} {H : AH} {a0 : Int} {M : Row} (hW : MW H a0 M) (h : AW l G mX8_total (d + 1) 0 0 Q 4 [vR a0, vJ 0, vU, vI 0] [] 0 0 H) (hd : 16 ≤ d := by omega) : AW l G mX8_total (d + 1) 0 0 Q 0 [vR a0, vU, vU, vU] [] 0 0 H := by
  refine a_lconst dX8_total_0 ?_
  show AW l G mX8_total (d + 1) 0 0 Q 1 [vR a0, vU, vU, vU] [vJ 0] 0 0 H
  refine a_lstore_n dX8_total_1 rfl (Nat.le_of_ble_eq_true rfl) (ls' := [vR a0, vJ 0, vU, vU]) rfl ?_
  refine a_iconst dX8_total_2 ⟨by decide, by decide⟩ ?_
  refine a_istore_n dX8_total_3 rfl (Nat.le_of_ble_eq_true rfl) (ls' := [vR a0, vJ 0, vU, vI 0]) rfl ?_
  exact h

set_option maxRecDepth 20000 in
theorem s_X8_total_4 {l : Launch} {G : GT} {d : Nat} {Q : AV → AH → Prop} {H : AH} {a0 x1 x3 : Int} {M : Row} (hW : MW H a0 M) (h : ((M 6) ≤ x3 → Q (vJ x1) H) ∧ (x3 < (M 6) → (0 ≤ x3 ∧ x3 < M 6) ∧ ∀ H1 : AH, only H H1 (pMks a0) → MW H1 a0 M → (-9223372036854775808 ≤ x1 + (cNow M x3) ∧ x1 + (cNow M x3) ≤ 9223372036854775807) ∧ (-2147483648 ≤ x3 + 1 ∧ x3 + 1 ≤ 2147483647) ∧ AW l G mX8_total (d + 1) 0 0 Q 4 [vR a0, vJ (x1 + (cNow M x3)), vU, vI (x3 + 1)] [] 0 0 H1)) (hd : 16 ≤ d := by omega) : AW l G mX8_total (d + 1) 0 0 Q 4 [vR a0, vJ x1, vU, vI x3] [] 0 0 H := by
  refine a_iload_n dX8_total_4 rfl rfl ?_
  refine a_aload_n dX8_total_5 rfl rfl ?_
  refine a_getR dX8_total_6 fw_RX8_9 rfl rfl (kMod_0 hW.1) (rMod_0_0 hW.1) ?_
  refine a_bipush dX8_total_9 (by decide) ?_
  refine b_ialdV dX8_total_11 (kMod_1 hW.1) (nMod_1 hW.1) (⟨by decide, by decide⟩) (congrFun hW.2.1 _) ?_
  refine a_icmp_ge dX8_total_12 (tgt := 29) rfl (fun c12 => ?_) (fun c12 => ?_)
  · replace h := h.1 c12
    refine a_lload_n dX8_total_29 rfl rfl ?_
    exact a_lret dX8_total_30 rfl (Nat.le_of_ble_eq_true rfl) (Nat.le_of_ble_eq_true rfl) h
  · replace h := h.2 c12
    refine a_lload_n dX8_total_15 rfl rfl ?_
    refine a_aload_n dX8_total_16 rfl rfl ?_
    refine a_iload_n dX8_total_17 rfl rfl ?_
    obtain ⟨q18_0, h⟩ := h
    refine a_callV dX8_total_18 cw_X8_total_18 (as := [vI x3]) rfl rfl (kMod_0 hW.1) (Nat.le_refl _) (Nat.le_of_ble_eq_true rfl) (nocov rfl) (Nat.le_of_ble_eq_true rfl) (Nat.le_of_ble_eq_true rfl) (CL.mono (c_costNow (show MW H a0 M from ⟨hW.1, hW.2.1, hW.2.2⟩) q18_0) (fun r9 H1 h9 => ?_))
    obtain ⟨e9, o_H1, hW_H1⟩ := h9
    rw [e9]
    replace h := h H1 o_H1 hW_H1
    show AW l G mX8_total (d + 1) 0 0 Q 21 [vR a0, vJ x1, vU, vI x3] [vJ (cNow M x3), vJ x1] 0 0 H1
    obtain ⟨q21_0, h⟩ := h
    refine a_ladd dX8_total_21 q21_0 ?_
    refine a_lstore_n dX8_total_22 rfl (Nat.le_of_ble_eq_true rfl) (ls' := [vR a0, vJ (x1 + (cNow M x3)), vU, vI x3]) rfl ?_
    obtain ⟨q23_0, h⟩ := h
    refine a_iinc dX8_total_23 rfl (Nat.le_of_ble_eq_true rfl) (by decide) q23_0 (ls' := [vR a0, vJ (x1 + (cNow M x3)), vU, vI (x3 + 1)]) rfl ?_
    refine a_goto dX8_total_26 (tgt := 4) rfl ?_
    exact h

def sm (f : Nat → Int) : Nat → Int
  | 0 => 0
  | n + 1 => sm f n + f n
theorem sm_in {f : Nat → Int} {lo hi : Int} : ∀ {n : Nat}, (∀ k, k < n → lo ≤ f k ∧ f k ≤ hi) → lo * n ≤ sm f n ∧ sm f n ≤ hi * n
  | 0, _ => by simp [sm]
  | n + 1, h => by
    have h1 := sm_in (n := n) (fun k hk => h k (by omega))
    have h2 := h n (by omega)
    unfold sm
    rw [Int.natCast_add, Int.mul_add, Int.mul_add]
    simp
    omega
theorem sm_congr {f g : Nat → Int} : ∀ {n : Nat}, (∀ k, k < n → f k = g k) → sm f n = sm g n
  | 0, _ => rfl
  | n + 1, h => by rw [sm, sm, sm_congr (fun k hk => h k (by omega)), h n (by omega)]
noncomputable def totM (M : Row) : Int := sm (fun k => cNow M k) (M 6).toNat
theorem c_total {l : Launch} {G : GT} {d : Nat} {H : AH} {a : Int} {M : Row} (hW : MW H a M) (hd : 17 ≤ d := by omega) : CL l G mX8_total d 0 0 [vR a] H (qP a M (vJ (totM M)) H) := by
  obtain ⟨d, rfl⟩ : ∃ k, d = k + 1 := ⟨d - 1, by omega⟩
  have hn := okM_n hW.2.2.1
  refine CL.of (by decide) rfl (Nat.le_of_ble_eq_true rfl) ?_
  have key : ∀ j, j ≤ (M 6).toNat → ∀ H', only H H' (pMks a) → MW H' a M → AW l G mX8_total (d + 1) 0 0 (qP a M (vJ (totM M)) H) 4 [vR a, vJ (sm (fun k => cNow M k) j), vU, vI j] [] 0 0 H' := by
    refine upN _ ?_ ?_
    · intro j hj ih H' ho hW'
      have hs := sm_in (f := fun k => cNow M k) (lo := 0) (hi := 5000000000) (n := j) (fun k hk => cNow_in hW.2.2.1 ⟨by omega, by omega⟩)
      have hc := cNow_in hW.2.2.1 (f := j) ⟨by omega, by omega⟩
      exact s_X8_total_4 hW' ⟨fun c => absurd c (by omega), fun c => ⟨by omega, fun H1 o1 w1 => ⟨by omega, by omega, ih H1 (ho.trans o1) w1⟩⟩⟩
    · intro H' ho hW'
      exact s_X8_total_4 hW' ⟨fun _ => ⟨rfl, ho, hW'⟩, fun c => absurd c (by omega)⟩
  exact s_X8_total_0 hW (key 0 (Nat.zero_le _) H only.rf hW)

theorem dX8_mean_0 : decode cX8_mean 0 = .ok (.lconst 0, 1) := by decide +kernel
theorem dX8_mean_1 : decode cX8_mean 1 = .ok (.lstore_n 1, 1) := by decide +kernel
theorem dX8_mean_2 : decode cX8_mean 2 = .ok (.iconst 0, 1) := by decide +kernel
theorem dX8_mean_3 : decode cX8_mean 3 = .ok (.istore_n 3, 1) := by decide +kernel
theorem dX8_mean_4 : decode cX8_mean 4 = .ok (.iconst 0, 1) := by decide +kernel
theorem dX8_mean_5 : decode cX8_mean 5 = .ok (.istore 4, 2) := by decide +kernel
theorem dX8_mean_7 : decode cX8_mean 7 = .ok (.iload 4, 2) := by decide +kernel
theorem dX8_mean_9 : decode cX8_mean 9 = .ok (.aload_n 0, 1) := by decide +kernel
theorem dX8_mean_10 : decode cX8_mean 10 = .ok (.getfield 9, 3) := by decide +kernel
theorem dX8_mean_13 : decode cX8_mean 13 = .ok (.bipush 6, 2) := by decide +kernel
theorem dX8_mean_15 : decode cX8_mean 15 = .ok (.iaload, 1) := by decide +kernel
theorem dX8_mean_16 : decode cX8_mean 16 = .ok (.if_icmp .ge 39, 3) := by decide +kernel
theorem dX8_mean_19 : decode cX8_mean 19 = .ok (.aload_n 0, 1) := by decide +kernel
theorem dX8_mean_20 : decode cX8_mean 20 = .ok (.iload 4, 2) := by decide +kernel
theorem dX8_mean_22 : decode cX8_mean 22 = .ok (.invokevirtual 267, 3) := by decide +kernel
theorem dX8_mean_25 : decode cX8_mean 25 = .ok (.ifCond .eq 24, 3) := by decide +kernel
theorem dX8_mean_28 : decode cX8_mean 28 = .ok (.lload_n 1, 1) := by decide +kernel
theorem dX8_mean_29 : decode cX8_mean 29 = .ok (.aload_n 0, 1) := by decide +kernel
theorem dX8_mean_30 : decode cX8_mean 30 = .ok (.iload 4, 2) := by decide +kernel
theorem dX8_mean_32 : decode cX8_mean 32 = .ok (.invokevirtual 270, 3) := by decide +kernel
theorem dX8_mean_35 : decode cX8_mean 35 = .ok (.aload_n 0, 1) := by decide +kernel
theorem dX8_mean_36 : decode cX8_mean 36 = .ok (.iload 4, 2) := by decide +kernel
theorem dX8_mean_38 : decode cX8_mean 38 = .ok (.iconst 2, 1) := by decide +kernel
theorem dX8_mean_39 : decode cX8_mean 39 = .ok (.invokevirtual 75, 3) := by decide +kernel
theorem dX8_mean_42 : decode cX8_mean 42 = .ok (.isub, 1) := by decide +kernel
theorem dX8_mean_43 : decode cX8_mean 43 = .ok (.i2l, 1) := by decide +kernel
theorem dX8_mean_44 : decode cX8_mean 44 = .ok (.ladd, 1) := by decide +kernel
theorem dX8_mean_45 : decode cX8_mean 45 = .ok (.lstore_n 1, 1) := by decide +kernel
theorem dX8_mean_46 : decode cX8_mean 46 = .ok (.iinc 3 1, 3) := by decide +kernel
theorem dX8_mean_49 : decode cX8_mean 49 = .ok (.iinc 4 1, 3) := by decide +kernel
theorem dX8_mean_52 : decode cX8_mean 52 = .ok (.goto (-45), 3) := by decide +kernel
theorem dX8_mean_55 : decode cX8_mean 55 = .ok (.iload_n 3, 1) := by decide +kernel
theorem dX8_mean_56 : decode cX8_mean 56 = .ok (.ifCond .ne 7, 3) := by decide +kernel
theorem dX8_mean_59 : decode cX8_mean 59 = .ok (.fconst 0, 1) := by decide +kernel
theorem dX8_mean_60 : decode cX8_mean 60 = .ok (.goto 8, 3) := by decide +kernel
theorem dX8_mean_63 : decode cX8_mean 63 = .ok (.lload_n 1, 1) := by decide +kernel
theorem dX8_mean_64 : decode cX8_mean 64 = .ok (.l2f, 1) := by decide +kernel
theorem dX8_mean_65 : decode cX8_mean 65 = .ok (.iload_n 3, 1) := by decide +kernel
theorem dX8_mean_66 : decode cX8_mean 66 = .ok (.i2f, 1) := by decide +kernel
theorem dX8_mean_67 : decode cX8_mean 67 = .ok (.fdiv, 1) := by decide +kernel
theorem dX8_mean_68 : decode cX8_mean 68 = .ok (.freturn, 1) := by decide +kernel
set_option maxRecDepth 20000 in
theorem s_X8_mean_0 {l : Launch} {G : GT} {d : Nat} {Q : AV → AH → Prop} {H : AH} {a0 : Int} {M : Row} (hW : MW H a0 M) (h : AW l G mX8_mean (d + 1) 0 0 Q 7 [vR a0, vJ 0, vU, vI 0, vI 0] [] 0 0 H) (hd : 15 ≤ d := by omega) : AW l G mX8_mean (d + 1) 0 0 Q 0 [vR a0, vU, vU, vU, vU] [] 0 0 H := by
  refine a_lconst dX8_mean_0 ?_
  show AW l G mX8_mean (d + 1) 0 0 Q 1 [vR a0, vU, vU, vU, vU] [vJ 0] 0 0 H
  refine a_lstore_n dX8_mean_1 rfl (Nat.le_of_ble_eq_true rfl) (ls' := [vR a0, vJ 0, vU, vU, vU]) rfl ?_
  refine a_iconst dX8_mean_2 ⟨by decide, by decide⟩ ?_
  refine a_istore_n dX8_mean_3 rfl (Nat.le_of_ble_eq_true rfl) (ls' := [vR a0, vJ 0, vU, vI 0, vU]) rfl ?_
  refine a_iconst dX8_mean_4 ⟨by decide, by decide⟩ ?_
  refine a_istore dX8_mean_5 (Nat.le_of_ble_eq_true rfl) (ls' := [vR a0, vJ 0, vU, vI 0, vI 0]) rfl ?_
  exact h

set_option maxRecDepth 20000 in
theorem s_X8_mean_7 {l : Launch} {G : GT} {d : Nat} {Q : AV → AH → Prop} {H : AH} {a0 x1 x3 x4 : Int} {M : Row} (hW : MW H a0 M) (h : ((M 6) ≤ x4 → (¬ x3 = 0 → (afok (al2f x1) (ai2f x3)) ∧ Q (vF (afdiv (al2f x1) (ai2f x3))) H) ∧ (x3 = 0 → Q (vF 0) H)) ∧ (x4 < (M 6) → (0 ≤ x4 ∧ x4 < 24) ∧ (¬ (¬ ofM M x4 7 = 3) → (-2147483648 ≤ x4 + 1 ∧ x4 + 1 ≤ 2147483647) ∧ AW l G mX8_mean (d + 1) 0 0 Q 7 [vR a0, vJ x1, vU, vI x3, vI (x4 + 1)] [] 0 0 H) ∧ (¬ ofM M x4 7 = 3 → (0 ≤ x4 ∧ x4 < M 6) ∧ ∀ H1 : AH, only H H1 (pMks a0) → MW H1 a0 M → (-2147483648 ≤ (tmNow M x4) - (ofM M x4 2) ∧ (tmNow M x4) - (ofM M x4 2) ≤ 2147483647) ∧ (-9223372036854775808 ≤ x1 + ((tmNow M x4) - (ofM M x4 2)) ∧ x1 + ((tmNow M x4) - (ofM M x4 2)) ≤ 9223372036854775807) ∧ (-2147483648 ≤ x3 + 1 ∧ x3 + 1 ≤ 2147483647) ∧ (-2147483648 ≤ x4 + 1 ∧ x4 + 1 ≤ 2147483647) ∧ AW l G mX8_mean (d + 1) 0 0 Q 7 [vR a0, vJ (x1 + ((tmNow M x4) - (ofM M x4 2))), vU, vI (x3 + 1), vI (x4 + 1)] [] 0 0 H1))) (hd : 15 ≤ d := by omega) : AW l G mX8_mean (d + 1) 0 0 Q 7 [vR a0, vJ x1, vU, vI x3, vI x4] [] 0 0 H := by
  refine a_iload dX8_mean_7 rfl ?_
  refine a_aload_n dX8_mean_9 rfl rfl ?_
  refine a_getR dX8_mean_10 fw_RX8_9 rfl rfl (kMod_0 hW.1) (rMod_0_0 hW.1) ?_
  refine a_bipush dX8_mean_13 (by decide) ?_
  refine b_ialdV dX8_mean_15 (kMod_1 hW.1) (nMod_1 hW.1) (⟨by decide, by decide⟩) (congrFun hW.2.1 _) ?_
  refine a_icmp_ge dX8_mean_16 (tgt := 55) rfl (fun c16 => ?_) (fun c16 => ?_)
  · replace h := h.1 c16
    refine a_iload_n dX8_mean_55 rfl rfl ?_
    refine a_if_ne dX8_mean_56 (tgt := 63) rfl (fun c56 => ?_) (fun c56 => ?_)
    · replace h := h.1 c56
      refine a_lload_n dX8_mean_63 rfl rfl ?_
      refine a_l2f dX8_mean_64 ?_
      refine a_iload_n dX8_mean_65 rfl rfl ?_
      refine a_i2f dX8_mean_66 ?_
      obtain ⟨q67_0, h⟩ := h
      refine a_fdiv dX8_mean_67 q67_0 ?_
      exact a_fret dX8_mean_68 rfl (Nat.le_of_ble_eq_true rfl) (Nat.le_of_ble_eq_true rfl) h
    · replace h := h.2 c56
      refine a_fconst dX8_mean_59 ?_
      refine a_goto dX8_mean_60 (tgt := 68) rfl ?_
      exact a_fret dX8_mean_68 rfl (Nat.le_of_ble_eq_true rfl) (Nat.le_of_ble_eq_true rfl) h
  · replace h := h.2 c16
    refine a_aload_n dX8_mean_19 rfl rfl ?_
    refine a_iload dX8_mean_20 rfl ?_
    obtain ⟨q22_0, h⟩ := h
    refine a_callV dX8_mean_22 cw_X8_mean_22 (as := [vI x4]) rfl rfl (kMod_0 hW.1) (Nat.le_refl _) (Nat.le_of_ble_eq_true rfl) (nocov rfl) (Nat.le_of_ble_eq_true rfl) (Nat.le_of_ble_eq_true rfl) (CL.mono (c_isThere hW.1 q22_0) (fun r9 H9 h9 => ?_))
    rw [h9.1, h9.2]
    (try rw [hW.2.1])
    show AW l G mX8_mean (d + 1) 0 0 Q 25 [vR a0, vJ x1, vU, vI x3, vI x4] [vI (bi (decide (¬ ofM M x4 7 = 3)))] 0 0 H
    refine a_if_eq dX8_mean_25 (tgt := 49) rfl (fun c25 => ?_) (fun c25 => ?_)
    · replace h := h.1 (bi_0 c25)
      obtain ⟨q49_0, h⟩ := h
      refine a_iinc dX8_mean_49 rfl (Nat.le_of_ble_eq_true rfl) (by decide) q49_0 (ls' := [vR a0, vJ x1, vU, vI x3, vI (x4 + 1)]) rfl ?_
      refine a_goto dX8_mean_52 (tgt := 7) rfl ?_
      exact h
    · replace h := h.2 (bi_1 c25)
      refine a_lload_n dX8_mean_28 rfl rfl ?_
      refine a_aload_n dX8_mean_29 rfl rfl ?_
      refine a_iload dX8_mean_30 rfl ?_
      obtain ⟨q32_0, h⟩ := h
      refine a_callV dX8_mean_32 cw_X8_mean_32 (as := [vI x4]) rfl rfl (kMod_0 hW.1) (Nat.le_refl _) (Nat.le_of_ble_eq_true rfl) (nocov rfl) (Nat.le_of_ble_eq_true rfl) (Nat.le_of_ble_eq_true rfl) (CL.mono (c_timeNow (show MW H a0 M from ⟨hW.1, hW.2.1, hW.2.2⟩) q32_0) (fun r9 H1 h9 => ?_))
      obtain ⟨e9, o_H1, hW_H1⟩ := h9
      rw [e9]
      replace h := h H1 o_H1 hW_H1
      show AW l G mX8_mean (d + 1) 0 0 Q 35 [vR a0, vJ x1, vU, vI x3, vI x4] [vI (tmNow M x4), vJ x1] 0 0 H1
      refine a_aload_n dX8_mean_35 rfl rfl ?_
      refine a_iload dX8_mean_36 rfl ?_
      refine a_iconst dX8_mean_38 ⟨by decide, by decide⟩ ?_
      refine a_callV dX8_mean_39 cw_X8_mean_39 (as := [vI x4, vI 2]) rfl rfl (kMod_0 hW_H1.1) (Nat.le_refl _) (Nat.le_of_ble_eq_true rfl) (nocov rfl) (Nat.le_of_ble_eq_true rfl) (Nat.le_of_ble_eq_true rfl) (CL.mono (c_of hW_H1.1 ⟨q22_0.1, q22_0.2, by decide, by decide⟩) (fun r9 H9 h9 => ?_))
      rw [h9.1, h9.2]
      (try rw [hW_H1.2.1])
      show AW l G mX8_mean (d + 1) 0 0 Q 42 [vR a0, vJ x1, vU, vI x3, vI x4] [vI (ofM M x4 2), vI (tmNow M x4), vJ x1] 0 0 H1
      obtain ⟨q42_0, h⟩ := h
      refine a_isub dX8_mean_42 q42_0 ?_
      refine a_i2l dX8_mean_43 ?_
      obtain ⟨q44_0, h⟩ := h
      refine a_ladd dX8_mean_44 q44_0 ?_
      refine a_lstore_n dX8_mean_45 rfl (Nat.le_of_ble_eq_true rfl) (ls' := [vR a0, vJ (x1 + ((tmNow M x4) - (ofM M x4 2))), vU, vI x3, vI x4]) rfl ?_
      obtain ⟨q46_0, h⟩ := h
      refine a_iinc dX8_mean_46 rfl (Nat.le_of_ble_eq_true rfl) (by decide) q46_0 (ls' := [vR a0, vJ (x1 + ((tmNow M x4) - (ofM M x4 2))), vU, vI (x3 + 1), vI x4]) rfl ?_
      obtain ⟨q49_0, h⟩ := h
      refine a_iinc dX8_mean_49 rfl (Nat.le_of_ble_eq_true rfl) (by decide) q49_0 (ls' := [vR a0, vJ (x1 + ((tmNow M x4) - (ofM M x4 2))), vU, vI (x3 + 1), vI (x4 + 1)]) rfl ?_
      refine a_goto dX8_mean_52 (tgt := 7) rfl ?_
      exact h


theorem dX8_lateMany_0 : decode cX8_lateMany 0 = .ok (.iconst 0, 1) := by decide +kernel
theorem dX8_lateMany_1 : decode cX8_lateMany 1 = .ok (.istore_n 1, 1) := by decide +kernel
theorem dX8_lateMany_2 : decode cX8_lateMany 2 = .ok (.iconst 0, 1) := by decide +kernel
theorem dX8_lateMany_3 : decode cX8_lateMany 3 = .ok (.istore_n 2, 1) := by decide +kernel
theorem dX8_lateMany_4 : decode cX8_lateMany 4 = .ok (.iload_n 2, 1) := by decide +kernel
theorem dX8_lateMany_5 : decode cX8_lateMany 5 = .ok (.aload_n 0, 1) := by decide +kernel
theorem dX8_lateMany_6 : decode cX8_lateMany 6 = .ok (.getfield 9, 3) := by decide +kernel
theorem dX8_lateMany_9 : decode cX8_lateMany 9 = .ok (.bipush 6, 2) := by decide +kernel
theorem dX8_lateMany_11 : decode cX8_lateMany 11 = .ok (.iaload, 1) := by decide +kernel
theorem dX8_lateMany_12 : decode cX8_lateMany 12 = .ok (.if_icmp .ge 25, 3) := by decide +kernel
theorem dX8_lateMany_15 : decode cX8_lateMany 15 = .ok (.iload_n 1, 1) := by decide +kernel
theorem dX8_lateMany_16 : decode cX8_lateMany 16 = .ok (.aload_n 0, 1) := by decide +kernel
theorem dX8_lateMany_17 : decode cX8_lateMany 17 = .ok (.iload_n 2, 1) := by decide +kernel
theorem dX8_lateMany_18 : decode cX8_lateMany 18 = .ok (.invokevirtual 279, 3) := by decide +kernel
theorem dX8_lateMany_21 : decode cX8_lateMany 21 = .ok (.ifCond .eq 7, 3) := by decide +kernel
theorem dX8_lateMany_24 : decode cX8_lateMany 24 = .ok (.iconst 1, 1) := by decide +kernel
theorem dX8_lateMany_25 : decode cX8_lateMany 25 = .ok (.goto 4, 3) := by decide +kernel
theorem dX8_lateMany_28 : decode cX8_lateMany 28 = .ok (.iconst 0, 1) := by decide +kernel
theorem dX8_lateMany_29 : decode cX8_lateMany 29 = .ok (.iadd, 1) := by decide +kernel
theorem dX8_lateMany_30 : decode cX8_lateMany 30 = .ok (.istore_n 1, 1) := by decide +kernel
theorem dX8_lateMany_31 : decode cX8_lateMany 31 = .ok (.iinc 2 1, 3) := by decide +kernel
theorem dX8_lateMany_34 : decode cX8_lateMany 34 = .ok (.goto (-30), 3) := by decide +kernel
theorem dX8_lateMany_37 : decode cX8_lateMany 37 = .ok (.iload_n 1, 1) := by decide +kernel
theorem dX8_lateMany_38 : decode cX8_lateMany 38 = .ok (.ireturn, 1) := by decide +kernel
set_option maxRecDepth 20000 in
theorem s_X8_lateMany_0 {l : Launch} {G : GT} {d : Nat} {Q : AV → AH → Prop} {H : AH} {a0 : Int} {M : Row} (hW : MW H a0 M) (h : AW l G mX8_lateMany (d + 1) 0 0 Q 4 [vR a0, vI 0, vI 0] [] 0 0 H) (hd : 16 ≤ d := by omega) : AW l G mX8_lateMany (d + 1) 0 0 Q 0 [vR a0, vU, vU] [] 0 0 H := by
  refine a_iconst dX8_lateMany_0 ⟨by decide, by decide⟩ ?_
  refine a_istore_n dX8_lateMany_1 rfl (Nat.le_of_ble_eq_true rfl) (ls' := [vR a0, vI 0, vU]) rfl ?_
  refine a_iconst dX8_lateMany_2 ⟨by decide, by decide⟩ ?_
  refine a_istore_n dX8_lateMany_3 rfl (Nat.le_of_ble_eq_true rfl) (ls' := [vR a0, vI 0, vI 0]) rfl ?_
  exact h

set_option maxRecDepth 20000 in
theorem s_X8_lateMany_4 {l : Launch} {G : GT} {d : Nat} {Q : AV → AH → Prop} {H : AH} {a0 x1 x2 : Int} {M : Row} (hW : MW H a0 M) (h : ((M 6) ≤ x2 → Q (vI x1) H) ∧ (x2 < (M 6) → (0 ≤ x2 ∧ x2 < M 6) ∧ ∀ H1 : AH, only H H1 (pMks a0) → MW H1 a0 M → (¬ (¬ ofM M x2 7 = 3 ∧ ofM M x2 4 < tmNow M x2) → (-2147483648 ≤ x1 + 0 ∧ x1 + 0 ≤ 2147483647) ∧ (-2147483648 ≤ x2 + 1 ∧ x2 + 1 ≤ 2147483647) ∧ AW l G mX8_lateMany (d + 1) 0 0 Q 4 [vR a0, vI (x1 + 0), vI (x2 + 1)] [] 0 0 H1) ∧ (¬ ofM M x2 7 = 3 ∧ ofM M x2 4 < tmNow M x2 → (-2147483648 ≤ x1 + 1 ∧ x1 + 1 ≤ 2147483647) ∧ (-2147483648 ≤ x2 + 1 ∧ x2 + 1 ≤ 2147483647) ∧ AW l G mX8_lateMany (d + 1) 0 0 Q 4 [vR a0, vI (x1 + 1), vI (x2 + 1)] [] 0 0 H1))) (hd : 16 ≤ d := by omega) : AW l G mX8_lateMany (d + 1) 0 0 Q 4 [vR a0, vI x1, vI x2] [] 0 0 H := by
  refine a_iload_n dX8_lateMany_4 rfl rfl ?_
  refine a_aload_n dX8_lateMany_5 rfl rfl ?_
  refine a_getR dX8_lateMany_6 fw_RX8_9 rfl rfl (kMod_0 hW.1) (rMod_0_0 hW.1) ?_
  refine a_bipush dX8_lateMany_9 (by decide) ?_
  refine b_ialdV dX8_lateMany_11 (kMod_1 hW.1) (nMod_1 hW.1) (⟨by decide, by decide⟩) (congrFun hW.2.1 _) ?_
  refine a_icmp_ge dX8_lateMany_12 (tgt := 37) rfl (fun c12 => ?_) (fun c12 => ?_)
  · replace h := h.1 c12
    refine a_iload_n dX8_lateMany_37 rfl rfl ?_
    exact a_iret dX8_lateMany_38 rfl (Nat.le_of_ble_eq_true rfl) (Nat.le_of_ble_eq_true rfl) h
  · replace h := h.2 c12
    refine a_iload_n dX8_lateMany_15 rfl rfl ?_
    refine a_aload_n dX8_lateMany_16 rfl rfl ?_
    refine a_iload_n dX8_lateMany_17 rfl rfl ?_
    obtain ⟨q18_0, h⟩ := h
    refine a_callV dX8_lateMany_18 cw_X8_lateMany_18 (as := [vI x2]) rfl rfl (kMod_0 hW.1) (Nat.le_refl _) (Nat.le_of_ble_eq_true rfl) (nocov rfl) (Nat.le_of_ble_eq_true rfl) (Nat.le_of_ble_eq_true rfl) (CL.mono (c_isLateNow (show MW H a0 M from ⟨hW.1, hW.2.1, hW.2.2⟩) q18_0) (fun r9 H1 h9 => ?_))
    obtain ⟨e9, o_H1, hW_H1⟩ := h9
    rw [e9]
    replace h := h H1 o_H1 hW_H1
    show AW l G mX8_lateMany (d + 1) 0 0 Q 21 [vR a0, vI x1, vI x2] [vI (bi (decide (¬ ofM M x2 7 = 3 ∧ ofM M x2 4 < tmNow M x2))), vI x1] 0 0 H1
    refine a_if_eq dX8_lateMany_21 (tgt := 28) rfl (fun c21 => ?_) (fun c21 => ?_)
    · replace h := h.1 (bi_0 c21)
      refine a_iconst dX8_lateMany_28 ⟨by decide, by decide⟩ ?_
      obtain ⟨q29_0, h⟩ := h
      refine a_iadd dX8_lateMany_29 q29_0 ?_
      refine a_istore_n dX8_lateMany_30 rfl (Nat.le_of_ble_eq_true rfl) (ls' := [vR a0, vI (x1 + 0), vI x2]) rfl ?_
      obtain ⟨q31_0, h⟩ := h
      refine a_iinc dX8_lateMany_31 rfl (Nat.le_of_ble_eq_true rfl) (by decide) q31_0 (ls' := [vR a0, vI (x1 + 0), vI (x2 + 1)]) rfl ?_
      refine a_goto dX8_lateMany_34 (tgt := 4) rfl ?_
      exact h
    · replace h := h.2 (bi_1 c21)
      refine a_iconst dX8_lateMany_24 ⟨by decide, by decide⟩ ?_
      refine a_goto dX8_lateMany_25 (tgt := 29) rfl ?_
      obtain ⟨q29_0, h⟩ := h
      refine a_iadd dX8_lateMany_29 q29_0 ?_
      refine a_istore_n dX8_lateMany_30 rfl (Nat.le_of_ble_eq_true rfl) (ls' := [vR a0, vI (x1 + 1), vI x2]) rfl ?_
      obtain ⟨q31_0, h⟩ := h
      refine a_iinc dX8_lateMany_31 rfl (Nat.le_of_ble_eq_true rfl) (by decide) q31_0 (ls' := [vR a0, vI (x1 + 1), vI (x2 + 1)]) rfl ?_
      refine a_goto dX8_lateMany_34 (tgt := 4) rfl ?_
      exact h

noncomputable def lateM (M : Row) : Int := sm (fun k => bi (decide (¬ ofM M k 7 = 3 ∧ ofM M k 4 < tmNow M k))) (M 6).toNat
theorem c_lateMany {l : Launch} {G : GT} {d : Nat} {H : AH} {a : Int} {M : Row} (hW : MW H a M) (hd : 17 ≤ d := by omega) : CL l G mX8_lateMany d 0 0 [vR a] H (qP a M (vI (lateM M)) H) := by
  obtain ⟨d, rfl⟩ : ∃ k, d = k + 1 := ⟨d - 1, by omega⟩
  have hn := okM_n hW.2.2.1
  refine CL.of (by decide) rfl (Nat.le_of_ble_eq_true rfl) ?_
  have key : ∀ j, j ≤ (M 6).toNat → ∀ H', only H H' (pMks a) → MW H' a M → AW l G mX8_lateMany (d + 1) 0 0 (qP a M (vI (lateM M)) H) 4 [vR a, vI (sm (fun k => bi (decide (¬ ofM M k 7 = 3 ∧ ofM M k 4 < tmNow M k))) j), vI j] [] 0 0 H' := by
    refine upN _ ?_ ?_
    · intro j hj ih H' ho hW'
      have hs := sm_in (f := fun k => bi (decide (¬ ofM M k 7 = 3 ∧ ofM M k 4 < tmNow M k))) (lo := 0) (hi := 1) (n := j) (fun k hk => by rcases bi_01 (decide (¬ ofM M k 7 = 3 ∧ ofM M k 4 < tmNow M k)) with q | q <;> omega)
      refine s_X8_lateMany_4 hW' ⟨fun c => absurd c (by omega), fun c => ⟨by omega, fun H1 o1 w1 => ⟨fun c2 => ⟨by omega, by omega, ?_⟩, fun c2 => ⟨by omega, by omega, ?_⟩⟩⟩⟩
      · have := ih H1 (ho.trans o1) w1
        rw [sm, bi_f c2] at this
        exact this
      · have := ih H1 (ho.trans o1) w1
        rw [sm, bi_t c2] at this
        exact this
    · intro H' ho hW'
      exact s_X8_lateMany_4 hW' ⟨fun _ => ⟨rfl, ho, hW'⟩, fun c => absurd c (by omega)⟩
  exact s_X8_lateMany_0 hW (key 0 (Nat.zero_le _) H only.rf hW)

