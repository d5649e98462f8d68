theorem dX8_thrown_0 : decode cX8_thrown 0 = .ok (.aload_n 0, 1) := by decide +kernel
theorem dX8_thrown_1 : decode cX8_thrown 1 = .ok (.getfield 55, 3) := by decide +kernel
theorem dX8_thrown_4 : decode cX8_thrown 4 = .ok (.ireturn, 1) := by decide +kernel
set_option maxRecDepth 20000 in
theorem s_X8_thrown_0 {l : Launch} {G : GT} {d : Nat} {Q : AV → AH → Prop} {H : AH} {a0 : Int} (h_r0 : Lay LMod H a0) (h : Q (vI (hg H a0 5)) H) : AW l G mX8_thrown d 0 0 Q 0 [vR a0] [] 0 0 H := by
  refine a_aload_n dX8_thrown_0 rfl rfl ?_
  refine a_getI dX8_thrown_1 fw_RX8_55 rfl rfl (kMod_0 h_r0) ?_
  exact a_iret dX8_thrown_4 rfl (Nat.le_of_ble_eq_true rfl) (Nat.le_of_ble_eq_true rfl) h

theorem c_thrown {l : Launch} {G : GT} {d : Nat} {H : AH} {a : Int} (hL : Lay LMod H a) : CL l G mX8_thrown d 0 0 [vR a] H (PQ (vI (hg H a 5)) H) := CL.of (by decide) rfl (Nat.le_of_ble_eq_true rfl) (s_X8_thrown_0 hL ⟨rfl, rfl⟩)

theorem dX8_isFlight_0 : decode cX8_isFlight 0 = .ok (.aload_n 0, 1) := by decide +kernel
theorem dX8_isFlight_1 : decode cX8_isFlight 1 = .ok (.iload_n 1, 1) := by decide +kernel
theorem dX8_isFlight_2 : decode cX8_isFlight 2 = .ok (.iconst 0, 1) := by decide +kernel
theorem dX8_isFlight_3 : decode cX8_isFlight 3 = .ok (.aload_n 0, 1) := by decide +kernel
theorem dX8_isFlight_4 : decode cX8_isFlight 4 = .ok (.getfield 9, 3) := by decide +kernel
theorem dX8_isFlight_7 : decode cX8_isFlight 7 = .ok (.bipush 6, 2) := by decide +kernel
theorem dX8_isFlight_9 : decode cX8_isFlight 9 = .ok (.iaload, 1) := by decide +kernel
theorem dX8_isFlight_10 : decode cX8_isFlight 10 = .ok (.iconst 1, 1) := by decide +kernel
theorem dX8_isFlight_11 : decode cX8_isFlight 11 = .ok (.isub, 1) := by decide +kernel
theorem dX8_isFlight_12 : decode cX8_isFlight 12 = .ok (.invokestatic 67, 3) := by decide +kernel
theorem dX8_isFlight_15 : decode cX8_isFlight 15 = .ok (.ifCond .eq 7, 3) := by decide +kernel
theorem dX8_isFlight_18 : decode cX8_isFlight 18 = .ok (.iconst 0, 1) := by decide +kernel
theorem dX8_isFlight_19 : decode cX8_isFlight 19 = .ok (.goto 4, 3) := by decide +kernel
theorem dX8_isFlight_22 : decode cX8_isFlight 22 = .ok (.iconst 1, 1) := by decide +kernel
theorem dX8_isFlight_23 : decode cX8_isFlight 23 = .ok (.putfield 55, 3) := by decide +kernel
theorem dX8_isFlight_26 : decode cX8_isFlight 26 = .ok (.aload_n 0, 1) := by decide +kernel
theorem dX8_isFlight_27 : decode cX8_isFlight 27 = .ok (.getfield 55, 3) := by decide +kernel
theorem dX8_isFlight_30 : decode cX8_isFlight 30 = .ok (.ifCond .ne 7, 3) := by decide +kernel
theorem dX8_isFlight_33 : decode cX8_isFlight 33 = .ok (.iconst 1, 1) := by decide +kernel
theorem dX8_isFlight_34 : decode cX8_isFlight 34 = .ok (.goto 4, 3) := by decide +kernel
theorem dX8_isFlight_37 : decode cX8_isFlight 37 = .ok (.iconst 0, 1) := by decide +kernel
theorem dX8_isFlight_38 : decode cX8_isFlight 38 = .ok (.ireturn, 1) := by decide +kernel
set_option maxRecDepth 20000 in
theorem s_X8_isFlight_0 {l : Launch} {G : GT} {d : Nat} {Q : AV → AH → Prop} {H : AH} {a0 x1 : Int} (h_r0 : Lay LMod H a0) (h : (-2147483648 ≤ (rowM H a0 6) - 1 ∧ (rowM H a0 6) - 1 ≤ 2147483647) ∧ (¬ (0 ≤ x1 ∧ x1 ≤ ((rowM H a0 6) - 1)) → ∀ H1 : AH, H1 = hs H a0 5 1 → (¬ (hg H1 a0 5) = 0 → Q (vI 0) H1) ∧ ((hg H1 a0 5) = 0 → Q (vI 1) H1)) ∧ (0 ≤ x1 ∧ x1 ≤ ((rowM H a0 6) - 1) → ∀ H1 : AH, H1 = hs H a0 5 0 → (¬ (hg H1 a0 5) = 0 → Q (vI 0) H1) ∧ ((hg H1 a0 5) = 0 → Q (vI 1) H1))) : AW l G mX8_isFlight (d + 1) 0 0 Q 0 [vR a0, vI x1] [] 0 0 H := by
  refine a_aload_n dX8_isFlight_0 rfl rfl ?_
  refine a_iload_n dX8_isFlight_1 rfl rfl ?_
  refine a_iconst dX8_isFlight_2 ⟨by decide, by decide⟩ ?_
  refine a_aload_n dX8_isFlight_3 rfl rfl ?_
  refine a_getR dX8_isFlight_4 fw_RX8_9 rfl rfl (kMod_0 h_r0) (rMod_0_0 h_r0) ?_
  refine a_bipush dX8_isFlight_7 (by decide) ?_
  refine b_iald dX8_isFlight_9 (kMod_1 h_r0) (nMod_1 h_r0) (⟨by decide, by decide⟩) ?_
  refine a_iconst dX8_isFlight_10 ⟨by decide, by decide⟩ ?_
  obtain ⟨q11_0, h⟩ := h
  refine a_isub dX8_isFlight_11 q11_0 ?_
  refine a_callS dX8_isFlight_12 cw_X8_isFlight_12 (as := [vI x1, vI 0, vI ((rowM H a0 6) - 1)]) rfl rfl (Nat.le_refl _) (Nat.le_of_ble_eq_true rfl) (nocov rfl) (Nat.le_of_ble_eq_true rfl) (Nat.le_of_ble_eq_true rfl) (CL.mono (c_in  ) (fun r9 H9 h9 => ?_))
  rw [h9.1, h9.2]
  show AW l G mX8_isFlight (d + 1) 0 0 Q 15 [vR a0, vI x1] [vI (bi (decide (0 ≤ x1 ∧ x1 ≤ ((rowM H a0 6) - 1)))), vR a0] 0 0 H
  refine a_if_eq dX8_isFlight_15 (tgt := 22) rfl (fun c15 => ?_) (fun c15 => ?_)
  · replace h := h.1 (bi_0 c15)
    refine a_iconst dX8_isFlight_22 ⟨by decide, by decide⟩ ?_
    refine a_putI dX8_isFlight_23 fp_RX8_55 rfl rfl (kMod_0 h_r0) ?_
    have h_r0_1 := Lay.wr h_r0 ok_Mod (nrf_fld 5 (kMod_0 h_r0) (by decide) (by decide)) (i := 5) (x := 1)
    generalize e_H1 : hs H a0 5 1 = H1 at h_r0_1 ⊢
    replace h := h H1 e_H1.symm
    refine a_aload_n dX8_isFlight_26 rfl rfl ?_
    refine a_getI dX8_isFlight_27 fw_RX8_55 rfl rfl (kMod_0 h_r0_1) ?_
    refine a_if_ne dX8_isFlight_30 (tgt := 37) rfl (fun c30 => ?_) (fun c30 => ?_)
    · replace h := h.1 c30
      refine a_iconst dX8_isFlight_37 ⟨by decide, by decide⟩ ?_
      exact a_zret dX8_isFlight_38 rfl (by decide) (Nat.le_of_ble_eq_true rfl) (Nat.le_of_ble_eq_true rfl) h
    · replace h := h.2 c30
      refine a_iconst dX8_isFlight_33 ⟨by decide, by decide⟩ ?_
      refine a_goto dX8_isFlight_34 (tgt := 38) rfl ?_
      exact a_zret dX8_isFlight_38 rfl (by decide) (Nat.le_of_ble_eq_true rfl) (Nat.le_of_ble_eq_true rfl) h
  · replace h := h.2 (bi_1 c15)
    refine a_iconst dX8_isFlight_18 ⟨by decide, by decide⟩ ?_
    refine a_goto dX8_isFlight_19 (tgt := 23) rfl ?_
    refine a_putI dX8_isFlight_23 fp_RX8_55 rfl rfl (kMod_0 h_r0) ?_
    have h_r0_1 := Lay.wr h_r0 ok_Mod (nrf_fld 5 (kMod_0 h_r0) (by decide) (by decide)) (i := 5) (x := 0)
    generalize e_H1 : hs H a0 5 0 = H1 at h_r0_1 ⊢
    replace h := h H1 e_H1.symm
    refine a_aload_n dX8_isFlight_26 rfl rfl ?_
    refine a_getI dX8_isFlight_27 fw_RX8_55 rfl rfl (kMod_0 h_r0_1) ?_
    refine a_if_ne dX8_isFlight_30 (tgt := 37) rfl (fun c30 => ?_) (fun c30 => ?_)
    · replace h := h.1 c30
      refine a_iconst dX8_isFlight_37 ⟨by decide, by decide⟩ ?_
      exact a_zret dX8_isFlight_38 rfl (by decide) (Nat.le_of_ble_eq_true rfl) (Nat.le_of_ble_eq_true rfl) h
    · replace h := h.2 c30
      refine a_iconst dX8_isFlight_33 ⟨by decide, by decide⟩ ?_
      refine a_goto dX8_isFlight_34 (tgt := 38) rfl ?_
      exact a_zret dX8_isFlight_38 rfl (by decide) (Nat.le_of_ble_eq_true rfl) (Nat.le_of_ble_eq_true rfl) h

theorem c_isFlight {l : Launch} {G : GT} {d : Nat} {H : AH} {a f : Int} (hL : Lay LMod H a) (h : 0 ≤ rowM H a 6 ∧ rowM H a 6 ≤ 24) (hd : 1 ≤ d := by omega) : CL l G mX8_isFlight d 0 0 [vR a, vI f] H (PQ (vI (bi (decide (0 ≤ f ∧ f < rowM H a 6)))) (hs H a 5 (1 - bi (decide (0 ≤ f ∧ f < rowM H a 6))))) := by
  obtain ⟨d, rfl⟩ : ∃ k, d = k + 1 := ⟨d - 1, by omega⟩
  refine CL.of (by decide) rfl (Nat.le_of_ble_eq_true rfl) (s_X8_isFlight_0 hL ⟨by omega, fun c H1 e1 => ?_, fun c H1 e1 => ?_⟩)
  · rw [bi_f (show ¬ (0 ≤ f ∧ f < rowM H a 6) from fun q => c ⟨q.1, by omega⟩), e1, hg_same]
    exact ⟨fun _ => ⟨rfl, rfl⟩, fun c2 => absurd c2 (by decide)⟩
  · rw [bi_t (show 0 ≤ f ∧ f < rowM H a 6 from ⟨c.1, by omega⟩), e1, hg_same]
    exact ⟨fun c2 => absurd rfl c2, fun _ => ⟨rfl, rfl⟩⟩

theorem dX8_isRunway_0 : decode cX8_isRunway 0 = .ok (.aload_n 0, 1) := by decide +kernel
theorem dX8_isRunway_1 : decode cX8_isRunway 1 = .ok (.iload_n 1, 1) := by decide +kernel
theorem dX8_isRunway_2 : decode cX8_isRunway 2 = .ok (.iconst 0, 1) := by decide +kernel
theorem dX8_isRunway_3 : decode cX8_isRunway 3 = .ok (.aload_n 0, 1) := by decide +kernel
theorem dX8_isRunway_4 : decode cX8_isRunway 4 = .ok (.getfield 9, 3) := by decide +kernel
theorem dX8_isRunway_7 : decode cX8_isRunway 7 = .ok (.iconst 5, 1) := by decide +kernel
theorem dX8_isRunway_8 : decode cX8_isRunway 8 = .ok (.iaload, 1) := by decide +kernel
theorem dX8_isRunway_9 : decode cX8_isRunway 9 = .ok (.iconst 1, 1) := by decide +kernel
theorem dX8_isRunway_10 : decode cX8_isRunway 10 = .ok (.isub, 1) := by decide +kernel
theorem dX8_isRunway_11 : decode cX8_isRunway 11 = .ok (.invokestatic 67, 3) := by decide +kernel
theorem dX8_isRunway_14 : decode cX8_isRunway 14 = .ok (.ifCond .eq 7, 3) := by decide +kernel
theorem dX8_isRunway_17 : decode cX8_isRunway 17 = .ok (.iconst 0, 1) := by decide +kernel
theorem dX8_isRunway_18 : decode cX8_isRunway 18 = .ok (.goto 4, 3) := by decide +kernel
theorem dX8_isRunway_21 : decode cX8_isRunway 21 = .ok (.iconst 1, 1) := by decide +kernel
theorem dX8_isRunway_22 : decode cX8_isRunway 22 = .ok (.putfield 55, 3) := by decide +kernel
theorem dX8_isRunway_25 : decode cX8_isRunway 25 = .ok (.aload_n 0, 1) := by decide +kernel
theorem dX8_isRunway_26 : decode cX8_isRunway 26 = .ok (.getfield 55, 3) := by decide +kernel
theorem dX8_isRunway_29 : decode cX8_isRunway 29 = .ok (.ifCond .ne 7, 3) := by decide +kernel
theorem dX8_isRunway_32 : decode cX8_isRunway 32 = .ok (.iconst 1, 1) := by decide +kernel
theorem dX8_isRunway_33 : decode cX8_isRunway 33 = .ok (.goto 4, 3) := by decide +kernel
theorem dX8_isRunway_36 : decode cX8_isRunway 36 = .ok (.iconst 0, 1) := by decide +kernel
theorem dX8_isRunway_37 : decode cX8_isRunway 37 = .ok (.ireturn, 1) := by decide +kernel
set_option maxRecDepth 20000 in
theorem s_X8_isRunway_0 {l : Launch} {G : GT} {d : Nat} {Q : AV → AH → Prop} {H : AH} {a0 x1 : Int} (h_r0 : Lay LMod H a0) (h : (-2147483648 ≤ (rowM H a0 5) - 1 ∧ (rowM H a0 5) - 1 ≤ 2147483647) ∧ (¬ (0 ≤ x1 ∧ x1 ≤ ((rowM H a0 5) - 1)) → ∀ H1 : AH, H1 = hs H a0 5 1 → (¬ (hg H1 a0 5) = 0 → Q (vI 0) H1) ∧ ((hg H1 a0 5) = 0 → Q (vI 1) H1)) ∧ (0 ≤ x1 ∧ x1 ≤ ((rowM H a0 5) - 1) → ∀ H1 : AH, H1 = hs H a0 5 0 → (¬ (hg H1 a0 5) = 0 → Q (vI 0) H1) ∧ ((hg H1 a0 5) = 0 → Q (vI 1) H1))) : AW l G mX8_isRunway (d + 1) 0 0 Q 0 [vR a0, vI x1] [] 0 0 H := by
  refine a_aload_n dX8_isRunway_0 rfl rfl ?_
  refine a_iload_n dX8_isRunway_1 rfl rfl ?_
  refine a_iconst dX8_isRunway_2 ⟨by decide, by decide⟩ ?_
  refine a_aload_n dX8_isRunway_3 rfl rfl ?_
  refine a_getR dX8_isRunway_4 fw_RX8_9 rfl rfl (kMod_0 h_r0) (rMod_0_0 h_r0) ?_
  refine a_iconst dX8_isRunway_7 ⟨by decide, by decide⟩ ?_
  refine b_iald dX8_isRunway_8 (kMod_1 h_r0) (nMod_1 h_r0) (⟨by decide, by decide⟩) ?_
  refine a_iconst dX8_isRunway_9 ⟨by decide, by decide⟩ ?_
  obtain ⟨q10_0, h⟩ := h
  refine a_isub dX8_isRunway_10 q10_0 ?_
  refine a_callS dX8_isRunway_11 cw_X8_isRunway_11 (as := [vI x1, vI 0, vI ((rowM H a0 5) - 1)]) rfl rfl (Nat.le_refl _) (Nat.le_of_ble_eq_true rfl) (nocov rfl) (Nat.le_of_ble_eq_true rfl) (Nat.le_of_ble_eq_true rfl) (CL.mono (c_in  ) (fun r9 H9 h9 => ?_))
  rw [h9.1, h9.2]
  show AW l G mX8_isRunway (d + 1) 0 0 Q 14 [vR a0, vI x1] [vI (bi (decide (0 ≤ x1 ∧ x1 ≤ ((rowM H a0 5) - 1)))), vR a0] 0 0 H
  refine a_if_eq dX8_isRunway_14 (tgt := 21) rfl (fun c14 => ?_) (fun c14 => ?_)
  · replace h := h.1 (bi_0 c14)
    refine a_iconst dX8_isRunway_21 ⟨by decide, by decide⟩ ?_
    refine a_putI dX8_isRunway_22 fp_RX8_55 rfl rfl (kMod_0 h_r0) ?_
    have h_r0_1 := Lay.wr h_r0 ok_Mod (nrf_fld 5 (kMod_0 h_r0) (by decide) (by decide)) (i := 5) (x := 1)
    generalize e_H1 : hs H a0 5 1 = H1 at h_r0_1 ⊢
    replace h := h H1 e_H1.symm
    refine a_aload_n dX8_isRunway_25 rfl rfl ?_
    refine a_getI dX8_isRunway_26 fw_RX8_55 rfl rfl (kMod_0 h_r0_1) ?_
    refine a_if_ne dX8_isRunway_29 (tgt := 36) rfl (fun c29 => ?_) (fun c29 => ?_)
    · replace h := h.1 c29
      refine a_iconst dX8_isRunway_36 ⟨by decide, by decide⟩ ?_
      exact a_zret dX8_isRunway_37 rfl (by decide) (Nat.le_of_ble_eq_true rfl) (Nat.le_of_ble_eq_true rfl) h
    · replace h := h.2 c29
      refine a_iconst dX8_isRunway_32 ⟨by decide, by decide⟩ ?_
      refine a_goto dX8_isRunway_33 (tgt := 37) rfl ?_
      exact a_zret dX8_isRunway_37 rfl (by decide) (Nat.le_of_ble_eq_true rfl) (Nat.le_of_ble_eq_true rfl) h
  · replace h := h.2 (bi_1 c14)
    refine a_iconst dX8_isRunway_17 ⟨by decide, by decide⟩ ?_
    refine a_goto dX8_isRunway_18 (tgt := 22) rfl ?_
    refine a_putI dX8_isRunway_22 fp_RX8_55 rfl rfl (kMod_0 h_r0) ?_
    have h_r0_1 := Lay.wr h_r0 ok_Mod (nrf_fld 5 (kMod_0 h_r0) (by decide) (by decide)) (i := 5) (x := 0)
    generalize e_H1 : hs H a0 5 0 = H1 at h_r0_1 ⊢
    replace h := h H1 e_H1.symm
    refine a_aload_n dX8_isRunway_25 rfl rfl ?_
    refine a_getI dX8_isRunway_26 fw_RX8_55 rfl rfl (kMod_0 h_r0_1) ?_
    refine a_if_ne dX8_isRunway_29 (tgt := 36) rfl (fun c29 => ?_) (fun c29 => ?_)
    · replace h := h.1 c29
      refine a_iconst dX8_isRunway_36 ⟨by decide, by decide⟩ ?_
      exact a_zret dX8_isRunway_37 rfl (by decide) (Nat.le_of_ble_eq_true rfl) (Nat.le_of_ble_eq_true rfl) h
    · replace h := h.2 c29
      refine a_iconst dX8_isRunway_32 ⟨by decide, by decide⟩ ?_
      refine a_goto dX8_isRunway_33 (tgt := 37) rfl ?_
      exact a_zret dX8_isRunway_37 rfl (by decide) (Nat.le_of_ble_eq_true rfl) (Nat.le_of_ble_eq_true rfl) h

theorem c_isRunway {l : Launch} {G : GT} {d : Nat} {H : AH} {a f : Int} (hL : Lay LMod H a) (h : 0 ≤ rowM H a 5 ∧ rowM H a 5 ≤ 3) (hd : 1 ≤ d := by omega) : CL l G mX8_isRunway d 0 0 [vR a, vI f] H (PQ (vI (bi (decide (0 ≤ f ∧ f < rowM H a 5)))) (hs H a 5 (1 - bi (decide (0 ≤ f ∧ f < rowM H a 5))))) := by
  obtain ⟨d, rfl⟩ : ∃ k, d = k + 1 := ⟨d - 1, by omega⟩
  refine CL.of (by decide) rfl (Nat.le_of_ble_eq_true rfl) (s_X8_isRunway_0 hL ⟨by omega, fun c H1 e1 => ?_, fun c H1 e1 => ?_⟩)
  · rw [bi_f (show ¬ (0 ≤ f ∧ f < rowM H a 5) from fun q => c ⟨q.1, by omega⟩), e1, hg_same]
    exact ⟨fun _ => ⟨rfl, rfl⟩, fun c2 => absurd c2 (by decide)⟩
  · rw [bi_t (show 0 ≤ f ∧ f < rowM H a 5 from ⟨c.1, by omega⟩), e1, hg_same]
    exact ⟨fun c2 => absurd rfl c2, fun _ => ⟨rfl, rfl⟩⟩

theorem dX8_isNumber_0 : decode cX8_isNumber 0 = .ok (.aload_n 0, 1) := by decide +kernel
theorem dX8_isNumber_1 : decode cX8_isNumber 1 = .ok (.iload_n 1, 1) := by decide +kernel
theorem dX8_isNumber_2 : decode cX8_isNumber 2 = .ok (.ifCond .eq 7, 3) := by decide +kernel
theorem dX8_isNumber_5 : decode cX8_isNumber 5 = .ok (.iconst 0, 1) := by decide +kernel
theorem dX8_isNumber_6 : decode cX8_isNumber 6 = .ok (.goto 4, 3) := by decide +kernel
theorem dX8_isNumber_9 : decode cX8_isNumber 9 = .ok (.iconst 1, 1) := by decide +kernel
theorem dX8_isNumber_10 : decode cX8_isNumber 10 = .ok (.putfield 55, 3) := by decide +kernel
theorem dX8_isNumber_13 : decode cX8_isNumber 13 = .ok (.iload_n 1, 1) := by decide +kernel
theorem dX8_isNumber_14 : decode cX8_isNumber 14 = .ok (.ireturn, 1) := by decide +kernel
set_option maxRecDepth 20000 in
theorem s_X8_isNumber_0 {l : Launch} {G : GT} {d : Nat} {Q : AV → AH → Prop} {H : AH} {a0 x1 : Int} (h_r0 : Lay LMod H a0) (h : (x1 = 0 → ∀ H1 : AH, H1 = hs H a0 5 1 → (x1 = 0 ∨ x1 = 1) ∧ Q (vI x1) H1) ∧ (¬ x1 = 0 → ∀ H1 : AH, H1 = hs H a0 5 0 → (x1 = 0 ∨ x1 = 1) ∧ Q (vI x1) H1)) : AW l G mX8_isNumber d 0 0 Q 0 [vR a0, vI x1] [] 0 0 H := by
  refine a_aload_n dX8_isNumber_0 rfl rfl ?_
  refine a_iload_n dX8_isNumber_1 rfl rfl ?_
  refine a_if_eq dX8_isNumber_2 (tgt := 9) rfl (fun c2 => ?_) (fun c2 => ?_)
  · replace h := h.1 c2
    refine a_iconst dX8_isNumber_9 ⟨by decide, by decide⟩ ?_
    refine a_putI dX8_isNumber_10 fp_RX8_55 rfl rfl (kMod_0 h_r0) ?_
    have h_r0_1 := Lay.wr h_r0 ok_Mod (nrf_fld 5 (kMod_0 h_r0) (by decide) (by decide)) (i := 5) (x := 1)
    generalize e_H1 : hs H a0 5 1 = H1 at h_r0_1 ⊢
    replace h := h H1 e_H1.symm
    refine a_iload_n dX8_isNumber_13 rfl rfl ?_
    obtain ⟨q14_0, h⟩ := h
    exact a_zret dX8_isNumber_14 rfl q14_0 (Nat.le_of_ble_eq_true rfl) (Nat.le_of_ble_eq_true rfl) h
  · replace h := h.2 c2
    refine a_iconst dX8_isNumber_5 ⟨by decide, by decide⟩ ?_
    refine a_goto dX8_isNumber_6 (tgt := 10) rfl ?_
    refine a_putI dX8_isNumber_10 fp_RX8_55 rfl rfl (kMod_0 h_r0) ?_
    have h_r0_1 := Lay.wr h_r0 ok_Mod (nrf_fld 5 (kMod_0 h_r0) (by decide) (by decide)) (i := 5) (x := 0)
    generalize e_H1 : hs H a0 5 0 = H1 at h_r0_1 ⊢
    replace h := h H1 e_H1.symm
    refine a_iload_n dX8_isNumber_13 rfl rfl ?_
    obtain ⟨q14_0, h⟩ := h
    exact a_zret dX8_isNumber_14 rfl q14_0 (Nat.le_of_ble_eq_true rfl) (Nat.le_of_ble_eq_true rfl) h

theorem c_isNumber {l : Launch} {G : GT} {d : Nat} {H : AH} {a b : Int} (hL : Lay LMod H a) (h : b = 0 ∨ b = 1) : CL l G mX8_isNumber d 0 0 [vR a, vI b] H (PQ (vI b) (hs H a 5 (1 - b))) := by
  refine CL.of (by decide) rfl (Nat.le_of_ble_eq_true rfl) (s_X8_isNumber_0 hL ⟨fun c H1 e1 => ⟨h, rfl, ?_⟩, fun c H1 e1 => ⟨h, rfl, ?_⟩⟩)
  · rw [e1, c]; rfl
  · rw [e1, show b = 1 by omega]; rfl

theorem dX8_sets_0 : decode cX8_sets 0 = .ok (.aload_n 0, 1) := by decide +kernel
theorem dX8_sets_1 : decode cX8_sets 1 = .ok (.getfield 9, 3) := by decide +kernel
theorem dX8_sets_4 : decode cX8_sets 4 = .ok (.iload_n 1, 1) := by decide +kernel
theorem dX8_sets_5 : decode cX8_sets 5 = .ok (.iload_n 2, 1) := by decide +kernel
theorem dX8_sets_6 : decode cX8_sets 6 = .ok (.invokestatic 59, 3) := by decide +kernel
theorem dX8_sets_9 : decode cX8_sets 9 = .ok (.iload_n 3, 1) := by decide +kernel
theorem dX8_sets_10 : decode cX8_sets 10 = .ok (.iastore, 1) := by decide +kernel
theorem dX8_sets_11 : decode cX8_sets 11 = .ok (.aload_n 0, 1) := by decide +kernel
theorem dX8_sets_12 : decode cX8_sets 12 = .ok (.iconst 0, 1) := by decide +kernel
theorem dX8_sets_13 : decode cX8_sets 13 = .ok (.putfield 63, 3) := by decide +kernel
theorem dX8_sets_16 : decode cX8_sets 16 = .ok (.return_, 1) := by decide +kernel
set_option maxRecDepth 20000 in
theorem s_X8_sets_0 {l : Launch} {G : GT} {d : Nat} {Q : AV → AH → Prop} {H : AH} {a0 x1 x2 x3 : Int} (h_r0 : Lay LMod H a0) (h : (0 ≤ x1 ∧ x1 ≤ 30 ∧ 0 ≤ x2 ∧ x2 ≤ 30) ∧ (0 ≤ (56 + 16 * x1 + x2) ∧ (56 + 16 * x1 + x2) < 440) ∧ ∀ H1 : AH, H1 = hs H (a0 + 1) (56 + 16 * x1 + x2) x3 → ∀ H2 : AH, H2 = hs H1 a0 13 0 → Q vV H2) : AW l G mX8_sets (d + 1) 0 0 Q 0 [vR a0, vI x1, vI x2, vI x3] [] 0 0 H := by
  refine a_aload_n dX8_sets_0 rfl rfl ?_
  refine a_getR dX8_sets_1 fw_RX8_9 rfl rfl (kMod_0 h_r0) (rMod_0_0 h_r0) ?_
  refine a_iload_n dX8_sets_4 rfl rfl ?_
  refine a_iload_n dX8_sets_5 rfl rfl ?_
  obtain ⟨q6_0, h⟩ := h
  refine a_callS dX8_sets_6 cw_X8_sets_6 (as := [vI x1, vI x2]) rfl rfl (Nat.le_refl _) (Nat.le_of_ble_eq_true rfl) (nocov rfl) (Nat.le_of_ble_eq_true rfl) (Nat.le_of_ble_eq_true rfl) (CL.mono (c_at  q6_0) (fun r9 H9 h9 => ?_))
  rw [h9.1, h9.2]
  show AW l G mX8_sets (d + 1) 0 0 Q 9 [vR a0, vI x1, vI x2, vI x3] [vI (56 + 16 * x1 + x2), vR (a0 + 1)] 0 0 H
  refine a_iload_n dX8_sets_9 rfl rfl ?_
  obtain ⟨q10_0, h⟩ := h
  refine b_iast dX8_sets_10 (kMod_1 h_r0) (nMod_1 h_r0) q10_0 ?_
  have h_r0_1 := Lay.wr h_r0 ok_Mod (nrf_arr (kMod_1 h_r0) (by decide) (by decide)) (i := (56 + 16 * x1 + x2)) (x := x3)
  generalize e_H1 : hs H (a0 + 1) (56 + 16 * x1 + x2) x3 = H1 at h_r0_1 ⊢
  replace h := h H1 e_H1.symm
  refine a_aload_n dX8_sets_11 rfl rfl ?_
  refine a_iconst dX8_sets_12 ⟨by decide, by decide⟩ ?_
  refine a_putZ dX8_sets_13 fp_RX8_63 rfl rfl (kMod_0 h_r0_1) (by decide) ?_
  have h_r0_2 := Lay.wr h_r0_1 ok_Mod (nrf_fld 13 (kMod_0 h_r0_1) (by decide) (by decide)) (i := 13) (x := 0)
  generalize e_H2 : hs H1 a0 13 0 = H2 at h_r0_2 ⊢
  replace h := h H2 e_H2.symm
  exact a_vret dX8_sets_16 rfl (Nat.le_of_ble_eq_true rfl) (Nat.le_of_ble_eq_true rfl) h

theorem c_sets {l : Launch} {G : GT} {d : Nat} {H : AH} {a f w x : Int} (hL : Lay LMod H a) (h : 0 ≤ f ∧ f < 24 ∧ 0 ≤ w ∧ w < 16) (hd : 1 ≤ d := by omega) : CL l G mX8_sets d 0 0 [vR a, vI f, vI w, vI x] H (PQ vV (hs (hs H (a + 1) (56 + 16 * f + w) x) a 13 0)) := by
  obtain ⟨d, rfl⟩ : ∃ k, d = k + 1 := ⟨d - 1, by omega⟩
  exact CL.of (by decide) rfl (Nat.le_of_ble_eq_true rfl) (s_X8_sets_0 hL ⟨by omega, by omega, fun H1 e1 H2 e2 => ⟨rfl, by rw [e2, e1]⟩⟩)

theorem dX8_apart_0 : decode cX8_apart 0 = .ok (.aload_n 0, 1) := by decide +kernel
theorem dX8_apart_1 : decode cX8_apart 1 = .ok (.iload_n 1, 1) := by decide +kernel
theorem dX8_apart_2 : decode cX8_apart 2 = .ok (.iconst 0, 1) := by decide +kernel
theorem dX8_apart_3 : decode cX8_apart 3 = .ok (.invokevirtual 75, 3) := by decide +kernel
theorem dX8_apart_6 : decode cX8_apart 6 = .ok (.aload_n 0, 1) := by decide +kernel
theorem dX8_apart_7 : decode cX8_apart 7 = .ok (.iload_n 2, 1) := by decide +kernel
theorem dX8_apart_8 : decode cX8_apart 8 = .ok (.iconst 0, 1) := by decide +kernel
theorem dX8_apart_9 : decode cX8_apart 9 = .ok (.invokevirtual 75, 3) := by decide +kernel
theorem dX8_apart_12 : decode cX8_apart 12 = .ok (.if_icmp .ne 7, 3) := by decide +kernel
theorem dX8_apart_15 : decode cX8_apart 15 = .ok (.iconst 1, 1) := by decide +kernel
theorem dX8_apart_16 : decode cX8_apart 16 = .ok (.goto 4, 3) := by decide +kernel
theorem dX8_apart_19 : decode cX8_apart 19 = .ok (.iconst 0, 1) := by decide +kernel
theorem dX8_apart_20 : decode cX8_apart 20 = .ok (.istore_n 3, 1) := by decide +kernel
theorem dX8_apart_21 : decode cX8_apart 21 = .ok (.iload_n 3, 1) := by decide +kernel
theorem dX8_apart_22 : decode cX8_apart 22 = .ok (.ifCond .eq 22, 3) := by decide +kernel
theorem dX8_apart_25 : decode cX8_apart 25 = .ok (.aload_n 0, 1) := by decide +kernel
theorem dX8_apart_26 : decode cX8_apart 26 = .ok (.aload_n 0, 1) := by decide +kernel
theorem dX8_apart_27 : decode cX8_apart 27 = .ok (.iload_n 1, 1) := by decide +kernel
theorem dX8_apart_28 : decode cX8_apart 28 = .ok (.iconst 1, 1) := by decide +kernel
theorem dX8_apart_29 : decode cX8_apart 29 = .ok (.invokevirtual 75, 3) := by decide +kernel
theorem dX8_apart_32 : decode cX8_apart 32 = .ok (.aload_n 0, 1) := by decide +kernel
theorem dX8_apart_33 : decode cX8_apart 33 = .ok (.iload_n 2, 1) := by decide +kernel
theorem dX8_apart_34 : decode cX8_apart 34 = .ok (.iconst 1, 1) := by decide +kernel
theorem dX8_apart_35 : decode cX8_apart 35 = .ok (.invokevirtual 75, 3) := by decide +kernel
theorem dX8_apart_38 : decode cX8_apart 38 = .ok (.invokevirtual 204, 3) := by decide +kernel
theorem dX8_apart_41 : decode cX8_apart 41 = .ok (.goto 9, 3) := by decide +kernel
theorem dX8_apart_44 : decode cX8_apart 44 = .ok (.aload_n 0, 1) := by decide +kernel
theorem dX8_apart_45 : decode cX8_apart 45 = .ok (.getfield 9, 3) := by decide +kernel
theorem dX8_apart_48 : decode cX8_apart 48 = .ok (.iconst 4, 1) := by decide +kernel
theorem dX8_apart_49 : decode cX8_apart 49 = .ok (.iaload, 1) := by decide +kernel
theorem dX8_apart_50 : decode cX8_apart 50 = .ok (.ireturn, 1) := by decide +kernel
set_option maxRecDepth 20000 in
theorem s_X8_apart_0 {l : Launch} {G : GT} {d : Nat} {Q : AV → AH → Prop} {H : AH} {a0 x1 x2 : Int} (h_r0 : Lay LMod H a0) (h : (0 ≤ x1 ∧ x1 < 24) ∧ (0 ≤ x2 ∧ x2 < 24) ∧ (¬ (ofM (rowM H a0) x1 0) = (ofM (rowM H a0) x2 0) → Q (vI (rowM H a0 4)) H) ∧ ((ofM (rowM H a0) x1 0) = (ofM (rowM H a0) x2 0) → (0 ≤ (ofM (rowM H a0) x1 1) ∧ (ofM (rowM H a0) x1 1) ≤ 3 ∧ 0 ≤ (ofM (rowM H a0) x2 1) ∧ (ofM (rowM H a0) x2 1) ≤ 3) ∧ Q (vI (rowM H a0 (8 + 4 * (ofM (rowM H a0) x1 1) + (ofM (rowM H a0) x2 1)))) H)) (hd : 1 ≤ d := by omega) : AW l G mX8_apart (d + 1) 0 0 Q 0 [vR a0, vI x1, vI x2, vU] [] 0 0 H := by
  refine a_aload_n dX8_apart_0 rfl rfl ?_
  refine a_iload_n dX8_apart_1 rfl rfl ?_
  refine a_iconst dX8_apart_2 ⟨by decide, by decide⟩ ?_
  obtain ⟨q3_0, h⟩ := h
  refine a_callV dX8_apart_3 cw_X8_apart_3 (as := [vI x1, vI 0]) rfl rfl (kMod_0 h_r0) (Nat.le_refl _) (Nat.le_of_ble_eq_true rfl) (nocov rfl) (Nat.le_of_ble_eq_true rfl) (Nat.le_of_ble_eq_true rfl) (CL.mono (c_of h_r0 ⟨q3_0.1, q3_0.2, by decide, by decide⟩) (fun r9 H9 h9 => ?_))
  rw [h9.1, h9.2]
  show AW l G mX8_apart (d + 1) 0 0 Q 6 [vR a0, vI x1, vI x2, vU] [vI (ofM (rowM H a0) x1 0)] 0 0 H
  refine a_aload_n dX8_apart_6 rfl rfl ?_
  refine a_iload_n dX8_apart_7 rfl rfl ?_
  refine a_iconst dX8_apart_8 ⟨by decide, by decide⟩ ?_
  obtain ⟨q9_0, h⟩ := h
  refine a_callV dX8_apart_9 cw_X8_apart_9 (as := [vI x2, vI 0]) rfl rfl (kMod_0 h_r0) (Nat.le_refl _) (Nat.le_of_ble_eq_true rfl) (nocov rfl) (Nat.le_of_ble_eq_true rfl) (Nat.le_of_ble_eq_true rfl) (CL.mono (c_of h_r0 ⟨q9_0.1, q9_0.2, by decide, by decide⟩) (fun r9 H9 h9 => ?_))
  rw [h9.1, h9.2]
  show AW l G mX8_apart (d + 1) 0 0 Q 12 [vR a0, vI x1, vI x2, vU] [vI (ofM (rowM H a0) x2 0), vI (ofM (rowM H a0) x1 0)] 0 0 H
  refine a_icmp_ne dX8_apart_12 (tgt := 19) rfl (fun c12 => ?_) (fun c12 => ?_)
  · replace h := h.1 c12
    refine a_iconst dX8_apart_19 ⟨by decide, by decide⟩ ?_
    refine a_istore_n dX8_apart_20 rfl (Nat.le_of_ble_eq_true rfl) (ls' := [vR a0, vI x1, vI x2, vI 0]) rfl ?_
    refine a_iload_n dX8_apart_21 rfl rfl ?_
    refine a_if_eq dX8_apart_22 (tgt := 44) rfl (fun _ => ?_) (fun c9 => absurd (by decide) c9)
    refine a_aload_n dX8_apart_44 rfl rfl ?_
    refine a_getR dX8_apart_45 fw_RX8_9 rfl rfl (kMod_0 h_r0) (rMod_0_0 h_r0) ?_
    refine a_iconst dX8_apart_48 ⟨by decide, by decide⟩ ?_
    refine b_iald dX8_apart_49 (kMod_1 h_r0) (nMod_1 h_r0) (⟨by decide, by decide⟩) ?_
    exact a_iret dX8_apart_50 rfl (Nat.le_of_ble_eq_true rfl) (Nat.le_of_ble_eq_true rfl) h
  · replace h := h.2 c12
    refine a_iconst dX8_apart_15 ⟨by decide, by decide⟩ ?_
    refine a_goto dX8_apart_16 (tgt := 20) rfl ?_
    refine a_istore_n dX8_apart_20 rfl (Nat.le_of_ble_eq_true rfl) (ls' := [vR a0, vI x1, vI x2, vI 1]) rfl ?_
    refine a_iload_n dX8_apart_21 rfl rfl ?_
    refine a_if_eq dX8_apart_22 (tgt := 44) rfl (fun c9 => absurd c9 (by decide)) (fun _ => ?_)
    refine a_aload_n dX8_apart_25 rfl rfl ?_
    refine a_aload_n dX8_apart_26 rfl rfl ?_
    refine a_iload_n dX8_apart_27 rfl rfl ?_
    refine a_iconst dX8_apart_28 ⟨by decide, by decide⟩ ?_
    refine a_callV dX8_apart_29 cw_X8_apart_29 (as := [vI x1, vI 1]) rfl rfl (kMod_0 h_r0) (Nat.le_refl _) (Nat.le_of_ble_eq_true rfl) (nocov rfl) (Nat.le_of_ble_eq_true rfl) (Nat.le_of_ble_eq_true rfl) (CL.mono (c_of h_r0 ⟨q3_0.1, q3_0.2, by decide, by decide⟩) (fun r9 H9 h9 => ?_))
    rw [h9.1, h9.2]
    show AW l G mX8_apart (d + 1) 0 0 Q 32 [vR a0, vI x1, vI x2, vI 1] [vI (ofM (rowM H a0) x1 1), vR a0] 0 0 H
    refine a_aload_n dX8_apart_32 rfl rfl ?_
    refine a_iload_n dX8_apart_33 rfl rfl ?_
    refine a_iconst dX8_apart_34 ⟨by decide, by decide⟩ ?_
    refine a_callV dX8_apart_35 cw_X8_apart_35 (as := [vI x2, vI 1]) rfl rfl (kMod_0 h_r0) (Nat.le_refl _) (Nat.le_of_ble_eq_true rfl) (nocov rfl) (Nat.le_of_ble_eq_true rfl) (Nat.le_of_ble_eq_true rfl) (CL.mono (c_of h_r0 ⟨q9_0.1, q9_0.2, by decide, by decide⟩) (fun r9 H9 h9 => ?_))
    rw [h9.1, h9.2]
    show AW l G mX8_apart (d + 1) 0 0 Q 38 [vR a0, vI x1, vI x2, vI 1] [vI (ofM (rowM H a0) x2 1), vI (ofM (rowM H a0) x1 1), vR a0] 0 0 H
    obtain ⟨q38_0, h⟩ := h
    refine a_callV dX8_apart_38 cw_X8_apart_38 (as := [vI (ofM (rowM H a0) x1 1), vI (ofM (rowM H a0) x2 1)]) rfl rfl (kMod_0 h_r0) (Nat.le_refl _) (Nat.le_of_ble_eq_true rfl) (nocov rfl) (Nat.le_of_ble_eq_true rfl) (Nat.le_of_ble_eq_true rfl) (CL.mono (c_wakeOf h_r0 q38_0) (fun r9 H9 h9 => ?_))
    rw [h9.1, h9.2]
    show AW l G mX8_apart (d + 1) 0 0 Q 41 [vR a0, vI x1, vI x2, vI 1] [vI (rowM H a0 (8 + 4 * (ofM (rowM H a0) x1 1) + (ofM (rowM H a0) x2 1)))] 0 0 H
    refine a_goto dX8_apart_41 (tgt := 50) rfl ?_
    exact a_iret dX8_apart_50 rfl (Nat.le_of_ble_eq_true rfl) (Nat.le_of_ble_eq_true rfl) h

theorem c_apart {l : Launch} {G : GT} {d : Nat} {H : AH} {a f g : Int} (hL : Lay LMod H a) (hf : 0 ≤ f ∧ f < 24) (hg0 : 0 ≤ g ∧ g < 24) (h1 : 0 ≤ ofM (rowM H a) f 1 ∧ ofM (rowM H a) f 1 ≤ 3) (h2 : 0 ≤ ofM (rowM H a) g 1 ∧ ofM (rowM H a) g 1 ≤ 3) (hd : 2 ≤ d := by omega) : CL l G mX8_apart d 0 0 [vR a, vI f, vI g] H (PQ (vI (apartM (rowM H a) f g)) H) := by
  obtain ⟨d, rfl⟩ : ∃ k, d = k + 1 := ⟨d - 1, by omega⟩
  exact CL.of (by decide) rfl (Nat.le_of_ble_eq_true rfl) (s_X8_apart_0 hL ⟨hf, hg0, fun c => ⟨by rw [apartM, if_neg c], rfl⟩, fun c => ⟨⟨h1.1, h1.2, h2.1, h2.2⟩, by rw [apartM, if_pos c], rfl⟩⟩)

theorem dX8_isOn_0 : decode cX8_isOn 0 = .ok (.aload_n 0, 1) := by decide +kernel
theorem dX8_isOn_1 : decode cX8_isOn 1 = .ok (.iload_n 1, 1) := by decide +kernel
theorem dX8_isOn_2 : decode cX8_isOn 2 = .ok (.bipush 7, 2) := by decide +kernel
theorem dX8_isOn_4 : decode cX8_isOn 4 = .ok (.invokevirtual 75, 3) := by decide +kernel
theorem dX8_isOn_7 : decode cX8_isOn 7 = .ok (.iload_n 2, 1) := by decide +kernel
theorem dX8_isOn_8 : decode cX8_isOn 8 = .ok (.if_icmp .ne 18, 3) := by decide +kernel
theorem dX8_isOn_11 : decode cX8_isOn 11 = .ok (.aload_n 0, 1) := by decide +kernel
theorem dX8_isOn_12 : decode cX8_isOn 12 = .ok (.iload_n 1, 1) := by decide +kernel
theorem dX8_isOn_13 : decode cX8_isOn 13 = .ok (.bipush 6, 2) := by decide +kernel
theorem dX8_isOn_15 : decode cX8_isOn 15 = .ok (.invokevirtual 75, 3) := by decide +kernel
theorem dX8_isOn_18 : decode cX8_isOn 18 = .ok (.iload_n 3, 1) := by decide +kernel
theorem dX8_isOn_19 : decode cX8_isOn 19 = .ok (.if_icmp .ne 7, 3) := by decide +kernel
theorem dX8_isOn_22 : decode cX8_isOn 22 = .ok (.iconst 1, 1) := by decide +kernel
theorem dX8_isOn_23 : decode cX8_isOn 23 = .ok (.goto 4, 3) := by decide +kernel
theorem dX8_isOn_26 : decode cX8_isOn 26 = .ok (.iconst 0, 1) := by decide +kernel
theorem dX8_isOn_27 : decode cX8_isOn 27 = .ok (.ireturn, 1) := by decide +kernel
set_option maxRecDepth 20000 in
theorem s_X8_isOn_0 {l : Launch} {G : GT} {d : Nat} {Q : AV → AH → Prop} {H : AH} {a0 x1 x2 x3 : Int} (h_r0 : Lay LMod H a0) (h : (0 ≤ x1 ∧ x1 < 24) ∧ (¬ (ofM (rowM H a0) x1 7) = x2 → Q (vI 0) H) ∧ ((ofM (rowM H a0) x1 7) = x2 → (¬ (ofM (rowM H a0) x1 6) = x3 → Q (vI 0) H) ∧ ((ofM (rowM H a0) x1 6) = x3 → Q (vI 1) H))) (hd : 1 ≤ d := by omega) : AW l G mX8_isOn (d + 1) 0 0 Q 0 [vR a0, vI x1, vI x2, vI x3] [] 0 0 H := by
  refine a_aload_n dX8_isOn_0 rfl rfl ?_
  refine a_iload_n dX8_isOn_1 rfl rfl ?_
  refine a_bipush dX8_isOn_2 (by decide) ?_
  obtain ⟨q4_0, h⟩ := h
  refine a_callV dX8_isOn_4 cw_X8_isOn_4 (as := [vI x1, vI 7]) rfl rfl (kMod_0 h_r0) (Nat.le_refl _) (Nat.le_of_ble_eq_true rfl) (nocov rfl) (Nat.le_of_ble_eq_true rfl) (Nat.le_of_ble_eq_true rfl) (CL.mono (c_of h_r0 ⟨q4_0.1, q4_0.2, by decide, by decide⟩) (fun r9 H9 h9 => ?_))
  rw [h9.1, h9.2]
  show AW l G mX8_isOn (d + 1) 0 0 Q 7 [vR a0, vI x1, vI x2, vI x3] [vI (ofM (rowM H a0) x1 7)] 0 0 H
  refine a_iload_n dX8_isOn_7 rfl rfl ?_
  refine a_icmp_ne dX8_isOn_8 (tgt := 26) rfl (fun c8 => ?_) (fun c8 => ?_)
  · replace h := h.1 c8
    refine a_iconst dX8_isOn_26 ⟨by decide, by decide⟩ ?_
    exact a_zret dX8_isOn_27 rfl (by decide) (Nat.le_of_ble_eq_true rfl) (Nat.le_of_ble_eq_true rfl) h
  · replace h := h.2 c8
    refine a_aload_n dX8_isOn_11 rfl rfl ?_
    refine a_iload_n dX8_isOn_12 rfl rfl ?_
    refine a_bipush dX8_isOn_13 (by decide) ?_
    refine a_callV dX8_isOn_15 cw_X8_isOn_15 (as := [vI x1, vI 6]) rfl rfl (kMod_0 h_r0) (Nat.le_refl _) (Nat.le_of_ble_eq_true rfl) (nocov rfl) (Nat.le_of_ble_eq_true rfl) (Nat.le_of_ble_eq_true rfl) (CL.mono (c_of h_r0 ⟨q4_0.1, q4_0.2, by decide, by decide⟩) (fun r9 H9 h9 => ?_))
    rw [h9.1, h9.2]
    show AW l G mX8_isOn (d + 1) 0 0 Q 18 [vR a0, vI x1, vI x2, vI x3] [vI (ofM (rowM H a0) x1 6)] 0 0 H
    refine a_iload_n dX8_isOn_18 rfl rfl ?_
    refine a_icmp_ne dX8_isOn_19 (tgt := 26) rfl (fun c19 => ?_) (fun c19 => ?_)
    · replace h := h.1 c19
      refine a_iconst dX8_isOn_26 ⟨by decide, by decide⟩ ?_
      exact a_zret dX8_isOn_27 rfl (by decide) (Nat.le_of_ble_eq_true rfl) (Nat.le_of_ble_eq_true rfl) h
    · replace h := h.2 c19
      refine a_iconst dX8_isOn_22 ⟨by decide, by decide⟩ ?_
      refine a_goto dX8_isOn_23 (tgt := 27) rfl ?_
      exact a_zret dX8_isOn_27 rfl (by decide) (Nat.le_of_ble_eq_true rfl) (Nat.le_of_ble_eq_true rfl) h

theorem c_isOn {l : Launch} {G : GT} {d : Nat} {H : AH} {a f s r : Int} (hL : Lay LMod H a) (hf : 0 ≤ f ∧ f < 24) (hd : 2 ≤ d := by omega) : CL l G mX8_isOn d 0 0 [vR a, vI f, vI s, vI r] H (PQ (vI (bi (decide (ofM (rowM H a) f 7 = s ∧ ofM (rowM H a) f 6 = r)))) H) := by
  obtain ⟨d, rfl⟩ : ∃ k, d = k + 1 := ⟨d - 1, by omega⟩
  exact CL.of (by decide) rfl (Nat.le_of_ble_eq_true rfl) (s_X8_isOn_0 hL ⟨hf, fun c => ⟨by rw [bi_f (fun q => c q.1)], rfl⟩, fun c => ⟨fun c2 => ⟨by rw [bi_f (fun q => c2 q.2)], rfl⟩, fun c2 => ⟨by rw [bi_t ⟨c, c2⟩], rfl⟩⟩⟩)

theorem dX8_isPlanned_0 : decode cX8_isPlanned 0 = .ok (.aload_n 0, 1) := by decide +kernel
theorem dX8_isPlanned_1 : decode cX8_isPlanned 1 = .ok (.iload_n 1, 1) := by decide +kernel
theorem dX8_isPlanned_2 : decode cX8_isPlanned 2 = .ok (.bipush 7, 2) := by decide +kernel
theorem dX8_isPlanned_4 : decode cX8_isPlanned 4 = .ok (.invokevirtual 75, 3) := by decide +kernel
theorem dX8_isPlanned_7 : decode cX8_isPlanned 7 = .ok (.ifCond .ne 7, 3) := by decide +kernel
theorem dX8_isPlanned_10 : decode cX8_isPlanned 10 = .ok (.iconst 1, 1) := by decide +kernel
theorem dX8_isPlanned_11 : decode cX8_isPlanned 11 = .ok (.goto 4, 3) := by decide +kernel
theorem dX8_isPlanned_14 : decode cX8_isPlanned 14 = .ok (.iconst 0, 1) := by decide +kernel
theorem dX8_isPlanned_15 : decode cX8_isPlanned 15 = .ok (.ireturn, 1) := by decide +kernel
set_option maxRecDepth 20000 in
theorem s_X8_isPlanned_0 {l : Launch} {G : GT} {d : Nat} {Q : AV → AH → Prop} {H : AH} {a0 x1 : Int} (h_r0 : Lay LMod H a0) (h : (0 ≤ x1 ∧ x1 < 24) ∧ (¬ (ofM (rowM H a0) x1 7) = 0 → Q (vI 0) H) ∧ ((ofM (rowM H a0) x1 7) = 0 → Q (vI 1) H)) (hd : 1 ≤ d := by omega) : AW l G mX8_isPlanned (d + 1) 0 0 Q 0 [vR a0, vI x1] [] 0 0 H := by
  refine a_aload_n dX8_isPlanned_0 rfl rfl ?_
  refine a_iload_n dX8_isPlanned_1 rfl rfl ?_
  refine a_bipush dX8_isPlanned_2 (by decide) ?_
  obtain ⟨q4_0, h⟩ := h
  refine a_callV dX8_isPlanned_4 cw_X8_isPlanned_4 (as := [vI x1, vI 7]) rfl rfl (kMod_0 h_r0) (Nat.le_refl _) (Nat.le_of_ble_eq_true rfl) (nocov rfl) (Nat.le_of_ble_eq_true rfl) (Nat.le_of_ble_eq_true rfl) (CL.mono (c_of h_r0 ⟨q4_0.1, q4_0.2, by decide, by decide⟩) (fun r9 H9 h9 => ?_))
  rw [h9.1, h9.2]
  show AW l G mX8_isPlanned (d + 1) 0 0 Q 7 [vR a0, vI x1] [vI (ofM (rowM H a0) x1 7)] 0 0 H
  refine a_if_ne dX8_isPlanned_7 (tgt := 14) rfl (fun c7 => ?_) (fun c7 => ?_)
  · replace h := h.1 c7
    refine a_iconst dX8_isPlanned_14 ⟨by decide, by decide⟩ ?_
    exact a_zret dX8_isPlanned_15 rfl (by decide) (Nat.le_of_ble_eq_true rfl) (Nat.le_of_ble_eq_true rfl) h
  · replace h := h.2 c7
    refine a_iconst dX8_isPlanned_10 ⟨by decide, by decide⟩ ?_
    refine a_goto dX8_isPlanned_11 (tgt := 15) rfl ?_
    exact a_zret dX8_isPlanned_15 rfl (by decide) (Nat.le_of_ble_eq_true rfl) (Nat.le_of_ble_eq_true rfl) h

theorem c_isPlanned {l : Launch} {G : GT} {d : Nat} {H : AH} {a f : Int} (hL : Lay LMod H a) (hf : 0 ≤ f ∧ f < 24) (hd : 2 ≤ d := by omega) : CL l G mX8_isPlanned d 0 0 [vR a, vI f] H (PQ (vI (bi (decide (ofM (rowM H a) f 7 = 0)))) H) := by
  obtain ⟨d, rfl⟩ : ∃ k, d = k + 1 := ⟨d - 1, by omega⟩
  refine CL.of (by decide) rfl (Nat.le_of_ble_eq_true rfl) (s_X8_isPlanned_0 hL ⟨hf, fun c => ⟨?_, rfl⟩, fun c => ⟨?_, rfl⟩⟩)
  · first | rw [bi_t (show ofM (rowM H a) f 7 = 0 from c)] | rw [bi_f (show ¬ (ofM (rowM H a) f 7 = 0) from fun q => q c)] | rw [bi_f (show ¬ (ofM (rowM H a) f 7 = 0) from c)]
  · first | rw [bi_t (show ofM (rowM H a) f 7 = 0 from c)] | rw [bi_f (show ¬ (ofM (rowM H a) f 7 = 0) from fun q => q c)] | rw [bi_f (show ¬ (ofM (rowM H a) f 7 = 0) from c)]

theorem dX8_isThere_0 : decode cX8_isThere 0 = .ok (.aload_n 0, 1) := by decide +kernel
theorem dX8_isThere_1 : decode cX8_isThere 1 = .ok (.iload_n 1, 1) := by decide +kernel
theorem dX8_isThere_2 : decode cX8_isThere 2 = .ok (.bipush 7, 2) := by decide +kernel
theorem dX8_isThere_4 : decode cX8_isThere 4 = .ok (.invokevirtual 75, 3) := by decide +kernel
theorem dX8_isThere_7 : decode cX8_isThere 7 = .ok (.iconst 3, 1) := by decide +kernel
theorem dX8_isThere_8 : decode cX8_isThere 8 = .ok (.if_icmp .eq 7, 3) := by decide +kernel
theorem dX8_isThere_11 : decode cX8_isThere 11 = .ok (.iconst 1, 1) := by decide +kernel
theorem dX8_isThere_12 : decode cX8_isThere 12 = .ok (.goto 4, 3) := by decide +kernel
theorem dX8_isThere_15 : decode cX8_isThere 15 = .ok (.iconst 0, 1) := by decide +kernel
theorem dX8_isThere_16 : decode cX8_isThere 16 = .ok (.ireturn, 1) := by decide +kernel
set_option maxRecDepth 20000 in
theorem s_X8_isThere_0 {l : Launch} {G : GT} {d : Nat} {Q : AV → AH → Prop} {H : AH} {a0 x1 : Int} (h_r0 : Lay LMod H a0) (h : (0 ≤ x1 ∧ x1 < 24) ∧ ((ofM (rowM H a0) x1 7) = 3 → Q (vI 0) H) ∧ (¬ (ofM (rowM H a0) x1 7) = 3 → Q (vI 1) H)) (hd : 1 ≤ d := by omega) : AW l G mX8_isThere (d + 1) 0 0 Q 0 [vR a0, vI x1] [] 0 0 H := by
  refine a_aload_n dX8_isThere_0 rfl rfl ?_
  refine a_iload_n dX8_isThere_1 rfl rfl ?_
  refine a_bipush dX8_isThere_2 (by decide) ?_
  obtain ⟨q4_0, h⟩ := h
  refine a_callV dX8_isThere_4 cw_X8_isThere_4 (as := [vI x1, vI 7]) rfl rfl (kMod_0 h_r0) (Nat.le_refl _) (Nat.le_of_ble_eq_true rfl) (nocov rfl) (Nat.le_of_ble_eq_true rfl) (Nat.le_of_ble_eq_true rfl) (CL.mono (c_of h_r0 ⟨q4_0.1, q4_0.2, by decide, by decide⟩) (fun r9 H9 h9 => ?_))
  rw [h9.1, h9.2]
  show AW l G mX8_isThere (d + 1) 0 0 Q 7 [vR a0, vI x1] [vI (ofM (rowM H a0) x1 7)] 0 0 H
  refine a_iconst dX8_isThere_7 ⟨by decide, by decide⟩ ?_
  refine a_icmp_eq dX8_isThere_8 (tgt := 15) rfl (fun c8 => ?_) (fun c8 => ?_)
  · replace h := h.1 c8
    refine a_iconst dX8_isThere_15 ⟨by decide, by decide⟩ ?_
    exact a_zret dX8_isThere_16 rfl (by decide) (Nat.le_of_ble_eq_true rfl) (Nat.le_of_ble_eq_true rfl) h
  · replace h := h.2 c8
    refine a_iconst dX8_isThere_11 ⟨by decide, by decide⟩ ?_
    refine a_goto dX8_isThere_12 (tgt := 16) rfl ?_
    exact a_zret dX8_isThere_16 rfl (by decide) (Nat.le_of_ble_eq_true rfl) (Nat.le_of_ble_eq_true rfl) h

theorem c_isThere {l : Launch} {G : GT} {d : Nat} {H : AH} {a f : Int} (hL : Lay LMod H a) (hf : 0 ≤ f ∧ f < 24) (hd : 2 ≤ d := by omega) : CL l G mX8_isThere d 0 0 [vR a, vI f] H (PQ (vI (bi (decide (¬ ofM (rowM H a) f 7 = 3)))) H) := by
  obtain ⟨d, rfl⟩ : ∃ k, d = k + 1 := ⟨d - 1, by omega⟩
  refine CL.of (by decide) rfl (Nat.le_of_ble_eq_true rfl) (s_X8_isThere_0 hL ⟨hf, fun c => ⟨?_, rfl⟩, fun c => ⟨?_, rfl⟩⟩)
  · first | rw [bi_t (show ¬ ofM (rowM H a) f 7 = 3 from c)] | rw [bi_f (show ¬ (¬ ofM (rowM H a) f 7 = 3) from fun q => q c)] | rw [bi_f (show ¬ (¬ ofM (rowM H a) f 7 = 3) from c)]
  · first | rw [bi_t (show ¬ ofM (rowM H a) f 7 = 3 from c)] | rw [bi_f (show ¬ (¬ ofM (rowM H a) f 7 = 3) from fun q => q c)] | rw [bi_f (show ¬ (¬ ofM (rowM H a) f 7 = 3) from c)]

theorem dX8_mayUse_0 : decode cX8_mayUse 0 = .ok (.aload_n 0, 1) := by decide +kernel
theorem dX8_mayUse_1 : decode cX8_mayUse 1 = .ok (.iload_n 1, 1) := by decide +kernel
theorem dX8_mayUse_2 : decode cX8_mayUse 2 = .ok (.iconst 5, 1) := by decide +kernel
theorem dX8_mayUse_3 : decode cX8_mayUse 3 = .ok (.invokevirtual 75, 3) := by decide +kernel
theorem dX8_mayUse_6 : decode cX8_mayUse 6 = .ok (.iload_n 2, 1) := by decide +kernel
theorem dX8_mayUse_7 : decode cX8_mayUse 7 = .ok (.ishr, 1) := by decide +kernel
theorem dX8_mayUse_8 : decode cX8_mayUse 8 = .ok (.iconst 1, 1) := by decide +kernel
theorem dX8_mayUse_9 : decode cX8_mayUse 9 = .ok (.iand, 1) := by decide +kernel
theorem dX8_mayUse_10 : decode cX8_mayUse 10 = .ok (.iconst 1, 1) := by decide +kernel
theorem dX8_mayUse_11 : decode cX8_mayUse 11 = .ok (.if_icmp .ne 7, 3) := by decide +kernel
theorem dX8_mayUse_14 : decode cX8_mayUse 14 = .ok (.iconst 1, 1) := by decide +kernel
theorem dX8_mayUse_15 : decode cX8_mayUse 15 = .ok (.goto 4, 3) := by decide +kernel
theorem dX8_mayUse_18 : decode cX8_mayUse 18 = .ok (.iconst 0, 1) := by decide +kernel
theorem dX8_mayUse_19 : decode cX8_mayUse 19 = .ok (.ireturn, 1) := by decide +kernel
set_option maxRecDepth 20000 in
theorem s_X8_mayUse_0 {l : Launch} {G : GT} {d : Nat} {Q : AV → AH → Prop} {H : AH} {a0 x1 x2 : Int} (h_r0 : Lay LMod H a0) (h : (0 ≤ x1 ∧ x1 < 24) ∧ (0 ≤ x2 ∧ x2 ≤ 31) ∧ (¬ ((shr (ofM (rowM H a0) x1 5) x2) % 2) = 1 → Q (vI 0) H) ∧ (((shr (ofM (rowM H a0) x1 5) x2) % 2) = 1 → Q (vI 1) H)) (hd : 1 ≤ d := by omega) : AW l G mX8_mayUse (d + 1) 0 0 Q 0 [vR a0, vI x1, vI x2] [] 0 0 H := by
  refine a_aload_n dX8_mayUse_0 rfl rfl ?_
  refine a_iload_n dX8_mayUse_1 rfl rfl ?_
  refine a_iconst dX8_mayUse_2 ⟨by decide, by decide⟩ ?_
  obtain ⟨q3_0, h⟩ := h
  refine a_callV dX8_mayUse_3 cw_X8_mayUse_3 (as := [vI x1, vI 5]) rfl rfl (kMod_0 h_r0) (Nat.le_refl _) (Nat.le_of_ble_eq_true rfl) (nocov rfl) (Nat.le_of_ble_eq_true rfl) (Nat.le_of_ble_eq_true rfl) (CL.mono (c_of h_r0 ⟨q3_0.1, q3_0.2, by decide, by decide⟩) (fun r9 H9 h9 => ?_))
  rw [h9.1, h9.2]
  show AW l G mX8_mayUse (d + 1) 0 0 Q 6 [vR a0, vI x1, vI x2] [vI (ofM (rowM H a0) x1 5)] 0 0 H
  refine a_iload_n dX8_mayUse_6 rfl rfl ?_
  obtain ⟨q7_0, h⟩ := h
  refine a_ishr dX8_mayUse_7 q7_0 ?_
  refine a_iconst dX8_mayUse_8 ⟨by decide, by decide⟩ ?_
  refine a_iand1 dX8_mayUse_9 ?_
  refine a_iconst dX8_mayUse_10 ⟨by decide, by decide⟩ ?_
  refine a_icmp_ne dX8_mayUse_11 (tgt := 18) rfl (fun c11 => ?_) (fun c11 => ?_)
  · replace h := h.1 c11
    refine a_iconst dX8_mayUse_18 ⟨by decide, by decide⟩ ?_
    exact a_zret dX8_mayUse_19 rfl (by decide) (Nat.le_of_ble_eq_true rfl) (Nat.le_of_ble_eq_true rfl) h
  · replace h := h.2 c11
    refine a_iconst dX8_mayUse_14 ⟨by decide, by decide⟩ ?_
    refine a_goto dX8_mayUse_15 (tgt := 19) rfl ?_
    exact a_zret dX8_mayUse_19 rfl (by decide) (Nat.le_of_ble_eq_true rfl) (Nat.le_of_ble_eq_true rfl) h

theorem c_mayUse {l : Launch} {G : GT} {d : Nat} {H : AH} {a f r : Int} (hL : Lay LMod H a) (hf : 0 ≤ f ∧ f < 24) (hr : 0 ≤ r ∧ r < 3) (hd : 2 ≤ d := by omega) : CL l G mX8_mayUse d 0 0 [vR a, vI f, vI r] H (PQ (vI (bi (decide (shr (ofM (rowM H a) f 5) r % 2 = 1)))) H) := by
  obtain ⟨d, rfl⟩ : ∃ k, d = k + 1 := ⟨d - 1, by omega⟩
  refine CL.of (by decide) rfl (Nat.le_of_ble_eq_true rfl) (s_X8_mayUse_0 hL ⟨hf, by omega, fun c => ⟨?_, rfl⟩, fun c => ⟨?_, rfl⟩⟩)
  · rw [bi_f (show ¬ (shr (ofM (rowM H a) f 5) r % 2 = 1) from c)]
  · rw [bi_t (show shr (ofM (rowM H a) f 5) r % 2 = 1 from c)]

theorem dX8_refusal_0 : decode cX8_refusal 0 = .ok (.aload_n 0, 1) := by decide +kernel
theorem dX8_refusal_1 : decode cX8_refusal 1 = .ok (.iload_n 1, 1) := by decide +kernel
theorem dX8_refusal_2 : decode cX8_refusal 2 = .ok (.invokevirtual 264, 3) := by decide +kernel
theorem dX8_refusal_5 : decode cX8_refusal 5 = .ok (.ifCond .ne 8, 3) := by decide +kernel
theorem dX8_refusal_8 : decode cX8_refusal 8 = .ok (.bipush (-3), 2) := by decide +kernel
theorem dX8_refusal_10 : decode cX8_refusal 10 = .ok (.goto 18, 3) := by decide +kernel
theorem dX8_refusal_13 : decode cX8_refusal 13 = .ok (.aload_n 0, 1) := by decide +kernel
theorem dX8_refusal_14 : decode cX8_refusal 14 = .ok (.iload_n 1, 1) := by decide +kernel
theorem dX8_refusal_15 : decode cX8_refusal 15 = .ok (.iload_n 2, 1) := by decide +kernel
theorem dX8_refusal_16 : decode cX8_refusal 16 = .ok (.invokevirtual 332, 3) := by decide +kernel
theorem dX8_refusal_19 : decode cX8_refusal 19 = .ok (.ifCond .eq 7, 3) := by decide +kernel
theorem dX8_refusal_22 : decode cX8_refusal 22 = .ok (.iconst 0, 1) := by decide +kernel
theorem dX8_refusal_23 : decode cX8_refusal 23 = .ok (.goto 5, 3) := by decide +kernel
theorem dX8_refusal_26 : decode cX8_refusal 26 = .ok (.bipush (-4), 2) := by decide +kernel
theorem dX8_refusal_28 : decode cX8_refusal 28 = .ok (.ireturn, 1) := by decide +kernel
set_option maxRecDepth 20000 in
theorem s_X8_refusal_0 {l : Launch} {G : GT} {d : Nat} {Q : AV → AH → Prop} {H : AH} {a0 x1 x2 : Int} (h_r0 : Lay LMod H a0) (h : (0 ≤ x1 ∧ x1 < 24) ∧ (ofM (rowM H a0) x1 7 = 0 → (0 ≤ x2 ∧ x2 < 3) ∧ (¬ (shr (ofM (rowM H a0) x1 5) x2 % 2 = 1) → Q (vI (-4)) H) ∧ (shr (ofM (rowM H a0) x1 5) x2 % 2 = 1 → Q (vI 0) H)) ∧ (¬ (ofM (rowM H a0) x1 7 = 0) → Q (vI (-3)) H)) (hd : 2 ≤ d := by omega) : AW l G mX8_refusal (d + 1) 0 0 Q 0 [vR a0, vI x1, vI x2] [] 0 0 H := by
  refine a_aload_n dX8_refusal_0 rfl rfl ?_
  refine a_iload_n dX8_refusal_1 rfl rfl ?_
  obtain ⟨q2_0, h⟩ := h
  refine a_callV dX8_refusal_2 cw_X8_refusal_2 (as := [vI x1]) rfl rfl (kMod_0 h_r0) (Nat.le_refl _) (Nat.le_of_ble_eq_true rfl) (nocov rfl) (Nat.le_of_ble_eq_true rfl) (Nat.le_of_ble_eq_true rfl) (CL.mono (c_isPlanned h_r0 q2_0) (fun r9 H9 h9 => ?_))
  rw [h9.1, h9.2]
  show AW l G mX8_refusal (d + 1) 0 0 Q 5 [vR a0, vI x1, vI x2] [vI (bi (decide (ofM (rowM H a0) x1 7 = 0)))] 0 0 H
  refine a_if_ne dX8_refusal_5 (tgt := 13) rfl (fun c5 => ?_) (fun c5 => ?_)
  · replace h := h.1 (bi_1 c5)
    refine a_aload_n dX8_refusal_13 rfl rfl ?_
    refine a_iload_n dX8_refusal_14 rfl rfl ?_
    refine a_iload_n dX8_refusal_15 rfl rfl ?_
    obtain ⟨q16_1, h⟩ := h
    refine a_callV dX8_refusal_16 cw_X8_refusal_16 (as := [vI x1, vI x2]) rfl rfl (kMod_0 h_r0) (Nat.le_refl _) (Nat.le_of_ble_eq_true rfl) (nocov rfl) (Nat.le_of_ble_eq_true rfl) (Nat.le_of_ble_eq_true rfl) (CL.mono (c_mayUse h_r0 q2_0 q16_1) (fun r9 H9 h9 => ?_))
    rw [h9.1, h9.2]
    show AW l G mX8_refusal (d + 1) 0 0 Q 19 [vR a0, vI x1, vI x2] [vI (bi (decide (shr (ofM (rowM H a0) x1 5) x2 % 2 = 1)))] 0 0 H
    refine a_if_eq dX8_refusal_19 (tgt := 26) rfl (fun c19 => ?_) (fun c19 => ?_)
    · replace h := h.1 (bi_0 c19)
      refine a_bipush dX8_refusal_26 (by decide) ?_
      exact a_iret dX8_refusal_28 rfl (Nat.le_of_ble_eq_true rfl) (Nat.le_of_ble_eq_true rfl) h
    · replace h := h.2 (bi_1 c19)
      refine a_iconst dX8_refusal_22 ⟨by decide, by decide⟩ ?_
      refine a_goto dX8_refusal_23 (tgt := 28) rfl ?_
      exact a_iret dX8_refusal_28 rfl (Nat.le_of_ble_eq_true rfl) (Nat.le_of_ble_eq_true rfl) h
  · replace h := h.2 (bi_0 c5)
    refine a_bipush dX8_refusal_8 (by decide) ?_
    refine a_goto dX8_refusal_10 (tgt := 28) rfl ?_
    exact a_iret dX8_refusal_28 rfl (Nat.le_of_ble_eq_true rfl) (Nat.le_of_ble_eq_true rfl) h

def refuM (M : Row) (f r : Int) : Int := if ofM M f 7 = 0 then (if shr (ofM M f 5) r % 2 = 1 then 0 else -4) else -3
theorem c_refusal {l : Launch} {G : GT} {d : Nat} {H : AH} {a f r : Int} (hL : Lay LMod H a) (hf : 0 ≤ f ∧ f < 24) (hr : 0 ≤ r ∧ r < 3) (hd : 3 ≤ d := by omega) : CL l G mX8_refusal d 0 0 [vR a, vI f, vI r] H (PQ (vI (refuM (rowM H a) f r)) H) := by
  obtain ⟨d, rfl⟩ : ∃ k, d = k + 1 := ⟨d - 1, by omega⟩
  refine CL.of (by decide) rfl (Nat.le_of_ble_eq_true rfl) (s_X8_refusal_0 hL ⟨hf, fun c => ⟨hr, fun c2 => ⟨?_, rfl⟩, fun c2 => ⟨?_, rfl⟩⟩, fun c => ⟨?_, rfl⟩⟩)
  · rw [refuM, if_pos c, if_neg c2]
  · rw [refuM, if_pos c, if_pos c2]
  · rw [refuM, if_neg c]

theorem dX8_noAround_0 : decode cX8_noAround 0 = .ok (.aload_n 0, 1) := by decide +kernel
theorem dX8_noAround_1 : decode cX8_noAround 1 = .ok (.iload_n 1, 1) := by decide +kernel
theorem dX8_noAround_2 : decode cX8_noAround 2 = .ok (.bipush 7, 2) := by decide +kernel
theorem dX8_noAround_4 : decode cX8_noAround 4 = .ok (.invokevirtual 75, 3) := by decide +kernel
theorem dX8_noAround_7 : decode cX8_noAround 7 = .ok (.iconst 1, 1) := by decide +kernel
theorem dX8_noAround_8 : decode cX8_noAround 8 = .ok (.if_icmp .eq 8, 3) := by decide +kernel
theorem dX8_noAround_11 : decode cX8_noAround 11 = .ok (.bipush (-3), 2) := by decide +kernel
theorem dX8_noAround_13 : decode cX8_noAround 13 = .ok (.goto 19, 3) := by decide +kernel
theorem dX8_noAround_16 : decode cX8_noAround 16 = .ok (.aload_n 0, 1) := by decide +kernel
theorem dX8_noAround_17 : decode cX8_noAround 17 = .ok (.iload_n 1, 1) := by decide +kernel
theorem dX8_noAround_18 : decode cX8_noAround 18 = .ok (.iconst 0, 1) := by decide +kernel
theorem dX8_noAround_19 : decode cX8_noAround 19 = .ok (.invokevirtual 75, 3) := by decide +kernel
theorem dX8_noAround_22 : decode cX8_noAround 22 = .ok (.iconst 1, 1) := by decide +kernel
theorem dX8_noAround_23 : decode cX8_noAround 23 = .ok (.if_icmp .ne 7, 3) := by decide +kernel
theorem dX8_noAround_26 : decode cX8_noAround 26 = .ok (.iconst 0, 1) := by decide +kernel
theorem dX8_noAround_27 : decode cX8_noAround 27 = .ok (.goto 5, 3) := by decide +kernel
theorem dX8_noAround_30 : decode cX8_noAround 30 = .ok (.bipush (-4), 2) := by decide +kernel
theorem dX8_noAround_32 : decode cX8_noAround 32 = .ok (.ireturn, 1) := by decide +kernel
set_option maxRecDepth 20000 in
theorem s_X8_noAround_0 {l : Launch} {G : GT} {d : Nat} {Q : AV → AH → Prop} {H : AH} {a0 x1 : Int} (h_r0 : Lay LMod H a0) (h : (0 ≤ x1 ∧ x1 < 24) ∧ ((ofM (rowM H a0) x1 7) = 1 → (¬ (ofM (rowM H a0) x1 0) = 1 → Q (vI (-4)) H) ∧ ((ofM (rowM H a0) x1 0) = 1 → Q (vI 0) H)) ∧ (¬ (ofM (rowM H a0) x1 7) = 1 → Q (vI (-3)) H)) (hd : 1 ≤ d := by omega) : AW l G mX8_noAround (d + 1) 0 0 Q 0 [vR a0, vI x1] [] 0 0 H := by
  refine a_aload_n dX8_noAround_0 rfl rfl ?_
  refine a_iload_n dX8_noAround_1 rfl rfl ?_
  refine a_bipush dX8_noAround_2 (by decide) ?_
  obtain ⟨q4_0, h⟩ := h
  refine a_callV dX8_noAround_4 cw_X8_noAround_4 (as := [vI x1, vI 7]) rfl rfl (kMod_0 h_r0) (Nat.le_refl _) (Nat.le_of_ble_eq_true rfl) (nocov rfl) (Nat.le_of_ble_eq_true rfl) (Nat.le_of_ble_eq_true rfl) (CL.mono (c_of h_r0 ⟨q4_0.1, q4_0.2, by decide, by decide⟩) (fun r9 H9 h9 => ?_))
  rw [h9.1, h9.2]
  show AW l G mX8_noAround (d + 1) 0 0 Q 7 [vR a0, vI x1] [vI (ofM (rowM H a0) x1 7)] 0 0 H
  refine a_iconst dX8_noAround_7 ⟨by decide, by decide⟩ ?_
  refine a_icmp_eq dX8_noAround_8 (tgt := 16) rfl (fun c8 => ?_) (fun c8 => ?_)
  · replace h := h.1 c8
    refine a_aload_n dX8_noAround_16 rfl rfl ?_
    refine a_iload_n dX8_noAround_17 rfl rfl ?_
    refine a_iconst dX8_noAround_18 ⟨by decide, by decide⟩ ?_
    refine a_callV dX8_noAround_19 cw_X8_noAround_19 (as := [vI x1, vI 0]) rfl rfl (kMod_0 h_r0) (Nat.le_refl _) (Nat.le_of_ble_eq_true rfl) (nocov rfl) (Nat.le_of_ble_eq_true rfl) (Nat.le_of_ble_eq_true rfl) (CL.mono (c_of h_r0 ⟨q4_0.1, q4_0.2, by decide, by decide⟩) (fun r9 H9 h9 => ?_))
    rw [h9.1, h9.2]
    show AW l G mX8_noAround (d + 1) 0 0 Q 22 [vR a0, vI x1] [vI (ofM (rowM H a0) x1 0)] 0 0 H
    refine a_iconst dX8_noAround_22 ⟨by decide, by decide⟩ ?_
    refine a_icmp_ne dX8_noAround_23 (tgt := 30) rfl (fun c23 => ?_) (fun c23 => ?_)
    · replace h := h.1 c23
      refine a_bipush dX8_noAround_30 (by decide) ?_
      exact a_iret dX8_noAround_32 rfl (Nat.le_of_ble_eq_true rfl) (Nat.le_of_ble_eq_true rfl) h
    · replace h := h.2 c23
      refine a_iconst dX8_noAround_26 ⟨by decide, by decide⟩ ?_
      refine a_goto dX8_noAround_27 (tgt := 32) rfl ?_
      exact a_iret dX8_noAround_32 rfl (Nat.le_of_ble_eq_true rfl) (Nat.le_of_ble_eq_true rfl) h
  · replace h := h.2 c8
    refine a_bipush dX8_noAround_11 (by decide) ?_
    refine a_goto dX8_noAround_13 (tgt := 32) rfl ?_
    exact a_iret dX8_noAround_32 rfl (Nat.le_of_ble_eq_true rfl) (Nat.le_of_ble_eq_true rfl) h

def noarM (M : Row) (f : Int) : Int := if ofM M f 7 = 1 then (if ofM M f 0 = 1 then 0 else -4) else -3
theorem c_noAround {l : Launch} {G : GT} {d : Nat} {H : AH} {a f : Int} (hL : Lay LMod H a) (hf : 0 ≤ f ∧ f < 24) (hd : 2 ≤ d := by omega) : CL l G mX8_noAround d 0 0 [vR a, vI f] H (PQ (vI (noarM (rowM H a) f)) H) := by
  obtain ⟨d, rfl⟩ : ∃ k, d = k + 1 := ⟨d - 1, by omega⟩
  refine CL.of (by decide) rfl (Nat.le_of_ble_eq_true rfl) (s_X8_noAround_0 hL ⟨hf, fun c => ⟨fun c2 => ⟨?_, rfl⟩, fun c2 => ⟨?_, rfl⟩⟩, fun c => ⟨?_, rfl⟩⟩)
  · rw [noarM, if_pos c, if_neg c2]
  · rw [noarM, if_pos c, if_pos c2]
  · rw [noarM, if_neg c]

theorem dX8_costAt_0 : decode cX8_costAt 0 = .ok (.aload_n 0, 1) := by decide +kernel
theorem dX8_costAt_1 : decode cX8_costAt 1 = .ok (.iload_n 1, 1) := by decide +kernel
theorem dX8_costAt_2 : decode cX8_costAt 2 = .ok (.iconst 1, 1) := by decide +kernel
theorem dX8_costAt_3 : decode cX8_costAt 3 = .ok (.invokevirtual 75, 3) := by decide +kernel
theorem dX8_costAt_6 : decode cX8_costAt 6 = .ok (.istore_n 3, 1) := by decide +kernel
theorem dX8_costAt_7 : decode cX8_costAt 7 = .ok (.iload_n 2, 1) := by decide +kernel
theorem dX8_costAt_8 : decode cX8_costAt 8 = .ok (.i2l, 1) := by decide +kernel
theorem dX8_costAt_9 : decode cX8_costAt 9 = .ok (.aload_n 0, 1) := by decide +kernel
theorem dX8_costAt_10 : decode cX8_costAt 10 = .ok (.iload_n 1, 1) := by decide +kernel
theorem dX8_costAt_11 : decode cX8_costAt 11 = .ok (.iconst 3, 1) := by decide +kernel
theorem dX8_costAt_12 : decode cX8_costAt 12 = .ok (.invokevirtual 75, 3) := by decide +kernel
theorem dX8_costAt_15 : decode cX8_costAt 15 = .ok (.i2l, 1) := by decide +kernel
theorem dX8_costAt_16 : decode cX8_costAt 16 = .ok (.lsub, 1) := by decide +kernel
theorem dX8_costAt_17 : decode cX8_costAt 17 = .ok (.lstore 4, 2) := by decide +kernel
theorem dX8_costAt_19 : decode cX8_costAt 19 = .ok (.lload 4, 2) := by decide +kernel
theorem dX8_costAt_21 : decode cX8_costAt 21 = .ok (.lconst 0, 1) := by decide +kernel
theorem dX8_costAt_22 : decode cX8_costAt 22 = .ok (.lcmp, 1) := by decide +kernel
theorem dX8_costAt_23 : decode cX8_costAt 23 = .ok (.ifCond .ge 20, 3) := by decide +kernel
theorem dX8_costAt_26 : decode cX8_costAt 26 = .ok (.lload 4, 2) := by decide +kernel
theorem dX8_costAt_28 : decode cX8_costAt 28 = .ok (.lneg, 1) := by decide +kernel
theorem dX8_costAt_29 : decode cX8_costAt 29 = .ok (.aload_n 0, 1) := by decide +kernel
theorem dX8_costAt_30 : decode cX8_costAt 30 = .ok (.getfield 9, 3) := by decide +kernel
theorem dX8_costAt_33 : decode cX8_costAt 33 = .ok (.bipush 24, 2) := by decide +kernel
theorem dX8_costAt_35 : decode cX8_costAt 35 = .ok (.iload_n 3, 1) := by decide +kernel
theorem dX8_costAt_36 : decode cX8_costAt 36 = .ok (.iadd, 1) := by decide +kernel
theorem dX8_costAt_37 : decode cX8_costAt 37 = .ok (.iaload, 1) := by decide +kernel
theorem dX8_costAt_38 : decode cX8_costAt 38 = .ok (.i2l, 1) := by decide +kernel
theorem dX8_costAt_39 : decode cX8_costAt 39 = .ok (.lmul, 1) := by decide +kernel
theorem dX8_costAt_40 : decode cX8_costAt 40 = .ok (.goto 16, 3) := by decide +kernel
theorem dX8_costAt_43 : decode cX8_costAt 43 = .ok (.lload 4, 2) := by decide +kernel
theorem dX8_costAt_45 : decode cX8_costAt 45 = .ok (.aload_n 0, 1) := by decide +kernel
theorem dX8_costAt_46 : decode cX8_costAt 46 = .ok (.getfield 9, 3) := by decide +kernel
theorem dX8_costAt_49 : decode cX8_costAt 49 = .ok (.bipush 28, 2) := by decide +kernel
theorem dX8_costAt_51 : decode cX8_costAt 51 = .ok (.iload_n 3, 1) := by decide +kernel
theorem dX8_costAt_52 : decode cX8_costAt 52 = .ok (.iadd, 1) := by decide +kernel
theorem dX8_costAt_53 : decode cX8_costAt 53 = .ok (.iaload, 1) := by decide +kernel
theorem dX8_costAt_54 : decode cX8_costAt 54 = .ok (.i2l, 1) := by decide +kernel
theorem dX8_costAt_55 : decode cX8_costAt 55 = .ok (.lmul, 1) := by decide +kernel
theorem dX8_costAt_56 : decode cX8_costAt 56 = .ok (.lstore 6, 2) := by decide +kernel
theorem dX8_costAt_58 : decode cX8_costAt 58 = .ok (.iload_n 2, 1) := by decide +kernel
theorem dX8_costAt_59 : decode cX8_costAt 59 = .ok (.aload_n 0, 1) := by decide +kernel
theorem dX8_costAt_60 : decode cX8_costAt 60 = .ok (.iload_n 1, 1) := by decide +kernel
theorem dX8_costAt_61 : decode cX8_costAt 61 = .ok (.iconst 4, 1) := by decide +kernel
theorem dX8_costAt_62 : decode cX8_costAt 62 = .ok (.invokevirtual 75, 3) := by decide +kernel
theorem dX8_costAt_65 : decode cX8_costAt 65 = .ok (.if_icmp .le 12, 3) := by decide +kernel
theorem dX8_costAt_68 : decode cX8_costAt 68 = .ok (.lload 6, 2) := by decide +kernel
theorem dX8_costAt_70 : decode cX8_costAt 70 = .ok (.ldc2_w 216, 3) := by decide +kernel
theorem dX8_costAt_73 : decode cX8_costAt 73 = .ok (.ladd, 1) := by decide +kernel
theorem dX8_costAt_74 : decode cX8_costAt 74 = .ok (.goto 5, 3) := by decide +kernel
theorem dX8_costAt_77 : decode cX8_costAt 77 = .ok (.lload 6, 2) := by decide +kernel
theorem dX8_costAt_79 : decode cX8_costAt 79 = .ok (.lreturn, 1) := by decide +kernel
set_option maxRecDepth 20000 in
theorem s_X8_costAt_0 {l : Launch} {G : GT} {d : Nat} {Q : AV → AH → Prop} {H : AH} {a0 x1 x2 : Int} (h_r0 : Lay LMod H a0) (h : (0 ≤ x1 ∧ x1 < 24) ∧ (-9223372036854775808 ≤ x2 - (ofM (rowM H a0) x1 3) ∧ x2 - (ofM (rowM H a0) x1 3) ≤ 9223372036854775807) ∧ (0 ≤ (x2 - (ofM (rowM H a0) x1 3)) → (-2147483648 ≤ 28 + (ofM (rowM H a0) x1 1) ∧ 28 + (ofM (rowM H a0) x1 1) ≤ 2147483647) ∧ (0 ≤ (28 + (ofM (rowM H a0) x1 1)) ∧ (28 + (ofM (rowM H a0) x1 1)) < 440) ∧ (-9223372036854775808 ≤ (x2 - (ofM (rowM H a0) x1 3)) * (rowM H a0 (28 + (ofM (rowM H a0) x1 1))) ∧ (x2 - (ofM (rowM H a0) x1 3)) * (rowM H a0 (28 + (ofM (rowM H a0) x1 1))) ≤ 9223372036854775807) ∧ (x2 ≤ (ofM (rowM H a0) x1 4) → Q (vJ ((x2 - (ofM (rowM H a0) x1 3)) * (rowM H a0 (28 + (ofM (rowM H a0) x1 1))))) H) ∧ ((ofM (rowM H a0) x1 4) < x2 → (-9223372036854775808 ≤ ((x2 - (ofM (rowM H a0) x1 3)) * (rowM H a0 (28 + (ofM (rowM H a0) x1 1)))) + 1000000000 ∧ ((x2 - (ofM (rowM H a0) x1 3)) * (rowM H a0 (28 + (ofM (rowM H a0) x1 1)))) + 1000000000 ≤ 9223372036854775807) ∧ Q (vJ (((x2 - (ofM (rowM H a0) x1 3)) * (rowM H a0 (28 + (ofM (rowM H a0) x1 1)))) + 1000000000)) H)) ∧ ((x2 - (ofM (rowM H a0) x1 3)) < 0 → (-9223372036854775808 ≤ -(x2 - (ofM (rowM H a0) x1 3)) ∧ -(x2 - (ofM (rowM H a0) x1 3)) ≤ 9223372036854775807) ∧ (-2147483648 ≤ 24 + (ofM (rowM H a0) x1 1) ∧ 24 + (ofM (rowM H a0) x1 1) ≤ 2147483647) ∧ (0 ≤ (24 + (ofM (rowM H a0) x1 1)) ∧ (24 + (ofM (rowM H a0) x1 1)) < 440) ∧ (-9223372036854775808 ≤ (-(x2 - (ofM (rowM H a0) x1 3))) * (rowM H a0 (24 + (ofM (rowM H a0) x1 1))) ∧ (-(x2 - (ofM (rowM H a0) x1 3))) * (rowM H a0 (24 + (ofM (rowM H a0) x1 1))) ≤ 9223372036854775807) ∧ (x2 ≤ (ofM (rowM H a0) x1 4) → Q (vJ ((-(x2 - (ofM (rowM H a0) x1 3))) * (rowM H a0 (24 + (ofM (rowM H a0) x1 1))))) H) ∧ ((ofM (rowM H a0) x1 4) < x2 → (-9223372036854775808 ≤ ((-(x2 - (ofM (rowM H a0) x1 3))) * (rowM H a0 (24 + (ofM (rowM H a0) x1 1)))) + 1000000000 ∧ ((-(x2 - (ofM (rowM H a0) x1 3))) * (rowM H a0 (24 + (ofM (rowM H a0) x1 1)))) + 1000000000 ≤ 9223372036854775807) ∧ Q (vJ (((-(x2 - (ofM (rowM H a0) x1 3))) * (rowM H a0 (24 + (ofM (rowM H a0) x1 1)))) + 1000000000)) H))) (hd : 1 ≤ d := by omega) : AW l G mX8_costAt (d + 1) 0 0 Q 0 [vR a0, vI x1, vI x2, vU, vU, vU, vU, vU] [] 0 0 H := by
  refine a_aload_n dX8_costAt_0 rfl rfl ?_
  refine a_iload_n dX8_costAt_1 rfl rfl ?_
  refine a_iconst dX8_costAt_2 ⟨by decide, by decide⟩ ?_
  obtain ⟨q3_0, h⟩ := h
  refine a_callV dX8_costAt_3 cw_X8_costAt_3 (as := [vI x1, vI 1]) rfl rfl (kMod_0 h_r0) (Nat.le_refl _) (Nat.le_of_ble_eq_true rfl) (nocov rfl) (Nat.le_of_ble_eq_true rfl) (Nat.le_of_ble_eq_true rfl) (CL.mono (c_of h_r0 ⟨q3_0.1, q3_0.2, by decide, by decide⟩) (fun r9 H9 h9 => ?_))
  rw [h9.1, h9.2]
  show AW l G mX8_costAt (d + 1) 0 0 Q 6 [vR a0, vI x1, vI x2, vU, vU, vU, vU, vU] [vI (ofM (rowM H a0) x1 1)] 0 0 H
  refine a_istore_n dX8_costAt_6 rfl (Nat.le_of_ble_eq_true rfl) (ls' := [vR a0, vI x1, vI x2, vI (ofM (rowM H a0) x1 1), vU, vU, vU, vU]) rfl ?_
  refine a_iload_n dX8_costAt_7 rfl rfl ?_
  refine a_i2l dX8_costAt_8 ?_
  refine a_aload_n dX8_costAt_9 rfl rfl ?_
  refine a_iload_n dX8_costAt_10 rfl rfl ?_
  refine a_iconst dX8_costAt_11 ⟨by decide, by decide⟩ ?_
  refine a_callV dX8_costAt_12 cw_X8_costAt_12 (as := [vI x1, vI 3]) rfl rfl (kMod_0 h_r0) (Nat.le_refl _) (Nat.le_of_ble_eq_true rfl) (nocov rfl) (Nat.le_of_ble_eq_true rfl) (Nat.le_of_ble_eq_true rfl) (CL.mono (c_of h_r0 ⟨q3_0.1, q3_0.2, by decide, by decide⟩) (fun r9 H9 h9 => ?_))
  rw [h9.1, h9.2]
  show AW l G mX8_costAt (d + 1) 0 0 Q 15 [vR a0, vI x1, vI x2, vI (ofM (rowM H a0) x1 1), vU, vU, vU, vU] [vI (ofM (rowM H a0) x1 3), vJ x2] 0 0 H
  refine a_i2l dX8_costAt_15 ?_
  obtain ⟨q16_0, h⟩ := h
  refine a_lsub dX8_costAt_16 q16_0 ?_
  refine a_lstore dX8_costAt_17 (Nat.le_of_ble_eq_true rfl) (ls' := [vR a0, vI x1, vI x2, vI (ofM (rowM H a0) x1 1), vJ (x2 - (ofM (rowM H a0) x1 3)), vU, vU, vU]) rfl ?_
  refine a_lload dX8_costAt_19 rfl ?_
  refine a_lconst dX8_costAt_21 ?_
  show AW l G mX8_costAt (d + 1) 0 0 Q 22 [vR a0, vI x1, vI x2, vI (ofM (rowM H a0) x1 1), vJ (x2 - (ofM (rowM H a0) x1 3)), vU, vU, vU] [vJ 0, vJ (x2 - (ofM (rowM H a0) x1 3))] 0 0 H
  refine a_lcmp_ge dX8_costAt_22 dX8_costAt_23 (tgt := 43) rfl (fun c22 => ?_) (fun c22 => ?_)
  · replace h := h.1 c22
    refine a_lload dX8_costAt_43 rfl ?_
    refine a_aload_n dX8_costAt_45 rfl rfl ?_
    refine a_getR dX8_costAt_46 fw_RX8_9 rfl rfl (kMod_0 h_r0) (rMod_0_0 h_r0) ?_
    refine a_bipush dX8_costAt_49 (by decide) ?_
    refine a_iload_n dX8_costAt_51 rfl rfl ?_
    obtain ⟨q52_0, h⟩ := h
    refine a_iadd dX8_costAt_52 q52_0 ?_
    obtain ⟨q53_0, h⟩ := h
    refine b_iald dX8_costAt_53 (kMod_1 h_r0) (nMod_1 h_r0) q53_0 ?_
    refine a_i2l dX8_costAt_54 ?_
    obtain ⟨q55_0, h⟩ := h
    refine a_lmul dX8_costAt_55 q55_0 ?_
    refine a_lstore dX8_costAt_56 (Nat.le_of_ble_eq_true rfl) (ls' := [vR a0, vI x1, vI x2, vI (ofM (rowM H a0) x1 1), vJ (x2 - (ofM (rowM H a0) x1 3)), vU, vJ ((x2 - (ofM (rowM H a0) x1 3)) * (rowM H a0 (28 + (ofM (rowM H a0) x1 1)))), vU]) rfl ?_
    refine a_iload_n dX8_costAt_58 rfl rfl ?_
    refine a_aload_n dX8_costAt_59 rfl rfl ?_
    refine a_iload_n dX8_costAt_60 rfl rfl ?_
    refine a_iconst dX8_costAt_61 ⟨by decide, by decide⟩ ?_
    refine a_callV dX8_costAt_62 cw_X8_costAt_62 (as := [vI x1, vI 4]) rfl rfl (kMod_0 h_r0) (Nat.le_refl _) (Nat.le_of_ble_eq_true rfl) (nocov rfl) (Nat.le_of_ble_eq_true rfl) (Nat.le_of_ble_eq_true rfl) (CL.mono (c_of h_r0 ⟨q3_0.1, q3_0.2, by decide, by decide⟩) (fun r9 H9 h9 => ?_))
    rw [h9.1, h9.2]
    show AW l G mX8_costAt (d + 1) 0 0 Q 65 [vR a0, vI x1, vI x2, vI (ofM (rowM H a0) x1 1), vJ (x2 - (ofM (rowM H a0) x1 3)), vU, vJ ((x2 - (ofM (rowM H a0) x1 3)) * (rowM H a0 (28 + (ofM (rowM H a0) x1 1)))), vU] [vI (ofM (rowM H a0) x1 4), vI x2] 0 0 H
    refine a_icmp_le dX8_costAt_65 (tgt := 77) rfl (fun c65 => ?_) (fun c65 => ?_)
    · replace h := h.1 c65
      refine a_lload dX8_costAt_77 rfl ?_
      exact a_lret dX8_costAt_79 rfl (Nat.le_of_ble_eq_true rfl) (Nat.le_of_ble_eq_true rfl) h
    · replace h := h.2 c65
      refine a_lload dX8_costAt_68 rfl ?_
      refine a_ldc2 dX8_costAt_70 (w_1547) ?_
      show AW l G mX8_costAt (d + 1) 0 0 Q 73 [vR a0, vI x1, vI x2, vI (ofM (rowM H a0) x1 1), vJ (x2 - (ofM (rowM H a0) x1 3)), vU, vJ ((x2 - (ofM (rowM H a0) x1 3)) * (rowM H a0 (28 + (ofM (rowM H a0) x1 1)))), vU] [vJ 1000000000, vJ ((x2 - (ofM (rowM H a0) x1 3)) * (rowM H a0 (28 + (ofM (rowM H a0) x1 1))))] 0 0 H
      obtain ⟨q73_0, h⟩ := h
      refine a_ladd dX8_costAt_73 q73_0 ?_
      refine a_goto dX8_costAt_74 (tgt := 79) rfl ?_
      exact a_lret dX8_costAt_79 rfl (Nat.le_of_ble_eq_true rfl) (Nat.le_of_ble_eq_true rfl) h
  · replace h := h.2 c22
    refine a_lload dX8_costAt_26 rfl ?_
    obtain ⟨q28_0, h⟩ := h
    refine a_lneg dX8_costAt_28 q28_0 ?_
    refine a_aload_n dX8_costAt_29 rfl rfl ?_
    refine a_getR dX8_costAt_30 fw_RX8_9 rfl rfl (kMod_0 h_r0) (rMod_0_0 h_r0) ?_
    refine a_bipush dX8_costAt_33 (by decide) ?_
    refine a_iload_n dX8_costAt_35 rfl rfl ?_
    obtain ⟨q36_0, h⟩ := h
    refine a_iadd dX8_costAt_36 q36_0 ?_
    obtain ⟨q37_0, h⟩ := h
    refine b_iald dX8_costAt_37 (kMod_1 h_r0) (nMod_1 h_r0) q37_0 ?_
    refine a_i2l dX8_costAt_38 ?_
    obtain ⟨q39_0, h⟩ := h
    refine a_lmul dX8_costAt_39 q39_0 ?_
    refine a_goto dX8_costAt_40 (tgt := 56) rfl ?_
    refine a_lstore dX8_costAt_56 (Nat.le_of_ble_eq_true rfl) (ls' := [vR a0, vI x1, vI x2, vI (ofM (rowM H a0) x1 1), vJ (x2 - (ofM (rowM H a0) x1 3)), vU, vJ ((-(x2 - (ofM (rowM H a0) x1 3))) * (rowM H a0 (24 + (ofM (rowM H a0) x1 1)))), vU]) rfl ?_
    refine a_iload_n dX8_costAt_58 rfl rfl ?_
    refine a_aload_n dX8_costAt_59 rfl rfl ?_
    refine a_iload_n dX8_costAt_60 rfl rfl ?_
    refine a_iconst dX8_costAt_61 ⟨by decide, by decide⟩ ?_
    refine a_callV dX8_costAt_62 cw_X8_costAt_62 (as := [vI x1, vI 4]) rfl rfl (kMod_0 h_r0) (Nat.le_refl _) (Nat.le_of_ble_eq_true rfl) (nocov rfl) (Nat.le_of_ble_eq_true rfl) (Nat.le_of_ble_eq_true rfl) (CL.mono (c_of h_r0 ⟨q3_0.1, q3_0.2, by decide, by decide⟩) (fun r9 H9 h9 => ?_))
    rw [h9.1, h9.2]
    show AW l G mX8_costAt (d + 1) 0 0 Q 65 [vR a0, vI x1, vI x2, vI (ofM (rowM H a0) x1 1), vJ (x2 - (ofM (rowM H a0) x1 3)), vU, vJ ((-(x2 - (ofM (rowM H a0) x1 3))) * (rowM H a0 (24 + (ofM (rowM H a0) x1 1)))), vU] [vI (ofM (rowM H a0) x1 4), vI x2] 0 0 H
    refine a_icmp_le dX8_costAt_65 (tgt := 77) rfl (fun c65 => ?_) (fun c65 => ?_)
    · replace h := h.1 c65
      refine a_lload dX8_costAt_77 rfl ?_
      exact a_lret dX8_costAt_79 rfl (Nat.le_of_ble_eq_true rfl) (Nat.le_of_ble_eq_true rfl) h
    · replace h := h.2 c65
      refine a_lload dX8_costAt_68 rfl ?_
      refine a_ldc2 dX8_costAt_70 (w_1547) ?_
      show AW l G mX8_costAt (d + 1) 0 0 Q 73 [vR a0, vI x1, vI x2, vI (ofM (rowM H a0) x1 1), vJ (x2 - (ofM (rowM H a0) x1 3)), vU, vJ ((-(x2 - (ofM (rowM H a0) x1 3))) * (rowM H a0 (24 + (ofM (rowM H a0) x1 1)))), vU] [vJ 1000000000, vJ ((-(x2 - (ofM (rowM H a0) x1 3))) * (rowM H a0 (24 + (ofM (rowM H a0) x1 1))))] 0 0 H
      obtain ⟨q73_0, h⟩ := h
      refine a_ladd dX8_costAt_73 q73_0 ?_
      refine a_goto dX8_costAt_74 (tgt := 79) rfl ?_
      exact a_lret dX8_costAt_79 rfl (Nat.le_of_ble_eq_true rfl) (Nat.le_of_ble_eq_true rfl) h

theorem c_costAt {l : Launch} {G : GT} {d : Nat} {H : AH} {a f t : Int} (hL : Lay LMod H a) (hM : okM (rowM H a)) (hf : 0 ≤ f ∧ f < rowM H a 6) (ht : 0 ≤ t ∧ t ≤ 400000) (hd : 2 ≤ d := by omega) : CL l G mX8_costAt d 0 0 [vR a, vI f, vI t] H (PQ (vJ (costM (rowM H a) f t)) H) := by
  obtain ⟨d, rfl⟩ : ∃ k, d = k + 1 := ⟨d - 1, by omega⟩
  obtain ⟨hcl, htg, hla⟩ := okF_123 hM hf
  have hn := okM_n hM
  have e1 := okM_early hM hf
  have e2 := okM_late hM hf
  refine CL.of (by decide) rfl (Nat.le_of_ble_eq_true rfl) (s_X8_costAt_0 hL ⟨by omega, by omega, fun c => ?_, fun c => ?_⟩)
  · have m1 := mul_in (a := t - ofM (rowM H a) f 3) (A := 400000) (b := rowM H a (28 + ofM (rowM H a) f 1)) (B := 9999) (by omega) (by omega) e2.1 e2.2
    refine ⟨by omega, by omega, by omega, fun c2 => ⟨?_, rfl⟩, fun c2 => ⟨by omega, ?_, rfl⟩⟩
    · rw [costM, if_neg (by omega), if_neg (by omega), Int.add_zero]
    · rw [costM, if_neg (by omega), if_pos c2]
  · have m1 := mul_in (a := -(t - ofM (rowM H a) f 3)) (A := 400000) (b := rowM H a (24 + ofM (rowM H a) f 1)) (B := 9999) (by omega) (by omega) e1.1 e1.2
    refine ⟨by omega, by omega, by omega, by omega, fun c2 => ⟨?_, rfl⟩, fun c2 => ⟨by omega, ?_, rfl⟩⟩
    · rw [costM, if_pos (by omega), if_neg (by omega), Int.add_zero, Int.neg_sub]
    · rw [costM, if_pos (by omega), if_pos c2, Int.neg_sub]

