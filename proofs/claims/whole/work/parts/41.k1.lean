theorem dX0_mayUse_0 : decode cX0_mayUse 0 = .ok (.aload_n 0, 1) := by decide +kernel
theorem dX0_mayUse_1 : decode cX0_mayUse 1 = .ok (.getfield 34, 3) := by decide +kernel
theorem dX0_mayUse_4 : decode cX0_mayUse 4 = .ok (.iload_n 1, 1) := by decide +kernel
theorem dX0_mayUse_5 : decode cX0_mayUse 5 = .ok (.iaload, 1) := by decide +kernel
theorem dX0_mayUse_6 : decode cX0_mayUse 6 = .ok (.iload_n 2, 1) := by decide +kernel
theorem dX0_mayUse_7 : decode cX0_mayUse 7 = .ok (.ishr, 1) := by decide +kernel
theorem dX0_mayUse_8 : decode cX0_mayUse 8 = .ok (.iconst 1, 1) := by decide +kernel
theorem dX0_mayUse_9 : decode cX0_mayUse 9 = .ok (.iand, 1) := by decide +kernel
theorem dX0_mayUse_10 : decode cX0_mayUse 10 = .ok (.iconst 1, 1) := by decide +kernel
theorem dX0_mayUse_11 : decode cX0_mayUse 11 = .ok (.if_icmp .ne 7, 3) := by decide +kernel
theorem dX0_mayUse_14 : decode cX0_mayUse 14 = .ok (.iconst 1, 1) := by decide +kernel
theorem dX0_mayUse_15 : decode cX0_mayUse 15 = .ok (.goto 4, 3) := by decide +kernel
theorem dX0_mayUse_18 : decode cX0_mayUse 18 = .ok (.iconst 0, 1) := by decide +kernel
theorem dX0_mayUse_19 : decode cX0_mayUse 19 = .ok (.ireturn, 1) := by decide +kernel
set_option maxRecDepth 20000 in
theorem s_X0_mayUse_0 {l : Launch} {G : GT} {d : Nat} {Q : AV → AH → Prop} {H : AH} {a0 x1 x2 : Int} {M : Row} (hS : SK H a0 M) (h : (0 ≤ x1 ∧ x1 < M 6) ∧ (0 ≤ x2 ∧ x2 ≤ 31) ∧ (¬ ((shr (ofM M x1 5) x2) % 2) = 1 → Q (vI 0) H) ∧ (((shr (ofM M x1 5) x2) % 2) = 1 → Q (vI 1) H)) : AW l G mX0_mayUse d 0 0 Q 0 [vR (a0 + 5), vI x1, vI x2] [] 0 0 H := by
  refine a_aload_n dX0_mayUse_0 rfl rfl ?_
  refine a_getR dX0_mayUse_1 fw_RX0_34 rfl rfl (kSta_5 hS.1) (rSta_5_8 hS.1) ?_
  refine a_iload_n dX0_mayUse_4 rfl rfl ?_
  obtain ⟨q5_0, h⟩ := h
  refine b_ialdV dX0_mayUse_5 (kSta_13 hS.1) (nSta_13 hS.1) (sk_lt hS q5_0) (sk_13 hS q5_0) ?_
  refine a_iload_n dX0_mayUse_6 rfl rfl ?_
  obtain ⟨q7_0, h⟩ := h
  refine a_ishr dX0_mayUse_7 q7_0 ?_
  refine a_iconst dX0_mayUse_8 ⟨by decide, by decide⟩ ?_
  refine a_iand1 dX0_mayUse_9 ?_
  refine a_iconst dX0_mayUse_10 ⟨by decide, by decide⟩ ?_
  refine a_icmp_ne dX0_mayUse_11 (tgt := 18) rfl (fun c11 => ?_) (fun c11 => ?_)
  · replace h := h.1 c11
    refine a_iconst dX0_mayUse_18 ⟨by decide, by decide⟩ ?_
    exact a_zret dX0_mayUse_19 rfl (by decide) (Nat.le_of_ble_eq_true rfl) (Nat.le_of_ble_eq_true rfl) h
  · replace h := h.2 c11
    refine a_iconst dX0_mayUse_14 ⟨by decide, by decide⟩ ?_
    refine a_goto dX0_mayUse_15 (tgt := 19) rfl ?_
    exact a_zret dX0_mayUse_19 rfl (by decide) (Nat.le_of_ble_eq_true rfl) (Nat.le_of_ble_eq_true rfl) h

theorem k_mayUse {l : Launch} {G : GT} {d : Nat} {H : AH} {b : Int} {M : Row} {f r : Int} (hS : SK H b M) (hf : fl M f) (hr : 0 ≤ r ∧ r < 3) : CL l G mX0_mayUse d 0 0 [vR (b + 5), vI f, vI r] H (PQ (vI (bi (decide (shr (ofM M f 5) r % 2 = 1)))) H) :=
  CL.of (by decide) rfl (Nat.le_of_ble_eq_true rfl) (s_X0_mayUse_0 hS ⟨hf, by omega, fun c => ⟨by rw [bi_f c], rfl⟩, fun c => ⟨by rw [bi_t c], rfl⟩⟩)

theorem dX0_comesBefore_0 : decode cX0_comesBefore 0 = .ok (.aload_n 0, 1) := by decide +kernel
theorem dX0_comesBefore_1 : decode cX0_comesBefore 1 = .ok (.getfield 28, 3) := by decide +kernel
theorem dX0_comesBefore_4 : decode cX0_comesBefore 4 = .ok (.iload_n 1, 1) := by decide +kernel
theorem dX0_comesBefore_5 : decode cX0_comesBefore 5 = .ok (.iaload, 1) := by decide +kernel
theorem dX0_comesBefore_6 : decode cX0_comesBefore 6 = .ok (.aload_n 0, 1) := by decide +kernel
theorem dX0_comesBefore_7 : decode cX0_comesBefore 7 = .ok (.getfield 28, 3) := by decide +kernel
theorem dX0_comesBefore_10 : decode cX0_comesBefore 10 = .ok (.iload_n 2, 1) := by decide +kernel
theorem dX0_comesBefore_11 : decode cX0_comesBefore 11 = .ok (.iaload, 1) := by decide +kernel
theorem dX0_comesBefore_12 : decode cX0_comesBefore 12 = .ok (.if_icmp .lt 23, 3) := by decide +kernel
theorem dX0_comesBefore_15 : decode cX0_comesBefore 15 = .ok (.aload_n 0, 1) := by decide +kernel
theorem dX0_comesBefore_16 : decode cX0_comesBefore 16 = .ok (.getfield 28, 3) := by decide +kernel
theorem dX0_comesBefore_19 : decode cX0_comesBefore 19 = .ok (.iload_n 1, 1) := by decide +kernel
theorem dX0_comesBefore_20 : decode cX0_comesBefore 20 = .ok (.iaload, 1) := by decide +kernel
theorem dX0_comesBefore_21 : decode cX0_comesBefore 21 = .ok (.aload_n 0, 1) := by decide +kernel
theorem dX0_comesBefore_22 : decode cX0_comesBefore 22 = .ok (.getfield 28, 3) := by decide +kernel
theorem dX0_comesBefore_25 : decode cX0_comesBefore 25 = .ok (.iload_n 2, 1) := by decide +kernel
theorem dX0_comesBefore_26 : decode cX0_comesBefore 26 = .ok (.iaload, 1) := by decide +kernel
theorem dX0_comesBefore_27 : decode cX0_comesBefore 27 = .ok (.if_icmp .ne 12, 3) := by decide +kernel
theorem dX0_comesBefore_30 : decode cX0_comesBefore 30 = .ok (.iload_n 1, 1) := by decide +kernel
theorem dX0_comesBefore_31 : decode cX0_comesBefore 31 = .ok (.iload_n 2, 1) := by decide +kernel
theorem dX0_comesBefore_32 : decode cX0_comesBefore 32 = .ok (.if_icmp .ge 7, 3) := by decide +kernel
theorem dX0_comesBefore_35 : decode cX0_comesBefore 35 = .ok (.iconst 1, 1) := by decide +kernel
theorem dX0_comesBefore_36 : decode cX0_comesBefore 36 = .ok (.goto 4, 3) := by decide +kernel
theorem dX0_comesBefore_39 : decode cX0_comesBefore 39 = .ok (.iconst 0, 1) := by decide +kernel
theorem dX0_comesBefore_40 : decode cX0_comesBefore 40 = .ok (.ireturn, 1) := by decide +kernel
set_option maxRecDepth 20000 in
theorem s_X0_comesBefore_0 {l : Launch} {G : GT} {d : Nat} {Q : AV → AH → Prop} {H : AH} {a0 x1 x2 : Int} {M : Row} (hS : SK H a0 M) (h : (0 ≤ x1 ∧ x1 < M 6) ∧ (0 ≤ x2 ∧ x2 < M 6) ∧ ((ofM M x1 3) < (ofM M x2 3) → Q (vI 1) H) ∧ ((ofM M x2 3) ≤ (ofM M x1 3) → (¬ (ofM M x1 3) = (ofM M x2 3) → Q (vI 0) H) ∧ ((ofM M x1 3) = (ofM M x2 3) → (x2 ≤ x1 → Q (vI 0) H) ∧ (x1 < x2 → Q (vI 1) H)))) : AW l G mX0_comesBefore d 0 0 Q 0 [vR (a0 + 5), vI x1, vI x2] [] 0 0 H := by
  refine a_aload_n dX0_comesBefore_0 rfl rfl ?_
  refine a_getR dX0_comesBefore_1 fw_RX0_28 rfl rfl (kSta_5 hS.1) (rSta_5_6 hS.1) ?_
  refine a_iload_n dX0_comesBefore_4 rfl rfl ?_
  obtain ⟨q5_0, h⟩ := h
  refine b_ialdV dX0_comesBefore_5 (kSta_11 hS.1) (nSta_11 hS.1) (sk_lt hS q5_0) (sk_11 hS q5_0) ?_
  refine a_aload_n dX0_comesBefore_6 rfl rfl ?_
  refine a_getR dX0_comesBefore_7 fw_RX0_28 rfl rfl (kSta_5 hS.1) (rSta_5_6 hS.1) ?_
  refine a_iload_n dX0_comesBefore_10 rfl rfl ?_
  obtain ⟨q11_0, h⟩ := h
  refine b_ialdV dX0_comesBefore_11 (kSta_11 hS.1) (nSta_11 hS.1) (sk_lt hS q11_0) (sk_11 hS q11_0) ?_
  refine a_icmp_lt dX0_comesBefore_12 (tgt := 35) rfl (fun c12 => ?_) (fun c12 => ?_)
  · replace h := h.1 c12
    refine a_iconst dX0_comesBefore_35 ⟨by decide, by decide⟩ ?_
    refine a_goto dX0_comesBefore_36 (tgt := 40) rfl ?_
    exact a_zret dX0_comesBefore_40 rfl (by decide) (Nat.le_of_ble_eq_true rfl) (Nat.le_of_ble_eq_true rfl) h
  · replace h := h.2 c12
    refine a_aload_n dX0_comesBefore_15 rfl rfl ?_
    refine a_getR dX0_comesBefore_16 fw_RX0_28 rfl rfl (kSta_5 hS.1) (rSta_5_6 hS.1) ?_
    refine a_iload_n dX0_comesBefore_19 rfl rfl ?_
    refine b_ialdV dX0_comesBefore_20 (kSta_11 hS.1) (nSta_11 hS.1) (sk_lt hS q5_0) (sk_11 hS q5_0) ?_
    refine a_aload_n dX0_comesBefore_21 rfl rfl ?_
    refine a_getR dX0_comesBefore_22 fw_RX0_28 rfl rfl (kSta_5 hS.1) (rSta_5_6 hS.1) ?_
    refine a_iload_n dX0_comesBefore_25 rfl rfl ?_
    refine b_ialdV dX0_comesBefore_26 (kSta_11 hS.1) (nSta_11 hS.1) (sk_lt hS q11_0) (sk_11 hS q11_0) ?_
    refine a_icmp_ne dX0_comesBefore_27 (tgt := 39) rfl (fun c27 => ?_) (fun c27 => ?_)
    · replace h := h.1 c27
      refine a_iconst dX0_comesBefore_39 ⟨by decide, by decide⟩ ?_
      exact a_zret dX0_comesBefore_40 rfl (by decide) (Nat.le_of_ble_eq_true rfl) (Nat.le_of_ble_eq_true rfl) h
    · replace h := h.2 c27
      refine a_iload_n dX0_comesBefore_30 rfl rfl ?_
      refine a_iload_n dX0_comesBefore_31 rfl rfl ?_
      refine a_icmp_ge dX0_comesBefore_32 (tgt := 39) rfl (fun c32 => ?_) (fun c32 => ?_)
      · replace h := h.1 c32
        refine a_iconst dX0_comesBefore_39 ⟨by decide, by decide⟩ ?_
        exact a_zret dX0_comesBefore_40 rfl (by decide) (Nat.le_of_ble_eq_true rfl) (Nat.le_of_ble_eq_true rfl) h
      · replace h := h.2 c32
        refine a_iconst dX0_comesBefore_35 ⟨by decide, by decide⟩ ?_
        refine a_goto dX0_comesBefore_36 (tgt := 40) rfl ?_
        exact a_zret dX0_comesBefore_40 rfl (by decide) (Nat.le_of_ble_eq_true rfl) (Nat.le_of_ble_eq_true rfl) h

abbrev cbf (M : Row) (f g : Int) : Prop := ofM M f 3 < ofM M g 3 ∨ (ofM M f 3 = ofM M g 3 ∧ f < g)
theorem k_comesBefore {l : Launch} {G : GT} {d : Nat} {H : AH} {b : Int} {M : Row} {f g : Int} (hS : SK H b M) (hf : fl M f) (hg0 : fl M g) : CL l G mX0_comesBefore d 0 0 [vR (b + 5), vI f, vI g] H (PQ (vI (bi (decide (cbf M f g)))) H) :=
  CL.of (by decide) rfl (Nat.le_of_ble_eq_true rfl) (s_X0_comesBefore_0 hS ⟨hf, hg0, fun c => ⟨by rw [bi_t (Or.inl c)], rfl⟩, fun c => ⟨fun c2 => ⟨by rw [bi_f (by unfold cbf; omega)], rfl⟩, fun c2 => ⟨fun c3 => ⟨by rw [bi_f (by unfold cbf; omega)], rfl⟩, fun c3 => ⟨by rw [bi_t (by unfold cbf; omega)], rfl⟩⟩⟩⟩)

theorem dX6_gapOf_0 : decode cX6_gapOf 0 = .ok (.aload_n 0, 1) := by decide +kernel
theorem dX6_gapOf_1 : decode cX6_gapOf 1 = .ok (.getfield 21, 3) := by decide +kernel
theorem dX6_gapOf_4 : decode cX6_gapOf 4 = .ok (.getfield 97, 3) := by decide +kernel
theorem dX6_gapOf_7 : decode cX6_gapOf 7 = .ok (.iload_n 1, 1) := by decide +kernel
theorem dX6_gapOf_8 : decode cX6_gapOf 8 = .ok (.baload, 1) := by decide +kernel
theorem dX6_gapOf_9 : decode cX6_gapOf 9 = .ok (.aload_n 0, 1) := by decide +kernel
theorem dX6_gapOf_10 : decode cX6_gapOf 10 = .ok (.getfield 21, 3) := by decide +kernel
theorem dX6_gapOf_13 : decode cX6_gapOf 13 = .ok (.getfield 97, 3) := by decide +kernel
theorem dX6_gapOf_16 : decode cX6_gapOf 16 = .ok (.iload_n 2, 1) := by decide +kernel
theorem dX6_gapOf_17 : decode cX6_gapOf 17 = .ok (.baload, 1) := by decide +kernel
theorem dX6_gapOf_18 : decode cX6_gapOf 18 = .ok (.if_icmp .eq 11, 3) := by decide +kernel
theorem dX6_gapOf_21 : decode cX6_gapOf 21 = .ok (.aload_n 0, 1) := by decide +kernel
theorem dX6_gapOf_22 : decode cX6_gapOf 22 = .ok (.getfield 12, 3) := by decide +kernel
theorem dX6_gapOf_25 : decode cX6_gapOf 25 = .ok (.getfield 100, 3) := by decide +kernel
theorem dX6_gapOf_28 : decode cX6_gapOf 28 = .ok (.ireturn, 1) := by decide +kernel
theorem dX6_gapOf_29 : decode cX6_gapOf 29 = .ok (.aload_n 0, 1) := by decide +kernel
theorem dX6_gapOf_30 : decode cX6_gapOf 30 = .ok (.getfield 12, 3) := by decide +kernel
theorem dX6_gapOf_33 : decode cX6_gapOf 33 = .ok (.getfield 103, 3) := by decide +kernel
theorem dX6_gapOf_36 : decode cX6_gapOf 36 = .ok (.aload_n 0, 1) := by decide +kernel
theorem dX6_gapOf_37 : decode cX6_gapOf 37 = .ok (.getfield 21, 3) := by decide +kernel
theorem dX6_gapOf_40 : decode cX6_gapOf 40 = .ok (.getfield 106, 3) := by decide +kernel
theorem dX6_gapOf_43 : decode cX6_gapOf 43 = .ok (.iload_n 1, 1) := by decide +kernel
theorem dX6_gapOf_44 : decode cX6_gapOf 44 = .ok (.iaload, 1) := by decide +kernel
theorem dX6_gapOf_45 : decode cX6_gapOf 45 = .ok (.iconst 4, 1) := by decide +kernel
theorem dX6_gapOf_46 : decode cX6_gapOf 46 = .ok (.imul, 1) := by decide +kernel
theorem dX6_gapOf_47 : decode cX6_gapOf 47 = .ok (.aload_n 0, 1) := by decide +kernel
theorem dX6_gapOf_48 : decode cX6_gapOf 48 = .ok (.getfield 21, 3) := by decide +kernel
theorem dX6_gapOf_51 : decode cX6_gapOf 51 = .ok (.getfield 106, 3) := by decide +kernel
theorem dX6_gapOf_54 : decode cX6_gapOf 54 = .ok (.iload_n 2, 1) := by decide +kernel
theorem dX6_gapOf_55 : decode cX6_gapOf 55 = .ok (.iaload, 1) := by decide +kernel
theorem dX6_gapOf_56 : decode cX6_gapOf 56 = .ok (.iadd, 1) := by decide +kernel
theorem dX6_gapOf_57 : decode cX6_gapOf 57 = .ok (.iaload, 1) := by decide +kernel
theorem dX6_gapOf_58 : decode cX6_gapOf 58 = .ok (.ireturn, 1) := by decide +kernel
set_option maxRecDepth 20000 in
theorem s_X6_gapOf_0 {l : Launch} {G : GT} {d : Nat} {Q : AV → AH → Prop} {H : AH} {a0 x1 x2 : Int} {M : Row} (hS : SK H a0 M) (h : (0 ≤ x1 ∧ x1 < M 6) ∧ (0 ≤ x2 ∧ x2 < M 6) ∧ ((ofM M x1 0) = (ofM M x2 0) → (-2147483648 ≤ (ofM M x1 1) * 4 ∧ (ofM M x1 1) * 4 ≤ 2147483647) ∧ (-2147483648 ≤ ((ofM M x1 1) * 4) + (ofM M x2 1) ∧ ((ofM M x1 1) * 4) + (ofM M x2 1) ≤ 2147483647) ∧ (0 ≤ (((ofM M x1 1) * 4) + (ofM M x2 1)) ∧ (((ofM M x1 1) * 4) + (ofM M x2 1)) < 16) ∧ Q (vI (M (8 + (((ofM M x1 1) * 4) + (ofM M x2 1))))) H) ∧ (¬ (ofM M x1 0) = (ofM M x2 0) → Q (vI (M 4)) H)) : AW l G mX6_gapOf d 0 0 Q 0 [vR a0, vI x1, vI x2] [] 0 0 H := by
  refine a_aload_n dX6_gapOf_0 rfl rfl ?_
  refine a_getR dX6_gapOf_1 fw_RX6_21 rfl rfl (kSta_0 hS.1) (rSta_0_1 hS.1) ?_
  refine a_getR dX6_gapOf_4 fw_RX6_97 rfl rfl (kSta_5 hS.1) (rSta_5_3 hS.1) ?_
  refine a_iload_n dX6_gapOf_7 rfl rfl ?_
  obtain ⟨q8_0, h⟩ := h
  refine b_zaldV dX6_gapOf_8 (kSta_8 hS.1) (nSta_8 hS.1) (sk_lt hS q8_0) (sk_8 hS q8_0) ?_
  refine a_aload_n dX6_gapOf_9 rfl rfl ?_
  refine a_getR dX6_gapOf_10 fw_RX6_21 rfl rfl (kSta_0 hS.1) (rSta_0_1 hS.1) ?_
  refine a_getR dX6_gapOf_13 fw_RX6_97 rfl rfl (kSta_5 hS.1) (rSta_5_3 hS.1) ?_
  refine a_iload_n dX6_gapOf_16 rfl rfl ?_
  obtain ⟨q17_0, h⟩ := h
  refine b_zaldV dX6_gapOf_17 (kSta_8 hS.1) (nSta_8 hS.1) (sk_lt hS q17_0) (sk_8 hS q17_0) ?_
  refine a_icmp_eq dX6_gapOf_18 (tgt := 29) rfl (fun c18 => ?_) (fun c18 => ?_)
  · replace h := h.1 c18
    refine a_aload_n dX6_gapOf_29 rfl rfl ?_
    refine a_getR dX6_gapOf_30 fw_RX6_12 rfl rfl (kSta_0 hS.1) (rSta_0_0 hS.1) ?_
    refine a_getR dX6_gapOf_33 fw_RX6_103 rfl rfl (kSta_1 hS.1) (rSta_1_5 hS.1) ?_
    refine a_aload_n dX6_gapOf_36 rfl rfl ?_
    refine a_getR dX6_gapOf_37 fw_RX6_21 rfl rfl (kSta_0 hS.1) (rSta_0_1 hS.1) ?_
    refine a_getR dX6_gapOf_40 fw_RX6_106 rfl rfl (kSta_5 hS.1) (rSta_5_4 hS.1) ?_
    refine a_iload_n dX6_gapOf_43 rfl rfl ?_
    refine b_ialdV dX6_gapOf_44 (kSta_9 hS.1) (nSta_9 hS.1) (sk_lt hS q8_0) (sk_9 hS q8_0) ?_
    refine a_iconst dX6_gapOf_45 ⟨by decide, by decide⟩ ?_
    obtain ⟨q46_0, h⟩ := h
    refine a_imul dX6_gapOf_46 q46_0 ?_
    refine a_aload_n dX6_gapOf_47 rfl rfl ?_
    refine a_getR dX6_gapOf_48 fw_RX6_21 rfl rfl (kSta_0 hS.1) (rSta_0_1 hS.1) ?_
    refine a_getR dX6_gapOf_51 fw_RX6_106 rfl rfl (kSta_5 hS.1) (rSta_5_4 hS.1) ?_
    refine a_iload_n dX6_gapOf_54 rfl rfl ?_
    refine b_ialdV dX6_gapOf_55 (kSta_9 hS.1) (nSta_9 hS.1) (sk_lt hS q17_0) (sk_9 hS q17_0) ?_
    obtain ⟨q56_0, h⟩ := h
    refine a_iadd dX6_gapOf_56 q56_0 ?_
    obtain ⟨q57_0, h⟩ := h
    refine b_ialdV dX6_gapOf_57 (kSta_2 hS.1) (nSta_2 hS.1) q57_0 (sk_2 hS q57_0) ?_
    exact a_iret dX6_gapOf_58 rfl (Nat.le_of_ble_eq_true rfl) (Nat.le_of_ble_eq_true rfl) h
  · replace h := h.2 c18
    refine a_aload_n dX6_gapOf_21 rfl rfl ?_
    refine a_getR dX6_gapOf_22 fw_RX6_12 rfl rfl (kSta_0 hS.1) (rSta_0_0 hS.1) ?_
    refine a_getIV dX6_gapOf_25 fw_RX6_100 rfl rfl (kSta_1 hS.1) (sk_1_1 hS) ?_
    exact a_iret dX6_gapOf_28 rfl (Nat.le_of_ble_eq_true rfl) (Nat.le_of_ble_eq_true rfl) h

theorem k_gapOf {l : Launch} {G : GT} {d : Nat} {H : AH} {b : Int} {M : Row} {f g : Int} (hS : SK H b M) (hf : fl M f) (hg0 : fl M g) : CL l G mX6_gapOf d 0 0 [vR b, vI f, vI g] H (PQ (vI (apartM M f g)) H) := by
  have c1 := (okF_123 hS.2.1 hf).1
  have c2 := (okF_123 hS.2.1 hg0).1
  refine CL.of (by decide) rfl (Nat.le_of_ble_eq_true rfl) (s_X6_gapOf_0 hS ⟨hf, hg0, fun c => ⟨by omega, by omega, by omega, ?_, rfl⟩, fun c => ⟨?_, rfl⟩⟩)
  · rw [apartM, if_pos c, show 8 + (ofM M f 1 * 4 + ofM M g 1) = 8 + 4 * ofM M f 1 + ofM M g 1 by omega]
  · rw [apartM, if_neg c]

theorem dX6_costAt_0 : decode cX6_costAt 0 = .ok (.aload_n 0, 1) := by decide +kernel
theorem dX6_costAt_1 : decode cX6_costAt 1 = .ok (.getfield 21, 3) := by decide +kernel
theorem dX6_costAt_4 : decode cX6_costAt 4 = .ok (.getfield 106, 3) := by decide +kernel
theorem dX6_costAt_7 : decode cX6_costAt 7 = .ok (.iload_n 1, 1) := by decide +kernel
theorem dX6_costAt_8 : decode cX6_costAt 8 = .ok (.iaload, 1) := by decide +kernel
theorem dX6_costAt_9 : decode cX6_costAt 9 = .ok (.istore_n 3, 1) := by decide +kernel
theorem dX6_costAt_10 : decode cX6_costAt 10 = .ok (.aload_n 0, 1) := by decide +kernel
theorem dX6_costAt_11 : decode cX6_costAt 11 = .ok (.getfield 21, 3) := by decide +kernel
theorem dX6_costAt_14 : decode cX6_costAt 14 = .ok (.getfield 109, 3) := by decide +kernel
theorem dX6_costAt_17 : decode cX6_costAt 17 = .ok (.iload_n 1, 1) := by decide +kernel
theorem dX6_costAt_18 : decode cX6_costAt 18 = .ok (.iaload, 1) := by decide +kernel
theorem dX6_costAt_19 : decode cX6_costAt 19 = .ok (.iload_n 2, 1) := by decide +kernel
theorem dX6_costAt_20 : decode cX6_costAt 20 = .ok (.isub, 1) := by decide +kernel
theorem dX6_costAt_21 : decode cX6_costAt 21 = .ok (.istore 4, 2) := by decide +kernel
theorem dX6_costAt_23 : decode cX6_costAt 23 = .ok (.iload 4, 2) := by decide +kernel
theorem dX6_costAt_25 : decode cX6_costAt 25 = .ok (.ifCond .le 20, 3) := by decide +kernel
theorem dX6_costAt_28 : decode cX6_costAt 28 = .ok (.aload_n 0, 1) := by decide +kernel
theorem dX6_costAt_29 : decode cX6_costAt 29 = .ok (.getfield 12, 3) := by decide +kernel
theorem dX6_costAt_32 : decode cX6_costAt 32 = .ok (.getfield 112, 3) := by decide +kernel
theorem dX6_costAt_35 : decode cX6_costAt 35 = .ok (.iload_n 3, 1) := by decide +kernel
theorem dX6_costAt_36 : decode cX6_costAt 36 = .ok (.iaload, 1) := by decide +kernel
theorem dX6_costAt_37 : decode cX6_costAt 37 = .ok (.i2l, 1) := by decide +kernel
theorem dX6_costAt_38 : decode cX6_costAt 38 = .ok (.iload 4, 2) := by decide +kernel
theorem dX6_costAt_40 : decode cX6_costAt 40 = .ok (.i2l, 1) := by decide +kernel
theorem dX6_costAt_41 : decode cX6_costAt 41 = .ok (.lmul, 1) := by decide +kernel
theorem dX6_costAt_42 : decode cX6_costAt 42 = .ok (.goto 18, 3) := by decide +kernel
theorem dX6_costAt_45 : decode cX6_costAt 45 = .ok (.aload_n 0, 1) := by decide +kernel
theorem dX6_costAt_46 : decode cX6_costAt 46 = .ok (.getfield 12, 3) := by decide +kernel
theorem dX6_costAt_49 : decode cX6_costAt 49 = .ok (.getfield 115, 3) := by decide +kernel
theorem dX6_costAt_52 : decode cX6_costAt 52 = .ok (.iload_n 3, 1) := by decide +kernel
theorem dX6_costAt_53 : decode cX6_costAt 53 = .ok (.iaload, 1) := by decide +kernel
theorem dX6_costAt_54 : decode cX6_costAt 54 = .ok (.i2l, 1) := by decide +kernel
theorem dX6_costAt_55 : decode cX6_costAt 55 = .ok (.iload 4, 2) := by decide +kernel
theorem dX6_costAt_57 : decode cX6_costAt 57 = .ok (.ineg, 1) := by decide +kernel
theorem dX6_costAt_58 : decode cX6_costAt 58 = .ok (.i2l, 1) := by decide +kernel
theorem dX6_costAt_59 : decode cX6_costAt 59 = .ok (.lmul, 1) := by decide +kernel
theorem dX6_costAt_60 : decode cX6_costAt 60 = .ok (.lstore 5, 2) := by decide +kernel
theorem dX6_costAt_62 : decode cX6_costAt 62 = .ok (.iload_n 2, 1) := by decide +kernel
theorem dX6_costAt_63 : decode cX6_costAt 63 = .ok (.aload_n 0, 1) := by decide +kernel
theorem dX6_costAt_64 : decode cX6_costAt 64 = .ok (.getfield 21, 3) := by decide +kernel
theorem dX6_costAt_67 : decode cX6_costAt 67 = .ok (.getfield 118, 3) := by decide +kernel
theorem dX6_costAt_70 : decode cX6_costAt 70 = .ok (.iload_n 1, 1) := by decide +kernel
theorem dX6_costAt_71 : decode cX6_costAt 71 = .ok (.iaload, 1) := by decide +kernel
theorem dX6_costAt_72 : decode cX6_costAt 72 = .ok (.if_icmp .le 12, 3) := by decide +kernel
theorem dX6_costAt_75 : decode cX6_costAt 75 = .ok (.lload 5, 2) := by decide +kernel
theorem dX6_costAt_77 : decode cX6_costAt 77 = .ok (.ldc2_w 121, 3) := by decide +kernel
theorem dX6_costAt_80 : decode cX6_costAt 80 = .ok (.ladd, 1) := by decide +kernel
theorem dX6_costAt_81 : decode cX6_costAt 81 = .ok (.goto 5, 3) := by decide +kernel
theorem dX6_costAt_84 : decode cX6_costAt 84 = .ok (.lload 5, 2) := by decide +kernel
theorem dX6_costAt_86 : decode cX6_costAt 86 = .ok (.lreturn, 1) := by decide +kernel
set_option maxRecDepth 20000 in
theorem s_X6_costAt_0 {l : Launch} {G : GT} {d : Nat} {Q : AV → AH → Prop} {H : AH} {a0 x1 x2 : Int} {M : Row} (hS : SK H a0 M) (h : (0 ≤ x1 ∧ x1 < M 6) ∧ (-2147483648 ≤ (ofM M x1 3) - x2 ∧ (ofM M x1 3) - x2 ≤ 2147483647) ∧ (((ofM M x1 3) - x2) ≤ 0 → (0 ≤ (ofM M x1 1) ∧ (ofM M x1 1) < 4) ∧ (-2147483648 ≤ -((ofM M x1 3) - x2) ∧ -((ofM M x1 3) - x2) ≤ 2147483647) ∧ (-9223372036854775808 ≤ (M (28 + (ofM M x1 1))) * (-((ofM M x1 3) - x2)) ∧ (M (28 + (ofM M x1 1))) * (-((ofM M x1 3) - x2)) ≤ 9223372036854775807) ∧ (x2 ≤ (ofM M x1 4) → Q (vJ ((M (28 + (ofM M x1 1))) * (-((ofM M x1 3) - x2)))) H) ∧ ((ofM M x1 4) < x2 → (-9223372036854775808 ≤ ((M (28 + (ofM M x1 1))) * (-((ofM M x1 3) - x2))) + 1000000000 ∧ ((M (28 + (ofM M x1 1))) * (-((ofM M x1 3) - x2))) + 1000000000 ≤ 9223372036854775807) ∧ Q (vJ (((M (28 + (ofM M x1 1))) * (-((ofM M x1 3) - x2))) + 1000000000)) H)) ∧ (0 < ((ofM M x1 3) - x2) → (0 ≤ (ofM M x1 1) ∧ (ofM M x1 1) < 4) ∧ (-9223372036854775808 ≤ (M (24 + (ofM M x1 1))) * ((ofM M x1 3) - x2) ∧ (M (24 + (ofM M x1 1))) * ((ofM M x1 3) - x2) ≤ 9223372036854775807) ∧ (x2 ≤ (ofM M x1 4) → Q (vJ ((M (24 + (ofM M x1 1))) * ((ofM M x1 3) - x2))) H) ∧ ((ofM M x1 4) < x2 → (-9223372036854775808 ≤ ((M (24 + (ofM M x1 1))) * ((ofM M x1 3) - x2)) + 1000000000 ∧ ((M (24 + (ofM M x1 1))) * ((ofM M x1 3) - x2)) + 1000000000 ≤ 9223372036854775807) ∧ Q (vJ (((M (24 + (ofM M x1 1))) * ((ofM M x1 3) - x2)) + 1000000000)) H))) : AW l G mX6_costAt d 0 0 Q 0 [vR a0, vI x1, vI x2, vU, vU, vU, vU] [] 0 0 H := by
  refine a_aload_n dX6_costAt_0 rfl rfl ?_
  refine a_getR dX6_costAt_1 fw_RX6_21 rfl rfl (kSta_0 hS.1) (rSta_0_1 hS.1) ?_
  refine a_getR dX6_costAt_4 fw_RX6_106 rfl rfl (kSta_5 hS.1) (rSta_5_4 hS.1) ?_
  refine a_iload_n dX6_costAt_7 rfl rfl ?_
  obtain ⟨q8_0, h⟩ := h
  refine b_ialdV dX6_costAt_8 (kSta_9 hS.1) (nSta_9 hS.1) (sk_lt hS q8_0) (sk_9 hS q8_0) ?_
  refine a_istore_n dX6_costAt_9 rfl (Nat.le_of_ble_eq_true rfl) (ls' := [vR a0, vI x1, vI x2, vI (ofM M x1 1), vU, vU, vU]) rfl ?_
  refine a_aload_n dX6_costAt_10 rfl rfl ?_
  refine a_getR dX6_costAt_11 fw_RX6_21 rfl rfl (kSta_0 hS.1) (rSta_0_1 hS.1) ?_
  refine a_getR dX6_costAt_14 fw_RX6_109 rfl rfl (kSta_5 hS.1) (rSta_5_6 hS.1) ?_
  refine a_iload_n dX6_costAt_17 rfl rfl ?_
  refine b_ialdV dX6_costAt_18 (kSta_11 hS.1) (nSta_11 hS.1) (sk_lt hS q8_0) (sk_11 hS q8_0) ?_
  refine a_iload_n dX6_costAt_19 rfl rfl ?_
  obtain ⟨q20_0, h⟩ := h
  refine a_isub dX6_costAt_20 q20_0 ?_
  refine a_istore dX6_costAt_21 (Nat.le_of_ble_eq_true rfl) (ls' := [vR a0, vI x1, vI x2, vI (ofM M x1 1), vI ((ofM M x1 3) - x2), vU, vU]) rfl ?_
  refine a_iload dX6_costAt_23 rfl ?_
  refine a_if_le dX6_costAt_25 (tgt := 45) rfl (fun c25 => ?_) (fun c25 => ?_)
  · replace h := h.1 c25
    refine a_aload_n dX6_costAt_45 rfl rfl ?_
    refine a_getR dX6_costAt_46 fw_RX6_12 rfl rfl (kSta_0 hS.1) (rSta_0_0 hS.1) ?_
    refine a_getR dX6_costAt_49 fw_RX6_115 rfl rfl (kSta_1 hS.1) (rSta_1_7 hS.1) ?_
    refine a_iload_n dX6_costAt_52 rfl rfl ?_
    obtain ⟨q53_0, h⟩ := h
    refine b_ialdV dX6_costAt_53 (kSta_4 hS.1) (nSta_4 hS.1) q53_0 (sk_4 hS q53_0) ?_
    refine a_i2l dX6_costAt_54 ?_
    refine a_iload dX6_costAt_55 rfl ?_
    obtain ⟨q57_0, h⟩ := h
    refine a_ineg dX6_costAt_57 q57_0 ?_
    refine a_i2l dX6_costAt_58 ?_
    obtain ⟨q59_0, h⟩ := h
    refine a_lmul dX6_costAt_59 q59_0 ?_
    refine a_lstore dX6_costAt_60 (Nat.le_of_ble_eq_true rfl) (ls' := [vR a0, vI x1, vI x2, vI (ofM M x1 1), vI ((ofM M x1 3) - x2), vJ ((M (28 + (ofM M x1 1))) * (-((ofM M x1 3) - x2))), vU]) rfl ?_
    refine a_iload_n dX6_costAt_62 rfl rfl ?_
    refine a_aload_n dX6_costAt_63 rfl rfl ?_
    refine a_getR dX6_costAt_64 fw_RX6_21 rfl rfl (kSta_0 hS.1) (rSta_0_1 hS.1) ?_
    refine a_getR dX6_costAt_67 fw_RX6_118 rfl rfl (kSta_5 hS.1) (rSta_5_7 hS.1) ?_
    refine a_iload_n dX6_costAt_70 rfl rfl ?_
    refine b_ialdV dX6_costAt_71 (kSta_12 hS.1) (nSta_12 hS.1) (sk_lt hS q8_0) (sk_12 hS q8_0) ?_
    refine a_icmp_le dX6_costAt_72 (tgt := 84) rfl (fun c72 => ?_) (fun c72 => ?_)
    · replace h := h.1 c72
      refine a_lload dX6_costAt_84 rfl ?_
      exact a_lret dX6_costAt_86 rfl (Nat.le_of_ble_eq_true rfl) (Nat.le_of_ble_eq_true rfl) h
    · replace h := h.2 c72
      refine a_lload dX6_costAt_75 rfl ?_
      refine a_ldc2 dX6_costAt_77 (w_632) ?_
      show AW l G mX6_costAt d 0 0 Q 80 [vR a0, vI x1, vI x2, vI (ofM M x1 1), vI ((ofM M x1 3) - x2), vJ ((M (28 + (ofM M x1 1))) * (-((ofM M x1 3) - x2))), vU] [vJ 1000000000, vJ ((M (28 + (ofM M x1 1))) * (-((ofM M x1 3) - x2)))] 0 0 H
      obtain ⟨q80_0, h⟩ := h
      refine a_ladd dX6_costAt_80 q80_0 ?_
      refine a_goto dX6_costAt_81 (tgt := 86) rfl ?_
      exact a_lret dX6_costAt_86 rfl (Nat.le_of_ble_eq_true rfl) (Nat.le_of_ble_eq_true rfl) h
  · replace h := h.2 c25
    refine a_aload_n dX6_costAt_28 rfl rfl ?_
    refine a_getR dX6_costAt_29 fw_RX6_12 rfl rfl (kSta_0 hS.1) (rSta_0_0 hS.1) ?_
    refine a_getR dX6_costAt_32 fw_RX6_112 rfl rfl (kSta_1 hS.1) (rSta_1_6 hS.1) ?_
    refine a_iload_n dX6_costAt_35 rfl rfl ?_
    obtain ⟨q36_0, h⟩ := h
    refine b_ialdV dX6_costAt_36 (kSta_3 hS.1) (nSta_3 hS.1) q36_0 (sk_3 hS q36_0) ?_
    refine a_i2l dX6_costAt_37 ?_
    refine a_iload dX6_costAt_38 rfl ?_
    refine a_i2l dX6_costAt_40 ?_
    obtain ⟨q41_0, h⟩ := h
    refine a_lmul dX6_costAt_41 q41_0 ?_
    refine a_goto dX6_costAt_42 (tgt := 60) rfl ?_
    refine a_lstore dX6_costAt_60 (Nat.le_of_ble_eq_true rfl) (ls' := [vR a0, vI x1, vI x2, vI (ofM M x1 1), vI ((ofM M x1 3) - x2), vJ ((M (24 + (ofM M x1 1))) * ((ofM M x1 3) - x2)), vU]) rfl ?_
    refine a_iload_n dX6_costAt_62 rfl rfl ?_
    refine a_aload_n dX6_costAt_63 rfl rfl ?_
    refine a_getR dX6_costAt_64 fw_RX6_21 rfl rfl (kSta_0 hS.1) (rSta_0_1 hS.1) ?_
    refine a_getR dX6_costAt_67 fw_RX6_118 rfl rfl (kSta_5 hS.1) (rSta_5_7 hS.1) ?_
    refine a_iload_n dX6_costAt_70 rfl rfl ?_
    refine b_ialdV dX6_costAt_71 (kSta_12 hS.1) (nSta_12 hS.1) (sk_lt hS q8_0) (sk_12 hS q8_0) ?_
    refine a_icmp_le dX6_costAt_72 (tgt := 84) rfl (fun c72 => ?_) (fun c72 => ?_)
    · replace h := h.1 c72
      refine a_lload dX6_costAt_84 rfl ?_
      exact a_lret dX6_costAt_86 rfl (Nat.le_of_ble_eq_true rfl) (Nat.le_of_ble_eq_true rfl) h
    · replace h := h.2 c72
      refine a_lload dX6_costAt_75 rfl ?_
      refine a_ldc2 dX6_costAt_77 (w_632) ?_
      show AW l G mX6_costAt d 0 0 Q 80 [vR a0, vI x1, vI x2, vI (ofM M x1 1), vI ((ofM M x1 3) - x2), vJ ((M (24 + (ofM M x1 1))) * ((ofM M x1 3) - x2)), vU] [vJ 1000000000, vJ ((M (24 + (ofM M x1 1))) * ((ofM M x1 3) - x2))] 0 0 H
      obtain ⟨q80_0, h⟩ := h
      refine a_ladd dX6_costAt_80 q80_0 ?_
      refine a_goto dX6_costAt_81 (tgt := 86) rfl ?_
      exact a_lret dX6_costAt_86 rfl (Nat.le_of_ble_eq_true rfl) (Nat.le_of_ble_eq_true rfl) h

theorem k_costAt {l : Launch} {G : GT} {d : Nat} {H : AH} {b : Int} {M : Row} {f t : Int} (hS : SK H b M) (hf : fl M f) (ht : 0 ≤ t ∧ t ≤ 400000) : CL l G mX6_costAt d 0 0 [vR b, vI f, vI t] H (PQ (vJ (costM M f t)) H) := by
  have hM := hS.2.1
  obtain ⟨c1, c3, c4⟩ := okF_123 hM hf
  have e1 := okM_early hM hf
  have e2 := okM_late hM hf
  refine CL.of (by decide) rfl (Nat.le_of_ble_eq_true rfl) (s_X6_costAt_0 hS ⟨hf, by omega, fun c => ?_, fun c => ?_⟩)
  · have m := mul_in (a := M (28 + ofM M f 1)) (A := 9999) (b := -(ofM M f 3 - t)) (B := 400000) e2.1 e2.2 (by omega) (by omega)
    have e : M (28 + ofM M f 1) * -(ofM M f 3 - t) = (t - ofM M f 3) * M (28 + ofM M f 1) := by rw [Int.mul_comm, show -(ofM M f 3 - t) = t - ofM M f 3 by omega]
    refine ⟨by omega, by omega, by omega, fun q => ⟨?_, rfl⟩, fun q => ⟨by omega, ?_, rfl⟩⟩
    · rw [costM, if_neg (by omega), if_neg (by omega), e, Int.add_zero]
    · rw [costM, if_neg (by omega), if_pos q, e]
  · have m := mul_in (a := M (24 + ofM M f 1)) (A := 9999) (b := ofM M f 3 - t) (B := 400000) e1.1 e1.2 (by omega) (by omega)
    have e : M (24 + ofM M f 1) * (ofM M f 3 - t) = (ofM M f 3 - t) * M (24 + ofM M f 1) := Int.mul_comm _ _
    refine ⟨by omega, by omega, fun q => ⟨?_, rfl⟩, fun q => ⟨by omega, ?_, rfl⟩⟩
    · rw [costM, if_pos (by omega), if_neg (by omega), e, Int.add_zero]
    · rw [costM, if_pos (by omega), if_pos q, e]

theorem dX6_isFixed_0 : decode cX6_isFixed 0 = .ok (.aload_n 0, 1) := by decide +kernel
theorem dX6_isFixed_1 : decode cX6_isFixed 1 = .ok (.getfield 29, 3) := by decide +kernel
theorem dX6_isFixed_4 : decode cX6_isFixed 4 = .ok (.iload_n 1, 1) := by decide +kernel
theorem dX6_isFixed_5 : decode cX6_isFixed 5 = .ok (.iaload, 1) := by decide +kernel
theorem dX6_isFixed_6 : decode cX6_isFixed 6 = .ok (.iconst 1, 1) := by decide +kernel
theorem dX6_isFixed_7 : decode cX6_isFixed 7 = .ok (.if_icmp .eq 13, 3) := by decide +kernel
theorem dX6_isFixed_10 : decode cX6_isFixed 10 = .ok (.aload_n 0, 1) := by decide +kernel
theorem dX6_isFixed_11 : decode cX6_isFixed 11 = .ok (.getfield 29, 3) := by decide +kernel
theorem dX6_isFixed_14 : decode cX6_isFixed 14 = .ok (.iload_n 1, 1) := by decide +kernel
theorem dX6_isFixed_15 : decode cX6_isFixed 15 = .ok (.iaload, 1) := by decide +kernel
theorem dX6_isFixed_16 : decode cX6_isFixed 16 = .ok (.iconst 2, 1) := by decide +kernel
theorem dX6_isFixed_17 : decode cX6_isFixed 17 = .ok (.if_icmp .ne 7, 3) := by decide +kernel
theorem dX6_isFixed_20 : decode cX6_isFixed 20 = .ok (.iconst 1, 1) := by decide +kernel
theorem dX6_isFixed_21 : decode cX6_isFixed 21 = .ok (.goto 4, 3) := by decide +kernel
theorem dX6_isFixed_24 : decode cX6_isFixed 24 = .ok (.iconst 0, 1) := by decide +kernel
theorem dX6_isFixed_25 : decode cX6_isFixed 25 = .ok (.ireturn, 1) := by decide +kernel
set_option maxRecDepth 20000 in
theorem s_X6_isFixed_0 {l : Launch} {G : GT} {d : Nat} {Q : AV → AH → Prop} {H : AH} {a0 x1 : Int} {M : Row} (hS : SK H a0 M) (h : (0 ≤ x1 ∧ x1 < M 6) ∧ ((ofM M x1 7) = 1 → Q (vI 1) H) ∧ (¬ (ofM M x1 7) = 1 → (¬ (ofM M x1 7) = 2 → Q (vI 0) H) ∧ ((ofM M x1 7) = 2 → Q (vI 1) H))) : AW l G mX6_isFixed d 0 0 Q 0 [vR a0, vI x1] [] 0 0 H := by
  refine a_aload_n dX6_isFixed_0 rfl rfl ?_
  refine a_getR dX6_isFixed_1 fw_RX6_29 rfl rfl (kSta_0 hS.1) (rSta_0_4 hS.1) ?_
  refine a_iload_n dX6_isFixed_4 rfl rfl ?_
  obtain ⟨q5_0, h⟩ := h
  refine b_ialdV dX6_isFixed_5 (kSta_15 hS.1) (nSta_15 hS.1) (sk_lt hS q5_0) (sk_15 hS q5_0) ?_
  refine a_iconst dX6_isFixed_6 ⟨by decide, by decide⟩ ?_
  refine a_icmp_eq dX6_isFixed_7 (tgt := 20) rfl (fun c7 => ?_) (fun c7 => ?_)
  · replace h := h.1 c7
    refine a_iconst dX6_isFixed_20 ⟨by decide, by decide⟩ ?_
    refine a_goto dX6_isFixed_21 (tgt := 25) rfl ?_
    exact a_zret dX6_isFixed_25 rfl (by decide) (Nat.le_of_ble_eq_true rfl) (Nat.le_of_ble_eq_true rfl) h
  · replace h := h.2 c7
    refine a_aload_n dX6_isFixed_10 rfl rfl ?_
    refine a_getR dX6_isFixed_11 fw_RX6_29 rfl rfl (kSta_0 hS.1) (rSta_0_4 hS.1) ?_
    refine a_iload_n dX6_isFixed_14 rfl rfl ?_
    refine b_ialdV dX6_isFixed_15 (kSta_15 hS.1) (nSta_15 hS.1) (sk_lt hS q5_0) (sk_15 hS q5_0) ?_
    refine a_iconst dX6_isFixed_16 ⟨by decide, by decide⟩ ?_
    refine a_icmp_ne dX6_isFixed_17 (tgt := 24) rfl (fun c17 => ?_) (fun c17 => ?_)
    · replace h := h.1 c17
      refine a_iconst dX6_isFixed_24 ⟨by decide, by decide⟩ ?_
      exact a_zret dX6_isFixed_25 rfl (by decide) (Nat.le_of_ble_eq_true rfl) (Nat.le_of_ble_eq_true rfl) h
    · replace h := h.2 c17
      refine a_iconst dX6_isFixed_20 ⟨by decide, by decide⟩ ?_
      refine a_goto dX6_isFixed_21 (tgt := 25) rfl ?_
      exact a_zret dX6_isFixed_25 rfl (by decide) (Nat.le_of_ble_eq_true rfl) (Nat.le_of_ble_eq_true rfl) h

theorem k_isFixed {l : Launch} {G : GT} {d : Nat} {H : AH} {b : Int} {M : Row} {f : Int} (hS : SK H b M) (hf : fl M f) : CL l G mX6_isFixed d 0 0 [vR b, vI f] H (PQ (vI (bi (decide (ofM M f 7 = 1 ∨ ofM M f 7 = 2)))) H) :=
  CL.of (by decide) rfl (Nat.le_of_ble_eq_true rfl) (s_X6_isFixed_0 hS ⟨hf, fun c => ⟨by rw [bi_t (Or.inl c)], rfl⟩, fun c => ⟨fun c2 => ⟨by rw [bi_f (by omega)], rfl⟩, fun c2 => ⟨by rw [bi_t (Or.inr c2)], rfl⟩⟩⟩)

theorem dX6_countIn_0 : decode cX6_countIn 0 = .ok (.iconst 0, 1) := by decide +kernel
theorem dX6_countIn_1 : decode cX6_countIn 1 = .ok (.istore_n 2, 1) := by decide +kernel
theorem dX6_countIn_2 : decode cX6_countIn 2 = .ok (.iconst 0, 1) := by decide +kernel
theorem dX6_countIn_3 : decode cX6_countIn 3 = .ok (.istore_n 3, 1) := by decide +kernel
theorem dX6_countIn_4 : decode cX6_countIn 4 = .ok (.iload_n 3, 1) := by decide +kernel
theorem dX6_countIn_5 : decode cX6_countIn 5 = .ok (.aload_n 0, 1) := by decide +kernel
theorem dX6_countIn_6 : decode cX6_countIn 6 = .ok (.getfield 21, 3) := by decide +kernel
theorem dX6_countIn_9 : decode cX6_countIn 9 = .ok (.getfield 57, 3) := by decide +kernel
theorem dX6_countIn_12 : decode cX6_countIn 12 = .ok (.if_icmp .ge 22, 3) := by decide +kernel
theorem dX6_countIn_15 : decode cX6_countIn 15 = .ok (.aload_n 0, 1) := by decide +kernel
theorem dX6_countIn_16 : decode cX6_countIn 16 = .ok (.getfield 29, 3) := by decide +kernel
theorem dX6_countIn_19 : decode cX6_countIn 19 = .ok (.iload_n 3, 1) := by decide +kernel
theorem dX6_countIn_20 : decode cX6_countIn 20 = .ok (.iaload, 1) := by decide +kernel
theorem dX6_countIn_21 : decode cX6_countIn 21 = .ok (.iload_n 1, 1) := by decide +kernel
theorem dX6_countIn_22 : decode cX6_countIn 22 = .ok (.if_icmp .ne 6, 3) := by decide +kernel
theorem dX6_countIn_25 : decode cX6_countIn 25 = .ok (.iinc 2 1, 3) := by decide +kernel
theorem dX6_countIn_28 : decode cX6_countIn 28 = .ok (.iinc 3 1, 3) := by decide +kernel
theorem dX6_countIn_31 : decode cX6_countIn 31 = .ok (.goto (-27), 3) := by decide +kernel
theorem dX6_countIn_34 : decode cX6_countIn 34 = .ok (.iload_n 2, 1) := by decide +kernel
theorem dX6_countIn_35 : decode cX6_countIn 35 = .ok (.ireturn, 1) := by decide +kernel
set_option maxRecDepth 20000 in
theorem s_X6_countIn_0 {l : Launch} {G : GT} {d : Nat} {Q : AV → AH → Prop} {H : AH} {a0 x1 : Int} {M : Row} (hS : SK H a0 M) (h : AW l G mX6_countIn d 0 0 Q 4 [vR a0, vI x1, vI 0, vI 0] [] 0 0 H) : AW l G mX6_countIn d 0 0 Q 0 [vR a0, vI x1, vU, vU] [] 0 0 H := by
  refine a_iconst dX6_countIn_0 ⟨by decide, by decide⟩ ?_
  refine a_istore_n dX6_countIn_1 rfl (Nat.le_of_ble_eq_true rfl) (ls' := [vR a0, vI x1, vI 0, vU]) rfl ?_
  refine a_iconst dX6_countIn_2 ⟨by decide, by decide⟩ ?_
  refine a_istore_n dX6_countIn_3 rfl (Nat.le_of_ble_eq_true rfl) (ls' := [vR a0, vI x1, vI 0, vI 0]) rfl ?_
  exact h

set_option maxRecDepth 20000 in
theorem s_X6_countIn_4 {l : Launch} {G : GT} {d : Nat} {Q : AV → AH → Prop} {H : AH} {a0 x1 x2 x3 : Int} {M : Row} (hS : SK H a0 M) (h : ((M 6) ≤ x3 → Q (vI x2) H) ∧ (x3 < (M 6) → (0 ≤ x3 ∧ x3 < M 6) ∧ (¬ (ofM M x3 7) = x1 → (-2147483648 ≤ x3 + 1 ∧ x3 + 1 ≤ 2147483647) ∧ AW l G mX6_countIn d 0 0 Q 4 [vR a0, vI x1, vI x2, vI (x3 + 1)] [] 0 0 H) ∧ ((ofM M x3 7) = x1 → (-2147483648 ≤ x2 + 1 ∧ x2 + 1 ≤ 2147483647) ∧ (-2147483648 ≤ x3 + 1 ∧ x3 + 1 ≤ 2147483647) ∧ AW l G mX6_countIn d 0 0 Q 4 [vR a0, vI x1, vI (x2 + 1), vI (x3 + 1)] [] 0 0 H))) : AW l G mX6_countIn d 0 0 Q 4 [vR a0, vI x1, vI x2, vI x3] [] 0 0 H := by
  refine a_iload_n dX6_countIn_4 rfl rfl ?_
  refine a_aload_n dX6_countIn_5 rfl rfl ?_
  refine a_getR dX6_countIn_6 fw_RX6_21 rfl rfl (kSta_0 hS.1) (rSta_0_1 hS.1) ?_
  refine a_getIV dX6_countIn_9 fw_RX6_57 rfl rfl (kSta_5 hS.1) (sk_5_0 hS) ?_
  refine a_icmp_ge dX6_countIn_12 (tgt := 34) rfl (fun c12 => ?_) (fun c12 => ?_)
  · replace h := h.1 c12
    refine a_iload_n dX6_countIn_34 rfl rfl ?_
    exact a_iret dX6_countIn_35 rfl (Nat.le_of_ble_eq_true rfl) (Nat.le_of_ble_eq_true rfl) h
  · replace h := h.2 c12
    refine a_aload_n dX6_countIn_15 rfl rfl ?_
    refine a_getR dX6_countIn_16 fw_RX6_29 rfl rfl (kSta_0 hS.1) (rSta_0_4 hS.1) ?_
    refine a_iload_n dX6_countIn_19 rfl rfl ?_
    obtain ⟨q20_0, h⟩ := h
    refine b_ialdV dX6_countIn_20 (kSta_15 hS.1) (nSta_15 hS.1) (sk_lt hS q20_0) (sk_15 hS q20_0) ?_
    refine a_iload_n dX6_countIn_21 rfl rfl ?_
    refine a_icmp_ne dX6_countIn_22 (tgt := 28) rfl (fun c22 => ?_) (fun c22 => ?_)
    · replace h := h.1 c22
      obtain ⟨q28_0, h⟩ := h
      refine a_iinc dX6_countIn_28 rfl (Nat.le_of_ble_eq_true rfl) (by decide) q28_0 (ls' := [vR a0, vI x1, vI x2, vI (x3 + 1)]) rfl ?_
      refine a_goto dX6_countIn_31 (tgt := 4) rfl ?_
      exact h
    · replace h := h.2 c22
      obtain ⟨q25_0, h⟩ := h
      refine a_iinc dX6_countIn_25 rfl (Nat.le_of_ble_eq_true rfl) (by decide) q25_0 (ls' := [vR a0, vI x1, vI (x2 + 1), vI x3]) rfl ?_
      obtain ⟨q28_0, h⟩ := h
      refine a_iinc dX6_countIn_28 rfl (Nat.le_of_ble_eq_true rfl) (by decide) q28_0 (ls' := [vR a0, vI x1, vI (x2 + 1), vI (x3 + 1)]) rfl ?_
      refine a_goto dX6_countIn_31 (tgt := 4) rfl ?_
      exact h

def cntN (M : Row) (x : Int) : Nat → Int := sm (fun k => bi (decide (ofM M k 7 = x)))
theorem k_countIn {l : Launch} {G : GT} {d : Nat} {H : AH} {b : Int} {M : Row} {x : Int} (hS : SK H b M) : CL l G mX6_countIn d 0 0 [vR b, vI x] H (PQ (vI (cntN M x (M 6).toNat)) H) := by
  have hn := okM_n hS.2.1
  refine CL.of (by decide) rfl (Nat.le_of_ble_eq_true rfl) (s_X6_countIn_0 hS ?_)
  have key : ∀ j, j ≤ (M 6).toNat → AW l G mX6_countIn d 0 0 (PQ (vI (cntN M x (M 6).toNat)) H) 4 [vR b, vI x, vI (cntN M x j), vI j] [] 0 0 H := by
    refine upN _ ?_ ?_
    · intro j hj ih
      have h9 : 0 ≤ cntN M x j ∧ cntN M x j ≤ j := sm01 (fun k _ => bi_in _)
      refine s_X6_countIn_4 hS ⟨fun c => absurd c (by omega), fun c => ⟨by omega, fun c2 => ⟨by omega, ?_⟩, fun c2 => ⟨by omega, by omega, ?_⟩⟩⟩
      · rw [cntN, sm, bi_f c2, Int.add_zero] at ih; exact ih
      · rw [cntN, sm, bi_t c2] at ih; exact ih
    · exact s_X6_countIn_4 hS ⟨fun _ => ⟨rfl, rfl⟩, fun c => absurd c (by omega)⟩
  exact key 0 (Nat.zero_le _)
/-- the times of flights that are fixed -/
def ST (H : AH) (b : Int) (M : Row) : Prop := (∀ i, 0 ≤ i → i < 24 → 0 ≤ hg H (b + 16) i ∧ hg H (b + 16) i ≤ 400000) ∧ ∀ f, fl M f → (ofM M f 7 = 1 ∨ ofM M f 7 = 2) → hg H (b + 16) f = ofM M f 8
/-- a runway's plan is kept -/
def Frs (H : AH) (b : Int) (M : Row) (r : Int) : Prop := hg H (b + 20) r = (comeL M r).length ∧ lst H (b + 19) (24 * r) (planL M r) ∧ (∀ p ∈ tmS M r [] (planL M r), hg H (b + 16) p.1 = p.2) ∧ ∀ f ∈ comeL M r, hg H (b + 22) r ≤ baseM M r f
theorem Frs.pl {H : AH} {b : Int} {M : Row} {r i k : Int} (h : Frs H b M r) (hM : okM M) (hk : 0 ≤ k ∧ k < (comeL M r).length) (e : i = 24 * r + k) : hg H (b + 19) i = wAt (planL M r) k := h.2.1.w2 (by rw [(planL_perm hM).2.1]; exact hk) e
theorem Frs.time {H : AH} {b : Int} {M : Row} {f : Int} (h : Frs H b M (ofM M f 6)) (hM : okM M) (hf : fl M f) (hp : ofM M f 7 = 0) : hg H (b + 16) f = planT M f := h.2.2.1 _ (planT_mem hM hf hp)
theorem frs_now {H : AH} {b : Int} {M : Row} {f : Int} (hM : okM M) (hT : ST H b M) (h : Frs H b M (ofM M f 6)) (hf : fl M f) (h3 : ¬ ofM M f 7 = 3) : hg H (b + 16) f = tmNow M f := by
  unfold tmNow
  by_cases c : ofM M f 7 = 0
  · rw [if_pos c]; exact h.time hM hf c
  · rw [if_neg c]
    obtain ⟨-, -, -, -, -, -, -, h7, -⟩ := hM.2 f hf.1 hf.2
    exact hT.2 f hf (by omega)
def FrA (H : AH) (b : Int) (M : Row) : Prop := ∀ r, 0 ≤ r → r < M 5 → Frs H b M r
theorem FrA.now {H : AH} {b : Int} {M : Row} {f : Int} (h : FrA H b M) (hM : okM M) (hT : ST H b M) (hf : fl M f) (h3 : ¬ ofM M f 7 = 3) : hg H (b + 16) f = tmNow M f := by
  obtain ⟨-, -, -, -, -, -, h6, -⟩ := hM.2 f hf.1 hf.2
  exact frs_now hM hT (h _ h6.1 h6.2) hf h3

theorem dX6_countLate_0 : decode cX6_countLate 0 = .ok (.iconst 0, 1) := by decide +kernel
theorem dX6_countLate_1 : decode cX6_countLate 1 = .ok (.istore_n 1, 1) := by decide +kernel
theorem dX6_countLate_2 : decode cX6_countLate 2 = .ok (.iconst 0, 1) := by decide +kernel
theorem dX6_countLate_3 : decode cX6_countLate 3 = .ok (.istore_n 2, 1) := by decide +kernel
theorem dX6_countLate_4 : decode cX6_countLate 4 = .ok (.iload_n 2, 1) := by decide +kernel
theorem dX6_countLate_5 : decode cX6_countLate 5 = .ok (.aload_n 0, 1) := by decide +kernel
theorem dX6_countLate_6 : decode cX6_countLate 6 = .ok (.getfield 21, 3) := by decide +kernel
theorem dX6_countLate_9 : decode cX6_countLate 9 = .ok (.getfield 57, 3) := by decide +kernel
theorem dX6_countLate_12 : decode cX6_countLate 12 = .ok (.if_icmp .ge 40, 3) := by decide +kernel
theorem dX6_countLate_15 : decode cX6_countLate 15 = .ok (.aload_n 0, 1) := by decide +kernel
theorem dX6_countLate_16 : decode cX6_countLate 16 = .ok (.getfield 29, 3) := by decide +kernel
theorem dX6_countLate_19 : decode cX6_countLate 19 = .ok (.iload_n 2, 1) := by decide +kernel
theorem dX6_countLate_20 : decode cX6_countLate 20 = .ok (.iaload, 1) := by decide +kernel
theorem dX6_countLate_21 : decode cX6_countLate 21 = .ok (.iconst 3, 1) := by decide +kernel
theorem dX6_countLate_22 : decode cX6_countLate 22 = .ok (.if_icmp .eq 24, 3) := by decide +kernel
theorem dX6_countLate_25 : decode cX6_countLate 25 = .ok (.aload_n 0, 1) := by decide +kernel
theorem dX6_countLate_26 : decode cX6_countLate 26 = .ok (.getfield 32, 3) := by decide +kernel
theorem dX6_countLate_29 : decode cX6_countLate 29 = .ok (.iload_n 2, 1) := by decide +kernel
theorem dX6_countLate_30 : decode cX6_countLate 30 = .ok (.iaload, 1) := by decide +kernel
theorem dX6_countLate_31 : decode cX6_countLate 31 = .ok (.aload_n 0, 1) := by decide +kernel
theorem dX6_countLate_32 : decode cX6_countLate 32 = .ok (.getfield 21, 3) := by decide +kernel
theorem dX6_countLate_35 : decode cX6_countLate 35 = .ok (.getfield 118, 3) := by decide +kernel
theorem dX6_countLate_38 : decode cX6_countLate 38 = .ok (.iload_n 2, 1) := by decide +kernel
theorem dX6_countLate_39 : decode cX6_countLate 39 = .ok (.iaload, 1) := by decide +kernel
theorem dX6_countLate_40 : decode cX6_countLate 40 = .ok (.if_icmp .le 6, 3) := by decide +kernel
theorem dX6_countLate_43 : decode cX6_countLate 43 = .ok (.iinc 1 1, 3) := by decide +kernel
theorem dX6_countLate_46 : decode cX6_countLate 46 = .ok (.iinc 2 1, 3) := by decide +kernel
theorem dX6_countLate_49 : decode cX6_countLate 49 = .ok (.goto (-45), 3) := by decide +kernel
theorem dX6_countLate_52 : decode cX6_countLate 52 = .ok (.iload_n 1, 1) := by decide +kernel
theorem dX6_countLate_53 : decode cX6_countLate 53 = .ok (.ireturn, 1) := by decide +kernel
set_option maxRecDepth 20000 in
theorem s_X6_countLate_0 {l : Launch} {G : GT} {d : Nat} {Q : AV → AH → Prop} {H : AH} {a0 : Int} {M : Row} (hS : SK H a0 M) (h : AW l G mX6_countLate d 0 0 Q 4 [vR a0, vI 0, vI 0] [] 0 0 H) : AW l G mX6_countLate d 0 0 Q 0 [vR a0, vU, vU] [] 0 0 H := by
  refine a_iconst dX6_countLate_0 ⟨by decide, by decide⟩ ?_
  refine a_istore_n dX6_countLate_1 rfl (Nat.le_of_ble_eq_true rfl) (ls' := [vR a0, vI 0, vU]) rfl ?_
  refine a_iconst dX6_countLate_2 ⟨by decide, by decide⟩ ?_
  refine a_istore_n dX6_countLate_3 rfl (Nat.le_of_ble_eq_true rfl) (ls' := [vR a0, vI 0, vI 0]) rfl ?_
  exact h

set_option maxRecDepth 20000 in
theorem s_X6_countLate_4 {l : Launch} {G : GT} {d : Nat} {Q : AV → AH → Prop} {H : AH} {a0 x1 x2 : Int} {M : Row} (hS : SK H a0 M) (h : ((M 6) ≤ x2 → Q (vI x1) H) ∧ (x2 < (M 6) → (0 ≤ x2 ∧ x2 < M 6) ∧ ((ofM M x2 7) = 3 → (-2147483648 ≤ x2 + 1 ∧ x2 + 1 ≤ 2147483647) ∧ AW l G mX6_countLate d 0 0 Q 4 [vR a0, vI x1, vI (x2 + 1)] [] 0 0 H) ∧ (¬ (ofM M x2 7) = 3 → (0 ≤ x2 ∧ x2 < 24) ∧ ((hg H (a0 + 16) x2) ≤ (ofM M x2 4) → (-2147483648 ≤ x2 + 1 ∧ x2 + 1 ≤ 2147483647) ∧ AW l G mX6_countLate d 0 0 Q 4 [vR a0, vI x1, vI (x2 + 1)] [] 0 0 H) ∧ ((ofM M x2 4) < (hg H (a0 + 16) x2) → (-2147483648 ≤ x1 + 1 ∧ x1 + 1 ≤ 2147483647) ∧ (-2147483648 ≤ x2 + 1 ∧ x2 + 1 ≤ 2147483647) ∧ AW l G mX6_countLate d 0 0 Q 4 [vR a0, vI (x1 + 1), vI (x2 + 1)] [] 0 0 H)))) : AW l G mX6_countLate d 0 0 Q 4 [vR a0, vI x1, vI x2] [] 0 0 H := by
  refine a_iload_n dX6_countLate_4 rfl rfl ?_
  refine a_aload_n dX6_countLate_5 rfl rfl ?_
  refine a_getR dX6_countLate_6 fw_RX6_21 rfl rfl (kSta_0 hS.1) (rSta_0_1 hS.1) ?_
  refine a_getIV dX6_countLate_9 fw_RX6_57 rfl rfl (kSta_5 hS.1) (sk_5_0 hS) ?_
  refine a_icmp_ge dX6_countLate_12 (tgt := 52) rfl (fun c12 => ?_) (fun c12 => ?_)
  · replace h := h.1 c12
    refine a_iload_n dX6_countLate_52 rfl rfl ?_
    exact a_iret dX6_countLate_53 rfl (Nat.le_of_ble_eq_true rfl) (Nat.le_of_ble_eq_true rfl) h
  · replace h := h.2 c12
    refine a_aload_n dX6_countLate_15 rfl rfl ?_
    refine a_getR dX6_countLate_16 fw_RX6_29 rfl rfl (kSta_0 hS.1) (rSta_0_4 hS.1) ?_
    refine a_iload_n dX6_countLate_19 rfl rfl ?_
    obtain ⟨q20_0, h⟩ := h
    refine b_ialdV dX6_countLate_20 (kSta_15 hS.1) (nSta_15 hS.1) (sk_lt hS q20_0) (sk_15 hS q20_0) ?_
    refine a_iconst dX6_countLate_21 ⟨by decide, by decide⟩ ?_
    refine a_icmp_eq dX6_countLate_22 (tgt := 46) rfl (fun c22 => ?_) (fun c22 => ?_)
    · replace h := h.1 c22
      obtain ⟨q46_0, h⟩ := h
      refine a_iinc dX6_countLate_46 rfl (Nat.le_of_ble_eq_true rfl) (by decide) q46_0 (ls' := [vR a0, vI x1, vI (x2 + 1)]) rfl ?_
      refine a_goto dX6_countLate_49 (tgt := 4) rfl ?_
      exact h
    · replace h := h.2 c22
      refine a_aload_n dX6_countLate_25 rfl rfl ?_
      refine a_getR dX6_countLate_26 fw_RX6_32 rfl rfl (kSta_0 hS.1) (rSta_0_5 hS.1) ?_
      refine a_iload_n dX6_countLate_29 rfl rfl ?_
      obtain ⟨q30_0, h⟩ := h
      refine b_iald dX6_countLate_30 (kSta_16 hS.1) (nSta_16 hS.1) q30_0 ?_
      refine a_aload_n dX6_countLate_31 rfl rfl ?_
      refine a_getR dX6_countLate_32 fw_RX6_21 rfl rfl (kSta_0 hS.1) (rSta_0_1 hS.1) ?_
      refine a_getR dX6_countLate_35 fw_RX6_118 rfl rfl (kSta_5 hS.1) (rSta_5_7 hS.1) ?_
      refine a_iload_n dX6_countLate_38 rfl rfl ?_
      refine b_ialdV dX6_countLate_39 (kSta_12 hS.1) (nSta_12 hS.1) (sk_lt hS q20_0) (sk_12 hS q20_0) ?_
      refine a_icmp_le dX6_countLate_40 (tgt := 46) rfl (fun c40 => ?_) (fun c40 => ?_)
      · replace h := h.1 c40
        obtain ⟨q46_0, h⟩ := h
        refine a_iinc dX6_countLate_46 rfl (Nat.le_of_ble_eq_true rfl) (by decide) q46_0 (ls' := [vR a0, vI x1, vI (x2 + 1)]) rfl ?_
        refine a_goto dX6_countLate_49 (tgt := 4) rfl ?_
        exact h
      · replace h := h.2 c40
        obtain ⟨q43_0, h⟩ := h
        refine a_iinc dX6_countLate_43 rfl (Nat.le_of_ble_eq_true rfl) (by decide) q43_0 (ls' := [vR a0, vI (x1 + 1), vI x2]) rfl ?_
        obtain ⟨q46_0, h⟩ := h
        refine a_iinc dX6_countLate_46 rfl (Nat.le_of_ble_eq_true rfl) (by decide) q46_0 (ls' := [vR a0, vI (x1 + 1), vI (x2 + 1)]) rfl ?_
        refine a_goto dX6_countLate_49 (tgt := 4) rfl ?_
        exact h

theorem k_countLate {l : Launch} {G : GT} {d : Nat} {H : AH} {b : Int} {M : Row} (hS : SK H b M) (hT : ST H b M) (hF : FrA H b M) : CL l G mX6_countLate d 0 0 [vR b] H (PQ (vI (lateM M)) H) := by
  have hM := hS.2.1
  have hn := okM_n hM
  refine CL.of (by decide) rfl (Nat.le_of_ble_eq_true rfl) (s_X6_countLate_0 hS ?_)
  have key : ∀ j, j ≤ (M 6).toNat → AW l G mX6_countLate d 0 0 (PQ (vI (lateM M)) H) 4 [vR b, vI (sm (fun k => bi (decide (¬ ofM M k 7 = 3 ∧ ofM M k 4 < tmNow M k))) j), vI j] [] 0 0 H := by
    refine upN _ ?_ ?_
    · intro j hj ih
      have hjf : fl M j := ⟨by omega, by omega⟩
      have h9 := sm01 (f := fun k => bi (decide (¬ ofM M k 7 = 3 ∧ ofM M k 4 < tmNow M k))) (n := j) (fun k _ => bi_in _)
      refine s_X6_countLate_4 hS ⟨fun c => absurd c (by omega), fun c => ⟨hjf, fun c2 => ⟨by omega, ?_⟩, fun c2 => ⟨by omega, fun c3 => ⟨by omega, ?_⟩, fun c3 => ⟨by omega, by omega, ?_⟩⟩⟩⟩
      · rw [sm, bi_f (fun z => z.1 c2), Int.add_zero] at ih; exact ih
      · rw [hF.now hM hT hjf c2] at c3
        rw [sm, bi_f (fun z => by have := z.2; omega), Int.add_zero] at ih; exact ih
      · rw [hF.now hM hT hjf c2] at c3
        rw [sm, bi_t ⟨c2, c3⟩] at ih; exact ih
    · exact s_X6_countLate_4 hS ⟨fun _ => ⟨rfl, rfl⟩, fun c => absurd c (by omega)⟩
  exact key 0 (Nat.zero_le _)

theorem dX6_averageDelay_0 : decode cX6_averageDelay 0 = .ok (.lconst 0, 1) := by decide +kernel
theorem dX6_averageDelay_1 : decode cX6_averageDelay 1 = .ok (.lstore_n 1, 1) := by decide +kernel
theorem dX6_averageDelay_2 : decode cX6_averageDelay 2 = .ok (.iconst 0, 1) := by decide +kernel
theorem dX6_averageDelay_3 : decode cX6_averageDelay 3 = .ok (.istore_n 3, 1) := by decide +kernel
theorem dX6_averageDelay_4 : decode cX6_averageDelay 4 = .ok (.iconst 0, 1) := by decide +kernel
theorem dX6_averageDelay_5 : decode cX6_averageDelay 5 = .ok (.istore 4, 2) := by decide +kernel
theorem dX6_averageDelay_7 : decode cX6_averageDelay 7 = .ok (.iload 4, 2) := by decide +kernel
theorem dX6_averageDelay_9 : decode cX6_averageDelay 9 = .ok (.aload_n 0, 1) := by decide +kernel
theorem dX6_averageDelay_10 : decode cX6_averageDelay 10 = .ok (.getfield 21, 3) := by decide +kernel
theorem dX6_averageDelay_13 : decode cX6_averageDelay 13 = .ok (.getfield 57, 3) := by decide +kernel
theorem dX6_averageDelay_16 : decode cX6_averageDelay 16 = .ok (.if_icmp .ge 45, 3) := by decide +kernel
theorem dX6_averageDelay_19 : decode cX6_averageDelay 19 = .ok (.aload_n 0, 1) := by decide +kernel
theorem dX6_averageDelay_20 : decode cX6_averageDelay 20 = .ok (.getfield 29, 3) := by decide +kernel
theorem dX6_averageDelay_23 : decode cX6_averageDelay 23 = .ok (.iload 4, 2) := by decide +kernel
theorem dX6_averageDelay_25 : decode cX6_averageDelay 25 = .ok (.iaload, 1) := by decide +kernel
theorem dX6_averageDelay_26 : decode cX6_averageDelay 26 = .ok (.iconst 3, 1) := by decide +kernel
theorem dX6_averageDelay_27 : decode cX6_averageDelay 27 = .ok (.if_icmp .eq 28, 3) := by decide +kernel
theorem dX6_averageDelay_30 : decode cX6_averageDelay 30 = .ok (.lload_n 1, 1) := by decide +kernel
theorem dX6_averageDelay_31 : decode cX6_averageDelay 31 = .ok (.aload_n 0, 1) := by decide +kernel
theorem dX6_averageDelay_32 : decode cX6_averageDelay 32 = .ok (.getfield 32, 3) := by decide +kernel
theorem dX6_averageDelay_35 : decode cX6_averageDelay 35 = .ok (.iload 4, 2) := by decide +kernel
theorem dX6_averageDelay_37 : decode cX6_averageDelay 37 = .ok (.iaload, 1) := by decide +kernel
theorem dX6_averageDelay_38 : decode cX6_averageDelay 38 = .ok (.aload_n 0, 1) := by decide +kernel
theorem dX6_averageDelay_39 : decode cX6_averageDelay 39 = .ok (.getfield 21, 3) := by decide +kernel
theorem dX6_averageDelay_42 : decode cX6_averageDelay 42 = .ok (.getfield 127, 3) := by decide +kernel
theorem dX6_averageDelay_45 : decode cX6_averageDelay 45 = .ok (.iload 4, 2) := by decide +kernel
theorem dX6_averageDelay_47 : decode cX6_averageDelay 47 = .ok (.iaload, 1) := by decide +kernel
theorem dX6_averageDelay_48 : decode cX6_averageDelay 48 = .ok (.isub, 1) := by decide +kernel
theorem dX6_averageDelay_49 : decode cX6_averageDelay 49 = .ok (.i2l, 1) := by decide +kernel
theorem dX6_averageDelay_50 : decode cX6_averageDelay 50 = .ok (.ladd, 1) := by decide +kernel
theorem dX6_averageDelay_51 : decode cX6_averageDelay 51 = .ok (.lstore_n 1, 1) := by decide +kernel
theorem dX6_averageDelay_52 : decode cX6_averageDelay 52 = .ok (.iinc 3 1, 3) := by decide +kernel
theorem dX6_averageDelay_55 : decode cX6_averageDelay 55 = .ok (.iinc 4 1, 3) := by decide +kernel
theorem dX6_averageDelay_58 : decode cX6_averageDelay 58 = .ok (.goto (-51), 3) := by decide +kernel
theorem dX6_averageDelay_61 : decode cX6_averageDelay 61 = .ok (.iload_n 3, 1) := by decide +kernel
theorem dX6_averageDelay_62 : decode cX6_averageDelay 62 = .ok (.ifCond .ne 7, 3) := by decide +kernel
theorem dX6_averageDelay_65 : decode cX6_averageDelay 65 = .ok (.fconst 0, 1) := by decide +kernel
theorem dX6_averageDelay_66 : decode cX6_averageDelay 66 = .ok (.goto 8, 3) := by decide +kernel
theorem dX6_averageDelay_69 : decode cX6_averageDelay 69 = .ok (.lload_n 1, 1) := by decide +kernel
theorem dX6_averageDelay_70 : decode cX6_averageDelay 70 = .ok (.l2f, 1) := by decide +kernel
theorem dX6_averageDelay_71 : decode cX6_averageDelay 71 = .ok (.iload_n 3, 1) := by decide +kernel
theorem dX6_averageDelay_72 : decode cX6_averageDelay 72 = .ok (.i2f, 1) := by decide +kernel
theorem dX6_averageDelay_73 : decode cX6_averageDelay 73 = .ok (.fdiv, 1) := by decide +kernel
theorem dX6_averageDelay_74 : decode cX6_averageDelay 74 = .ok (.freturn, 1) := by decide +kernel
set_option maxRecDepth 20000 in
theorem s_X6_averageDelay_0 {l : Launch} {G : GT} {d : Nat} {Q : AV → AH → Prop} {H : AH} {a0 : Int} {M : Row} (hS : SK H a0 M) (h : AW l G mX6_averageDelay d 0 0 Q 7 [vR a0, vJ 0, vU, vI 0, vI 0] [] 0 0 H) : AW l G mX6_averageDelay d 0 0 Q 0 [vR a0, vU, vU, vU, vU] [] 0 0 H := by
  refine a_lconst dX6_averageDelay_0 ?_
  show AW l G mX6_averageDelay d 0 0 Q 1 [vR a0, vU, vU, vU, vU] [vJ 0] 0 0 H
  refine a_lstore_n dX6_averageDelay_1 rfl (Nat.le_of_ble_eq_true rfl) (ls' := [vR a0, vJ 0, vU, vU, vU]) rfl ?_
  refine a_iconst dX6_averageDelay_2 ⟨by decide, by decide⟩ ?_
  refine a_istore_n dX6_averageDelay_3 rfl (Nat.le_of_ble_eq_true rfl) (ls' := [vR a0, vJ 0, vU, vI 0, vU]) rfl ?_
  refine a_iconst dX6_averageDelay_4 ⟨by decide, by decide⟩ ?_
  refine a_istore dX6_averageDelay_5 (Nat.le_of_ble_eq_true rfl) (ls' := [vR a0, vJ 0, vU, vI 0, vI 0]) rfl ?_
  exact h

set_option maxRecDepth 20000 in
theorem s_X6_averageDelay_7 {l : Launch} {G : GT} {d : Nat} {Q : AV → AH → Prop} {H : AH} {a0 x1 x3 x4 : Int} {M : Row} (hS : SK H a0 M) (h : ((M 6) ≤ x4 → (¬ x3 = 0 → (afok (al2f x1) (ai2f x3)) ∧ Q (vF (afdiv (al2f x1) (ai2f x3))) H) ∧ (x3 = 0 → Q (vF 0) H)) ∧ (x4 < (M 6) → (0 ≤ x4 ∧ x4 < M 6) ∧ ((ofM M x4 7) = 3 → (-2147483648 ≤ x4 + 1 ∧ x4 + 1 ≤ 2147483647) ∧ AW l G mX6_averageDelay d 0 0 Q 7 [vR a0, vJ x1, vU, vI x3, vI (x4 + 1)] [] 0 0 H) ∧ (¬ (ofM M x4 7) = 3 → (0 ≤ x4 ∧ x4 < 24) ∧ (-2147483648 ≤ (hg H (a0 + 16) x4) - (ofM M x4 2) ∧ (hg H (a0 + 16) x4) - (ofM M x4 2) ≤ 2147483647) ∧ (-9223372036854775808 ≤ x1 + ((hg H (a0 + 16) x4) - (ofM M x4 2)) ∧ x1 + ((hg H (a0 + 16) x4) - (ofM M x4 2)) ≤ 9223372036854775807) ∧ (-2147483648 ≤ x3 + 1 ∧ x3 + 1 ≤ 2147483647) ∧ (-2147483648 ≤ x4 + 1 ∧ x4 + 1 ≤ 2147483647) ∧ AW l G mX6_averageDelay d 0 0 Q 7 [vR a0, vJ (x1 + ((hg H (a0 + 16) x4) - (ofM M x4 2))), vU, vI (x3 + 1), vI (x4 + 1)] [] 0 0 H))) : AW l G mX6_averageDelay d 0 0 Q 7 [vR a0, vJ x1, vU, vI x3, vI x4] [] 0 0 H := by
  refine a_iload dX6_averageDelay_7 rfl ?_
  refine a_aload_n dX6_averageDelay_9 rfl rfl ?_
  refine a_getR dX6_averageDelay_10 fw_RX6_21 rfl rfl (kSta_0 hS.1) (rSta_0_1 hS.1) ?_
  refine a_getIV dX6_averageDelay_13 fw_RX6_57 rfl rfl (kSta_5 hS.1) (sk_5_0 hS) ?_
  refine a_icmp_ge dX6_averageDelay_16 (tgt := 61) rfl (fun c16 => ?_) (fun c16 => ?_)
  · replace h := h.1 c16
    refine a_iload_n dX6_averageDelay_61 rfl rfl ?_
    refine a_if_ne dX6_averageDelay_62 (tgt := 69) rfl (fun c62 => ?_) (fun c62 => ?_)
    · replace h := h.1 c62
      refine a_lload_n dX6_averageDelay_69 rfl rfl ?_
      refine a_l2f dX6_averageDelay_70 ?_
      refine a_iload_n dX6_averageDelay_71 rfl rfl ?_
      refine a_i2f dX6_averageDelay_72 ?_
      obtain ⟨q73_0, h⟩ := h
      refine a_fdiv dX6_averageDelay_73 q73_0 ?_
      exact a_fret dX6_averageDelay_74 rfl (Nat.le_of_ble_eq_true rfl) (Nat.le_of_ble_eq_true rfl) h
    · replace h := h.2 c62
      refine a_fconst dX6_averageDelay_65 ?_
      refine a_goto dX6_averageDelay_66 (tgt := 74) rfl ?_
      exact a_fret dX6_averageDelay_74 rfl (Nat.le_of_ble_eq_true rfl) (Nat.le_of_ble_eq_true rfl) h
  · replace h := h.2 c16
    refine a_aload_n dX6_averageDelay_19 rfl rfl ?_
    refine a_getR dX6_averageDelay_20 fw_RX6_29 rfl rfl (kSta_0 hS.1) (rSta_0_4 hS.1) ?_
    refine a_iload dX6_averageDelay_23 rfl ?_
    obtain ⟨q25_0, h⟩ := h
    refine b_ialdV dX6_averageDelay_25 (kSta_15 hS.1) (nSta_15 hS.1) (sk_lt hS q25_0) (sk_15 hS q25_0) ?_
    refine a_iconst dX6_averageDelay_26 ⟨by decide, by decide⟩ ?_
    refine a_icmp_eq dX6_averageDelay_27 (tgt := 55) rfl (fun c27 => ?_) (fun c27 => ?_)
    · replace h := h.1 c27
      obtain ⟨q55_0, h⟩ := h
      refine a_iinc dX6_averageDelay_55 rfl (Nat.le_of_ble_eq_true rfl) (by decide) q55_0 (ls' := [vR a0, vJ x1, vU, vI x3, vI (x4 + 1)]) rfl ?_
      refine a_goto dX6_averageDelay_58 (tgt := 7) rfl ?_
      exact h
    · replace h := h.2 c27
      refine a_lload_n dX6_averageDelay_30 rfl rfl ?_
      refine a_aload_n dX6_averageDelay_31 rfl rfl ?_
      refine a_getR dX6_averageDelay_32 fw_RX6_32 rfl rfl (kSta_0 hS.1) (rSta_0_5 hS.1) ?_
      refine a_iload dX6_averageDelay_35 rfl ?_
      obtain ⟨q37_0, h⟩ := h
      refine b_iald dX6_averageDelay_37 (kSta_16 hS.1) (nSta_16 hS.1) q37_0 ?_
      refine a_aload_n dX6_averageDelay_38 rfl rfl ?_
      refine a_getR dX6_averageDelay_39 fw_RX6_21 rfl rfl (kSta_0 hS.1) (rSta_0_1 hS.1) ?_
      refine a_getR dX6_averageDelay_42 fw_RX6_127 rfl rfl (kSta_5 hS.1) (rSta_5_5 hS.1) ?_
      refine a_iload dX6_averageDelay_45 rfl ?_
      refine b_ialdV dX6_averageDelay_47 (kSta_10 hS.1) (nSta_10 hS.1) (sk_lt hS q25_0) (sk_10 hS q25_0) ?_
      obtain ⟨q48_0, h⟩ := h
      refine a_isub dX6_averageDelay_48 q48_0 ?_
      refine a_i2l dX6_averageDelay_49 ?_
      obtain ⟨q50_0, h⟩ := h
      refine a_ladd dX6_averageDelay_50 q50_0 ?_
      refine a_lstore_n dX6_averageDelay_51 rfl (Nat.le_of_ble_eq_true rfl) (ls' := [vR a0, vJ (x1 + ((hg H (a0 + 16) x4) - (ofM M x4 2))), vU, vI x3, vI x4]) rfl ?_
      obtain ⟨q52_0, h⟩ := h
      refine a_iinc dX6_averageDelay_52 rfl (Nat.le_of_ble_eq_true rfl) (by decide) q52_0 (ls' := [vR a0, vJ (x1 + ((hg H (a0 + 16) x4) - (ofM M x4 2))), vU, vI (x3 + 1), vI x4]) rfl ?_
      obtain ⟨q55_0, h⟩ := h
      refine a_iinc dX6_averageDelay_55 rfl (Nat.le_of_ble_eq_true rfl) (by decide) q55_0 (ls' := [vR a0, vJ (x1 + ((hg H (a0 + 16) x4) - (ofM M x4 2))), vU, vI (x3 + 1), vI (x4 + 1)]) rfl ?_
      refine a_goto dX6_averageDelay_58 (tgt := 7) rfl ?_
      exact h

theorem k_averageDelay {l : Launch} {G : GT} {d : Nat} {H : AH} {b : Int} {M : Row} (hS : SK H b M) (hT : ST H b M) (hF : FrA H b M) : CL l G mX6_averageDelay d 0 0 [vR b] H (PQ (vF (vMean M)) H) := by
  have hM := hS.2.1
  have hn := okM_n hM
  refine CL.of (by decide) rfl (Nat.le_of_ble_eq_true rfl) (s_X6_averageDelay_0 hS ?_)
  have key : ∀ j, j ≤ (M 6).toNat → AW l G mX6_averageDelay d 0 0 (PQ (vF (vMean M)) H) 7 [vR b, vJ (mnS M j), vU, vI (mnC M j), vI j] [] 0 0 H := by
    refine upN _ ?_ ?_
    · intro j hj ih
      have hs := mn_in hM (j := j) (by omega)
      have hjf : fl M j := ⟨by omega, by omega⟩
      obtain ⟨-, -, h2, -⟩ := hM.2 j hjf.1 hjf.2
      refine s_X6_averageDelay_7 hS ⟨fun c => absurd c (by omega), fun c => ⟨hjf, fun c2 => ⟨by omega, ?_⟩, fun c2 => ?_⟩⟩
      · rw [mnS, mnC, sm, sm, if_pos c2, if_pos c2, Int.add_zero, Int.add_zero] at ih
        exact ih
      · have t := tmNow_in hM hjf c2
        rw [hF.now hM hT hjf c2]
        rw [mnS, mnC, sm, sm, if_neg c2, if_neg c2] at ih
        exact ⟨by omega, by omega, by omega, by omega, by omega, ih⟩
    · have hs := mn_in hM (j := (M 6).toNat) (Nat.le_refl _)
      exact s_X6_averageDelay_7 hS ⟨fun _ => ⟨fun c => ⟨afok_n _ _ (by unfold inI; omega) c, by rw [vMean, if_neg c], rfl⟩, fun c => ⟨by rw [vMean, if_pos c], rfl⟩⟩, fun c => absurd c (by omega)⟩
  exact key 0 (Nat.zero_le _)

theorem dX6_placeIn_0 : decode cX6_placeIn 0 = .ok (.aload_n 0, 1) := by decide +kernel
theorem dX6_placeIn_1 : decode cX6_placeIn 1 = .ok (.getfield 25, 3) := by decide +kernel
theorem dX6_placeIn_4 : decode cX6_placeIn 4 = .ok (.iload_n 1, 1) := by decide +kernel
theorem dX6_placeIn_5 : decode cX6_placeIn 5 = .ok (.iaload, 1) := by decide +kernel
theorem dX6_placeIn_6 : decode cX6_placeIn 6 = .ok (.bipush 24, 2) := by decide +kernel
theorem dX6_placeIn_8 : decode cX6_placeIn 8 = .ok (.imul, 1) := by decide +kernel
theorem dX6_placeIn_9 : decode cX6_placeIn 9 = .ok (.istore_n 2, 1) := by decide +kernel
theorem dX6_placeIn_10 : decode cX6_placeIn 10 = .ok (.iconst 0, 1) := by decide +kernel
theorem dX6_placeIn_11 : decode cX6_placeIn 11 = .ok (.istore_n 3, 1) := by decide +kernel
theorem dX6_placeIn_12 : decode cX6_placeIn 12 = .ok (.iload_n 3, 1) := by decide +kernel
theorem dX6_placeIn_13 : decode cX6_placeIn 13 = .ok (.aload_n 0, 1) := by decide +kernel
theorem dX6_placeIn_14 : decode cX6_placeIn 14 = .ok (.getfield 44, 3) := by decide +kernel
theorem dX6_placeIn_17 : decode cX6_placeIn 17 = .ok (.aload_n 0, 1) := by decide +kernel
theorem dX6_placeIn_18 : decode cX6_placeIn 18 = .ok (.getfield 25, 3) := by decide +kernel
theorem dX6_placeIn_21 : decode cX6_placeIn 21 = .ok (.iload_n 1, 1) := by decide +kernel
theorem dX6_placeIn_22 : decode cX6_placeIn 22 = .ok (.iaload, 1) := by decide +kernel
theorem dX6_placeIn_23 : decode cX6_placeIn 23 = .ok (.iaload, 1) := by decide +kernel
theorem dX6_placeIn_24 : decode cX6_placeIn 24 = .ok (.if_icmp .ge 23, 3) := by decide +kernel
theorem dX6_placeIn_27 : decode cX6_placeIn 27 = .ok (.aload_n 0, 1) := by decide +kernel
theorem dX6_placeIn_28 : decode cX6_placeIn 28 = .ok (.getfield 41, 3) := by decide +kernel
theorem dX6_placeIn_31 : decode cX6_placeIn 31 = .ok (.iload_n 2, 1) := by decide +kernel
theorem dX6_placeIn_32 : decode cX6_placeIn 32 = .ok (.iload_n 3, 1) := by decide +kernel
theorem dX6_placeIn_33 : decode cX6_placeIn 33 = .ok (.iadd, 1) := by decide +kernel
theorem dX6_placeIn_34 : decode cX6_placeIn 34 = .ok (.iaload, 1) := by decide +kernel
theorem dX6_placeIn_35 : decode cX6_placeIn 35 = .ok (.iload_n 1, 1) := by decide +kernel
theorem dX6_placeIn_36 : decode cX6_placeIn 36 = .ok (.if_icmp .ne 5, 3) := by decide +kernel
theorem dX6_placeIn_39 : decode cX6_placeIn 39 = .ok (.iload_n 3, 1) := by decide +kernel
theorem dX6_placeIn_40 : decode cX6_placeIn 40 = .ok (.ireturn, 1) := by decide +kernel
theorem dX6_placeIn_41 : decode cX6_placeIn 41 = .ok (.iinc 3 1, 3) := by decide +kernel
theorem dX6_placeIn_44 : decode cX6_placeIn 44 = .ok (.goto (-32), 3) := by decide +kernel
theorem dX6_placeIn_47 : decode cX6_placeIn 47 = .ok (.iconst (-1), 1) := by decide +kernel
theorem dX6_placeIn_48 : decode cX6_placeIn 48 = .ok (.ireturn, 1) := by decide +kernel
set_option maxRecDepth 20000 in
theorem s_X6_placeIn_0 {l : Launch} {G : GT} {d : Nat} {Q : AV → AH → Prop} {H : AH} {a0 x1 : Int} {M : Row} (hS : SK H a0 M) (h : (0 ≤ x1 ∧ x1 < M 6) ∧ (-2147483648 ≤ (ofM M x1 6) * 24 ∧ (ofM M x1 6) * 24 ≤ 2147483647) ∧ AW l G mX6_placeIn d 0 0 Q 12 [vR a0, vI x1, vI ((ofM M x1 6) * 24), vI 0] [] 0 0 H) : AW l G mX6_placeIn d 0 0 Q 0 [vR a0, vI x1, vU, vU] [] 0 0 H := by
  refine a_aload_n dX6_placeIn_0 rfl rfl ?_
  refine a_getR dX6_placeIn_1 fw_RX6_25 rfl rfl (kSta_0 hS.1) (rSta_0_3 hS.1) ?_
  refine a_iload_n dX6_placeIn_4 rfl rfl ?_
  obtain ⟨q5_0, h⟩ := h
  refine b_ialdV dX6_placeIn_5 (kSta_14 hS.1) (nSta_14 hS.1) (sk_lt hS q5_0) (sk_14 hS q5_0) ?_
  refine a_bipush dX6_placeIn_6 (by decide) ?_
  obtain ⟨q8_0, h⟩ := h
  refine a_imul dX6_placeIn_8 q8_0 ?_
  refine a_istore_n dX6_placeIn_9 rfl (Nat.le_of_ble_eq_true rfl) (ls' := [vR a0, vI x1, vI ((ofM M x1 6) * 24), vU]) rfl ?_
  refine a_iconst dX6_placeIn_10 ⟨by decide, by decide⟩ ?_
  refine a_istore_n dX6_placeIn_11 rfl (Nat.le_of_ble_eq_true rfl) (ls' := [vR a0, vI x1, vI ((ofM M x1 6) * 24), vI 0]) rfl ?_
  exact h

set_option maxRecDepth 20000 in
theorem s_X6_placeIn_12 {l : Launch} {G : GT} {d : Nat} {Q : AV → AH → Prop} {H : AH} {a0 x1 x2 x3 : Int} {M : Row} (hS : SK H a0 M) (h : (0 ≤ x1 ∧ x1 < M 6) ∧ (0 ≤ (ofM M x1 6) ∧ (ofM M x1 6) < 3) ∧ ((hg H (a0 + 20) (ofM M x1 6)) ≤ x3 → Q (vI (-1)) H) ∧ (x3 < (hg H (a0 + 20) (ofM M x1 6)) → (-2147483648 ≤ x2 + x3 ∧ x2 + x3 ≤ 2147483647) ∧ (0 ≤ (x2 + x3) ∧ (x2 + x3) < 72) ∧ (¬ (hg H (a0 + 19) (x2 + x3)) = x1 → (-2147483648 ≤ x3 + 1 ∧ x3 + 1 ≤ 2147483647) ∧ AW l G mX6_placeIn d 0 0 Q 12 [vR a0, vI x1, vI x2, vI (x3 + 1)] [] 0 0 H) ∧ ((hg H (a0 + 19) (x2 + x3)) = x1 → Q (vI x3) H))) : AW l G mX6_placeIn d 0 0 Q 12 [vR a0, vI x1, vI x2, vI x3] [] 0 0 H := by
  refine a_iload_n dX6_placeIn_12 rfl rfl ?_
  refine a_aload_n dX6_placeIn_13 rfl rfl ?_
  refine a_getR dX6_placeIn_14 fw_RX6_44 rfl rfl (kSta_0 hS.1) (rSta_0_10 hS.1) ?_
  refine a_aload_n dX6_placeIn_17 rfl rfl ?_
  refine a_getR dX6_placeIn_18 fw_RX6_25 rfl rfl (kSta_0 hS.1) (rSta_0_3 hS.1) ?_
  refine a_iload_n dX6_placeIn_21 rfl rfl ?_
  obtain ⟨q22_0, h⟩ := h
  refine b_ialdV dX6_placeIn_22 (kSta_14 hS.1) (nSta_14 hS.1) (sk_lt hS q22_0) (sk_14 hS q22_0) ?_
  obtain ⟨q23_0, h⟩ := h
  refine b_iald dX6_placeIn_23 (kSta_20 hS.1) (nSta_20 hS.1) q23_0 ?_
  refine a_icmp_ge dX6_placeIn_24 (tgt := 47) rfl (fun c24 => ?_) (fun c24 => ?_)
  · replace h := h.1 c24
    refine a_iconst dX6_placeIn_47 ⟨by decide, by decide⟩ ?_
    exact a_iret dX6_placeIn_48 rfl (Nat.le_of_ble_eq_true rfl) (Nat.le_of_ble_eq_true rfl) h
  · replace h := h.2 c24
    refine a_aload_n dX6_placeIn_27 rfl rfl ?_
    refine a_getR dX6_placeIn_28 fw_RX6_41 rfl rfl (kSta_0 hS.1) (rSta_0_9 hS.1) ?_
    refine a_iload_n dX6_placeIn_31 rfl rfl ?_
    refine a_iload_n dX6_placeIn_32 rfl rfl ?_
    obtain ⟨q33_0, h⟩ := h
    refine a_iadd dX6_placeIn_33 q33_0 ?_
    obtain ⟨q34_0, h⟩ := h
    refine b_iald dX6_placeIn_34 (kSta_19 hS.1) (nSta_19 hS.1) q34_0 ?_
    refine a_iload_n dX6_placeIn_35 rfl rfl ?_
    refine a_icmp_ne dX6_placeIn_36 (tgt := 41) rfl (fun c36 => ?_) (fun c36 => ?_)
    · replace h := h.1 c36
      obtain ⟨q41_0, h⟩ := h
      refine a_iinc dX6_placeIn_41 rfl (Nat.le_of_ble_eq_true rfl) (by decide) q41_0 (ls' := [vR a0, vI x1, vI x2, vI (x3 + 1)]) rfl ?_
      refine a_goto dX6_placeIn_44 (tgt := 12) rfl ?_
      exact h
    · replace h := h.2 c36
      refine a_iload_n dX6_placeIn_39 rfl rfl ?_
      exact a_iret dX6_placeIn_40 rfl (Nat.le_of_ble_eq_true rfl) (Nat.le_of_ble_eq_true rfl) h

theorem k_placeIn {l : Launch} {G : GT} {d : Nat} {H : AH} {b : Int} {M : Row} {f : Int} (hS : SK H b M) (hf : fl M f) (hp : ofM M f 7 = 0) (hF : Frs H b M (ofM M f 6)) : CL l G mX6_placeIn d 0 0 [vR b, vI f] H (PQ (vI (ixOf (planL M (ofM M f 6)) f)) H) := by
  have hM := hS.2.1
  have hn := okM_n hM
  have hn5 := okM_5 hM
  have hlc := comeL_len hM (r := ofM M f 6)
  have hx := ixOf_in hM hf hp
  obtain ⟨-, -, -, -, -, -, h6, -⟩ := hM.2 f hf.1 hf.2
  obtain ⟨p1, p2, p3⟩ := planL_perm hM (r := ofM M f 6)
  have hin : f ∈ planL M (ofM M f 6) := (p3 f).mpr ((comeL_mem hM).mpr ⟨hf, hp, rfl⟩)
  have hlt := List.idxOf_lt_length_of_mem hin
  refine CL.of (by decide) rfl (Nat.le_of_ble_eq_true rfl) (s_X6_placeIn_0 hS ⟨hf, by omega, ?_⟩)
  have key : ∀ j, j ≤ (planL M (ofM M f 6)).idxOf f → AW l G mX6_placeIn d 0 0 (PQ (vI (ixOf (planL M (ofM M f 6)) f)) H) 12 [vR b, vI f, vI (ofM M f 6 * 24), vI j] [] 0 0 H := by
    refine upN _ ?_ ?_
    · intro j hj ih
      have hv := hF.pl (k := j) hM (by omega) (i := ofM M f 6 * 24 + j) (by omega)
      refine s_X6_placeIn_12 hS ?_
      rw [hF.1, hv]
      refine ⟨hf, by omega, fun c => absurd c (by omega), fun c => ⟨by omega, by omega, fun c2 => ⟨by omega, ih⟩, fun c2 => ?_⟩⟩
      have hjl : (j : Int).toNat < (planL M (ofM M f 6)).length := by omega
      rw [wAt_eq hjl] at c2
      have := List.not_of_lt_findIdx (p := (· == f)) (xs := planL M (ofM M f 6)) hj
      have c2' : (planL M (ofM M f 6))[j] = f := c2
      simp [c2'] at this
    · have hv := hF.pl (k := ((planL M (ofM M f 6)).idxOf f : Nat)) hM (by omega) (i := ofM M f 6 * 24 + ((planL M (ofM M f 6)).idxOf f : Nat)) (by omega)
      refine s_X6_placeIn_12 hS ?_
      rw [hF.1, hv]
      refine ⟨hf, by omega, fun c => absurd c (by omega), fun c => ⟨by omega, by omega, fun c2 => ?_, fun c2 => ⟨rfl, rfl⟩⟩⟩
      have hjl : (((planL M (ofM M f 6)).idxOf f : Nat) : Int).toNat < (planL M (ofM M f 6)).length := by omega
      rw [wAt_eq hjl] at c2
      exact absurd (List.getElem_idxOf hlt) c2
  exact key 0 (Nat.zero_le _)

theorem dX6_roomBehind_0 : decode cX6_roomBehind 0 = .ok (.aload_n 0, 1) := by decide +kernel
theorem dX6_roomBehind_1 : decode cX6_roomBehind 1 = .ok (.getfield 25, 3) := by decide +kernel
theorem dX6_roomBehind_4 : decode cX6_roomBehind 4 = .ok (.iload_n 1, 1) := by decide +kernel
theorem dX6_roomBehind_5 : decode cX6_roomBehind 5 = .ok (.iaload, 1) := by decide +kernel
theorem dX6_roomBehind_6 : decode cX6_roomBehind 6 = .ok (.bipush 24, 2) := by decide +kernel
theorem dX6_roomBehind_8 : decode cX6_roomBehind 8 = .ok (.imul, 1) := by decide +kernel
theorem dX6_roomBehind_9 : decode cX6_roomBehind 9 = .ok (.istore_n 2, 1) := by decide +kernel
theorem dX6_roomBehind_10 : decode cX6_roomBehind 10 = .ok (.iconst (-1), 1) := by decide +kernel
theorem dX6_roomBehind_11 : decode cX6_roomBehind 11 = .ok (.istore_n 3, 1) := by decide +kernel
theorem dX6_roomBehind_12 : decode cX6_roomBehind 12 = .ok (.aload_n 0, 1) := by decide +kernel
theorem dX6_roomBehind_13 : decode cX6_roomBehind 13 = .ok (.iload_n 1, 1) := by decide +kernel
theorem dX6_roomBehind_14 : decode cX6_roomBehind 14 = .ok (.invokevirtual 133, 3) := by decide +kernel
theorem dX6_roomBehind_17 : decode cX6_roomBehind 17 = .ok (.iconst 1, 1) := by decide +kernel
theorem dX6_roomBehind_18 : decode cX6_roomBehind 18 = .ok (.iadd, 1) := by decide +kernel
theorem dX6_roomBehind_19 : decode cX6_roomBehind 19 = .ok (.istore 4, 2) := by decide +kernel
theorem dX6_roomBehind_21 : decode cX6_roomBehind 21 = .ok (.iload 4, 2) := by decide +kernel
theorem dX6_roomBehind_23 : decode cX6_roomBehind 23 = .ok (.aload_n 0, 1) := by decide +kernel
theorem dX6_roomBehind_24 : decode cX6_roomBehind 24 = .ok (.getfield 44, 3) := by decide +kernel
theorem dX6_roomBehind_27 : decode cX6_roomBehind 27 = .ok (.aload_n 0, 1) := by decide +kernel
theorem dX6_roomBehind_28 : decode cX6_roomBehind 28 = .ok (.getfield 25, 3) := by decide +kernel
theorem dX6_roomBehind_31 : decode cX6_roomBehind 31 = .ok (.iload_n 1, 1) := by decide +kernel
theorem dX6_roomBehind_32 : decode cX6_roomBehind 32 = .ok (.iaload, 1) := by decide +kernel
theorem dX6_roomBehind_33 : decode cX6_roomBehind 33 = .ok (.iaload, 1) := by decide +kernel
theorem dX6_roomBehind_34 : decode cX6_roomBehind 34 = .ok (.if_icmp .ge 58, 3) := by decide +kernel
theorem dX6_roomBehind_37 : decode cX6_roomBehind 37 = .ok (.aload_n 0, 1) := by decide +kernel
theorem dX6_roomBehind_38 : decode cX6_roomBehind 38 = .ok (.getfield 41, 3) := by decide +kernel
theorem dX6_roomBehind_41 : decode cX6_roomBehind 41 = .ok (.iload_n 2, 1) := by decide +kernel
theorem dX6_roomBehind_42 : decode cX6_roomBehind 42 = .ok (.iload 4, 2) := by decide +kernel
theorem dX6_roomBehind_44 : decode cX6_roomBehind 44 = .ok (.iadd, 1) := by decide +kernel
theorem dX6_roomBehind_45 : decode cX6_roomBehind 45 = .ok (.iaload, 1) := by decide +kernel
theorem dX6_roomBehind_46 : decode cX6_roomBehind 46 = .ok (.istore 5, 2) := by decide +kernel
theorem dX6_roomBehind_48 : decode cX6_roomBehind 48 = .ok (.aload_n 0, 1) := by decide +kernel
theorem dX6_roomBehind_49 : decode cX6_roomBehind 49 = .ok (.getfield 32, 3) := by decide +kernel
theorem dX6_roomBehind_52 : decode cX6_roomBehind 52 = .ok (.iload 5, 2) := by decide +kernel
theorem dX6_roomBehind_54 : decode cX6_roomBehind 54 = .ok (.iaload, 1) := by decide +kernel
theorem dX6_roomBehind_55 : decode cX6_roomBehind 55 = .ok (.aload_n 0, 1) := by decide +kernel
theorem dX6_roomBehind_56 : decode cX6_roomBehind 56 = .ok (.iload_n 1, 1) := by decide +kernel
theorem dX6_roomBehind_57 : decode cX6_roomBehind 57 = .ok (.iload 5, 2) := by decide +kernel
theorem dX6_roomBehind_59 : decode cX6_roomBehind 59 = .ok (.invokevirtual 136, 3) := by decide +kernel
theorem dX6_roomBehind_62 : decode cX6_roomBehind 62 = .ok (.isub, 1) := by decide +kernel
theorem dX6_roomBehind_63 : decode cX6_roomBehind 63 = .ok (.aload_n 0, 1) := by decide +kernel
theorem dX6_roomBehind_64 : decode cX6_roomBehind 64 = .ok (.getfield 32, 3) := by decide +kernel
theorem dX6_roomBehind_67 : decode cX6_roomBehind 67 = .ok (.iload_n 1, 1) := by decide +kernel
theorem dX6_roomBehind_68 : decode cX6_roomBehind 68 = .ok (.iaload, 1) := by decide +kernel
theorem dX6_roomBehind_69 : decode cX6_roomBehind 69 = .ok (.isub, 1) := by decide +kernel
theorem dX6_roomBehind_70 : decode cX6_roomBehind 70 = .ok (.istore 6, 2) := by decide +kernel
theorem dX6_roomBehind_72 : decode cX6_roomBehind 72 = .ok (.iload_n 3, 1) := by decide +kernel
theorem dX6_roomBehind_73 : decode cX6_roomBehind 73 = .ok (.iconst (-1), 1) := by decide +kernel
theorem dX6_roomBehind_74 : decode cX6_roomBehind 74 = .ok (.if_icmp .eq 9, 3) := by decide +kernel
theorem dX6_roomBehind_77 : decode cX6_roomBehind 77 = .ok (.iload 6, 2) := by decide +kernel
theorem dX6_roomBehind_79 : decode cX6_roomBehind 79 = .ok (.iload_n 3, 1) := by decide +kernel
theorem dX6_roomBehind_80 : decode cX6_roomBehind 80 = .ok (.if_icmp .ge 6, 3) := by decide +kernel
theorem dX6_roomBehind_83 : decode cX6_roomBehind 83 = .ok (.iload 6, 2) := by decide +kernel
theorem dX6_roomBehind_85 : decode cX6_roomBehind 85 = .ok (.istore_n 3, 1) := by decide +kernel
theorem dX6_roomBehind_86 : decode cX6_roomBehind 86 = .ok (.iinc 4 1, 3) := by decide +kernel
theorem dX6_roomBehind_89 : decode cX6_roomBehind 89 = .ok (.goto (-68), 3) := by decide +kernel
theorem dX6_roomBehind_92 : decode cX6_roomBehind 92 = .ok (.iload_n 3, 1) := by decide +kernel
theorem dX6_roomBehind_93 : decode cX6_roomBehind 93 = .ok (.ireturn, 1) := by decide +kernel
set_option maxRecDepth 20000 in
theorem s_X6_roomBehind_0 {l : Launch} {G : GT} {d : Nat} {Q : AV → AH → Prop} {H : AH} {a0 x1 : Int} {M : Row} (hS : SK H a0 M) (h : (0 ≤ x1 ∧ x1 < M 6) ∧ (-2147483648 ≤ (ofM M x1 6) * 24 ∧ (ofM M x1 6) * 24 ≤ 2147483647) ∧ CL l G mX6_placeIn d 0 0 [vR a0, vI x1] H (fun r9 H1 => Lay LSta H1 a0 ∧ SK H1 a0 M ∧ ∃ y1 : Int, r9 = vI y1 ∧ (-2147483648 ≤ y1 + 1 ∧ y1 + 1 ≤ 2147483647) ∧ AW l G mX6_roomBehind (d + 1) 0 0 Q 21 [vR a0, vI x1, vI ((ofM M x1 6) * 24), vI (-1), vI (y1 + 1), vU, vU] [] 0 0 H1)) : AW l G mX6_roomBehind (d + 1) 0 0 Q 0 [vR a0, vI x1, vU, vU, vU, vU, vU] [] 0 0 H := by
  refine a_aload_n dX6_roomBehind_0 rfl rfl ?_
  refine a_getR dX6_roomBehind_1 fw_RX6_25 rfl rfl (kSta_0 hS.1) (rSta_0_3 hS.1) ?_
  refine a_iload_n dX6_roomBehind_4 rfl rfl ?_
  obtain ⟨q5_0, h⟩ := h
  refine b_ialdV dX6_roomBehind_5 (kSta_14 hS.1) (nSta_14 hS.1) (sk_lt hS q5_0) (sk_14 hS q5_0) ?_
  refine a_bipush dX6_roomBehind_6 (by decide) ?_
  obtain ⟨q8_0, h⟩ := h
  refine a_imul dX6_roomBehind_8 q8_0 ?_
  refine a_istore_n dX6_roomBehind_9 rfl (Nat.le_of_ble_eq_true rfl) (ls' := [vR a0, vI x1, vI ((ofM M x1 6) * 24), vU, vU, vU, vU]) rfl ?_
  refine a_iconst dX6_roomBehind_10 ⟨by decide, by decide⟩ ?_
  refine a_istore_n dX6_roomBehind_11 rfl (Nat.le_of_ble_eq_true rfl) (ls' := [vR a0, vI x1, vI ((ofM M x1 6) * 24), vI (-1), vU, vU, vU]) rfl ?_
  refine a_aload_n dX6_roomBehind_12 rfl rfl ?_
  refine a_iload_n dX6_roomBehind_13 rfl rfl ?_
  refine a_callV dX6_roomBehind_14 cw_X6_roomBehind_14 (as := [vI x1]) rfl rfl (kSta_0 hS.1) (Nat.le_refl _) (Nat.le_of_ble_eq_true rfl) (nocov rfl) (Nat.le_of_ble_eq_true rfl) (Nat.le_of_ble_eq_true rfl) (CL.mono h (fun r9 H1 h => ?_))
  obtain ⟨h_r0_1, hSr0_0_1, y1, e9, h⟩ := h
  rw [e9]
  show AW l G mX6_roomBehind (d + 1) 0 0 Q 17 [vR a0, vI x1, vI ((ofM M x1 6) * 24), vI (-1), vU, vU, vU] [vI y1] 0 0 H1
  refine a_iconst dX6_roomBehind_17 ⟨by decide, by decide⟩ ?_
  obtain ⟨q18_0, h⟩ := h
  refine a_iadd dX6_roomBehind_18 q18_0 ?_
  refine a_istore dX6_roomBehind_19 (Nat.le_of_ble_eq_true rfl) (ls' := [vR a0, vI x1, vI ((ofM M x1 6) * 24), vI (-1), vI (y1 + 1), vU, vU]) rfl ?_
  exact h

set_option maxRecDepth 20000 in
theorem s_X6_roomBehind_21 {l : Launch} {G : GT} {d : Nat} {Q : AV → AH → Prop} {H : AH} {a0 x1 x2 x3 x4 : Int} {M : Row} (hS : SK H a0 M) (h : (0 ≤ x1 ∧ x1 < M 6) ∧ (0 ≤ (ofM M x1 6) ∧ (ofM M x1 6) < 3) ∧ ((hg H (a0 + 20) (ofM M x1 6)) ≤ x4 → Q (vI x3) H) ∧ (x4 < (hg H (a0 + 20) (ofM M x1 6)) → (-2147483648 ≤ x2 + x4 ∧ x2 + x4 ≤ 2147483647) ∧ (0 ≤ (x2 + x4) ∧ (x2 + x4) < 72) ∧ (0 ≤ (hg H (a0 + 19) (x2 + x4)) ∧ (hg H (a0 + 19) (x2 + x4)) < 24) ∧ (fl M x1) ∧ (fl M (hg H (a0 + 19) (x2 + x4))) ∧ (-2147483648 ≤ (hg H (a0 + 16) (hg H (a0 + 19) (x2 + x4))) - (apartM M x1 (hg H (a0 + 19) (x2 + x4))) ∧ (hg H (a0 + 16) (hg H (a0 + 19) (x2 + x4))) - (apartM M x1 (hg H (a0 + 19) (x2 + x4))) ≤ 2147483647) ∧ (0 ≤ x1 ∧ x1 < 24) ∧ (-2147483648 ≤ ((hg H (a0 + 16) (hg H (a0 + 19) (x2 + x4))) - (apartM M x1 (hg H (a0 + 19) (x2 + x4)))) - (hg H (a0 + 16) x1) ∧ ((hg H (a0 + 16) (hg H (a0 + 19) (x2 + x4))) - (apartM M x1 (hg H (a0 + 19) (x2 + x4)))) - (hg H (a0 + 16) x1) ≤ 2147483647) ∧ (x3 = (-1) → (-2147483648 ≤ x4 + 1 ∧ x4 + 1 ≤ 2147483647) ∧ AW l G mX6_roomBehind (d + 1) 0 0 Q 21 [vR a0, vI x1, vI x2, vI (((hg H (a0 + 16) (hg H (a0 + 19) (x2 + x4))) - (apartM M x1 (hg H (a0 + 19) (x2 + x4)))) - (hg H (a0 + 16) x1)), vI (x4 + 1), vU, vU] [] 0 0 H) ∧ (¬ x3 = (-1) → (x3 ≤ (((hg H (a0 + 16) (hg H (a0 + 19) (x2 + x4))) - (apartM M x1 (hg H (a0 + 19) (x2 + x4)))) - (hg H (a0 + 16) x1)) → (-2147483648 ≤ x4 + 1 ∧ x4 + 1 ≤ 2147483647) ∧ AW l G mX6_roomBehind (d + 1) 0 0 Q 21 [vR a0, vI x1, vI x2, vI x3, vI (x4 + 1), vU, vU] [] 0 0 H) ∧ ((((hg H (a0 + 16) (hg H (a0 + 19) (x2 + x4))) - (apartM M x1 (hg H (a0 + 19) (x2 + x4)))) - (hg H (a0 + 16) x1)) < x3 → (-2147483648 ≤ x4 + 1 ∧ x4 + 1 ≤ 2147483647) ∧ AW l G mX6_roomBehind (d + 1) 0 0 Q 21 [vR a0, vI x1, vI x2, vI (((hg H (a0 + 16) (hg H (a0 + 19) (x2 + x4))) - (apartM M x1 (hg H (a0 + 19) (x2 + x4)))) - (hg H (a0 + 16) x1)), vI (x4 + 1), vU, vU] [] 0 0 H)))) : AW l G mX6_roomBehind (d + 1) 0 0 Q 21 [vR a0, vI x1, vI x2, vI x3, vI x4, vU, vU] [] 0 0 H := by
  refine a_iload dX6_roomBehind_21 rfl ?_
  refine a_aload_n dX6_roomBehind_23 rfl rfl ?_
  refine a_getR dX6_roomBehind_24 fw_RX6_44 rfl rfl (kSta_0 hS.1) (rSta_0_10 hS.1) ?_
  refine a_aload_n dX6_roomBehind_27 rfl rfl ?_
  refine a_getR dX6_roomBehind_28 fw_RX6_25 rfl rfl (kSta_0 hS.1) (rSta_0_3 hS.1) ?_
  refine a_iload_n dX6_roomBehind_31 rfl rfl ?_
  obtain ⟨q32_0, h⟩ := h
  refine b_ialdV dX6_roomBehind_32 (kSta_14 hS.1) (nSta_14 hS.1) (sk_lt hS q32_0) (sk_14 hS q32_0) ?_
  obtain ⟨q33_0, h⟩ := h
  refine b_iald dX6_roomBehind_33 (kSta_20 hS.1) (nSta_20 hS.1) q33_0 ?_
  refine a_icmp_ge dX6_roomBehind_34 (tgt := 92) rfl (fun c34 => ?_) (fun c34 => ?_)
  · replace h := h.1 c34
    refine a_iload_n dX6_roomBehind_92 rfl rfl ?_
    exact a_iret dX6_roomBehind_93 rfl (Nat.le_of_ble_eq_true rfl) (Nat.le_of_ble_eq_true rfl) h
  · replace h := h.2 c34
    refine a_aload_n dX6_roomBehind_37 rfl rfl ?_
    refine a_getR dX6_roomBehind_38 fw_RX6_41 rfl rfl (kSta_0 hS.1) (rSta_0_9 hS.1) ?_
    refine a_iload_n dX6_roomBehind_41 rfl rfl ?_
    refine a_iload dX6_roomBehind_42 rfl ?_
    obtain ⟨q44_0, h⟩ := h
    refine a_iadd dX6_roomBehind_44 q44_0 ?_
    obtain ⟨q45_0, h⟩ := h
    refine b_iald dX6_roomBehind_45 (kSta_19 hS.1) (nSta_19 hS.1) q45_0 ?_
    refine a_istore dX6_roomBehind_46 (Nat.le_of_ble_eq_true rfl) (ls' := [vR a0, vI x1, vI x2, vI x3, vI x4, vI (hg H (a0 + 19) (x2 + x4)), vU]) rfl ?_
    refine a_aload_n dX6_roomBehind_48 rfl rfl ?_
    refine a_getR dX6_roomBehind_49 fw_RX6_32 rfl rfl (kSta_0 hS.1) (rSta_0_5 hS.1) ?_
    refine a_iload dX6_roomBehind_52 rfl ?_
    obtain ⟨q54_0, h⟩ := h
    refine b_iald dX6_roomBehind_54 (kSta_16 hS.1) (nSta_16 hS.1) q54_0 ?_
    refine a_aload_n dX6_roomBehind_55 rfl rfl ?_
    refine a_iload_n dX6_roomBehind_56 rfl rfl ?_
    refine a_iload dX6_roomBehind_57 rfl ?_
    obtain ⟨q59_0, h⟩ := h
    obtain ⟨q59_1, h⟩ := h
    refine a_callV dX6_roomBehind_59 cw_X6_roomBehind_59 (as := [vI x1, vI (hg H (a0 + 19) (x2 + x4))]) rfl rfl (kSta_0 hS.1) (Nat.le_refl _) (Nat.le_of_ble_eq_true rfl) (nocov rfl) (Nat.le_of_ble_eq_true rfl) (Nat.le_of_ble_eq_true rfl) (CL.mono (k_gapOf hS  q59_0 q59_1) (fun r9 H9 h9 => ?_))
    rw [h9.1, h9.2]
    show AW l G mX6_roomBehind (d + 1) 0 0 Q 62 [vR a0, vI x1, vI x2, vI x3, vI x4, vI (hg H (a0 + 19) (x2 + x4)), vU] [vI (apartM M x1 (hg H (a0 + 19) (x2 + x4))), vI (hg H (a0 + 16) (hg H (a0 + 19) (x2 + x4)))] 0 0 H
    obtain ⟨q62_0, h⟩ := h
    refine a_isub dX6_roomBehind_62 q62_0 ?_
    refine a_aload_n dX6_roomBehind_63 rfl rfl ?_
    refine a_getR dX6_roomBehind_64 fw_RX6_32 rfl rfl (kSta_0 hS.1) (rSta_0_5 hS.1) ?_
    refine a_iload_n dX6_roomBehind_67 rfl rfl ?_
    obtain ⟨q68_0, h⟩ := h
    refine b_iald dX6_roomBehind_68 (kSta_16 hS.1) (nSta_16 hS.1) q68_0 ?_
    obtain ⟨q69_0, h⟩ := h
    refine a_isub dX6_roomBehind_69 q69_0 ?_
    refine a_istore dX6_roomBehind_70 (Nat.le_of_ble_eq_true rfl) (ls' := [vR a0, vI x1, vI x2, vI x3, vI x4, vI (hg H (a0 + 19) (x2 + x4)), vI (((hg H (a0 + 16) (hg H (a0 + 19) (x2 + x4))) - (apartM M x1 (hg H (a0 + 19) (x2 + x4)))) - (hg H (a0 + 16) x1))]) rfl ?_
    refine a_iload_n dX6_roomBehind_72 rfl rfl ?_
    refine a_iconst dX6_roomBehind_73 ⟨by decide, by decide⟩ ?_
    refine a_icmp_eq dX6_roomBehind_74 (tgt := 83) rfl (fun c74 => ?_) (fun c74 => ?_)
    · replace h := h.1 c74
      refine a_iload dX6_roomBehind_83 rfl ?_
      refine a_istore_n dX6_roomBehind_85 rfl (Nat.le_of_ble_eq_true rfl) (ls' := [vR a0, vI x1, vI x2, vI (((hg H (a0 + 16) (hg H (a0 + 19) (x2 + x4))) - (apartM M x1 (hg H (a0 + 19) (x2 + x4)))) - (hg H (a0 + 16) x1)), vI x4, vI (hg H (a0 + 19) (x2 + x4)), vI (((hg H (a0 + 16) (hg H (a0 + 19) (x2 + x4))) - (apartM M x1 (hg H (a0 + 19) (x2 + x4)))) - (hg H (a0 + 16) x1))]) rfl ?_
      obtain ⟨q86_0, h⟩ := h
      refine a_iinc dX6_roomBehind_86 rfl (Nat.le_of_ble_eq_true rfl) (by decide) q86_0 (ls' := [vR a0, vI x1, vI x2, vI (((hg H (a0 + 16) (hg H (a0 + 19) (x2 + x4))) - (apartM M x1 (hg H (a0 + 19) (x2 + x4)))) - (hg H (a0 + 16) x1)), vI (x4 + 1), vI (hg H (a0 + 19) (x2 + x4)), vI (((hg H (a0 + 16) (hg H (a0 + 19) (x2 + x4))) - (apartM M x1 (hg H (a0 + 19) (x2 + x4)))) - (hg H (a0 + 16) x1))]) rfl ?_
      refine a_goto dX6_roomBehind_89 (tgt := 21) rfl ?_
      exact a_weak (wk_e (wk_e (wk_e (wk_e (wk_e (wk_u (wk_u wk_n))))))) h
    · replace h := h.2 c74
      refine a_iload dX6_roomBehind_77 rfl ?_
      refine a_iload_n dX6_roomBehind_79 rfl rfl ?_
      refine a_icmp_ge dX6_roomBehind_80 (tgt := 86) rfl (fun c80 => ?_) (fun c80 => ?_)
      · replace h := h.1 c80
        obtain ⟨q86_0, h⟩ := h
        refine a_iinc dX6_roomBehind_86 rfl (Nat.le_of_ble_eq_true rfl) (by decide) q86_0 (ls' := [vR a0, vI x1, vI x2, vI x3, vI (x4 + 1), vI (hg H (a0 + 19) (x2 + x4)), vI (((hg H (a0 + 16) (hg H (a0 + 19) (x2 + x4))) - (apartM M x1 (hg H (a0 + 19) (x2 + x4)))) - (hg H (a0 + 16) x1))]) rfl ?_
        refine a_goto dX6_roomBehind_89 (tgt := 21) rfl ?_
        exact a_weak (wk_e (wk_e (wk_e (wk_e (wk_e (wk_u (wk_u wk_n))))))) h
      · replace h := h.2 c80
        refine a_iload dX6_roomBehind_83 rfl ?_
        refine a_istore_n dX6_roomBehind_85 rfl (Nat.le_of_ble_eq_true rfl) (ls' := [vR a0, vI x1, vI x2, vI (((hg H (a0 + 16) (hg H (a0 + 19) (x2 + x4))) - (apartM M x1 (hg H (a0 + 19) (x2 + x4)))) - (hg H (a0 + 16) x1)), vI x4, vI (hg H (a0 + 19) (x2 + x4)), vI (((hg H (a0 + 16) (hg H (a0 + 19) (x2 + x4))) - (apartM M x1 (hg H (a0 + 19) (x2 + x4)))) - (hg H (a0 + 16) x1))]) rfl ?_
        obtain ⟨q86_0, h⟩ := h
        refine a_iinc dX6_roomBehind_86 rfl (Nat.le_of_ble_eq_true rfl) (by decide) q86_0 (ls' := [vR a0, vI x1, vI x2, vI (((hg H (a0 + 16) (hg H (a0 + 19) (x2 + x4))) - (apartM M x1 (hg H (a0 + 19) (x2 + x4)))) - (hg H (a0 + 16) x1)), vI (x4 + 1), vI (hg H (a0 + 19) (x2 + x4)), vI (((hg H (a0 + 16) (hg H (a0 + 19) (x2 + x4))) - (apartM M x1 (hg H (a0 + 19) (x2 + x4)))) - (hg H (a0 + 16) x1))]) rfl ?_
        refine a_goto dX6_roomBehind_89 (tgt := 21) rfl ?_
        exact a_weak (wk_e (wk_e (wk_e (wk_e (wk_e (wk_u (wk_u wk_n))))))) h

theorem k_roomBehind {l : Launch} {G : GT} {d : Nat} {H : AH} {b : Int} {M : Row} {f : Int} (hS : SK H b M) (hf : fl M f) (hp : ofM M f 7 = 0) (hF : Frs H b M (ofM M f 6)) (hd : 1 ≤ d := by omega) : CL l G mX6_roomBehind d 0 0 [vR b, vI f] H (PQ (vI (vSlack M f)) H) := by
  obtain ⟨d, rfl⟩ : ∃ k, d = k + 1 := ⟨d - 1, by omega⟩
  have hM := hS.2.1
  have hn := okM_n hM
  have hn5 := okM_5 hM
  have hlc := comeL_len hM (r := ofM M f 6)
  have hx := ixOf_in hM hf hp
  obtain ⟨-, -, -, -, -, -, h6, -⟩ := hM.2 f hf.1 hf.2
  refine CL.of (by decide) rfl (Nat.le_of_ble_eq_true rfl) (s_X6_roomBehind_0 hS ⟨hf, by omega, CL.mono (k_placeIn hS hf hp hF) ?_⟩)
  rintro r9 H1 ⟨rfl, rfl⟩
  refine ⟨hS.1, hS, _, rfl, by omega, ?_⟩
  have key : ∀ j, j ≤ ((comeL M (ofM M f 6)).length - (ixOf (planL M (ofM M f 6)) f + 1)).toNat → AW l G mX6_roomBehind (d + 1) 0 0 (PQ (vI (vSlack M f)) H1) 21 [vR b, vI f, vI (ofM M f 6 * 24), vI (slk M f (ixOf (planL M (ofM M f 6)) f + 1) j), vI (ixOf (planL M (ofM M f 6)) f + 1 + j), vU, vU] [] 0 0 H1 := by
    refine upN _ ?_ ?_
    · intro j hj ih
      rw [show ixOf (planL M (ofM M f 6)) f + 1 + ((j + 1 : Nat) : Int) = ixOf (planL M (ofM M f 6)) f + 1 + j + 1 by omega] at ih
      have hk : 0 ≤ ixOf (planL M (ofM M f 6)) f + 1 + j ∧ ixOf (planL M (ofM M f 6)) f + 1 + j < (comeL M (ofM M f 6)).length := by omega
      have p := pl_at hM hk
      have t1 := planT_in hM p.1 p.2.1
      have t2 := planT_in hM hf hp
      have ha := hM.apart hf p.1
      have hF2 : Frs H1 b M (ofM M (wAt (planL M (ofM M f 6)) (ixOf (planL M (ofM M f 6)) f + 1 + j)) 6) := by rw [p.2.2]; exact hF
      refine s_X6_roomBehind_21 hS ?_
      rw [hF.1, hF.pl hM hk (by omega), hF2.time hM p.1 p.2.1, hF.time hM hf hp]
      have e : planT M (wAt (planL M (ofM M f 6)) (ixOf (planL M (ofM M f 6)) f + 1 + j)) - apartM M f (wAt (planL M (ofM M f 6)) (ixOf (planL M (ofM M f 6)) f + 1 + j)) - planT M f = slkI M f (ixOf (planL M (ofM M f 6)) f + 1 + j) := by unfold slkI; omega
      have p1 := p.1
      rw [e]
      refine ⟨hf, by omega, fun c3 => absurd c3 (by omega), fun c3 => ⟨by omega, by omega, by omega, hf, p.1, by omega, by omega, by unfold slkI; omega, fun c4 => ⟨by omega, ?_⟩, fun c4 => ⟨fun c5 => ⟨by omega, ?_⟩, fun c5 => ⟨by omega, ?_⟩⟩⟩⟩
      · rw [slk, if_pos c4] at ih
        exact ih
      · rw [slk, if_neg c4, show min (slk M f (ixOf (planL M (ofM M f 6)) f + 1) j) (slkI M f (ixOf (planL M (ofM M f 6)) f + 1 + j)) = slk M f (ixOf (planL M (ofM M f 6)) f + 1) j by omega] at ih
        exact ih
      · rw [slk, if_neg c4, show min (slk M f (ixOf (planL M (ofM M f 6)) f + 1) j) (slkI M f (ixOf (planL M (ofM M f 6)) f + 1 + j)) = slkI M f (ixOf (planL M (ofM M f 6)) f + 1 + j) by omega] at ih
        exact ih
    · refine s_X6_roomBehind_21 hS ⟨hf, by omega, fun c3 => ⟨by rw [vSlack, if_pos hf, if_pos hp], rfl⟩, fun c3 => absurd c3 (by rw [hF.1]; omega)⟩
  have := key 0 (Nat.zero_le _)
  rw [show ixOf (planL M (ofM M f 6)) f + 1 + ((0 : Nat) : Int) = ixOf (planL M (ofM M f 6)) f + 1 by omega] at this
  exact this

theorem dX6_bindingOf_0 : decode cX6_bindingOf 0 = .ok (.aload_n 0, 1) := by decide +kernel
theorem dX6_bindingOf_1 : decode cX6_bindingOf 1 = .ok (.iload_n 1, 1) := by decide +kernel
theorem dX6_bindingOf_2 : decode cX6_bindingOf 2 = .ok (.invokevirtual 133, 3) := by decide +kernel
theorem dX6_bindingOf_5 : decode cX6_bindingOf 5 = .ok (.istore_n 2, 1) := by decide +kernel
theorem dX6_bindingOf_6 : decode cX6_bindingOf 6 = .ok (.iconst 0, 1) := by decide +kernel
theorem dX6_bindingOf_7 : decode cX6_bindingOf 7 = .ok (.istore_n 3, 1) := by decide +kernel
theorem dX6_bindingOf_8 : decode cX6_bindingOf 8 = .ok (.iload_n 3, 1) := by decide +kernel
theorem dX6_bindingOf_9 : decode cX6_bindingOf 9 = .ok (.aload_n 0, 1) := by decide +kernel
theorem dX6_bindingOf_10 : decode cX6_bindingOf 10 = .ok (.getfield 21, 3) := by decide +kernel
theorem dX6_bindingOf_13 : decode cX6_bindingOf 13 = .ok (.getfield 57, 3) := by decide +kernel
theorem dX6_bindingOf_16 : decode cX6_bindingOf 16 = .ok (.if_icmp .ge 79, 3) := by decide +kernel
theorem dX6_bindingOf_19 : decode cX6_bindingOf 19 = .ok (.iload_n 3, 1) := by decide +kernel
theorem dX6_bindingOf_20 : decode cX6_bindingOf 20 = .ok (.iload_n 1, 1) := by decide +kernel
theorem dX6_bindingOf_21 : decode cX6_bindingOf 21 = .ok (.if_icmp .eq 68, 3) := by decide +kernel
theorem dX6_bindingOf_24 : decode cX6_bindingOf 24 = .ok (.aload_n 0, 1) := by decide +kernel
theorem dX6_bindingOf_25 : decode cX6_bindingOf 25 = .ok (.getfield 25, 3) := by decide +kernel
theorem dX6_bindingOf_28 : decode cX6_bindingOf 28 = .ok (.iload_n 3, 1) := by decide +kernel
theorem dX6_bindingOf_29 : decode cX6_bindingOf 29 = .ok (.iaload, 1) := by decide +kernel
theorem dX6_bindingOf_30 : decode cX6_bindingOf 30 = .ok (.aload_n 0, 1) := by decide +kernel
theorem dX6_bindingOf_31 : decode cX6_bindingOf 31 = .ok (.getfield 25, 3) := by decide +kernel
theorem dX6_bindingOf_34 : decode cX6_bindingOf 34 = .ok (.iload_n 1, 1) := by decide +kernel
theorem dX6_bindingOf_35 : decode cX6_bindingOf 35 = .ok (.iaload, 1) := by decide +kernel
theorem dX6_bindingOf_36 : decode cX6_bindingOf 36 = .ok (.if_icmp .ne 53, 3) := by decide +kernel
theorem dX6_bindingOf_39 : decode cX6_bindingOf 39 = .ok (.aload_n 0, 1) := by decide +kernel
theorem dX6_bindingOf_40 : decode cX6_bindingOf 40 = .ok (.getfield 32, 3) := by decide +kernel
theorem dX6_bindingOf_43 : decode cX6_bindingOf 43 = .ok (.iload_n 3, 1) := by decide +kernel
theorem dX6_bindingOf_44 : decode cX6_bindingOf 44 = .ok (.iaload, 1) := by decide +kernel
theorem dX6_bindingOf_45 : decode cX6_bindingOf 45 = .ok (.aload_n 0, 1) := by decide +kernel
theorem dX6_bindingOf_46 : decode cX6_bindingOf 46 = .ok (.iload_n 3, 1) := by decide +kernel
theorem dX6_bindingOf_47 : decode cX6_bindingOf 47 = .ok (.iload_n 1, 1) := by decide +kernel
theorem dX6_bindingOf_48 : decode cX6_bindingOf 48 = .ok (.invokevirtual 136, 3) := by decide +kernel
theorem dX6_bindingOf_51 : decode cX6_bindingOf 51 = .ok (.iadd, 1) := by decide +kernel
theorem dX6_bindingOf_52 : decode cX6_bindingOf 52 = .ok (.aload_n 0, 1) := by decide +kernel
theorem dX6_bindingOf_53 : decode cX6_bindingOf 53 = .ok (.getfield 32, 3) := by decide +kernel
theorem dX6_bindingOf_56 : decode cX6_bindingOf 56 = .ok (.iload_n 1, 1) := by decide +kernel
theorem dX6_bindingOf_57 : decode cX6_bindingOf 57 = .ok (.iaload, 1) := by decide +kernel
theorem dX6_bindingOf_58 : decode cX6_bindingOf 58 = .ok (.if_icmp .ne 31, 3) := by decide +kernel
theorem dX6_bindingOf_61 : decode cX6_bindingOf 61 = .ok (.aload_n 0, 1) := by decide +kernel
theorem dX6_bindingOf_62 : decode cX6_bindingOf 62 = .ok (.iload_n 3, 1) := by decide +kernel
theorem dX6_bindingOf_63 : decode cX6_bindingOf 63 = .ok (.invokevirtual 140, 3) := by decide +kernel
theorem dX6_bindingOf_66 : decode cX6_bindingOf 66 = .ok (.ifCond .ne 21, 3) := by decide +kernel
theorem dX6_bindingOf_69 : decode cX6_bindingOf 69 = .ok (.aload_n 0, 1) := by decide +kernel
theorem dX6_bindingOf_70 : decode cX6_bindingOf 70 = .ok (.getfield 29, 3) := by decide +kernel
theorem dX6_bindingOf_73 : decode cX6_bindingOf 73 = .ok (.iload_n 3, 1) := by decide +kernel
theorem dX6_bindingOf_74 : decode cX6_bindingOf 74 = .ok (.iaload, 1) := by decide +kernel
theorem dX6_bindingOf_75 : decode cX6_bindingOf 75 = .ok (.ifCond .ne 14, 3) := by decide +kernel
theorem dX6_bindingOf_78 : decode cX6_bindingOf 78 = .ok (.aload_n 0, 1) := by decide +kernel
theorem dX6_bindingOf_79 : decode cX6_bindingOf 79 = .ok (.iload_n 3, 1) := by decide +kernel
theorem dX6_bindingOf_80 : decode cX6_bindingOf 80 = .ok (.invokevirtual 133, 3) := by decide +kernel
theorem dX6_bindingOf_83 : decode cX6_bindingOf 83 = .ok (.iload_n 2, 1) := by decide +kernel
theorem dX6_bindingOf_84 : decode cX6_bindingOf 84 = .ok (.if_icmp .ge 5, 3) := by decide +kernel
theorem dX6_bindingOf_87 : decode cX6_bindingOf 87 = .ok (.iload_n 3, 1) := by decide +kernel
theorem dX6_bindingOf_88 : decode cX6_bindingOf 88 = .ok (.ireturn, 1) := by decide +kernel
theorem dX6_bindingOf_89 : decode cX6_bindingOf 89 = .ok (.iinc 3 1, 3) := by decide +kernel
theorem dX6_bindingOf_92 : decode cX6_bindingOf 92 = .ok (.goto (-84), 3) := by decide +kernel
theorem dX6_bindingOf_95 : decode cX6_bindingOf 95 = .ok (.iconst (-1), 1) := by decide +kernel
theorem dX6_bindingOf_96 : decode cX6_bindingOf 96 = .ok (.ireturn, 1) := by decide +kernel
set_option maxRecDepth 20000 in
theorem s_X6_bindingOf_0 {l : Launch} {G : GT} {d : Nat} {Q : AV → AH → Prop} {H : AH} {a0 x1 : Int} {M : Row} (hS : SK H a0 M) (h : CL l G mX6_placeIn d 0 0 [vR a0, vI x1] H (fun r9 H1 => Lay LSta H1 a0 ∧ SK H1 a0 M ∧ ∃ y1 : Int, r9 = vI y1 ∧ AW l G mX6_bindingOf (d + 1) 0 0 Q 8 [vR a0, vI x1, vI y1, vI 0] [] 0 0 H1)) : AW l G mX6_bindingOf (d + 1) 0 0 Q 0 [vR a0, vI x1, vU, vU] [] 0 0 H := by
  refine a_aload_n dX6_bindingOf_0 rfl rfl ?_
  refine a_iload_n dX6_bindingOf_1 rfl rfl ?_
  refine a_callV dX6_bindingOf_2 cw_X6_bindingOf_2 (as := [vI x1]) rfl rfl (kSta_0 hS.1) (Nat.le_refl _) (Nat.le_of_ble_eq_true rfl) (nocov rfl) (Nat.le_of_ble_eq_true rfl) (Nat.le_of_ble_eq_true rfl) (CL.mono h (fun r9 H1 h => ?_))
  obtain ⟨h_r0_1, hSr0_0_1, y1, e9, h⟩ := h
  rw [e9]
  show AW l G mX6_bindingOf (d + 1) 0 0 Q 5 [vR a0, vI x1, vU, vU] [vI y1] 0 0 H1
  refine a_istore_n dX6_bindingOf_5 rfl (Nat.le_of_ble_eq_true rfl) (ls' := [vR a0, vI x1, vI y1, vU]) rfl ?_
  refine a_iconst dX6_bindingOf_6 ⟨by decide, by decide⟩ ?_
  refine a_istore_n dX6_bindingOf_7 rfl (Nat.le_of_ble_eq_true rfl) (ls' := [vR a0, vI x1, vI y1, vI 0]) rfl ?_
  exact h

set_option maxRecDepth 20000 in
theorem s_X6_bindingOf_8 {l : Launch} {G : GT} {d : Nat} {Q : AV → AH → Prop} {H : AH} {a0 x1 x2 x3 : Int} {M : Row} (hS : SK H a0 M) (h : ((M 6) ≤ x3 → Q (vI (-1)) H) ∧ (x3 < (M 6) → (x3 = x1 → (-2147483648 ≤ x3 + 1 ∧ x3 + 1 ≤ 2147483647) ∧ AW l G mX6_bindingOf (d + 1) 0 0 Q 8 [vR a0, vI x1, vI x2, vI (x3 + 1)] [] 0 0 H) ∧ (¬ x3 = x1 → (0 ≤ x3 ∧ x3 < M 6) ∧ (0 ≤ x1 ∧ x1 < M 6) ∧ (¬ (ofM M x3 6) = (ofM M x1 6) → (-2147483648 ≤ x3 + 1 ∧ x3 + 1 ≤ 2147483647) ∧ AW l G mX6_bindingOf (d + 1) 0 0 Q 8 [vR a0, vI x1, vI x2, vI (x3 + 1)] [] 0 0 H) ∧ ((ofM M x3 6) = (ofM M x1 6) → (0 ≤ x3 ∧ x3 < 24) ∧ (fl M x3) ∧ (fl M x1) ∧ (-2147483648 ≤ (hg H (a0 + 16) x3) + (apartM M x3 x1) ∧ (hg H (a0 + 16) x3) + (apartM M x3 x1) ≤ 2147483647) ∧ (0 ≤ x1 ∧ x1 < 24) ∧ (¬ ((hg H (a0 + 16) x3) + (apartM M x3 x1)) = (hg H (a0 + 16) x1) → (-2147483648 ≤ x3 + 1 ∧ x3 + 1 ≤ 2147483647) ∧ AW l G mX6_bindingOf (d + 1) 0 0 Q 8 [vR a0, vI x1, vI x2, vI (x3 + 1)] [] 0 0 H) ∧ (((hg H (a0 + 16) x3) + (apartM M x3 x1)) = (hg H (a0 + 16) x1) → (ofM M x3 7 = 1 ∨ ofM M x3 7 = 2 → Q (vI x3) H) ∧ (¬ (ofM M x3 7 = 1 ∨ ofM M x3 7 = 2) → (¬ (ofM M x3 7) = 0 → (-2147483648 ≤ x3 + 1 ∧ x3 + 1 ≤ 2147483647) ∧ AW l G mX6_bindingOf (d + 1) 0 0 Q 8 [vR a0, vI x1, vI x2, vI (x3 + 1)] [] 0 0 H) ∧ ((ofM M x3 7) = 0 → CL l G mX6_placeIn d 0 0 [vR a0, vI x3] H (fun r9 H1 => Lay LSta H1 a0 ∧ SK H1 a0 M ∧ ∃ y1 : Int, r9 = vI y1 ∧ (x2 ≤ y1 → (-2147483648 ≤ x3 + 1 ∧ x3 + 1 ≤ 2147483647) ∧ AW l G mX6_bindingOf (d + 1) 0 0 Q 8 [vR a0, vI x1, vI x2, vI (x3 + 1)] [] 0 0 H1) ∧ (y1 < x2 → Q (vI x3) H1))))))))) : AW l G mX6_bindingOf (d + 1) 0 0 Q 8 [vR a0, vI x1, vI x2, vI x3] [] 0 0 H := by
  refine a_iload_n dX6_bindingOf_8 rfl rfl ?_
  refine a_aload_n dX6_bindingOf_9 rfl rfl ?_
  refine a_getR dX6_bindingOf_10 fw_RX6_21 rfl rfl (kSta_0 hS.1) (rSta_0_1 hS.1) ?_
  refine a_getIV dX6_bindingOf_13 fw_RX6_57 rfl rfl (kSta_5 hS.1) (sk_5_0 hS) ?_
  refine a_icmp_ge dX6_bindingOf_16 (tgt := 95) rfl (fun c16 => ?_) (fun c16 => ?_)
  · replace h := h.1 c16
    refine a_iconst dX6_bindingOf_95 ⟨by decide, by decide⟩ ?_
    exact a_iret dX6_bindingOf_96 rfl (Nat.le_of_ble_eq_true rfl) (Nat.le_of_ble_eq_true rfl) h
  · replace h := h.2 c16
    refine a_iload_n dX6_bindingOf_19 rfl rfl ?_
    refine a_iload_n dX6_bindingOf_20 rfl rfl ?_
    refine a_icmp_eq dX6_bindingOf_21 (tgt := 89) rfl (fun c21 => ?_) (fun c21 => ?_)
    · replace h := h.1 c21
      obtain ⟨q89_0, h⟩ := h
      refine a_iinc dX6_bindingOf_89 rfl (Nat.le_of_ble_eq_true rfl) (by decide) q89_0 (ls' := [vR a0, vI x1, vI x2, vI (x3 + 1)]) rfl ?_
      refine a_goto dX6_bindingOf_92 (tgt := 8) rfl ?_
      exact h
    · replace h := h.2 c21
      refine a_aload_n dX6_bindingOf_24 rfl rfl ?_
      refine a_getR dX6_bindingOf_25 fw_RX6_25 rfl rfl (kSta_0 hS.1) (rSta_0_3 hS.1) ?_
      refine a_iload_n dX6_bindingOf_28 rfl rfl ?_
      obtain ⟨q29_0, h⟩ := h
      refine b_ialdV dX6_bindingOf_29 (kSta_14 hS.1) (nSta_14 hS.1) (sk_lt hS q29_0) (sk_14 hS q29_0) ?_
      refine a_aload_n dX6_bindingOf_30 rfl rfl ?_
      refine a_getR dX6_bindingOf_31 fw_RX6_25 rfl rfl (kSta_0 hS.1) (rSta_0_3 hS.1) ?_
      refine a_iload_n dX6_bindingOf_34 rfl rfl ?_
      obtain ⟨q35_0, h⟩ := h
      refine b_ialdV dX6_bindingOf_35 (kSta_14 hS.1) (nSta_14 hS.1) (sk_lt hS q35_0) (sk_14 hS q35_0) ?_
      refine a_icmp_ne dX6_bindingOf_36 (tgt := 89) rfl (fun c36 => ?_) (fun c36 => ?_)
      · replace h := h.1 c36
        obtain ⟨q89_0, h⟩ := h
        refine a_iinc dX6_bindingOf_89 rfl (Nat.le_of_ble_eq_true rfl) (by decide) q89_0 (ls' := [vR a0, vI x1, vI x2, vI (x3 + 1)]) rfl ?_
        refine a_goto dX6_bindingOf_92 (tgt := 8) rfl ?_
        exact h
      · replace h := h.2 c36
        refine a_aload_n dX6_bindingOf_39 rfl rfl ?_
        refine a_getR dX6_bindingOf_40 fw_RX6_32 rfl rfl (kSta_0 hS.1) (rSta_0_5 hS.1) ?_
        refine a_iload_n dX6_bindingOf_43 rfl rfl ?_
        obtain ⟨q44_0, h⟩ := h
        refine b_iald dX6_bindingOf_44 (kSta_16 hS.1) (nSta_16 hS.1) q44_0 ?_
        refine a_aload_n dX6_bindingOf_45 rfl rfl ?_
        refine a_iload_n dX6_bindingOf_46 rfl rfl ?_
        refine a_iload_n dX6_bindingOf_47 rfl rfl ?_
        obtain ⟨q48_0, h⟩ := h
        obtain ⟨q48_1, h⟩ := h
        refine a_callV dX6_bindingOf_48 cw_X6_bindingOf_48 (as := [vI x3, vI x1]) rfl rfl (kSta_0 hS.1) (Nat.le_refl _) (Nat.le_of_ble_eq_true rfl) (nocov rfl) (Nat.le_of_ble_eq_true rfl) (Nat.le_of_ble_eq_true rfl) (CL.mono (k_gapOf hS  q48_0 q48_1) (fun r9 H9 h9 => ?_))
        rw [h9.1, h9.2]
        show AW l G mX6_bindingOf (d + 1) 0 0 Q 51 [vR a0, vI x1, vI x2, vI x3] [vI (apartM M x3 x1), vI (hg H (a0 + 16) x3)] 0 0 H
        obtain ⟨q51_0, h⟩ := h
        refine a_iadd dX6_bindingOf_51 q51_0 ?_
        refine a_aload_n dX6_bindingOf_52 rfl rfl ?_
        refine a_getR dX6_bindingOf_53 fw_RX6_32 rfl rfl (kSta_0 hS.1) (rSta_0_5 hS.1) ?_
        refine a_iload_n dX6_bindingOf_56 rfl rfl ?_
        obtain ⟨q57_0, h⟩ := h
        refine b_iald dX6_bindingOf_57 (kSta_16 hS.1) (nSta_16 hS.1) q57_0 ?_
        refine a_icmp_ne dX6_bindingOf_58 (tgt := 89) rfl (fun c58 => ?_) (fun c58 => ?_)
        · replace h := h.1 c58
          obtain ⟨q89_0, h⟩ := h
          refine a_iinc dX6_bindingOf_89 rfl (Nat.le_of_ble_eq_true rfl) (by decide) q89_0 (ls' := [vR a0, vI x1, vI x2, vI (x3 + 1)]) rfl ?_
          refine a_goto dX6_bindingOf_92 (tgt := 8) rfl ?_
          exact h
        · replace h := h.2 c58
          refine a_aload_n dX6_bindingOf_61 rfl rfl ?_
          refine a_iload_n dX6_bindingOf_62 rfl rfl ?_
          refine a_callV dX6_bindingOf_63 cw_X6_bindingOf_63 (as := [vI x3]) rfl rfl (kSta_0 hS.1) (Nat.le_refl _) (Nat.le_of_ble_eq_true rfl) (nocov rfl) (Nat.le_of_ble_eq_true rfl) (Nat.le_of_ble_eq_true rfl) (CL.mono (k_isFixed hS  q48_0) (fun r9 H9 h9 => ?_))
          rw [h9.1, h9.2]
          show AW l G mX6_bindingOf (d + 1) 0 0 Q 66 [vR a0, vI x1, vI x2, vI x3] [vI (bi (decide (ofM M x3 7 = 1 ∨ ofM M x3 7 = 2)))] 0 0 H
          refine a_if_ne dX6_bindingOf_66 (tgt := 87) rfl (fun c66 => ?_) (fun c66 => ?_)
          · replace h := h.1 (bi_1 c66)
            refine a_iload_n dX6_bindingOf_87 rfl rfl ?_
            exact a_iret dX6_bindingOf_88 rfl (Nat.le_of_ble_eq_true rfl) (Nat.le_of_ble_eq_true rfl) h
          · replace h := h.2 (bi_0 c66)
            refine a_aload_n dX6_bindingOf_69 rfl rfl ?_
            refine a_getR dX6_bindingOf_70 fw_RX6_29 rfl rfl (kSta_0 hS.1) (rSta_0_4 hS.1) ?_
            refine a_iload_n dX6_bindingOf_73 rfl rfl ?_
            refine b_ialdV dX6_bindingOf_74 (kSta_15 hS.1) (nSta_15 hS.1) (sk_lt hS q29_0) (sk_15 hS q29_0) ?_
            refine a_if_ne dX6_bindingOf_75 (tgt := 89) rfl (fun c75 => ?_) (fun c75 => ?_)
            · replace h := h.1 c75
              obtain ⟨q89_0, h⟩ := h
              refine a_iinc dX6_bindingOf_89 rfl (Nat.le_of_ble_eq_true rfl) (by decide) q89_0 (ls' := [vR a0, vI x1, vI x2, vI (x3 + 1)]) rfl ?_
              refine a_goto dX6_bindingOf_92 (tgt := 8) rfl ?_
              exact h
            · replace h := h.2 c75
              refine a_aload_n dX6_bindingOf_78 rfl rfl ?_
              refine a_iload_n dX6_bindingOf_79 rfl rfl ?_
              refine a_callV dX6_bindingOf_80 cw_X6_bindingOf_80 (as := [vI x3]) rfl rfl (kSta_0 hS.1) (Nat.le_refl _) (Nat.le_of_ble_eq_true rfl) (nocov rfl) (Nat.le_of_ble_eq_true rfl) (Nat.le_of_ble_eq_true rfl) (CL.mono h (fun r9 H1 h => ?_))
              obtain ⟨h_r0_1, hSr0_0_1, y1, e9, h⟩ := h
              rw [e9]
              show AW l G mX6_bindingOf (d + 1) 0 0 Q 83 [vR a0, vI x1, vI x2, vI x3] [vI y1] 0 0 H1
              refine a_iload_n dX6_bindingOf_83 rfl rfl ?_
              refine a_icmp_ge dX6_bindingOf_84 (tgt := 89) rfl (fun c84 => ?_) (fun c84 => ?_)
              · replace h := h.1 c84
                obtain ⟨q89_0, h⟩ := h
                refine a_iinc dX6_bindingOf_89 rfl (Nat.le_of_ble_eq_true rfl) (by decide) q89_0 (ls' := [vR a0, vI x1, vI x2, vI (x3 + 1)]) rfl ?_
                refine a_goto dX6_bindingOf_92 (tgt := 8) rfl ?_
                exact h
              · replace h := h.2 c84
                refine a_iload_n dX6_bindingOf_87 rfl rfl ?_
                exact a_iret dX6_bindingOf_88 rfl (Nat.le_of_ble_eq_true rfl) (Nat.le_of_ble_eq_true rfl) h

theorem k_bindingOf {l : Launch} {G : GT} {d : Nat} {H : AH} {b : Int} {M : Row} {f : Int} (hS : SK H b M) (hT : ST H b M) (hf : fl M f) (hp : ofM M f 7 = 0) (hF : Frs H b M (ofM M f 6)) (hd : 1 ≤ d := by omega) : CL l G mX6_bindingOf d 0 0 [vR b, vI f] H (PQ (vI (vBind M f)) H) := by
  obtain ⟨d, rfl⟩ : ∃ k, d = k + 1 := ⟨d - 1, by omega⟩
  have hM := hS.2.1
  have hn := okM_n hM
  have e0 : vBind M f = fndP (bndP M f) (M 6).toNat := by rw [vBind, if_pos hf, if_pos hp]
  rw [e0]
  refine CL.of (by decide) rfl (Nat.le_of_ble_eq_true rfl) (s_X6_bindingOf_0 hS (CL.mono (k_placeIn hS hf hp hF) ?_))
  rintro r9 H1 ⟨rfl, rfl⟩
  refine ⟨hS.1, hS, _, rfl, ?_⟩
  have tf : tmNow M f = planT M f := by rw [tmNow, if_pos hp]
  have key : ∀ j, j ≤ (M 6).toNat → (∀ k, k < j → ¬ bndP M f k) → AW l G mX6_bindingOf (d + 1) 0 0 (PQ (vI (fndP (bndP M f) (M 6).toNat)) H1) 8 [vR b, vI f, vI (ixOf (planL M (ofM M f 6)) f), vI j] [] 0 0 H1 := by
    refine upN _ ?_ ?_
    · intro j hj ih hno
      have hjf : fl M j := ⟨by omega, by omega⟩
      have nx : ¬ bndP M f j → AW l G mX6_bindingOf (d + 1) 0 0 (PQ (vI (fndP (bndP M f) (M 6).toNat)) H1) 8 [vR b, vI f, vI (ixOf (planL M (ofM M f 6)) f), vI (j + 1)] [] 0 0 H1 := fun z => ih (fun k hk q => by
        by_cases hkj : k = j
        · subst hkj; exact z q
        · exact hno k (by omega) q)
      have hit : bndP M f j → PQ (vI (fndP (bndP M f) (M 6).toNat)) H1 (vI j) H1 := fun z => ⟨by rw [fndP_hit hno z (by omega)], rfl⟩
      have ha := hM.apart hjf hf
      have t2 := planT_in hM hf hp
      obtain ⟨-, -, -, -, -, -, -, h7, h8, -⟩ := hM.2 j hjf.1 hjf.2
      refine s_X6_bindingOf_8 hS ⟨fun c => absurd c (by omega), fun c => ⟨fun c2 => ⟨by omega, nx (fun z => z.1.1 c2)⟩, fun c2 => ⟨hjf, hf, fun c3 => ⟨by omega, nx (fun z => c3 z.1.2.2.1)⟩, fun c3 => ?_⟩⟩⟩
      have hFj : Frs H1 b M (ofM M j 6) := by rw [c3]; exact hF
      rw [hF.time hM hf hp]
      by_cases s3 : ofM M j 7 = 3
      · -- a cancelled flight: its kept time may be anything
        have tb := hT.1 j hjf.1 (by omega)
        exact ⟨by omega, hjf, hf, by omega, by omega, fun c4 => ⟨by omega, nx (fun z => z.1.2.1 s3)⟩, fun c4 => ⟨fun c5 => absurd c5 (by omega), fun c5 => ⟨fun c6 => ⟨by omega, nx (fun z => z.1.2.1 s3)⟩, fun c6 => absurd c6 (by omega)⟩⟩⟩
      · have tj := tmNow_in hM hjf s3
        rw [frs_now hM hT hFj hjf s3]
        refine ⟨by omega, hjf, hf, by omega, by omega, fun c4 => ⟨by omega, nx (fun z => c4 (by rw [← tf]; exact z.2))⟩, fun c4 => ⟨fun c5 => hit ⟨⟨c2, s3, c3, Or.inl (by omega)⟩, by rw [tf]; exact c4⟩, fun c5 => ⟨fun c6 => ⟨by omega, nx (fun z => by omega)⟩, fun c6 => CL.mono (k_placeIn hS hjf c6 hFj) ?_⟩⟩⟩
        rintro r9 H2 ⟨rfl, rfl⟩
        refine ⟨hS.1, hS, _, rfl, fun c7 => ⟨by omega, nx (fun z => ?_)⟩, fun c7 => hit ⟨⟨c2, s3, c3, Or.inr c7⟩, by rw [tf]; exact c4⟩⟩
        rcases z.1.2.2.2 with q | q
        · exact q c6
        · omega
    · intro hno
      exact s_X6_bindingOf_8 hS ⟨fun c => ⟨by rw [fndP_none hno], rfl⟩, fun c => absurd c (by omega)⟩
  exact key 0 (Nat.zero_le _) (fun k hk => by omega)

theorem dX6_heldPastNeighbor_0 : decode cX6_heldPastNeighbor 0 = .ok (.iconst 0, 1) := by decide +kernel
theorem dX6_heldPastNeighbor_1 : decode cX6_heldPastNeighbor 1 = .ok (.istore_n 2, 1) := by decide +kernel
theorem dX6_heldPastNeighbor_2 : decode cX6_heldPastNeighbor 2 = .ok (.iconst 1, 1) := by decide +kernel
theorem dX6_heldPastNeighbor_3 : decode cX6_heldPastNeighbor 3 = .ok (.istore_n 3, 1) := by decide +kernel
theorem dX6_heldPastNeighbor_4 : decode cX6_heldPastNeighbor 4 = .ok (.iload_n 3, 1) := by decide +kernel
theorem dX6_heldPastNeighbor_5 : decode cX6_heldPastNeighbor 5 = .ok (.aload_n 0, 1) := by decide +kernel
theorem dX6_heldPastNeighbor_6 : decode cX6_heldPastNeighbor 6 = .ok (.getfield 44, 3) := by decide +kernel
theorem dX6_heldPastNeighbor_9 : decode cX6_heldPastNeighbor 9 = .ok (.iload_n 1, 1) := by decide +kernel
theorem dX6_heldPastNeighbor_10 : decode cX6_heldPastNeighbor 10 = .ok (.iaload, 1) := by decide +kernel
theorem dX6_heldPastNeighbor_11 : decode cX6_heldPastNeighbor 11 = .ok (.if_icmp .ge 114, 3) := by decide +kernel
theorem dX6_heldPastNeighbor_14 : decode cX6_heldPastNeighbor 14 = .ok (.aload_n 0, 1) := by decide +kernel
theorem dX6_heldPastNeighbor_15 : decode cX6_heldPastNeighbor 15 = .ok (.getfield 41, 3) := by decide +kernel
theorem dX6_heldPastNeighbor_18 : decode cX6_heldPastNeighbor 18 = .ok (.iload_n 1, 1) := by decide +kernel
theorem dX6_heldPastNeighbor_19 : decode cX6_heldPastNeighbor 19 = .ok (.bipush 24, 2) := by decide +kernel
theorem dX6_heldPastNeighbor_21 : decode cX6_heldPastNeighbor 21 = .ok (.imul, 1) := by decide +kernel
theorem dX6_heldPastNeighbor_22 : decode cX6_heldPastNeighbor 22 = .ok (.iload_n 3, 1) := by decide +kernel
theorem dX6_heldPastNeighbor_23 : decode cX6_heldPastNeighbor 23 = .ok (.iadd, 1) := by decide +kernel
theorem dX6_heldPastNeighbor_24 : decode cX6_heldPastNeighbor 24 = .ok (.iaload, 1) := by decide +kernel
theorem dX6_heldPastNeighbor_25 : decode cX6_heldPastNeighbor 25 = .ok (.istore 4, 2) := by decide +kernel
theorem dX6_heldPastNeighbor_27 : decode cX6_heldPastNeighbor 27 = .ok (.aload_n 0, 1) := by decide +kernel
theorem dX6_heldPastNeighbor_28 : decode cX6_heldPastNeighbor 28 = .ok (.getfield 41, 3) := by decide +kernel
theorem dX6_heldPastNeighbor_31 : decode cX6_heldPastNeighbor 31 = .ok (.iload_n 1, 1) := by decide +kernel
theorem dX6_heldPastNeighbor_32 : decode cX6_heldPastNeighbor 32 = .ok (.bipush 24, 2) := by decide +kernel
theorem dX6_heldPastNeighbor_34 : decode cX6_heldPastNeighbor 34 = .ok (.imul, 1) := by decide +kernel
theorem dX6_heldPastNeighbor_35 : decode cX6_heldPastNeighbor 35 = .ok (.iload_n 3, 1) := by decide +kernel
theorem dX6_heldPastNeighbor_36 : decode cX6_heldPastNeighbor 36 = .ok (.iadd, 1) := by decide +kernel
theorem dX6_heldPastNeighbor_37 : decode cX6_heldPastNeighbor 37 = .ok (.iconst 1, 1) := by decide +kernel
theorem dX6_heldPastNeighbor_38 : decode cX6_heldPastNeighbor 38 = .ok (.isub, 1) := by decide +kernel
theorem dX6_heldPastNeighbor_39 : decode cX6_heldPastNeighbor 39 = .ok (.iaload, 1) := by decide +kernel
theorem dX6_heldPastNeighbor_40 : decode cX6_heldPastNeighbor 40 = .ok (.istore 5, 2) := by decide +kernel
theorem dX6_heldPastNeighbor_42 : decode cX6_heldPastNeighbor 42 = .ok (.aload_n 0, 1) := by decide +kernel
theorem dX6_heldPastNeighbor_43 : decode cX6_heldPastNeighbor 43 = .ok (.getfield 21, 3) := by decide +kernel
theorem dX6_heldPastNeighbor_46 : decode cX6_heldPastNeighbor 46 = .ok (.getfield 127, 3) := by decide +kernel
theorem dX6_heldPastNeighbor_49 : decode cX6_heldPastNeighbor 49 = .ok (.iload 4, 2) := by decide +kernel
theorem dX6_heldPastNeighbor_51 : decode cX6_heldPastNeighbor 51 = .ok (.iaload, 1) := by decide +kernel
theorem dX6_heldPastNeighbor_52 : decode cX6_heldPastNeighbor 52 = .ok (.aload_n 0, 1) := by decide +kernel
theorem dX6_heldPastNeighbor_53 : decode cX6_heldPastNeighbor 53 = .ok (.getfield 61, 3) := by decide +kernel
theorem dX6_heldPastNeighbor_56 : decode cX6_heldPastNeighbor 56 = .ok (.if_icmp .le 16, 3) := by decide +kernel
theorem dX6_heldPastNeighbor_59 : decode cX6_heldPastNeighbor 59 = .ok (.aload_n 0, 1) := by decide +kernel
theorem dX6_heldPastNeighbor_60 : decode cX6_heldPastNeighbor 60 = .ok (.getfield 21, 3) := by decide +kernel
theorem dX6_heldPastNeighbor_63 : decode cX6_heldPastNeighbor 63 = .ok (.getfield 127, 3) := by decide +kernel
theorem dX6_heldPastNeighbor_66 : decode cX6_heldPastNeighbor 66 = .ok (.iload 4, 2) := by decide +kernel
theorem dX6_heldPastNeighbor_68 : decode cX6_heldPastNeighbor 68 = .ok (.iaload, 1) := by decide +kernel
theorem dX6_heldPastNeighbor_69 : decode cX6_heldPastNeighbor 69 = .ok (.goto 7, 3) := by decide +kernel
theorem dX6_heldPastNeighbor_72 : decode cX6_heldPastNeighbor 72 = .ok (.aload_n 0, 1) := by decide +kernel
theorem dX6_heldPastNeighbor_73 : decode cX6_heldPastNeighbor 73 = .ok (.getfield 61, 3) := by decide +kernel
theorem dX6_heldPastNeighbor_76 : decode cX6_heldPastNeighbor 76 = .ok (.istore 6, 2) := by decide +kernel
theorem dX6_heldPastNeighbor_78 : decode cX6_heldPastNeighbor 78 = .ok (.aload_n 0, 1) := by decide +kernel
theorem dX6_heldPastNeighbor_79 : decode cX6_heldPastNeighbor 79 = .ok (.getfield 32, 3) := by decide +kernel
theorem dX6_heldPastNeighbor_82 : decode cX6_heldPastNeighbor 82 = .ok (.iload 4, 2) := by decide +kernel
theorem dX6_heldPastNeighbor_84 : decode cX6_heldPastNeighbor 84 = .ok (.iaload, 1) := by decide +kernel
theorem dX6_heldPastNeighbor_85 : decode cX6_heldPastNeighbor 85 = .ok (.iload 6, 2) := by decide +kernel
theorem dX6_heldPastNeighbor_87 : decode cX6_heldPastNeighbor 87 = .ok (.if_icmp .le 32, 3) := by decide +kernel
theorem dX6_heldPastNeighbor_90 : decode cX6_heldPastNeighbor 90 = .ok (.aload_n 0, 1) := by decide +kernel
theorem dX6_heldPastNeighbor_91 : decode cX6_heldPastNeighbor 91 = .ok (.getfield 32, 3) := by decide +kernel
theorem dX6_heldPastNeighbor_94 : decode cX6_heldPastNeighbor 94 = .ok (.iload 4, 2) := by decide +kernel
theorem dX6_heldPastNeighbor_96 : decode cX6_heldPastNeighbor 96 = .ok (.iaload, 1) := by decide +kernel
theorem dX6_heldPastNeighbor_97 : decode cX6_heldPastNeighbor 97 = .ok (.aload_n 0, 1) := by decide +kernel
theorem dX6_heldPastNeighbor_98 : decode cX6_heldPastNeighbor 98 = .ok (.getfield 32, 3) := by decide +kernel
theorem dX6_heldPastNeighbor_101 : decode cX6_heldPastNeighbor 101 = .ok (.iload 5, 2) := by decide +kernel
theorem dX6_heldPastNeighbor_103 : decode cX6_heldPastNeighbor 103 = .ok (.iaload, 1) := by decide +kernel
theorem dX6_heldPastNeighbor_104 : decode cX6_heldPastNeighbor 104 = .ok (.aload_n 0, 1) := by decide +kernel
theorem dX6_heldPastNeighbor_105 : decode cX6_heldPastNeighbor 105 = .ok (.iload 5, 2) := by decide +kernel
theorem dX6_heldPastNeighbor_107 : decode cX6_heldPastNeighbor 107 = .ok (.iload 4, 2) := by decide +kernel
theorem dX6_heldPastNeighbor_109 : decode cX6_heldPastNeighbor 109 = .ok (.invokevirtual 136, 3) := by decide +kernel
theorem dX6_heldPastNeighbor_112 : decode cX6_heldPastNeighbor 112 = .ok (.iadd, 1) := by decide +kernel
theorem dX6_heldPastNeighbor_113 : decode cX6_heldPastNeighbor 113 = .ok (.if_icmp .le 6, 3) := by decide +kernel
theorem dX6_heldPastNeighbor_116 : decode cX6_heldPastNeighbor 116 = .ok (.iinc 2 1, 3) := by decide +kernel
theorem dX6_heldPastNeighbor_119 : decode cX6_heldPastNeighbor 119 = .ok (.iinc 3 1, 3) := by decide +kernel
theorem dX6_heldPastNeighbor_122 : decode cX6_heldPastNeighbor 122 = .ok (.goto (-118), 3) := by decide +kernel
theorem dX6_heldPastNeighbor_125 : decode cX6_heldPastNeighbor 125 = .ok (.iload_n 2, 1) := by decide +kernel
theorem dX6_heldPastNeighbor_126 : decode cX6_heldPastNeighbor 126 = .ok (.ireturn, 1) := by decide +kernel
set_option maxRecDepth 20000 in
theorem s_X6_heldPastNeighbor_0 {l : Launch} {G : GT} {d : Nat} {Q : AV → AH → Prop} {H : AH} {a0 x1 : Int} {M : Row} (hS : SK H a0 M) (h : AW l G mX6_heldPastNeighbor (d + 1) 0 0 Q 4 [vR a0, vI x1, vI 0, vI 1, vU, vU, vU] [] 0 0 H) : AW l G mX6_heldPastNeighbor (d + 1) 0 0 Q 0 [vR a0, vI x1, vU, vU, vU, vU, vU] [] 0 0 H := by
  refine a_iconst dX6_heldPastNeighbor_0 ⟨by decide, by decide⟩ ?_
  refine a_istore_n dX6_heldPastNeighbor_1 rfl (Nat.le_of_ble_eq_true rfl) (ls' := [vR a0, vI x1, vI 0, vU, vU, vU, vU]) rfl ?_
  refine a_iconst dX6_heldPastNeighbor_2 ⟨by decide, by decide⟩ ?_
  refine a_istore_n dX6_heldPastNeighbor_3 rfl (Nat.le_of_ble_eq_true rfl) (ls' := [vR a0, vI x1, vI 0, vI 1, vU, vU, vU]) rfl ?_
  exact h

set_option maxRecDepth 20000 in
theorem s_X6_heldPastNeighbor_4 {l : Launch} {G : GT} {d : Nat} {Q : AV → AH → Prop} {H : AH} {a0 x1 x2 x3 : Int} {M : Row} (hS : SK H a0 M) (h : (0 ≤ x1 ∧ x1 < 3) ∧ ((hg H (a0 + 20) x1) ≤ x3 → Q (vI x2) H) ∧ (x3 < (hg H (a0 + 20) x1) → (-2147483648 ≤ x1 * 24 ∧ x1 * 24 ≤ 2147483647) ∧ (-2147483648 ≤ (x1 * 24) + x3 ∧ (x1 * 24) + x3 ≤ 2147483647) ∧ (0 ≤ ((x1 * 24) + x3) ∧ ((x1 * 24) + x3) < 72) ∧ (-2147483648 ≤ ((x1 * 24) + x3) - 1 ∧ ((x1 * 24) + x3) - 1 ≤ 2147483647) ∧ (0 ≤ (((x1 * 24) + x3) - 1) ∧ (((x1 * 24) + x3) - 1) < 72) ∧ (0 ≤ (hg H (a0 + 19) ((x1 * 24) + x3)) ∧ (hg H (a0 + 19) ((x1 * 24) + x3)) < M 6) ∧ ((ofM M (hg H (a0 + 19) ((x1 * 24) + x3)) 2) ≤ (M 0) → (0 ≤ (hg H (a0 + 19) ((x1 * 24) + x3)) ∧ (hg H (a0 + 19) ((x1 * 24) + x3)) < 24) ∧ ((hg H (a0 + 16) (hg H (a0 + 19) ((x1 * 24) + x3))) ≤ (M 0) → (-2147483648 ≤ x3 + 1 ∧ x3 + 1 ≤ 2147483647) ∧ AW l G mX6_heldPastNeighbor (d + 1) 0 0 Q 4 [vR a0, vI x1, vI x2, vI (x3 + 1), vU, vU, vU] [] 0 0 H) ∧ ((M 0) < (hg H (a0 + 16) (hg H (a0 + 19) ((x1 * 24) + x3))) → (0 ≤ (hg H (a0 + 19) (((x1 * 24) + x3) - 1)) ∧ (hg H (a0 + 19) (((x1 * 24) + x3) - 1)) < 24) ∧ (fl M (hg H (a0 + 19) (((x1 * 24) + x3) - 1))) ∧ (fl M (hg H (a0 + 19) ((x1 * 24) + x3))) ∧ (-2147483648 ≤ (hg H (a0 + 16) (hg H (a0 + 19) (((x1 * 24) + x3) - 1))) + (apartM M (hg H (a0 + 19) (((x1 * 24) + x3) - 1)) (hg H (a0 + 19) ((x1 * 24) + x3))) ∧ (hg H (a0 + 16) (hg H (a0 + 19) (((x1 * 24) + x3) - 1))) + (apartM M (hg H (a0 + 19) (((x1 * 24) + x3) - 1)) (hg H (a0 + 19) ((x1 * 24) + x3))) ≤ 2147483647) ∧ ((hg H (a0 + 16) (hg H (a0 + 19) ((x1 * 24) + x3))) ≤ ((hg H (a0 + 16) (hg H (a0 + 19) (((x1 * 24) + x3) - 1))) + (apartM M (hg H (a0 + 19) (((x1 * 24) + x3) - 1)) (hg H (a0 + 19) ((x1 * 24) + x3)))) → (-2147483648 ≤ x3 + 1 ∧ x3 + 1 ≤ 2147483647) ∧ AW l G mX6_heldPastNeighbor (d + 1) 0 0 Q 4 [vR a0, vI x1, vI x2, vI (x3 + 1), vU, vU, vU] [] 0 0 H) ∧ (((hg H (a0 + 16) (hg H (a0 + 19) (((x1 * 24) + x3) - 1))) + (apartM M (hg H (a0 + 19) (((x1 * 24) + x3) - 1)) (hg H (a0 + 19) ((x1 * 24) + x3)))) < (hg H (a0 + 16) (hg H (a0 + 19) ((x1 * 24) + x3))) → (-2147483648 ≤ x2 + 1 ∧ x2 + 1 ≤ 2147483647) ∧ (-2147483648 ≤ x3 + 1 ∧ x3 + 1 ≤ 2147483647) ∧ AW l G mX6_heldPastNeighbor (d + 1) 0 0 Q 4 [vR a0, vI x1, vI (x2 + 1), vI (x3 + 1), vU, vU, vU] [] 0 0 H))) ∧ ((M 0) < (ofM M (hg H (a0 + 19) ((x1 * 24) + x3)) 2) → (0 ≤ (hg H (a0 + 19) ((x1 * 24) + x3)) ∧ (hg H (a0 + 19) ((x1 * 24) + x3)) < 24) ∧ ((hg H (a0 + 16) (hg H (a0 + 19) ((x1 * 24) + x3))) ≤ (ofM M (hg H (a0 + 19) ((x1 * 24) + x3)) 2) → (-2147483648 ≤ x3 + 1 ∧ x3 + 1 ≤ 2147483647) ∧ AW l G mX6_heldPastNeighbor (d + 1) 0 0 Q 4 [vR a0, vI x1, vI x2, vI (x3 + 1), vU, vU, vU] [] 0 0 H) ∧ ((ofM M (hg H (a0 + 19) ((x1 * 24) + x3)) 2) < (hg H (a0 + 16) (hg H (a0 + 19) ((x1 * 24) + x3))) → (0 ≤ (hg H (a0 + 19) (((x1 * 24) + x3) - 1)) ∧ (hg H (a0 + 19) (((x1 * 24) + x3) - 1)) < 24) ∧ (fl M (hg H (a0 + 19) (((x1 * 24) + x3) - 1))) ∧ (fl M (hg H (a0 + 19) ((x1 * 24) + x3))) ∧ (-2147483648 ≤ (hg H (a0 + 16) (hg H (a0 + 19) (((x1 * 24) + x3) - 1))) + (apartM M (hg H (a0 + 19) (((x1 * 24) + x3) - 1)) (hg H (a0 + 19) ((x1 * 24) + x3))) ∧ (hg H (a0 + 16) (hg H (a0 + 19) (((x1 * 24) + x3) - 1))) + (apartM M (hg H (a0 + 19) (((x1 * 24) + x3) - 1)) (hg H (a0 + 19) ((x1 * 24) + x3))) ≤ 2147483647) ∧ ((hg H (a0 + 16) (hg H (a0 + 19) ((x1 * 24) + x3))) ≤ ((hg H (a0 + 16) (hg H (a0 + 19) (((x1 * 24) + x3) - 1))) + (apartM M (hg H (a0 + 19) (((x1 * 24) + x3) - 1)) (hg H (a0 + 19) ((x1 * 24) + x3)))) → (-2147483648 ≤ x3 + 1 ∧ x3 + 1 ≤ 2147483647) ∧ AW l G mX6_heldPastNeighbor (d + 1) 0 0 Q 4 [vR a0, vI x1, vI x2, vI (x3 + 1), vU, vU, vU] [] 0 0 H) ∧ (((hg H (a0 + 16) (hg H (a0 + 19) (((x1 * 24) + x3) - 1))) + (apartM M (hg H (a0 + 19) (((x1 * 24) + x3) - 1)) (hg H (a0 + 19) ((x1 * 24) + x3)))) < (hg H (a0 + 16) (hg H (a0 + 19) ((x1 * 24) + x3))) → (-2147483648 ≤ x2 + 1 ∧ x2 + 1 ≤ 2147483647) ∧ (-2147483648 ≤ x3 + 1 ∧ x3 + 1 ≤ 2147483647) ∧ AW l G mX6_heldPastNeighbor (d + 1) 0 0 Q 4 [vR a0, vI x1, vI (x2 + 1), vI (x3 + 1), vU, vU, vU] [] 0 0 H))))) : AW l G mX6_heldPastNeighbor (d + 1) 0 0 Q 4 [vR a0, vI x1, vI x2, vI x3, vU, vU, vU] [] 0 0 H := by
  refine a_iload_n dX6_heldPastNeighbor_4 rfl rfl ?_
  refine a_aload_n dX6_heldPastNeighbor_5 rfl rfl ?_
  refine a_getR dX6_heldPastNeighbor_6 fw_RX6_44 rfl rfl (kSta_0 hS.1) (rSta_0_10 hS.1) ?_
  refine a_iload_n dX6_heldPastNeighbor_9 rfl rfl ?_
  obtain ⟨q10_0, h⟩ := h
  refine b_iald dX6_heldPastNeighbor_10 (kSta_20 hS.1) (nSta_20 hS.1) q10_0 ?_
  refine a_icmp_ge dX6_heldPastNeighbor_11 (tgt := 125) rfl (fun c11 => ?_) (fun c11 => ?_)
  · replace h := h.1 c11
    refine a_iload_n dX6_heldPastNeighbor_125 rfl rfl ?_
    exact a_iret dX6_heldPastNeighbor_126 rfl (Nat.le_of_ble_eq_true rfl) (Nat.le_of_ble_eq_true rfl) h
  · replace h := h.2 c11
    refine a_aload_n dX6_heldPastNeighbor_14 rfl rfl ?_
    refine a_getR dX6_heldPastNeighbor_15 fw_RX6_41 rfl rfl (kSta_0 hS.1) (rSta_0_9 hS.1) ?_
    refine a_iload_n dX6_heldPastNeighbor_18 rfl rfl ?_
    refine a_bipush dX6_heldPastNeighbor_19 (by decide) ?_
    obtain ⟨q21_0, h⟩ := h
    refine a_imul dX6_heldPastNeighbor_21 q21_0 ?_
    refine a_iload_n dX6_heldPastNeighbor_22 rfl rfl ?_
    obtain ⟨q23_0, h⟩ := h
    refine a_iadd dX6_heldPastNeighbor_23 q23_0 ?_
    obtain ⟨q24_0, h⟩ := h
    refine b_iald dX6_heldPastNeighbor_24 (kSta_19 hS.1) (nSta_19 hS.1) q24_0 ?_
    refine a_istore dX6_heldPastNeighbor_25 (Nat.le_of_ble_eq_true rfl) (ls' := [vR a0, vI x1, vI x2, vI x3, vI (hg H (a0 + 19) ((x1 * 24) + x3)), vU, vU]) rfl ?_
    refine a_aload_n dX6_heldPastNeighbor_27 rfl rfl ?_
    refine a_getR dX6_heldPastNeighbor_28 fw_RX6_41 rfl rfl (kSta_0 hS.1) (rSta_0_9 hS.1) ?_
    refine a_iload_n dX6_heldPastNeighbor_31 rfl rfl ?_
    refine a_bipush dX6_heldPastNeighbor_32 (by decide) ?_
    refine a_imul dX6_heldPastNeighbor_34 q21_0 ?_
    refine a_iload_n dX6_heldPastNeighbor_35 rfl rfl ?_
    refine a_iadd dX6_heldPastNeighbor_36 q23_0 ?_
    refine a_iconst dX6_heldPastNeighbor_37 ⟨by decide, by decide⟩ ?_
    obtain ⟨q38_0, h⟩ := h
    refine a_isub dX6_heldPastNeighbor_38 q38_0 ?_
    obtain ⟨q39_0, h⟩ := h
    refine b_iald dX6_heldPastNeighbor_39 (kSta_19 hS.1) (nSta_19 hS.1) q39_0 ?_
    refine a_istore dX6_heldPastNeighbor_40 (Nat.le_of_ble_eq_true rfl) (ls' := [vR a0, vI x1, vI x2, vI x3, vI (hg H (a0 + 19) ((x1 * 24) + x3)), vI (hg H (a0 + 19) (((x1 * 24) + x3) - 1)), vU]) rfl ?_
    refine a_aload_n dX6_heldPastNeighbor_42 rfl rfl ?_
    refine a_getR dX6_heldPastNeighbor_43 fw_RX6_21 rfl rfl (kSta_0 hS.1) (rSta_0_1 hS.1) ?_
    refine a_getR dX6_heldPastNeighbor_46 fw_RX6_127 rfl rfl (kSta_5 hS.1) (rSta_5_5 hS.1) ?_
    refine a_iload dX6_heldPastNeighbor_49 rfl ?_
    obtain ⟨q51_0, h⟩ := h
    refine b_ialdV dX6_heldPastNeighbor_51 (kSta_10 hS.1) (nSta_10 hS.1) (sk_lt hS q51_0) (sk_10 hS q51_0) ?_
    refine a_aload_n dX6_heldPastNeighbor_52 rfl rfl ?_
    refine a_getIV dX6_heldPastNeighbor_53 fw_RX6_61 rfl rfl (kSta_0 hS.1) (sk_0_2 hS) ?_
    refine a_icmp_le dX6_heldPastNeighbor_56 (tgt := 72) rfl (fun c56 => ?_) (fun c56 => ?_)
    · replace h := h.1 c56
      refine a_aload_n dX6_heldPastNeighbor_72 rfl rfl ?_
      refine a_getIV dX6_heldPastNeighbor_73 fw_RX6_61 rfl rfl (kSta_0 hS.1) (sk_0_2 hS) ?_
      refine a_istore dX6_heldPastNeighbor_76 (Nat.le_of_ble_eq_true rfl) (ls' := [vR a0, vI x1, vI x2, vI x3, vI (hg H (a0 + 19) ((x1 * 24) + x3)), vI (hg H (a0 + 19) (((x1 * 24) + x3) - 1)), vI (M 0)]) rfl ?_
      refine a_aload_n dX6_heldPastNeighbor_78 rfl rfl ?_
      refine a_getR dX6_heldPastNeighbor_79 fw_RX6_32 rfl rfl (kSta_0 hS.1) (rSta_0_5 hS.1) ?_
      refine a_iload dX6_heldPastNeighbor_82 rfl ?_
      obtain ⟨q84_0, h⟩ := h
      refine b_iald dX6_heldPastNeighbor_84 (kSta_16 hS.1) (nSta_16 hS.1) q84_0 ?_
      refine a_iload dX6_heldPastNeighbor_85 rfl ?_
      refine a_icmp_le dX6_heldPastNeighbor_87 (tgt := 119) rfl (fun c87 => ?_) (fun c87 => ?_)
      · replace h := h.1 c87
        obtain ⟨q119_0, h⟩ := h
        refine a_iinc dX6_heldPastNeighbor_119 rfl (Nat.le_of_ble_eq_true rfl) (by decide) q119_0 (ls' := [vR a0, vI x1, vI x2, vI (x3 + 1), vI (hg H (a0 + 19) ((x1 * 24) + x3)), vI (hg H (a0 + 19) (((x1 * 24) + x3) - 1)), vI (M 0)]) rfl ?_
        refine a_goto dX6_heldPastNeighbor_122 (tgt := 4) rfl ?_
        exact a_weak (wk_e (wk_e (wk_e (wk_e (wk_u (wk_u (wk_u wk_n))))))) h
      · replace h := h.2 c87
        refine a_aload_n dX6_heldPastNeighbor_90 rfl rfl ?_
        refine a_getR dX6_heldPastNeighbor_91 fw_RX6_32 rfl rfl (kSta_0 hS.1) (rSta_0_5 hS.1) ?_
        refine a_iload dX6_heldPastNeighbor_94 rfl ?_
        refine b_iald dX6_heldPastNeighbor_96 (kSta_16 hS.1) (nSta_16 hS.1) q84_0 ?_
        refine a_aload_n dX6_heldPastNeighbor_97 rfl rfl ?_
        refine a_getR dX6_heldPastNeighbor_98 fw_RX6_32 rfl rfl (kSta_0 hS.1) (rSta_0_5 hS.1) ?_
        refine a_iload dX6_heldPastNeighbor_101 rfl ?_
        obtain ⟨q103_0, h⟩ := h
        refine b_iald dX6_heldPastNeighbor_103 (kSta_16 hS.1) (nSta_16 hS.1) q103_0 ?_
        refine a_aload_n dX6_heldPastNeighbor_104 rfl rfl ?_
        refine a_iload dX6_heldPastNeighbor_105 rfl ?_
        refine a_iload dX6_heldPastNeighbor_107 rfl ?_
        obtain ⟨q109_0, h⟩ := h
        obtain ⟨q109_1, h⟩ := h
        refine a_callV dX6_heldPastNeighbor_109 cw_X6_heldPastNeighbor_109 (as := [vI (hg H (a0 + 19) (((x1 * 24) + x3) - 1)), vI (hg H (a0 + 19) ((x1 * 24) + x3))]) rfl rfl (kSta_0 hS.1) (Nat.le_refl _) (Nat.le_of_ble_eq_true rfl) (nocov rfl) (Nat.le_of_ble_eq_true rfl) (Nat.le_of_ble_eq_true rfl) (CL.mono (k_gapOf hS  q109_0 q109_1) (fun r9 H9 h9 => ?_))
        rw [h9.1, h9.2]
        show AW l G mX6_heldPastNeighbor (d + 1) 0 0 Q 112 [vR a0, vI x1, vI x2, vI x3, vI (hg H (a0 + 19) ((x1 * 24) + x3)), vI (hg H (a0 + 19) (((x1 * 24) + x3) - 1)), vI (M 0)] [vI (apartM M (hg H (a0 + 19) (((x1 * 24) + x3) - 1)) (hg H (a0 + 19) ((x1 * 24) + x3))), vI (hg H (a0 + 16) (hg H (a0 + 19) (((x1 * 24) + x3) - 1))), vI (hg H (a0 + 16) (hg H (a0 + 19) ((x1 * 24) + x3)))] 0 0 H
        obtain ⟨q112_0, h⟩ := h
        refine a_iadd dX6_heldPastNeighbor_112 q112_0 ?_
        refine a_icmp_le dX6_heldPastNeighbor_113 (tgt := 119) rfl (fun c113 => ?_) (fun c113 => ?_)
        · replace h := h.1 c113
          obtain ⟨q119_0, h⟩ := h
          refine a_iinc dX6_heldPastNeighbor_119 rfl (Nat.le_of_ble_eq_true rfl) (by decide) q119_0 (ls' := [vR a0, vI x1, vI x2, vI (x3 + 1), vI (hg H (a0 + 19) ((x1 * 24) + x3)), vI (hg H (a0 + 19) (((x1 * 24) + x3) - 1)), vI (M 0)]) rfl ?_
          refine a_goto dX6_heldPastNeighbor_122 (tgt := 4) rfl ?_
          exact a_weak (wk_e (wk_e (wk_e (wk_e (wk_u (wk_u (wk_u wk_n))))))) h
        · replace h := h.2 c113
          obtain ⟨q116_0, h⟩ := h
          refine a_iinc dX6_heldPastNeighbor_116 rfl (Nat.le_of_ble_eq_true rfl) (by decide) q116_0 (ls' := [vR a0, vI x1, vI (x2 + 1), vI x3, vI (hg H (a0 + 19) ((x1 * 24) + x3)), vI (hg H (a0 + 19) (((x1 * 24) + x3) - 1)), vI (M 0)]) rfl ?_
          obtain ⟨q119_0, h⟩ := h
          refine a_iinc dX6_heldPastNeighbor_119 rfl (Nat.le_of_ble_eq_true rfl) (by decide) q119_0 (ls' := [vR a0, vI x1, vI (x2 + 1), vI (x3 + 1), vI (hg H (a0 + 19) ((x1 * 24) + x3)), vI (hg H (a0 + 19) (((x1 * 24) + x3) - 1)), vI (M 0)]) rfl ?_
          refine a_goto dX6_heldPastNeighbor_122 (tgt := 4) rfl ?_
          exact a_weak (wk_e (wk_e (wk_e (wk_e (wk_u (wk_u (wk_u wk_n))))))) h
    · replace h := h.2 c56
      refine a_aload_n dX6_heldPastNeighbor_59 rfl rfl ?_
      refine a_getR dX6_heldPastNeighbor_60 fw_RX6_21 rfl rfl (kSta_0 hS.1) (rSta_0_1 hS.1) ?_
      refine a_getR dX6_heldPastNeighbor_63 fw_RX6_127 rfl rfl (kSta_5 hS.1) (rSta_5_5 hS.1) ?_
      refine a_iload dX6_heldPastNeighbor_66 rfl ?_
      refine b_ialdV dX6_heldPastNeighbor_68 (kSta_10 hS.1) (nSta_10 hS.1) (sk_lt hS q51_0) (sk_10 hS q51_0) ?_
      refine a_goto dX6_heldPastNeighbor_69 (tgt := 76) rfl ?_
      refine a_istore dX6_heldPastNeighbor_76 (Nat.le_of_ble_eq_true rfl) (ls' := [vR a0, vI x1, vI x2, vI x3, vI (hg H (a0 + 19) ((x1 * 24) + x3)), vI (hg H (a0 + 19) (((x1 * 24) + x3) - 1)), vI (ofM M (hg H (a0 + 19) ((x1 * 24) + x3)) 2)]) rfl ?_
      refine a_aload_n dX6_heldPastNeighbor_78 rfl rfl ?_
      refine a_getR dX6_heldPastNeighbor_79 fw_RX6_32 rfl rfl (kSta_0 hS.1) (rSta_0_5 hS.1) ?_
      refine a_iload dX6_heldPastNeighbor_82 rfl ?_
      obtain ⟨q84_0, h⟩ := h
      refine b_iald dX6_heldPastNeighbor_84 (kSta_16 hS.1) (nSta_16 hS.1) q84_0 ?_
      refine a_iload dX6_heldPastNeighbor_85 rfl ?_
      refine a_icmp_le dX6_heldPastNeighbor_87 (tgt := 119) rfl (fun c87 => ?_) (fun c87 => ?_)
      · replace h := h.1 c87
        obtain ⟨q119_0, h⟩ := h
        refine a_iinc dX6_heldPastNeighbor_119 rfl (Nat.le_of_ble_eq_true rfl) (by decide) q119_0 (ls' := [vR a0, vI x1, vI x2, vI (x3 + 1), vI (hg H (a0 + 19) ((x1 * 24) + x3)), vI (hg H (a0 + 19) (((x1 * 24) + x3) - 1)), vI (ofM M (hg H (a0 + 19) ((x1 * 24) + x3)) 2)]) rfl ?_
        refine a_goto dX6_heldPastNeighbor_122 (tgt := 4) rfl ?_
        exact a_weak (wk_e (wk_e (wk_e (wk_e (wk_u (wk_u (wk_u wk_n))))))) h
      · replace h := h.2 c87
        refine a_aload_n dX6_heldPastNeighbor_90 rfl rfl ?_
        refine a_getR dX6_heldPastNeighbor_91 fw_RX6_32 rfl rfl (kSta_0 hS.1) (rSta_0_5 hS.1) ?_
        refine a_iload dX6_heldPastNeighbor_94 rfl ?_
        refine b_iald dX6_heldPastNeighbor_96 (kSta_16 hS.1) (nSta_16 hS.1) q84_0 ?_
        refine a_aload_n dX6_heldPastNeighbor_97 rfl rfl ?_
        refine a_getR dX6_heldPastNeighbor_98 fw_RX6_32 rfl rfl (kSta_0 hS.1) (rSta_0_5 hS.1) ?_
        refine a_iload dX6_heldPastNeighbor_101 rfl ?_
        obtain ⟨q103_0, h⟩ := h
        refine b_iald dX6_heldPastNeighbor_103 (kSta_16 hS.1) (nSta_16 hS.1) q103_0 ?_
        refine a_aload_n dX6_heldPastNeighbor_104 rfl rfl ?_
        refine a_iload dX6_heldPastNeighbor_105 rfl ?_
        refine a_iload dX6_heldPastNeighbor_107 rfl ?_
        obtain ⟨q109_0, h⟩ := h
        obtain ⟨q109_1, h⟩ := h
        refine a_callV dX6_heldPastNeighbor_109 cw_X6_heldPastNeighbor_109 (as := [vI (hg H (a0 + 19) (((x1 * 24) + x3) - 1)), vI (hg H (a0 + 19) ((x1 * 24) + x3))]) rfl rfl (kSta_0 hS.1) (Nat.le_refl _) (Nat.le_of_ble_eq_true rfl) (nocov rfl) (Nat.le_of_ble_eq_true rfl) (Nat.le_of_ble_eq_true rfl) (CL.mono (k_gapOf hS  q109_0 q109_1) (fun r9 H9 h9 => ?_))
        rw [h9.1, h9.2]
        show AW l G mX6_heldPastNeighbor (d + 1) 0 0 Q 112 [vR a0, vI x1, vI x2, vI x3, vI (hg H (a0 + 19) ((x1 * 24) + x3)), vI (hg H (a0 + 19) (((x1 * 24) + x3) - 1)), vI (ofM M (hg H (a0 + 19) ((x1 * 24) + x3)) 2)] [vI (apartM M (hg H (a0 + 19) (((x1 * 24) + x3) - 1)) (hg H (a0 + 19) ((x1 * 24) + x3))), vI (hg H (a0 + 16) (hg H (a0 + 19) (((x1 * 24) + x3) - 1))), vI (hg H (a0 + 16) (hg H (a0 + 19) ((x1 * 24) + x3)))] 0 0 H
        obtain ⟨q112_0, h⟩ := h
        refine a_iadd dX6_heldPastNeighbor_112 q112_0 ?_
        refine a_icmp_le dX6_heldPastNeighbor_113 (tgt := 119) rfl (fun c113 => ?_) (fun c113 => ?_)
        · replace h := h.1 c113
          obtain ⟨q119_0, h⟩ := h
          refine a_iinc dX6_heldPastNeighbor_119 rfl (Nat.le_of_ble_eq_true rfl) (by decide) q119_0 (ls' := [vR a0, vI x1, vI x2, vI (x3 + 1), vI (hg H (a0 + 19) ((x1 * 24) + x3)), vI (hg H (a0 + 19) (((x1 * 24) + x3) - 1)), vI (ofM M (hg H (a0 + 19) ((x1 * 24) + x3)) 2)]) rfl ?_
          refine a_goto dX6_heldPastNeighbor_122 (tgt := 4) rfl ?_
          exact a_weak (wk_e (wk_e (wk_e (wk_e (wk_u (wk_u (wk_u wk_n))))))) h
        · replace h := h.2 c113
          obtain ⟨q116_0, h⟩ := h
          refine a_iinc dX6_heldPastNeighbor_116 rfl (Nat.le_of_ble_eq_true rfl) (by decide) q116_0 (ls' := [vR a0, vI x1, vI (x2 + 1), vI x3, vI (hg H (a0 + 19) ((x1 * 24) + x3)), vI (hg H (a0 + 19) (((x1 * 24) + x3) - 1)), vI (ofM M (hg H (a0 + 19) ((x1 * 24) + x3)) 2)]) rfl ?_
          obtain ⟨q119_0, h⟩ := h
          refine a_iinc dX6_heldPastNeighbor_119 rfl (Nat.le_of_ble_eq_true rfl) (by decide) q119_0 (ls' := [vR a0, vI x1, vI (x2 + 1), vI (x3 + 1), vI (hg H (a0 + 19) ((x1 * 24) + x3)), vI (hg H (a0 + 19) (((x1 * 24) + x3) - 1)), vI (ofM M (hg H (a0 + 19) ((x1 * 24) + x3)) 2)]) rfl ?_
          refine a_goto dX6_heldPastNeighbor_122 (tgt := 4) rfl ?_
          exact a_weak (wk_e (wk_e (wk_e (wk_e (wk_u (wk_u (wk_u wk_n))))))) h

theorem k_heldPastNeighbor {l : Launch} {G : GT} {d : Nat} {H : AH} {b : Int} {M : Row} {r : Int} (hS : SK H b M) (hr : rl M r) (hF : Frs H b M r) (hd : 1 ≤ d := by omega) : CL l G mX6_heldPastNeighbor d 0 0 [vR b, vI r] H (PQ (vI (pnR M r)) H) := by
  obtain ⟨d, rfl⟩ : ∃ k, d = k + 1 := ⟨d - 1, by omega⟩
  have hM := hS.2.1
  have hn := okM_n hM
  have hn5 := okM_5 hM
  have hlc := comeL_len hM (r := r)
  refine CL.of (by decide) rfl (Nat.le_of_ble_eq_true rfl) (s_X6_heldPastNeighbor_0 hS ?_)
  have key : ∀ j, j ≤ (comeL M r).length - 1 → AW l G mX6_heldPastNeighbor (d + 1) 0 0 (PQ (vI (pnR M r)) H) 4 [vR b, vI r, vI (pnN M r j), vI (j + 1), vU, vU, vU] [] 0 0 H := by
    refine upN _ ?_ ?_
    · intro j hj ih
      have h9 : 0 ≤ pnN M r j ∧ pnN M r j ≤ j := sm01 (fun k _ => bi_in _)
      have hk1 : 0 ≤ (j : Int) ∧ (j : Int) < (comeL M r).length := by omega
      have hk2 : 0 ≤ (j : Int) + 1 ∧ (j : Int) + 1 < (comeL M r).length := by omega
      have p1 := pl_at hM hk1
      have p2 := pl_at hM hk2
      have t1 := planT_in hM p1.1 p1.2.1
      have t2 := planT_in hM p2.1 p2.2.1
      have ha := hM.apart p1.1 p2.1
      have f1 : Frs H b M (ofM M (wAt (planL M r) j) 6) := by rw [p1.2.2]; exact hF
      have f2 : Frs H b M (ofM M (wAt (planL M r) (j + 1)) 6) := by rw [p2.2.2]; exact hF
      have q1 := p1.1
      have q2 := p2.1
      have no : ¬ pnP M r j → AW l G mX6_heldPastNeighbor (d + 1) 0 0 (PQ (vI (pnR M r)) H) 4 [vR b, vI r, vI (pnN M r j), vI (j + 1 + 1), vU, vU, vU] [] 0 0 H := fun z => by
        rw [pnN, sm, bi_f z, Int.add_zero] at ih; exact ih
      have yes : pnP M r j → AW l G mX6_heldPastNeighbor (d + 1) 0 0 (PQ (vI (pnR M r)) H) 4 [vR b, vI r, vI (pnN M r j + 1), vI (j + 1 + 1), vU, vU, vU] [] 0 0 H := fun z => by
        rw [pnN, sm, bi_t z] at ih; exact ih
      refine s_X6_heldPastNeighbor_4 hS ?_
      rw [hF.1, hF.pl (i := r * 24 + ((j : Int) + 1) - 1) hM hk1 (by omega), hF.pl hM hk2 (by omega), f1.time hM p1.1 p1.2.1, f2.time hM p2.1 p2.2.1]
      refine ⟨by omega, fun c => absurd c (by omega), fun c => ⟨by omega, by omega, by omega, by omega, by omega, p2.1, fun c2 => ⟨by omega, fun c3 => ⟨by omega, no (by unfold pnP; omega)⟩, fun c3 => ⟨by omega, p1.1, p2.1, by omega, fun c4 => ⟨by omega, no (by unfold pnP; omega)⟩, fun c4 => ⟨by omega, by omega, yes (by unfold pnP; omega)⟩⟩⟩, fun c2 => ⟨by omega, fun c3 => ⟨by omega, no (by unfold pnP; omega)⟩, fun c3 => ⟨by omega, p1.1, p2.1, by omega, fun c4 => ⟨by omega, no (by unfold pnP; omega)⟩, fun c4 => ⟨by omega, by omega, yes (by unfold pnP; omega)⟩⟩⟩⟩⟩
    · refine s_X6_heldPastNeighbor_4 hS ⟨by omega, fun c => ⟨rfl, rfl⟩, fun c => absurd c (by rw [hF.1]; omega)⟩
  exact key 0 (Nat.zero_le _)

theorem dX6_firstGap_0 : decode cX6_firstGap 0 = .ok (.iload_n 2, 1) := by decide +kernel
theorem dX6_firstGap_1 : decode cX6_firstGap 1 = .ok (.aload_n 0, 1) := by decide +kernel
theorem dX6_firstGap_2 : decode cX6_firstGap 2 = .ok (.getfield 61, 3) := by decide +kernel
theorem dX6_firstGap_5 : decode cX6_firstGap 5 = .ok (.if_icmp .le 7, 3) := by decide +kernel
theorem dX6_firstGap_8 : decode cX6_firstGap 8 = .ok (.iload_n 2, 1) := by decide +kernel
theorem dX6_firstGap_9 : decode cX6_firstGap 9 = .ok (.goto 7, 3) := by decide +kernel
theorem dX6_firstGap_12 : decode cX6_firstGap 12 = .ok (.aload_n 0, 1) := by decide +kernel
theorem dX6_firstGap_13 : decode cX6_firstGap 13 = .ok (.getfield 61, 3) := by decide +kernel
theorem dX6_firstGap_16 : decode cX6_firstGap 16 = .ok (.istore 4, 2) := by decide +kernel
theorem dX6_firstGap_18 : decode cX6_firstGap 18 = .ok (.iconst 0, 1) := by decide +kernel
theorem dX6_firstGap_19 : decode cX6_firstGap 19 = .ok (.istore 5, 2) := by decide +kernel
theorem dX6_firstGap_21 : decode cX6_firstGap 21 = .ok (.iload 5, 2) := by decide +kernel
theorem dX6_firstGap_23 : decode cX6_firstGap 23 = .ok (.aload_n 0, 1) := by decide +kernel
theorem dX6_firstGap_24 : decode cX6_firstGap 24 = .ok (.getfield 21, 3) := by decide +kernel
theorem dX6_firstGap_27 : decode cX6_firstGap 27 = .ok (.getfield 57, 3) := by decide +kernel
theorem dX6_firstGap_30 : decode cX6_firstGap 30 = .ok (.if_icmp .ge 180, 3) := by decide +kernel
theorem dX6_firstGap_33 : decode cX6_firstGap 33 = .ok (.iconst 0, 1) := by decide +kernel
theorem dX6_firstGap_34 : decode cX6_firstGap 34 = .ok (.istore 6, 2) := by decide +kernel
theorem dX6_firstGap_36 : decode cX6_firstGap 36 = .ok (.iload 6, 2) := by decide +kernel
theorem dX6_firstGap_38 : decode cX6_firstGap 38 = .ok (.aload_n 0, 1) := by decide +kernel
theorem dX6_firstGap_39 : decode cX6_firstGap 39 = .ok (.getfield 21, 3) := by decide +kernel
theorem dX6_firstGap_42 : decode cX6_firstGap 42 = .ok (.getfield 57, 3) := by decide +kernel
theorem dX6_firstGap_45 : decode cX6_firstGap 45 = .ok (.if_icmp .ge 159, 3) := by decide +kernel
theorem dX6_firstGap_48 : decode cX6_firstGap 48 = .ok (.aload_n 0, 1) := by decide +kernel
theorem dX6_firstGap_49 : decode cX6_firstGap 49 = .ok (.getfield 25, 3) := by decide +kernel
theorem dX6_firstGap_52 : decode cX6_firstGap 52 = .ok (.iload 6, 2) := by decide +kernel
theorem dX6_firstGap_54 : decode cX6_firstGap 54 = .ok (.iaload, 1) := by decide +kernel
theorem dX6_firstGap_55 : decode cX6_firstGap 55 = .ok (.iload_n 3, 1) := by decide +kernel
theorem dX6_firstGap_56 : decode cX6_firstGap 56 = .ok (.if_icmp .ne 142, 3) := by decide +kernel
theorem dX6_firstGap_59 : decode cX6_firstGap 59 = .ok (.aload_n 0, 1) := by decide +kernel
theorem dX6_firstGap_60 : decode cX6_firstGap 60 = .ok (.getfield 29, 3) := by decide +kernel
theorem dX6_firstGap_63 : decode cX6_firstGap 63 = .ok (.iload 6, 2) := by decide +kernel
theorem dX6_firstGap_65 : decode cX6_firstGap 65 = .ok (.iaload, 1) := by decide +kernel
theorem dX6_firstGap_66 : decode cX6_firstGap 66 = .ok (.iconst 3, 1) := by decide +kernel
theorem dX6_firstGap_67 : decode cX6_firstGap 67 = .ok (.if_icmp .eq 131, 3) := by decide +kernel
theorem dX6_firstGap_70 : decode cX6_firstGap 70 = .ok (.aload_n 0, 1) := by decide +kernel
theorem dX6_firstGap_71 : decode cX6_firstGap 71 = .ok (.getfield 21, 3) := by decide +kernel
theorem dX6_firstGap_74 : decode cX6_firstGap 74 = .ok (.getfield 106, 3) := by decide +kernel
theorem dX6_firstGap_77 : decode cX6_firstGap 77 = .ok (.iload 6, 2) := by decide +kernel
theorem dX6_firstGap_79 : decode cX6_firstGap 79 = .ok (.iaload, 1) := by decide +kernel
theorem dX6_firstGap_80 : decode cX6_firstGap 80 = .ok (.istore 7, 2) := by decide +kernel
theorem dX6_firstGap_82 : decode cX6_firstGap 82 = .ok (.aload_n 0, 1) := by decide +kernel
theorem dX6_firstGap_83 : decode cX6_firstGap 83 = .ok (.getfield 21, 3) := by decide +kernel
theorem dX6_firstGap_86 : decode cX6_firstGap 86 = .ok (.getfield 97, 3) := by decide +kernel
theorem dX6_firstGap_89 : decode cX6_firstGap 89 = .ok (.iload 6, 2) := by decide +kernel
theorem dX6_firstGap_91 : decode cX6_firstGap 91 = .ok (.baload, 1) := by decide +kernel
theorem dX6_firstGap_92 : decode cX6_firstGap 92 = .ok (.istore 8, 2) := by decide +kernel
theorem dX6_firstGap_94 : decode cX6_firstGap 94 = .ok (.iload 8, 2) := by decide +kernel
theorem dX6_firstGap_96 : decode cX6_firstGap 96 = .ok (.ifCond .eq 20, 3) := by decide +kernel
theorem dX6_firstGap_99 : decode cX6_firstGap 99 = .ok (.aload_n 0, 1) := by decide +kernel
theorem dX6_firstGap_100 : decode cX6_firstGap 100 = .ok (.getfield 12, 3) := by decide +kernel
theorem dX6_firstGap_103 : decode cX6_firstGap 103 = .ok (.getfield 103, 3) := by decide +kernel
theorem dX6_firstGap_106 : decode cX6_firstGap 106 = .ok (.iload_n 1, 1) := by decide +kernel
theorem dX6_firstGap_107 : decode cX6_firstGap 107 = .ok (.iconst 4, 1) := by decide +kernel
theorem dX6_firstGap_108 : decode cX6_firstGap 108 = .ok (.imul, 1) := by decide +kernel
theorem dX6_firstGap_109 : decode cX6_firstGap 109 = .ok (.iload 7, 2) := by decide +kernel
theorem dX6_firstGap_111 : decode cX6_firstGap 111 = .ok (.iadd, 1) := by decide +kernel
theorem dX6_firstGap_112 : decode cX6_firstGap 112 = .ok (.iaload, 1) := by decide +kernel
theorem dX6_firstGap_113 : decode cX6_firstGap 113 = .ok (.goto 10, 3) := by decide +kernel
theorem dX6_firstGap_116 : decode cX6_firstGap 116 = .ok (.aload_n 0, 1) := by decide +kernel
theorem dX6_firstGap_117 : decode cX6_firstGap 117 = .ok (.getfield 12, 3) := by decide +kernel
theorem dX6_firstGap_120 : decode cX6_firstGap 120 = .ok (.getfield 100, 3) := by decide +kernel
theorem dX6_firstGap_123 : decode cX6_firstGap 123 = .ok (.istore 9, 2) := by decide +kernel
theorem dX6_firstGap_125 : decode cX6_firstGap 125 = .ok (.iload 8, 2) := by decide +kernel
theorem dX6_firstGap_127 : decode cX6_firstGap 127 = .ok (.ifCond .eq 20, 3) := by decide +kernel
theorem dX6_firstGap_130 : decode cX6_firstGap 130 = .ok (.aload_n 0, 1) := by decide +kernel
theorem dX6_firstGap_131 : decode cX6_firstGap 131 = .ok (.getfield 12, 3) := by decide +kernel
theorem dX6_firstGap_134 : decode cX6_firstGap 134 = .ok (.getfield 103, 3) := by decide +kernel
theorem dX6_firstGap_137 : decode cX6_firstGap 137 = .ok (.iload 7, 2) := by decide +kernel
theorem dX6_firstGap_139 : decode cX6_firstGap 139 = .ok (.iconst 4, 1) := by decide +kernel
theorem dX6_firstGap_140 : decode cX6_firstGap 140 = .ok (.imul, 1) := by decide +kernel
theorem dX6_firstGap_141 : decode cX6_firstGap 141 = .ok (.iload_n 1, 1) := by decide +kernel
theorem dX6_firstGap_142 : decode cX6_firstGap 142 = .ok (.iadd, 1) := by decide +kernel
theorem dX6_firstGap_143 : decode cX6_firstGap 143 = .ok (.iaload, 1) := by decide +kernel
theorem dX6_firstGap_144 : decode cX6_firstGap 144 = .ok (.goto 10, 3) := by decide +kernel
theorem dX6_firstGap_147 : decode cX6_firstGap 147 = .ok (.aload_n 0, 1) := by decide +kernel
theorem dX6_firstGap_148 : decode cX6_firstGap 148 = .ok (.getfield 12, 3) := by decide +kernel
theorem dX6_firstGap_151 : decode cX6_firstGap 151 = .ok (.getfield 100, 3) := by decide +kernel
theorem dX6_firstGap_154 : decode cX6_firstGap 154 = .ok (.istore 10, 2) := by decide +kernel
theorem dX6_firstGap_156 : decode cX6_firstGap 156 = .ok (.iload 4, 2) := by decide +kernel
theorem dX6_firstGap_158 : decode cX6_firstGap 158 = .ok (.iload 9, 2) := by decide +kernel
theorem dX6_firstGap_160 : decode cX6_firstGap 160 = .ok (.iadd, 1) := by decide +kernel
theorem dX6_firstGap_161 : decode cX6_firstGap 161 = .ok (.aload_n 0, 1) := by decide +kernel
theorem dX6_firstGap_162 : decode cX6_firstGap 162 = .ok (.getfield 32, 3) := by decide +kernel
theorem dX6_firstGap_165 : decode cX6_firstGap 165 = .ok (.iload 6, 2) := by decide +kernel
theorem dX6_firstGap_167 : decode cX6_firstGap 167 = .ok (.iaload, 1) := by decide +kernel
theorem dX6_firstGap_168 : decode cX6_firstGap 168 = .ok (.if_icmp .le 30, 3) := by decide +kernel
theorem dX6_firstGap_171 : decode cX6_firstGap 171 = .ok (.iload 4, 2) := by decide +kernel
theorem dX6_firstGap_173 : decode cX6_firstGap 173 = .ok (.aload_n 0, 1) := by decide +kernel
theorem dX6_firstGap_174 : decode cX6_firstGap 174 = .ok (.getfield 32, 3) := by decide +kernel
theorem dX6_firstGap_177 : decode cX6_firstGap 177 = .ok (.iload 6, 2) := by decide +kernel
theorem dX6_firstGap_179 : decode cX6_firstGap 179 = .ok (.iaload, 1) := by decide +kernel
theorem dX6_firstGap_180 : decode cX6_firstGap 180 = .ok (.iload 10, 2) := by decide +kernel
theorem dX6_firstGap_182 : decode cX6_firstGap 182 = .ok (.iadd, 1) := by decide +kernel
theorem dX6_firstGap_183 : decode cX6_firstGap 183 = .ok (.if_icmp .ge 15, 3) := by decide +kernel
theorem dX6_firstGap_186 : decode cX6_firstGap 186 = .ok (.aload_n 0, 1) := by decide +kernel
theorem dX6_firstGap_187 : decode cX6_firstGap 187 = .ok (.getfield 32, 3) := by decide +kernel
theorem dX6_firstGap_190 : decode cX6_firstGap 190 = .ok (.iload 6, 2) := by decide +kernel
theorem dX6_firstGap_192 : decode cX6_firstGap 192 = .ok (.iaload, 1) := by decide +kernel
theorem dX6_firstGap_193 : decode cX6_firstGap 193 = .ok (.iload 10, 2) := by decide +kernel
theorem dX6_firstGap_195 : decode cX6_firstGap 195 = .ok (.iadd, 1) := by decide +kernel
theorem dX6_firstGap_196 : decode cX6_firstGap 196 = .ok (.istore 4, 2) := by decide +kernel
theorem dX6_firstGap_198 : decode cX6_firstGap 198 = .ok (.iinc 6 1, 3) := by decide +kernel
theorem dX6_firstGap_201 : decode cX6_firstGap 201 = .ok (.goto (-165), 3) := by decide +kernel
theorem dX6_firstGap_204 : decode cX6_firstGap 204 = .ok (.iinc 5 1, 3) := by decide +kernel
theorem dX6_firstGap_207 : decode cX6_firstGap 207 = .ok (.goto (-186), 3) := by decide +kernel
theorem dX6_firstGap_210 : decode cX6_firstGap 210 = .ok (.iload 4, 2) := by decide +kernel
theorem dX6_firstGap_212 : decode cX6_firstGap 212 = .ok (.ireturn, 1) := by decide +kernel
set_option maxRecDepth 20000 in
theorem s_X6_firstGap_0 {l : Launch} {G : GT} {d : Nat} {Q : AV → AH → Prop} {H : AH} {a0 x1 x2 x3 : Int} {M : Row} (hS : SK H a0 M) (h : (x2 ≤ (M 0) → AW l G mX6_firstGap d 0 0 Q 21 [vR a0, vI x1, vI x2, vI x3, vI (M 0), vI 0, vU, vU, vU, vU, vU] [] 0 0 H) ∧ ((M 0) < x2 → AW l G mX6_firstGap d 0 0 Q 21 [vR a0, vI x1, vI x2, vI x3, vI x2, vI 0, vU, vU, vU, vU, vU] [] 0 0 H)) : AW l G mX6_firstGap d 0 0 Q 0 [vR a0, vI x1, vI x2, vI x3, vU, vU, vU, vU, vU, vU, vU] [] 0 0 H := by
  refine a_iload_n dX6_firstGap_0 rfl rfl ?_
  refine a_aload_n dX6_firstGap_1 rfl rfl ?_
  refine a_getIV dX6_firstGap_2 fw_RX6_61 rfl rfl (kSta_0 hS.1) (sk_0_2 hS) ?_
  refine a_icmp_le dX6_firstGap_5 (tgt := 12) rfl (fun c5 => ?_) (fun c5 => ?_)
  · replace h := h.1 c5
    refine a_aload_n dX6_firstGap_12 rfl rfl ?_
    refine a_getIV dX6_firstGap_13 fw_RX6_61 rfl rfl (kSta_0 hS.1) (sk_0_2 hS) ?_
    refine a_istore dX6_firstGap_16 (Nat.le_of_ble_eq_true rfl) (ls' := [vR a0, vI x1, vI x2, vI x3, vI (M 0), vU, vU, vU, vU, vU, vU]) rfl ?_
    refine a_iconst dX6_firstGap_18 ⟨by decide, by decide⟩ ?_
    refine a_istore dX6_firstGap_19 (Nat.le_of_ble_eq_true rfl) (ls' := [vR a0, vI x1, vI x2, vI x3, vI (M 0), vI 0, vU, vU, vU, vU, vU]) rfl ?_
    exact h
  · replace h := h.2 c5
    refine a_iload_n dX6_firstGap_8 rfl rfl ?_
    refine a_goto dX6_firstGap_9 (tgt := 16) rfl ?_
    refine a_istore dX6_firstGap_16 (Nat.le_of_ble_eq_true rfl) (ls' := [vR a0, vI x1, vI x2, vI x3, vI x2, vU, vU, vU, vU, vU, vU]) rfl ?_
    refine a_iconst dX6_firstGap_18 ⟨by decide, by decide⟩ ?_
    refine a_istore dX6_firstGap_19 (Nat.le_of_ble_eq_true rfl) (ls' := [vR a0, vI x1, vI x2, vI x3, vI x2, vI 0, vU, vU, vU, vU, vU]) rfl ?_
    exact h

set_option maxRecDepth 20000 in
theorem s_X6_firstGap_21 {l : Launch} {G : GT} {d : Nat} {Q : AV → AH → Prop} {H : AH} {a0 x1 x2 x3 x4 x5 : Int} {M : Row} (hS : SK H a0 M) (h : ((M 6) ≤ x5 → Q (vI x4) H) ∧ (x5 < (M 6) → AW l G mX6_firstGap d 0 0 Q 36 [vR a0, vI x1, vI x2, vI x3, vI x4, vI x5, vI 0, vU, vU, vU, vU] [] 0 0 H)) : AW l G mX6_firstGap d 0 0 Q 21 [vR a0, vI x1, vI x2, vI x3, vI x4, vI x5, vU, vU, vU, vU, vU] [] 0 0 H := by
  refine a_iload dX6_firstGap_21 rfl ?_
  refine a_aload_n dX6_firstGap_23 rfl rfl ?_
  refine a_getR dX6_firstGap_24 fw_RX6_21 rfl rfl (kSta_0 hS.1) (rSta_0_1 hS.1) ?_
  refine a_getIV dX6_firstGap_27 fw_RX6_57 rfl rfl (kSta_5 hS.1) (sk_5_0 hS) ?_
  refine a_icmp_ge dX6_firstGap_30 (tgt := 210) rfl (fun c30 => ?_) (fun c30 => ?_)
  · replace h := h.1 c30
    refine a_iload dX6_firstGap_210 rfl ?_
    exact a_iret dX6_firstGap_212 rfl (Nat.le_of_ble_eq_true rfl) (Nat.le_of_ble_eq_true rfl) h
  · replace h := h.2 c30
    refine a_iconst dX6_firstGap_33 ⟨by decide, by decide⟩ ?_
    refine a_istore dX6_firstGap_34 (Nat.le_of_ble_eq_true rfl) (ls' := [vR a0, vI x1, vI x2, vI x3, vI x4, vI x5, vI 0, vU, vU, vU, vU]) rfl ?_
    exact h

set_option maxRecDepth 20000 in
theorem s_X6_firstGap_36 {l : Launch} {G : GT} {d : Nat} {Q : AV → AH → Prop} {H : AH} {a0 x1 x2 x3 x4 x5 x6 : Int} {M : Row} (hS : SK H a0 M) (h : ((M 6) ≤ x6 → (-2147483648 ≤ x5 + 1 ∧ x5 + 1 ≤ 2147483647) ∧ AW l G mX6_firstGap d 0 0 Q 21 [vR a0, vI x1, vI x2, vI x3, vI x4, vI (x5 + 1), vU, vU, vU, vU, vU] [] 0 0 H) ∧ (x6 < (M 6) → (0 ≤ x6 ∧ x6 < M 6) ∧ (¬ (ofM M x6 6) = x3 → (-2147483648 ≤ x6 + 1 ∧ x6 + 1 ≤ 2147483647) ∧ AW l G mX6_firstGap d 0 0 Q 36 [vR a0, vI x1, vI x2, vI x3, vI x4, vI x5, vI (x6 + 1), vU, vU, vU, vU] [] 0 0 H) ∧ ((ofM M x6 6) = x3 → ((ofM M x6 7) = 3 → (-2147483648 ≤ x6 + 1 ∧ x6 + 1 ≤ 2147483647) ∧ AW l G mX6_firstGap d 0 0 Q 36 [vR a0, vI x1, vI x2, vI x3, vI x4, vI x5, vI (x6 + 1), vU, vU, vU, vU] [] 0 0 H) ∧ (¬ (ofM M x6 7) = 3 → ((ofM M x6 0) = 0 → ((ofM M x6 0) = 0 → (-2147483648 ≤ x4 + (M 4) ∧ x4 + (M 4) ≤ 2147483647) ∧ (0 ≤ x6 ∧ x6 < 24) ∧ ((x4 + (M 4)) ≤ (hg H (a0 + 16) x6) → (-2147483648 ≤ x6 + 1 ∧ x6 + 1 ≤ 2147483647) ∧ AW l G mX6_firstGap d 0 0 Q 36 [vR a0, vI x1, vI x2, vI x3, vI x4, vI x5, vI (x6 + 1), vU, vU, vU, vU] [] 0 0 H) ∧ ((hg H (a0 + 16) x6) < (x4 + (M 4)) → (-2147483648 ≤ (hg H (a0 + 16) x6) + (M 4) ∧ (hg H (a0 + 16) x6) + (M 4) ≤ 2147483647) ∧ (((hg H (a0 + 16) x6) + (M 4)) ≤ x4 → (-2147483648 ≤ x6 + 1 ∧ x6 + 1 ≤ 2147483647) ∧ AW l G mX6_firstGap d 0 0 Q 36 [vR a0, vI x1, vI x2, vI x3, vI x4, vI x5, vI (x6 + 1), vU, vU, vU, vU] [] 0 0 H) ∧ (x4 < ((hg H (a0 + 16) x6) + (M 4)) → (-2147483648 ≤ x6 + 1 ∧ x6 + 1 ≤ 2147483647) ∧ AW l G mX6_firstGap d 0 0 Q 36 [vR a0, vI x1, vI x2, vI x3, vI ((hg H (a0 + 16) x6) + (M 4)), vI x5, vI (x6 + 1), vU, vU, vU, vU] [] 0 0 H))) ∧ (¬ (ofM M x6 0) = 0 → (-2147483648 ≤ (ofM M x6 1) * 4 ∧ (ofM M x6 1) * 4 ≤ 2147483647) ∧ (-2147483648 ≤ ((ofM M x6 1) * 4) + x1 ∧ ((ofM M x6 1) * 4) + x1 ≤ 2147483647) ∧ (0 ≤ (((ofM M x6 1) * 4) + x1) ∧ (((ofM M x6 1) * 4) + x1) < 16) ∧ (-2147483648 ≤ x4 + (M 4) ∧ x4 + (M 4) ≤ 2147483647) ∧ (0 ≤ x6 ∧ x6 < 24) ∧ ((x4 + (M 4)) ≤ (hg H (a0 + 16) x6) → (-2147483648 ≤ x6 + 1 ∧ x6 + 1 ≤ 2147483647) ∧ AW l G mX6_firstGap d 0 0 Q 36 [vR a0, vI x1, vI x2, vI x3, vI x4, vI x5, vI (x6 + 1), vU, vU, vU, vU] [] 0 0 H) ∧ ((hg H (a0 + 16) x6) < (x4 + (M 4)) → (-2147483648 ≤ (hg H (a0 + 16) x6) + (M (8 + (((ofM M x6 1) * 4) + x1))) ∧ (hg H (a0 + 16) x6) + (M (8 + (((ofM M x6 1) * 4) + x1))) ≤ 2147483647) ∧ (((hg H (a0 + 16) x6) + (M (8 + (((ofM M x6 1) * 4) + x1)))) ≤ x4 → (-2147483648 ≤ x6 + 1 ∧ x6 + 1 ≤ 2147483647) ∧ AW l G mX6_firstGap d 0 0 Q 36 [vR a0, vI x1, vI x2, vI x3, vI x4, vI x5, vI (x6 + 1), vU, vU, vU, vU] [] 0 0 H) ∧ (x4 < ((hg H (a0 + 16) x6) + (M (8 + (((ofM M x6 1) * 4) + x1)))) → (-2147483648 ≤ x6 + 1 ∧ x6 + 1 ≤ 2147483647) ∧ AW l G mX6_firstGap d 0 0 Q 36 [vR a0, vI x1, vI x2, vI x3, vI ((hg H (a0 + 16) x6) + (M (8 + (((ofM M x6 1) * 4) + x1)))), vI x5, vI (x6 + 1), vU, vU, vU, vU] [] 0 0 H)))) ∧ (¬ (ofM M x6 0) = 0 → (-2147483648 ≤ x1 * 4 ∧ x1 * 4 ≤ 2147483647) ∧ (-2147483648 ≤ (x1 * 4) + (ofM M x6 1) ∧ (x1 * 4) + (ofM M x6 1) ≤ 2147483647) ∧ (0 ≤ ((x1 * 4) + (ofM M x6 1)) ∧ ((x1 * 4) + (ofM M x6 1)) < 16) ∧ ((ofM M x6 0) = 0 → (-2147483648 ≤ x4 + (M (8 + ((x1 * 4) + (ofM M x6 1)))) ∧ x4 + (M (8 + ((x1 * 4) + (ofM M x6 1)))) ≤ 2147483647) ∧ (0 ≤ x6 ∧ x6 < 24) ∧ ((x4 + (M (8 + ((x1 * 4) + (ofM M x6 1))))) ≤ (hg H (a0 + 16) x6) → (-2147483648 ≤ x6 + 1 ∧ x6 + 1 ≤ 2147483647) ∧ AW l G mX6_firstGap d 0 0 Q 36 [vR a0, vI x1, vI x2, vI x3, vI x4, vI x5, vI (x6 + 1), vU, vU, vU, vU] [] 0 0 H) ∧ ((hg H (a0 + 16) x6) < (x4 + (M (8 + ((x1 * 4) + (ofM M x6 1))))) → (-2147483648 ≤ (hg H (a0 + 16) x6) + (M 4) ∧ (hg H (a0 + 16) x6) + (M 4) ≤ 2147483647) ∧ (((hg H (a0 + 16) x6) + (M 4)) ≤ x4 → (-2147483648 ≤ x6 + 1 ∧ x6 + 1 ≤ 2147483647) ∧ AW l G mX6_firstGap d 0 0 Q 36 [vR a0, vI x1, vI x2, vI x3, vI x4, vI x5, vI (x6 + 1), vU, vU, vU, vU] [] 0 0 H) ∧ (x4 < ((hg H (a0 + 16) x6) + (M 4)) → (-2147483648 ≤ x6 + 1 ∧ x6 + 1 ≤ 2147483647) ∧ AW l G mX6_firstGap d 0 0 Q 36 [vR a0, vI x1, vI x2, vI x3, vI ((hg H (a0 + 16) x6) + (M 4)), vI x5, vI (x6 + 1), vU, vU, vU, vU] [] 0 0 H))) ∧ (¬ (ofM M x6 0) = 0 → (-2147483648 ≤ (ofM M x6 1) * 4 ∧ (ofM M x6 1) * 4 ≤ 2147483647) ∧ (-2147483648 ≤ ((ofM M x6 1) * 4) + x1 ∧ ((ofM M x6 1) * 4) + x1 ≤ 2147483647) ∧ (0 ≤ (((ofM M x6 1) * 4) + x1) ∧ (((ofM M x6 1) * 4) + x1) < 16) ∧ (-2147483648 ≤ x4 + (M (8 + ((x1 * 4) + (ofM M x6 1)))) ∧ x4 + (M (8 + ((x1 * 4) + (ofM M x6 1)))) ≤ 2147483647) ∧ (0 ≤ x6 ∧ x6 < 24) ∧ ((x4 + (M (8 + ((x1 * 4) + (ofM M x6 1))))) ≤ (hg H (a0 + 16) x6) → (-2147483648 ≤ x6 + 1 ∧ x6 + 1 ≤ 2147483647) ∧ AW l G mX6_firstGap d 0 0 Q 36 [vR a0, vI x1, vI x2, vI x3, vI x4, vI x5, vI (x6 + 1), vU, vU, vU, vU] [] 0 0 H) ∧ ((hg H (a0 + 16) x6) < (x4 + (M (8 + ((x1 * 4) + (ofM M x6 1))))) → (-2147483648 ≤ (hg H (a0 + 16) x6) + (M (8 + (((ofM M x6 1) * 4) + x1))) ∧ (hg H (a0 + 16) x6) + (M (8 + (((ofM M x6 1) * 4) + x1))) ≤ 2147483647) ∧ (((hg H (a0 + 16) x6) + (M (8 + (((ofM M x6 1) * 4) + x1)))) ≤ x4 → (-2147483648 ≤ x6 + 1 ∧ x6 + 1 ≤ 2147483647) ∧ AW l G mX6_firstGap d 0 0 Q 36 [vR a0, vI x1, vI x2, vI x3, vI x4, vI x5, vI (x6 + 1), vU, vU, vU, vU] [] 0 0 H) ∧ (x4 < ((hg H (a0 + 16) x6) + (M (8 + (((ofM M x6 1) * 4) + x1)))) → (-2147483648 ≤ x6 + 1 ∧ x6 + 1 ≤ 2147483647) ∧ AW l G mX6_firstGap d 0 0 Q 36 [vR a0, vI x1, vI x2, vI x3, vI ((hg H (a0 + 16) x6) + (M (8 + (((ofM M x6 1) * 4) + x1)))), vI x5, vI (x6 + 1), vU, vU, vU, vU] [] 0 0 H)))))))) : AW l G mX6_firstGap d 0 0 Q 36 [vR a0, vI x1, vI x2, vI x3, vI x4, vI x5, vI x6, vU, vU, vU, vU] [] 0 0 H := by
  refine a_iload dX6_firstGap_36 rfl ?_
  refine a_aload_n dX6_firstGap_38 rfl rfl ?_
  refine a_getR dX6_firstGap_39 fw_RX6_21 rfl rfl (kSta_0 hS.1) (rSta_0_1 hS.1) ?_
  refine a_getIV dX6_firstGap_42 fw_RX6_57 rfl rfl (kSta_5 hS.1) (sk_5_0 hS) ?_
  refine a_icmp_ge dX6_firstGap_45 (tgt := 204) rfl (fun c45 => ?_) (fun c45 => ?_)
  · replace h := h.1 c45
    obtain ⟨q204_0, h⟩ := h
    refine a_iinc dX6_firstGap_204 rfl (Nat.le_of_ble_eq_true rfl) (by decide) q204_0 (ls' := [vR a0, vI x1, vI x2, vI x3, vI x4, vI (x5 + 1), vI x6, vU, vU, vU, vU]) rfl ?_
    refine a_goto dX6_firstGap_207 (tgt := 21) rfl ?_
    exact a_weak (wk_e (wk_e (wk_e (wk_e (wk_e (wk_e (wk_u (wk_u (wk_u (wk_u (wk_u wk_n))))))))))) h
  · replace h := h.2 c45
    refine a_aload_n dX6_firstGap_48 rfl rfl ?_
    refine a_getR dX6_firstGap_49 fw_RX6_25 rfl rfl (kSta_0 hS.1) (rSta_0_3 hS.1) ?_
    refine a_iload dX6_firstGap_52 rfl ?_
    obtain ⟨q54_0, h⟩ := h
    refine b_ialdV dX6_firstGap_54 (kSta_14 hS.1) (nSta_14 hS.1) (sk_lt hS q54_0) (sk_14 hS q54_0) ?_
    refine a_iload_n dX6_firstGap_55 rfl rfl ?_
    refine a_icmp_ne dX6_firstGap_56 (tgt := 198) rfl (fun c56 => ?_) (fun c56 => ?_)
    · replace h := h.1 c56
      obtain ⟨q198_0, h⟩ := h
      refine a_iinc dX6_firstGap_198 rfl (Nat.le_of_ble_eq_true rfl) (by decide) q198_0 (ls' := [vR a0, vI x1, vI x2, vI x3, vI x4, vI x5, vI (x6 + 1), vU, vU, vU, vU]) rfl ?_
      refine a_goto dX6_firstGap_201 (tgt := 36) rfl ?_
      exact h
    · replace h := h.2 c56
      refine a_aload_n dX6_firstGap_59 rfl rfl ?_
      refine a_getR dX6_firstGap_60 fw_RX6_29 rfl rfl (kSta_0 hS.1) (rSta_0_4 hS.1) ?_
      refine a_iload dX6_firstGap_63 rfl ?_
      refine b_ialdV dX6_firstGap_65 (kSta_15 hS.1) (nSta_15 hS.1) (sk_lt hS q54_0) (sk_15 hS q54_0) ?_
      refine a_iconst dX6_firstGap_66 ⟨by decide, by decide⟩ ?_
      refine a_icmp_eq dX6_firstGap_67 (tgt := 198) rfl (fun c67 => ?_) (fun c67 => ?_)
      · replace h := h.1 c67
        obtain ⟨q198_0, h⟩ := h
        refine a_iinc dX6_firstGap_198 rfl (Nat.le_of_ble_eq_true rfl) (by decide) q198_0 (ls' := [vR a0, vI x1, vI x2, vI x3, vI x4, vI x5, vI (x6 + 1), vU, vU, vU, vU]) rfl ?_
        refine a_goto dX6_firstGap_201 (tgt := 36) rfl ?_
        exact h
      · replace h := h.2 c67
        refine a_aload_n dX6_firstGap_70 rfl rfl ?_
        refine a_getR dX6_firstGap_71 fw_RX6_21 rfl rfl (kSta_0 hS.1) (rSta_0_1 hS.1) ?_
        refine a_getR dX6_firstGap_74 fw_RX6_106 rfl rfl (kSta_5 hS.1) (rSta_5_4 hS.1) ?_
        refine a_iload dX6_firstGap_77 rfl ?_
        refine b_ialdV dX6_firstGap_79 (kSta_9 hS.1) (nSta_9 hS.1) (sk_lt hS q54_0) (sk_9 hS q54_0) ?_
        refine a_istore dX6_firstGap_80 (Nat.le_of_ble_eq_true rfl) (ls' := [vR a0, vI x1, vI x2, vI x3, vI x4, vI x5, vI x6, vI (ofM M x6 1), vU, vU, vU]) rfl ?_
        refine a_aload_n dX6_firstGap_82 rfl rfl ?_
        refine a_getR dX6_firstGap_83 fw_RX6_21 rfl rfl (kSta_0 hS.1) (rSta_0_1 hS.1) ?_
        refine a_getR dX6_firstGap_86 fw_RX6_97 rfl rfl (kSta_5 hS.1) (rSta_5_3 hS.1) ?_
        refine a_iload dX6_firstGap_89 rfl ?_
        refine b_zaldV dX6_firstGap_91 (kSta_8 hS.1) (nSta_8 hS.1) (sk_lt hS q54_0) (sk_8 hS q54_0) ?_
        refine a_istore dX6_firstGap_92 (Nat.le_of_ble_eq_true rfl) (ls' := [vR a0, vI x1, vI x2, vI x3, vI x4, vI x5, vI x6, vI (ofM M x6 1), vI (ofM M x6 0), vU, vU]) rfl ?_
        refine a_iload dX6_firstGap_94 rfl ?_
        refine a_if_eq dX6_firstGap_96 (tgt := 116) rfl (fun c96 => ?_) (fun c96 => ?_)
        · replace h := h.1 c96
          refine a_aload_n dX6_firstGap_116 rfl rfl ?_
          refine a_getR dX6_firstGap_117 fw_RX6_12 rfl rfl (kSta_0 hS.1) (rSta_0_0 hS.1) ?_
          refine a_getIV dX6_firstGap_120 fw_RX6_100 rfl rfl (kSta_1 hS.1) (sk_1_1 hS) ?_
          refine a_istore dX6_firstGap_123 (Nat.le_of_ble_eq_true rfl) (ls' := [vR a0, vI x1, vI x2, vI x3, vI x4, vI x5, vI x6, vI (ofM M x6 1), vI (ofM M x6 0), vI (M 4), vU]) rfl ?_
          refine a_iload dX6_firstGap_125 rfl ?_
          refine a_if_eq dX6_firstGap_127 (tgt := 147) rfl (fun c127 => ?_) (fun c127 => ?_)
          · replace h := h.1 c127
            refine a_aload_n dX6_firstGap_147 rfl rfl ?_
            refine a_getR dX6_firstGap_148 fw_RX6_12 rfl rfl (kSta_0 hS.1) (rSta_0_0 hS.1) ?_
            refine a_getIV dX6_firstGap_151 fw_RX6_100 rfl rfl (kSta_1 hS.1) (sk_1_1 hS) ?_
            refine a_istore dX6_firstGap_154 (Nat.le_of_ble_eq_true rfl) (ls' := [vR a0, vI x1, vI x2, vI x3, vI x4, vI x5, vI x6, vI (ofM M x6 1), vI (ofM M x6 0), vI (M 4), vI (M 4)]) rfl ?_
            refine a_iload dX6_firstGap_156 rfl ?_
            refine a_iload dX6_firstGap_158 rfl ?_
            obtain ⟨q160_0, h⟩ := h
            refine a_iadd dX6_firstGap_160 q160_0 ?_
            refine a_aload_n dX6_firstGap_161 rfl rfl ?_
            refine a_getR dX6_firstGap_162 fw_RX6_32 rfl rfl (kSta_0 hS.1) (rSta_0_5 hS.1) ?_
            refine a_iload dX6_firstGap_165 rfl ?_
            obtain ⟨q167_0, h⟩ := h
            refine b_iald dX6_firstGap_167 (kSta_16 hS.1) (nSta_16 hS.1) q167_0 ?_
            refine a_icmp_le dX6_firstGap_168 (tgt := 198) rfl (fun c168 => ?_) (fun c168 => ?_)
            · replace h := h.1 c168
              obtain ⟨q198_0, h⟩ := h
              refine a_iinc dX6_firstGap_198 rfl (Nat.le_of_ble_eq_true rfl) (by decide) q198_0 (ls' := [vR a0, vI x1, vI x2, vI x3, vI x4, vI x5, vI (x6 + 1), vI (ofM M x6 1), vI (ofM M x6 0), vI (M 4), vI (M 4)]) rfl ?_
              refine a_goto dX6_firstGap_201 (tgt := 36) rfl ?_
              exact a_weak (wk_e (wk_e (wk_e (wk_e (wk_e (wk_e (wk_e (wk_u (wk_u (wk_u (wk_u wk_n))))))))))) h
            · replace h := h.2 c168
              refine a_iload dX6_firstGap_171 rfl ?_
              refine a_aload_n dX6_firstGap_173 rfl rfl ?_
              refine a_getR dX6_firstGap_174 fw_RX6_32 rfl rfl (kSta_0 hS.1) (rSta_0_5 hS.1) ?_
              refine a_iload dX6_firstGap_177 rfl ?_
              refine b_iald dX6_firstGap_179 (kSta_16 hS.1) (nSta_16 hS.1) q167_0 ?_
              refine a_iload dX6_firstGap_180 rfl ?_
              obtain ⟨q182_0, h⟩ := h
              refine a_iadd dX6_firstGap_182 q182_0 ?_
              refine a_icmp_ge dX6_firstGap_183 (tgt := 198) rfl (fun c183 => ?_) (fun c183 => ?_)
              · replace h := h.1 c183
                obtain ⟨q198_0, h⟩ := h
                refine a_iinc dX6_firstGap_198 rfl (Nat.le_of_ble_eq_true rfl) (by decide) q198_0 (ls' := [vR a0, vI x1, vI x2, vI x3, vI x4, vI x5, vI (x6 + 1), vI (ofM M x6 1), vI (ofM M x6 0), vI (M 4), vI (M 4)]) rfl ?_
                refine a_goto dX6_firstGap_201 (tgt := 36) rfl ?_
                exact a_weak (wk_e (wk_e (wk_e (wk_e (wk_e (wk_e (wk_e (wk_u (wk_u (wk_u (wk_u wk_n))))))))))) h
              · replace h := h.2 c183
                refine a_aload_n dX6_firstGap_186 rfl rfl ?_
                refine a_getR dX6_firstGap_187 fw_RX6_32 rfl rfl (kSta_0 hS.1) (rSta_0_5 hS.1) ?_
                refine a_iload dX6_firstGap_190 rfl ?_
                refine b_iald dX6_firstGap_192 (kSta_16 hS.1) (nSta_16 hS.1) q167_0 ?_
                refine a_iload dX6_firstGap_193 rfl ?_
                refine a_iadd dX6_firstGap_195 q182_0 ?_
                refine a_istore dX6_firstGap_196 (Nat.le_of_ble_eq_true rfl) (ls' := [vR a0, vI x1, vI x2, vI x3, vI ((hg H (a0 + 16) x6) + (M 4)), vI x5, vI x6, vI (ofM M x6 1), vI (ofM M x6 0), vI (M 4), vI (M 4)]) rfl ?_
                obtain ⟨q198_0, h⟩ := h
                refine a_iinc dX6_firstGap_198 rfl (Nat.le_of_ble_eq_true rfl) (by decide) q198_0 (ls' := [vR a0, vI x1, vI x2, vI x3, vI ((hg H (a0 + 16) x6) + (M 4)), vI x5, vI (x6 + 1), vI (ofM M x6 1), vI (ofM M x6 0), vI (M 4), vI (M 4)]) rfl ?_
                refine a_goto dX6_firstGap_201 (tgt := 36) rfl ?_
                exact a_weak (wk_e (wk_e (wk_e (wk_e (wk_e (wk_e (wk_e (wk_u (wk_u (wk_u (wk_u wk_n))))))))))) h
          · replace h := h.2 c127
            refine a_aload_n dX6_firstGap_130 rfl rfl ?_
            refine a_getR dX6_firstGap_131 fw_RX6_12 rfl rfl (kSta_0 hS.1) (rSta_0_0 hS.1) ?_
            refine a_getR dX6_firstGap_134 fw_RX6_103 rfl rfl (kSta_1 hS.1) (rSta_1_5 hS.1) ?_
            refine a_iload dX6_firstGap_137 rfl ?_
            refine a_iconst dX6_firstGap_139 ⟨by decide, by decide⟩ ?_
            obtain ⟨q140_0, h⟩ := h
            refine a_imul dX6_firstGap_140 q140_0 ?_
            refine a_iload_n dX6_firstGap_141 rfl rfl ?_
            obtain ⟨q142_0, h⟩ := h
            refine a_iadd dX6_firstGap_142 q142_0 ?_
            obtain ⟨q143_0, h⟩ := h
            refine b_ialdV dX6_firstGap_143 (kSta_2 hS.1) (nSta_2 hS.1) q143_0 (sk_2 hS q143_0) ?_
            refine a_goto dX6_firstGap_144 (tgt := 154) rfl ?_
            refine a_istore dX6_firstGap_154 (Nat.le_of_ble_eq_true rfl) (ls' := [vR a0, vI x1, vI x2, vI x3, vI x4, vI x5, vI x6, vI (ofM M x6 1), vI (ofM M x6 0), vI (M 4), vI (M (8 + (((ofM M x6 1) * 4) + x1)))]) rfl ?_
            refine a_iload dX6_firstGap_156 rfl ?_
            refine a_iload dX6_firstGap_158 rfl ?_
            obtain ⟨q160_0, h⟩ := h
            refine a_iadd dX6_firstGap_160 q160_0 ?_
            refine a_aload_n dX6_firstGap_161 rfl rfl ?_
            refine a_getR dX6_firstGap_162 fw_RX6_32 rfl rfl (kSta_0 hS.1) (rSta_0_5 hS.1) ?_
            refine a_iload dX6_firstGap_165 rfl ?_
            obtain ⟨q167_0, h⟩ := h
            refine b_iald dX6_firstGap_167 (kSta_16 hS.1) (nSta_16 hS.1) q167_0 ?_
            refine a_icmp_le dX6_firstGap_168 (tgt := 198) rfl (fun c168 => ?_) (fun c168 => ?_)
            · replace h := h.1 c168
              obtain ⟨q198_0, h⟩ := h
              refine a_iinc dX6_firstGap_198 rfl (Nat.le_of_ble_eq_true rfl) (by decide) q198_0 (ls' := [vR a0, vI x1, vI x2, vI x3, vI x4, vI x5, vI (x6 + 1), vI (ofM M x6 1), vI (ofM M x6 0), vI (M 4), vI (M (8 + (((ofM M x6 1) * 4) + x1)))]) rfl ?_
              refine a_goto dX6_firstGap_201 (tgt := 36) rfl ?_
              exact a_weak (wk_e (wk_e (wk_e (wk_e (wk_e (wk_e (wk_e (wk_u (wk_u (wk_u (wk_u wk_n))))))))))) h
            · replace h := h.2 c168
              refine a_iload dX6_firstGap_171 rfl ?_
              refine a_aload_n dX6_firstGap_173 rfl rfl ?_
              refine a_getR dX6_firstGap_174 fw_RX6_32 rfl rfl (kSta_0 hS.1) (rSta_0_5 hS.1) ?_
              refine a_iload dX6_firstGap_177 rfl ?_
              refine b_iald dX6_firstGap_179 (kSta_16 hS.1) (nSta_16 hS.1) q167_0 ?_
              refine a_iload dX6_firstGap_180 rfl ?_
              obtain ⟨q182_0, h⟩ := h
              refine a_iadd dX6_firstGap_182 q182_0 ?_
              refine a_icmp_ge dX6_firstGap_183 (tgt := 198) rfl (fun c183 => ?_) (fun c183 => ?_)
              · replace h := h.1 c183
                obtain ⟨q198_0, h⟩ := h
                refine a_iinc dX6_firstGap_198 rfl (Nat.le_of_ble_eq_true rfl) (by decide) q198_0 (ls' := [vR a0, vI x1, vI x2, vI x3, vI x4, vI x5, vI (x6 + 1), vI (ofM M x6 1), vI (ofM M x6 0), vI (M 4), vI (M (8 + (((ofM M x6 1) * 4) + x1)))]) rfl ?_
                refine a_goto dX6_firstGap_201 (tgt := 36) rfl ?_
                exact a_weak (wk_e (wk_e (wk_e (wk_e (wk_e (wk_e (wk_e (wk_u (wk_u (wk_u (wk_u wk_n))))))))))) h
              · replace h := h.2 c183
                refine a_aload_n dX6_firstGap_186 rfl rfl ?_
                refine a_getR dX6_firstGap_187 fw_RX6_32 rfl rfl (kSta_0 hS.1) (rSta_0_5 hS.1) ?_
                refine a_iload dX6_firstGap_190 rfl ?_
                refine b_iald dX6_firstGap_192 (kSta_16 hS.1) (nSta_16 hS.1) q167_0 ?_
                refine a_iload dX6_firstGap_193 rfl ?_
                refine a_iadd dX6_firstGap_195 q182_0 ?_
                refine a_istore dX6_firstGap_196 (Nat.le_of_ble_eq_true rfl) (ls' := [vR a0, vI x1, vI x2, vI x3, vI ((hg H (a0 + 16) x6) + (M (8 + (((ofM M x6 1) * 4) + x1)))), vI x5, vI x6, vI (ofM M x6 1), vI (ofM M x6 0), vI (M 4), vI (M (8 + (((ofM M x6 1) * 4) + x1)))]) rfl ?_
                obtain ⟨q198_0, h⟩ := h
                refine a_iinc dX6_firstGap_198 rfl (Nat.le_of_ble_eq_true rfl) (by decide) q198_0 (ls' := [vR a0, vI x1, vI x2, vI x3, vI ((hg H (a0 + 16) x6) + (M (8 + (((ofM M x6 1) * 4) + x1)))), vI x5, vI (x6 + 1), vI (ofM M x6 1), vI (ofM M x6 0), vI (M 4), vI (M (8 + (((ofM M x6 1) * 4) + x1)))]) rfl ?_
                refine a_goto dX6_firstGap_201 (tgt := 36) rfl ?_
                exact a_weak (wk_e (wk_e (wk_e (wk_e (wk_e (wk_e (wk_e (wk_u (wk_u (wk_u (wk_u wk_n))))))))))) h
        · replace h := h.2 c96
          refine a_aload_n dX6_firstGap_99 rfl rfl ?_
          refine a_getR dX6_firstGap_100 fw_RX6_12 rfl rfl (kSta_0 hS.1) (rSta_0_0 hS.1) ?_
          refine a_getR dX6_firstGap_103 fw_RX6_103 rfl rfl (kSta_1 hS.1) (rSta_1_5 hS.1) ?_
          refine a_iload_n dX6_firstGap_106 rfl rfl ?_
          refine a_iconst dX6_firstGap_107 ⟨by decide, by decide⟩ ?_
          obtain ⟨q108_0, h⟩ := h
          refine a_imul dX6_firstGap_108 q108_0 ?_
          refine a_iload dX6_firstGap_109 rfl ?_
          obtain ⟨q111_0, h⟩ := h
          refine a_iadd dX6_firstGap_111 q111_0 ?_
          obtain ⟨q112_0, h⟩ := h
          refine b_ialdV dX6_firstGap_112 (kSta_2 hS.1) (nSta_2 hS.1) q112_0 (sk_2 hS q112_0) ?_
          refine a_goto dX6_firstGap_113 (tgt := 123) rfl ?_
          refine a_istore dX6_firstGap_123 (Nat.le_of_ble_eq_true rfl) (ls' := [vR a0, vI x1, vI x2, vI x3, vI x4, vI x5, vI x6, vI (ofM M x6 1), vI (ofM M x6 0), vI (M (8 + ((x1 * 4) + (ofM M x6 1)))), vU]) rfl ?_
          refine a_iload dX6_firstGap_125 rfl ?_
          refine a_if_eq dX6_firstGap_127 (tgt := 147) rfl (fun c127 => ?_) (fun c127 => ?_)
          · replace h := h.1 c127
            refine a_aload_n dX6_firstGap_147 rfl rfl ?_
            refine a_getR dX6_firstGap_148 fw_RX6_12 rfl rfl (kSta_0 hS.1) (rSta_0_0 hS.1) ?_
            refine a_getIV dX6_firstGap_151 fw_RX6_100 rfl rfl (kSta_1 hS.1) (sk_1_1 hS) ?_
            refine a_istore dX6_firstGap_154 (Nat.le_of_ble_eq_true rfl) (ls' := [vR a0, vI x1, vI x2, vI x3, vI x4, vI x5, vI x6, vI (ofM M x6 1), vI (ofM M x6 0), vI (M (8 + ((x1 * 4) + (ofM M x6 1)))), vI (M 4)]) rfl ?_
            refine a_iload dX6_firstGap_156 rfl ?_
            refine a_iload dX6_firstGap_158 rfl ?_
            obtain ⟨q160_0, h⟩ := h
            refine a_iadd dX6_firstGap_160 q160_0 ?_
            refine a_aload_n dX6_firstGap_161 rfl rfl ?_
            refine a_getR dX6_firstGap_162 fw_RX6_32 rfl rfl (kSta_0 hS.1) (rSta_0_5 hS.1) ?_
            refine a_iload dX6_firstGap_165 rfl ?_
            obtain ⟨q167_0, h⟩ := h
            refine b_iald dX6_firstGap_167 (kSta_16 hS.1) (nSta_16 hS.1) q167_0 ?_
            refine a_icmp_le dX6_firstGap_168 (tgt := 198) rfl (fun c168 => ?_) (fun c168 => ?_)
            · replace h := h.1 c168
              obtain ⟨q198_0, h⟩ := h
              refine a_iinc dX6_firstGap_198 rfl (Nat.le_of_ble_eq_true rfl) (by decide) q198_0 (ls' := [vR a0, vI x1, vI x2, vI x3, vI x4, vI x5, vI (x6 + 1), vI (ofM M x6 1), vI (ofM M x6 0), vI (M (8 + ((x1 * 4) + (ofM M x6 1)))), vI (M 4)]) rfl ?_
              refine a_goto dX6_firstGap_201 (tgt := 36) rfl ?_
              exact a_weak (wk_e (wk_e (wk_e (wk_e (wk_e (wk_e (wk_e (wk_u (wk_u (wk_u (wk_u wk_n))))))))))) h
            · replace h := h.2 c168
              refine a_iload dX6_firstGap_171 rfl ?_
              refine a_aload_n dX6_firstGap_173 rfl rfl ?_
              refine a_getR dX6_firstGap_174 fw_RX6_32 rfl rfl (kSta_0 hS.1) (rSta_0_5 hS.1) ?_
              refine a_iload dX6_firstGap_177 rfl ?_
              refine b_iald dX6_firstGap_179 (kSta_16 hS.1) (nSta_16 hS.1) q167_0 ?_
              refine a_iload dX6_firstGap_180 rfl ?_
              obtain ⟨q182_0, h⟩ := h
              refine a_iadd dX6_firstGap_182 q182_0 ?_
              refine a_icmp_ge dX6_firstGap_183 (tgt := 198) rfl (fun c183 => ?_) (fun c183 => ?_)
              · replace h := h.1 c183
                obtain ⟨q198_0, h⟩ := h
                refine a_iinc dX6_firstGap_198 rfl (Nat.le_of_ble_eq_true rfl) (by decide) q198_0 (ls' := [vR a0, vI x1, vI x2, vI x3, vI x4, vI x5, vI (x6 + 1), vI (ofM M x6 1), vI (ofM M x6 0), vI (M (8 + ((x1 * 4) + (ofM M x6 1)))), vI (M 4)]) rfl ?_
                refine a_goto dX6_firstGap_201 (tgt := 36) rfl ?_
                exact a_weak (wk_e (wk_e (wk_e (wk_e (wk_e (wk_e (wk_e (wk_u (wk_u (wk_u (wk_u wk_n))))))))))) h
              · replace h := h.2 c183
                refine a_aload_n dX6_firstGap_186 rfl rfl ?_
                refine a_getR dX6_firstGap_187 fw_RX6_32 rfl rfl (kSta_0 hS.1) (rSta_0_5 hS.1) ?_
                refine a_iload dX6_firstGap_190 rfl ?_
                refine b_iald dX6_firstGap_192 (kSta_16 hS.1) (nSta_16 hS.1) q167_0 ?_
                refine a_iload dX6_firstGap_193 rfl ?_
                refine a_iadd dX6_firstGap_195 q182_0 ?_
                refine a_istore dX6_firstGap_196 (Nat.le_of_ble_eq_true rfl) (ls' := [vR a0, vI x1, vI x2, vI x3, vI ((hg H (a0 + 16) x6) + (M 4)), vI x5, vI x6, vI (ofM M x6 1), vI (ofM M x6 0), vI (M (8 + ((x1 * 4) + (ofM M x6 1)))), vI (M 4)]) rfl ?_
                obtain ⟨q198_0, h⟩ := h
                refine a_iinc dX6_firstGap_198 rfl (Nat.le_of_ble_eq_true rfl) (by decide) q198_0 (ls' := [vR a0, vI x1, vI x2, vI x3, vI ((hg H (a0 + 16) x6) + (M 4)), vI x5, vI (x6 + 1), vI (ofM M x6 1), vI (ofM M x6 0), vI (M (8 + ((x1 * 4) + (ofM M x6 1)))), vI (M 4)]) rfl ?_
                refine a_goto dX6_firstGap_201 (tgt := 36) rfl ?_
                exact a_weak (wk_e (wk_e (wk_e (wk_e (wk_e (wk_e (wk_e (wk_u (wk_u (wk_u (wk_u wk_n))))))))))) h
          · replace h := h.2 c127
            refine a_aload_n dX6_firstGap_130 rfl rfl ?_
            refine a_getR dX6_firstGap_131 fw_RX6_12 rfl rfl (kSta_0 hS.1) (rSta_0_0 hS.1) ?_
            refine a_getR dX6_firstGap_134 fw_RX6_103 rfl rfl (kSta_1 hS.1) (rSta_1_5 hS.1) ?_
            refine a_iload dX6_firstGap_137 rfl ?_
            refine a_iconst dX6_firstGap_139 ⟨by decide, by decide⟩ ?_
            obtain ⟨q140_0, h⟩ := h
            refine a_imul dX6_firstGap_140 q140_0 ?_
            refine a_iload_n dX6_firstGap_141 rfl rfl ?_
            obtain ⟨q142_0, h⟩ := h
            refine a_iadd dX6_firstGap_142 q142_0 ?_
            obtain ⟨q143_0, h⟩ := h
            refine b_ialdV dX6_firstGap_143 (kSta_2 hS.1) (nSta_2 hS.1) q143_0 (sk_2 hS q143_0) ?_
            refine a_goto dX6_firstGap_144 (tgt := 154) rfl ?_
            refine a_istore dX6_firstGap_154 (Nat.le_of_ble_eq_true rfl) (ls' := [vR a0, vI x1, vI x2, vI x3, vI x4, vI x5, vI x6, vI (ofM M x6 1), vI (ofM M x6 0), vI (M (8 + ((x1 * 4) + (ofM M x6 1)))), vI (M (8 + (((ofM M x6 1) * 4) + x1)))]) rfl ?_
            refine a_iload dX6_firstGap_156 rfl ?_
            refine a_iload dX6_firstGap_158 rfl ?_
            obtain ⟨q160_0, h⟩ := h
            refine a_iadd dX6_firstGap_160 q160_0 ?_
            refine a_aload_n dX6_firstGap_161 rfl rfl ?_
            refine a_getR dX6_firstGap_162 fw_RX6_32 rfl rfl (kSta_0 hS.1) (rSta_0_5 hS.1) ?_
            refine a_iload dX6_firstGap_165 rfl ?_
            obtain ⟨q167_0, h⟩ := h
            refine b_iald dX6_firstGap_167 (kSta_16 hS.1) (nSta_16 hS.1) q167_0 ?_
            refine a_icmp_le dX6_firstGap_168 (tgt := 198) rfl (fun c168 => ?_) (fun c168 => ?_)
            · replace h := h.1 c168
              obtain ⟨q198_0, h⟩ := h
              refine a_iinc dX6_firstGap_198 rfl (Nat.le_of_ble_eq_true rfl) (by decide) q198_0 (ls' := [vR a0, vI x1, vI x2, vI x3, vI x4, vI x5, vI (x6 + 1), vI (ofM M x6 1), vI (ofM M x6 0), vI (M (8 + ((x1 * 4) + (ofM M x6 1)))), vI (M (8 + (((ofM M x6 1) * 4) + x1)))]) rfl ?_
              refine a_goto dX6_firstGap_201 (tgt := 36) rfl ?_
              exact a_weak (wk_e (wk_e (wk_e (wk_e (wk_e (wk_e (wk_e (wk_u (wk_u (wk_u (wk_u wk_n))))))))))) h
            · replace h := h.2 c168
              refine a_iload dX6_firstGap_171 rfl ?_
              refine a_aload_n dX6_firstGap_173 rfl rfl ?_
              refine a_getR dX6_firstGap_174 fw_RX6_32 rfl rfl (kSta_0 hS.1) (rSta_0_5 hS.1) ?_
              refine a_iload dX6_firstGap_177 rfl ?_
              refine b_iald dX6_firstGap_179 (kSta_16 hS.1) (nSta_16 hS.1) q167_0 ?_
              refine a_iload dX6_firstGap_180 rfl ?_
              obtain ⟨q182_0, h⟩ := h
              refine a_iadd dX6_firstGap_182 q182_0 ?_
              refine a_icmp_ge dX6_firstGap_183 (tgt := 198) rfl (fun c183 => ?_) (fun c183 => ?_)
              · replace h := h.1 c183
                obtain ⟨q198_0, h⟩ := h
                refine a_iinc dX6_firstGap_198 rfl (Nat.le_of_ble_eq_true rfl) (by decide) q198_0 (ls' := [vR a0, vI x1, vI x2, vI x3, vI x4, vI x5, vI (x6 + 1), vI (ofM M x6 1), vI (ofM M x6 0), vI (M (8 + ((x1 * 4) + (ofM M x6 1)))), vI (M (8 + (((ofM M x6 1) * 4) + x1)))]) rfl ?_
                refine a_goto dX6_firstGap_201 (tgt := 36) rfl ?_
                exact a_weak (wk_e (wk_e (wk_e (wk_e (wk_e (wk_e (wk_e (wk_u (wk_u (wk_u (wk_u wk_n))))))))))) h
              · replace h := h.2 c183
                refine a_aload_n dX6_firstGap_186 rfl rfl ?_
                refine a_getR dX6_firstGap_187 fw_RX6_32 rfl rfl (kSta_0 hS.1) (rSta_0_5 hS.1) ?_
                refine a_iload dX6_firstGap_190 rfl ?_
                refine b_iald dX6_firstGap_192 (kSta_16 hS.1) (nSta_16 hS.1) q167_0 ?_
                refine a_iload dX6_firstGap_193 rfl ?_
                refine a_iadd dX6_firstGap_195 q182_0 ?_
                refine a_istore dX6_firstGap_196 (Nat.le_of_ble_eq_true rfl) (ls' := [vR a0, vI x1, vI x2, vI x3, vI ((hg H (a0 + 16) x6) + (M (8 + (((ofM M x6 1) * 4) + x1)))), vI x5, vI x6, vI (ofM M x6 1), vI (ofM M x6 0), vI (M (8 + ((x1 * 4) + (ofM M x6 1)))), vI (M (8 + (((ofM M x6 1) * 4) + x1)))]) rfl ?_
                obtain ⟨q198_0, h⟩ := h
                refine a_iinc dX6_firstGap_198 rfl (Nat.le_of_ble_eq_true rfl) (by decide) q198_0 (ls' := [vR a0, vI x1, vI x2, vI x3, vI ((hg H (a0 + 16) x6) + (M (8 + (((ofM M x6 1) * 4) + x1)))), vI x5, vI (x6 + 1), vI (ofM M x6 1), vI (ofM M x6 0), vI (M (8 + ((x1 * 4) + (ofM M x6 1)))), vI (M (8 + (((ofM M x6 1) * 4) + x1)))]) rfl ?_
                refine a_goto dX6_firstGap_201 (tgt := 36) rfl ?_
                exact a_weak (wk_e (wk_e (wk_e (wk_e (wk_e (wk_e (wk_e (wk_u (wk_u (wk_u (wk_u wk_n))))))))))) h

/-! the least free time -/
section
variable {M : Row} {c e r : Int}
noncomputable def nb (M : Row) (c f : Int) : Int := tmNow M f + apO M c f 1
abbrev onR (M : Row) (r f : Int) : Prop := ¬ ofM M f 7 = 3 ∧ ofM M f 6 = r
theorem fr_iff {t : Int} : frM M c t r ↔ ∀ k, k < (M 6).toNat → ¬ blk M c t r k := by
  constructor
  · intro h k hk q
    refine h ?_
    rw [freeN]
    have : ∀ n : Nat, k < n → ¬ fndP (blk M c t r) n = -1 := by
      intro n
      induction n with
      | zero => intro z; omega
      | succ n ih =>
        intro z
        rw [fndP]
        by_cases e : k = n
        · by_cases q2 : fndP (blk M c t r) n = -1
          · rw [if_pos q2, if_pos (pdec_t (by rw [← e]; exact q))]; omega
          · rw [if_neg q2]; exact q2
        · rw [if_neg (ih (by omega))]; exact ih (by omega)
    rw [if_neg (this _ hk)]
  · intro h q
    rw [freeN, fndP_none h, if_pos rfl] at q
    omega
theorem tiN_le0 (h : frM M c e r) : ∀ n, tiN M c e r n ≤ e
  | 0 => by rw [tiN, if_pos h]; exact Int.le_refl _
  | n + 1 => by
    have := tiN_le0 h n
    rw [tiN]
    split
    · rename_i q; have := q.2.1.2; omega
    · exact this
theorem tiN_le {k : Nat} (hr : onR M r k) (he : e ≤ nb M c k) (hf : frM M c (nb M c k) r) : ∀ n, k < n → tiN M c e r n ≤ nb M c k
  | 0, h => by omega
  | n + 1, h => by
    rw [tiN]
    by_cases q : k = n
    · subst q
      split
      · exact Int.le_refl _
      · rename_i z
        refine Decidable.byContradiction fun z2 => z ⟨hr, ⟨he, by unfold nb at z2; omega⟩, hf⟩
    · have := tiN_le hr he hf n (by omega)
      split
      · rename_i z; have := z.2.1.2; omega
      · exact this
theorem tiN_mem : ∀ n, tiN M c e r n = 2147483647 ∨ (e ≤ tiN M c e r n ∧ frM M c (tiN M c e r n) r)
  | 0 => by
    rw [tiN]
    split
    · exact Or.inr ⟨Int.le_refl _, by assumption⟩
    · exact Or.inl rfl
  | n + 1 => by
    rw [tiN]
    split
    · rename_i q; exact Or.inr ⟨q.2.1.1, q.2.2⟩
    · exact tiN_mem n
/-- how many lie in front -/
noncomputable def frC (M : Row) (c r t : Int) (n : Nat) : Int := sm (fun k => if onR M r k ∧ t < nb M c k then 1 else 0) n
theorem frC_s {t : Int} {n : Nat} : frC M c r t (n + 1) = frC M c r t n + (if onR M r n ∧ t < nb M c n then 1 else 0) := rfl
theorem frC_le {t t' : Int} (h : t ≤ t') : ∀ n, frC M c r t' n ≤ frC M c r t n
  | 0 => Int.le_refl _
  | n + 1 => by
    have := frC_le h n
    rw [frC_s, frC_s]
    have e : (if onR M r n ∧ t' < nb M c n then (1 : Int) else 0) ≤ (if onR M r n ∧ t < nb M c n then 1 else 0) := by
      by_cases q : onR M r n ∧ t' < nb M c n
      · rw [if_pos q, if_pos ⟨q.1, by have := q.2; omega⟩]; exact Int.le_refl _
      · rw [if_neg q]; split <;> omega
    omega
theorem frC_lt {t : Int} {k : Nat} (hr : onR M r k) (h : t < nb M c k) : ∀ n, k < n → frC M c r (nb M c k) n ≤ frC M c r t n - 1
  | 0, hn => by omega
  | n + 1, hn => by
    rw [frC_s, frC_s]
    by_cases e : k = n
    · subst e
      have := frC_le (M := M) (c := c) (r := r) (t := t) (t' := nb M c k) (by omega) k
      rw [if_neg (fun z : onR M r k ∧ nb M c k < nb M c k => by have := z.2; omega), if_pos (show onR M r k ∧ t < nb M c k from ⟨hr, h⟩)]
      omega
    · have ih := frC_lt hr h n (by omega)
      have e2 : (if onR M r n ∧ nb M c k < nb M c n then (1 : Int) else 0) ≤ (if onR M r n ∧ t < nb M c n then 1 else 0) := by
        by_cases q : onR M r n ∧ nb M c k < nb M c n
        · rw [if_pos q, if_pos ⟨q.1, by have := q.2; omega⟩]; exact Int.le_refl _
        · rw [if_neg q]; split <;> omega
      omega
theorem frC_0 {t : Int} (h : frC M c r t (M 6).toNat ≤ 0) : frM M c t r := by
  refine fr_iff.mpr fun k hk q => ?_
  have h1 := frC_lt (t := t) (k := k) q.1 q.2.1 (M 6).toNat hk
  have h2 : 0 ≤ frC M c r (nb M c k) (M 6).toNat := (sm01 (fun j _ => by split <;> omega)).1
  omega
/-- what holds of the time under way -/
def gpI (M : Row) (c e r t : Int) : Prop := (e ≤ t ∧ (t = e ∨ ∃ k : Nat, k < (M 6).toNat ∧ onR M r k ∧ t = nb M c k)) ∧ ∀ u, e ≤ u → frM M c u r → t ≤ u
theorem gp_push {t : Int} {k : Nat} (h : gpI M c e r t) (hk : k < (M 6).toNat) (q : blk M c t r k) : gpI M c e r (nb M c k) := by
  have q2 : t < nb M c k := q.2.1
  refine ⟨⟨by have := h.1.1; omega, Or.inr ⟨k, hk, q.1, rfl⟩⟩, fun u hu hf => ?_⟩
  have h1 := h.2 u hu hf
  refine Decidable.byContradiction fun z => fr_iff.mp hf k hk ⟨q.1, by unfold nb at z; omega, by have := q.2.2; omega⟩
theorem gp_end {t : Int} (h : gpI M c e r t) (hf : frM M c t r) (ht : t < 2147483647) : tiN M c e r (M 6).toNat = t := by
  have h1 : tiN M c e r (M 6).toNat ≤ t := by
    rcases h.1.2 with q | ⟨k, hk, hr, q⟩
    · rw [q] at hf ⊢; exact tiN_le0 hf _
    · rw [q] at hf ⊢; exact tiN_le hr (by rw [← q]; exact h.1.1) hf _ hk
  rcases tiN_mem (M := M) (c := c) (e := e) (r := r) (M 6).toNat with q | q
  · omega
  · have := h.2 _ q.1 q.2
    omega
end
theorem k_firstGap {l : Launch} {G : GT} {d : Nat} {H : AH} {b : Int} {M : Row} {c e r : Int} (hS : SK H b M) (hT : ST H b M) (hr : rl M r) (hF : Frs H b M r) (hc : 0 ≤ c ∧ c ≤ 3) (he : 0 ≤ e ∧ e ≤ 200000) : CL l G mX6_firstGap d 0 0 [vR b, vI c, vI e, vI r] H (PQ (vI (tiN M c (max (M 0) e) r (M 6).toNat)) H) := by
  have hM := hS.2.1
  have hn := okM_n hM
  have h0 := hM.1.1
  have h4 := hM.1.2.2.2.2.1
  have bnd : ∀ t, gpI M c (max (M 0) e) r t → 0 ≤ t ∧ t ≤ 400000 := by
    intro t h
    rcases h.1.2 with q | ⟨k, hk, hr, q⟩
    · omega
    · have hkf : fl M k := ⟨by omega, by omega⟩
      have t1 := tmNow_in hM hkf hr.1
      have a1 := apO_in hM (s := 1) hc hkf
      unfold nb at q
      omega
  -- a round
  have rnd : ∀ (x5 t0 : Int) (Q : AV → AH → Prop), (∀ t, gpI M c (max (M 0) e) r t → (frM M c t0 r → t = t0) → (¬ frM M c t0 r → frC M c r t (M 6).toNat ≤ frC M c r t0 (M 6).toNat - 1) → (-2147483648 ≤ x5 + 1 ∧ x5 + 1 ≤ 2147483647) ∧ AW l G mX6_firstGap d 0 0 Q 21 [vR b, vI c, vI e, vI r, vI t, vI (x5 + 1), vU, vU, vU, vU, vU] [] 0 0 H) →
      ∀ j, j ≤ (M 6).toNat → ∀ t, gpI M c (max (M 0) e) r t → (frM M c t0 r → t = t0) → (t = t0 ∨ frC M c r t (M 6).toNat ≤ frC M c r t0 (M 6).toNat - 1) → (t = t0 → ∀ k, k < j → ¬ blk M c t0 r k) → AW l G mX6_firstGap d 0 0 Q 36 [vR b, vI c, vI e, vI r, vI t, vI x5, vI j, vU, vU, vU, vU] [] 0 0 H := by
    intro x5 t0 Q goal
    refine upN _ ?_ ?_
    · intro j hj ih t ht hfr hor hno
      have hjf : fl M j := ⟨by omega, by omega⟩
      have hb := bnd t ht
      obtain ⟨c1, -, -⟩ := okF_123 hM hjf
      have w1 := okM_wk hM c1 hc
      have w2 := okM_wk hM hc c1
      have e1 : 8 + (ofM M j 1 * 4 + c) = 8 + 4 * ofM M j 1 + c := by omega
      have e2 : 8 + (c * 4 + ofM M j 1) = 8 + 4 * c + ofM M j 1 := by omega
      have no : ¬ blk M c t r j → AW l G mX6_firstGap d 0 0 Q 36 [vR b, vI c, vI e, vI r, vI t, vI x5, vI (j + 1), vU, vU, vU, vU] [] 0 0 H := fun z => ih t ht hfr hor (fun et k hk q => by
        by_cases hkj : k = j
        · subst hkj; rw [← et] at q; exact z q
        · exact hno et k (by omega) q)
      have yes : ∀ y, y = nb M c j → blk M c t r j → AW l G mX6_firstGap d 0 0 Q 36 [vR b, vI c, vI e, vI r, vI y, vI x5, vI (j + 1), vU, vU, vU, vU] [] 0 0 H := fun y hy z => by
        subst hy
        have zt : t < nb M c j := z.2.1
        have d1 := frC_lt (t := t) (k := j) z.1 zt (M 6).toNat hj
        have d2 : frC M c r (nb M c j) (M 6).toNat ≤ frC M c r t0 (M 6).toNat - 1 := by
          rcases hor with q | q
          · rw [← q]; exact d1
          · omega
        refine ih (nb M c j) (gp_push ht hj z) (fun q => ?_) (Or.inr d2) (fun et => ?_)
        · have := hfr q
          rw [this] at z
          exact absurd z (fr_iff.mp q j hj)
        · rw [et] at d2
          omega
      refine s_X6_firstGap_36 hS ⟨fun q => absurd q (by omega), fun _ => ⟨hjf, fun q => ⟨by omega, no (fun z => q z.1.2)⟩, fun q => ⟨fun q2 => ⟨by omega, no (fun z => z.1.1 q2)⟩, fun q2 => ?_⟩⟩⟩
      have tj := tmNow_in hM hjf q2
      have hFj : Frs H b M (ofM M j 6) := by rw [q]; exact hF
      rw [frs_now hM hT hFj hjf q2, e1, e2]
      have bl : ∀ x y, apO M c j 0 = x → apO M c j 1 = y → (blk M c t r j ↔ tmNow M j < t + x ∧ t < tmNow M j + y) := fun x y hx hy => by
        unfold blk
        rw [hx, hy]
        exact ⟨fun z => ⟨z.2.2, z.2.1⟩, fun z => ⟨⟨q2, q⟩, z.2, z.1⟩⟩
      refine ⟨fun a0 => ⟨fun _ => ?_, fun z => absurd a0 z⟩, fun a0 => ⟨by omega, by omega, by omega, fun z => absurd z a0, fun _ => ?_⟩⟩
      · have x0 : apO M c j 0 = M 4 := by rw [apO, if_pos a0]
        have x1 : apO M c j 1 = M 4 := by rw [apO, if_pos a0]
        have b9 := bl _ _ x0 x1
        refine ⟨by omega, by omega, fun q3 => ⟨by omega, no (fun z => by have := b9.mp z; omega)⟩, fun q3 => ⟨by omega, fun q4 => ⟨by omega, no (fun z => by have := b9.mp z; omega)⟩, fun q4 => ⟨by omega, yes _ (by rw [nb, x1]) (b9.mpr ⟨q3, q4⟩)⟩⟩⟩
      · have x0 : apO M c j 0 = M (8 + 4 * c + ofM M j 1) := by rw [apO, if_neg a0, if_pos rfl]
        have x1 : apO M c j 1 = M (8 + 4 * ofM M j 1 + c) := by rw [apO, if_neg a0, if_neg (by omega)]
        have b9 := bl _ _ x0 x1
        refine ⟨by omega, by omega, by omega, by omega, by omega, fun q3 => ⟨by omega, no (fun z => by have := b9.mp z; omega)⟩, fun q3 => ⟨by omega, fun q4 => ⟨by omega, no (fun z => by have := b9.mp z; omega)⟩, fun q4 => ⟨by omega, yes _ (by rw [nb, x1]) (b9.mpr ⟨q3, q4⟩)⟩⟩⟩
    · intro t ht hfr hor hno
      refine s_X6_firstGap_36 hS ⟨fun _ => goal t ht hfr (fun nf => ?_), fun q => absurd q (by omega)⟩
      rcases hor with q | q
      · exact absurd (fr_iff.mpr (hno q)) nf
      · exact q
  have key : ∀ j, j ≤ (M 6).toNat → ∀ t, gpI M c (max (M 0) e) r t → (frM M c t r ∨ frC M c r t (M 6).toNat ≤ (M 6).toNat - j) → AW l G mX6_firstGap d 0 0 (PQ (vI (tiN M c (max (M 0) e) r (M 6).toNat)) H) 21 [vR b, vI c, vI e, vI r, vI t, vI j, vU, vU, vU, vU, vU] [] 0 0 H := by
    refine upN _ ?_ ?_
    · intro j hj ih t ht hor
      refine s_X6_firstGap_21 hS ⟨fun q => absurd q (by omega), fun _ => ?_⟩
      refine rnd j t _ (fun t' ht' h1 h2 => ⟨by omega, ih t' ht' ?_⟩) 0 (Nat.zero_le _) t ht (fun _ => rfl) (Or.inl rfl) (fun _ k hk => by omega)
      by_cases q : frM M c t r
      · rw [h1 q]; exact Or.inl q
      · have := h2 q
        rcases hor with z | z
        · exact absurd z q
        · exact Or.inr (by omega)
    · intro t ht hor
      have hb := bnd t ht
      have hf : frM M c t r := by
        rcases hor with z | z
        · exact z
        · exact frC_0 (by omega)
      exact s_X6_firstGap_21 hS ⟨fun _ => ⟨by rw [gp_end ht hf (by omega)], rfl⟩, fun q => absurd q (by omega)⟩
  have st : gpI M c (max (M 0) e) r (max (M 0) e) := ⟨⟨Int.le_refl _, Or.inl rfl⟩, fun u hu _ => hu⟩
  have k0 := key 0 (Nat.zero_le _) _ st (Or.inr (by
    have : frC M c r (max (M 0) e) (M 6).toNat ≤ (M 6).toNat := (sm01 (fun j _ => by split <;> omega)).2
    omega))
  refine CL.of (by decide) rfl (Nat.le_of_ble_eq_true rfl) (s_X6_firstGap_0 hS ⟨fun q => ?_, fun q => ?_⟩)
  · rw [show max (M 0) e = M 0 by omega] at k0
    rw [show max (M 0) e = M 0 by omega]
    exact k0
  · rw [show max (M 0) e = e by omega] at k0
    rw [show max (M 0) e = e by omega]
    exact k0

