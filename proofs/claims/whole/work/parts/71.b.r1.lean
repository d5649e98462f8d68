theorem dX1_wordIs_0 : decode cX1_wordIs 0 = .ok (.aload_n 0, 1) := by decide +kernel
theorem dX1_wordIs_1 : decode cX1_wordIs 1 = .ok (.getfield 15, 3) := by decide +kernel
theorem dX1_wordIs_4 : decode cX1_wordIs 4 = .ok (.aload_n 0, 1) := by decide +kernel
theorem dX1_wordIs_5 : decode cX1_wordIs 5 = .ok (.getfield 31, 3) := by decide +kernel
theorem dX1_wordIs_8 : decode cX1_wordIs 8 = .ok (.isub, 1) := by decide +kernel
theorem dX1_wordIs_9 : decode cX1_wordIs 9 = .ok (.aload_n 1, 1) := by decide +kernel
theorem dX1_wordIs_10 : decode cX1_wordIs 10 = .ok (.invokevirtual 58, 3) := by decide +kernel
theorem dX1_wordIs_13 : decode cX1_wordIs 13 = .ok (.if_icmp .eq 5, 3) := by decide +kernel
theorem dX1_wordIs_16 : decode cX1_wordIs 16 = .ok (.iconst 0, 1) := by decide +kernel
theorem dX1_wordIs_17 : decode cX1_wordIs 17 = .ok (.ireturn, 1) := by decide +kernel
theorem dX1_wordIs_18 : decode cX1_wordIs 18 = .ok (.iconst 0, 1) := by decide +kernel
theorem dX1_wordIs_19 : decode cX1_wordIs 19 = .ok (.istore_n 2, 1) := by decide +kernel
theorem dX1_wordIs_20 : decode cX1_wordIs 20 = .ok (.iload_n 2, 1) := by decide +kernel
theorem dX1_wordIs_21 : decode cX1_wordIs 21 = .ok (.aload_n 1, 1) := by decide +kernel
theorem dX1_wordIs_22 : decode cX1_wordIs 22 = .ok (.invokevirtual 58, 3) := by decide +kernel
theorem dX1_wordIs_25 : decode cX1_wordIs 25 = .ok (.if_icmp .ge 30, 3) := by decide +kernel
theorem dX1_wordIs_28 : decode cX1_wordIs 28 = .ok (.aload_n 0, 1) := by decide +kernel
theorem dX1_wordIs_29 : decode cX1_wordIs 29 = .ok (.getfield 9, 3) := by decide +kernel
theorem dX1_wordIs_32 : decode cX1_wordIs 32 = .ok (.aload_n 0, 1) := by decide +kernel
theorem dX1_wordIs_33 : decode cX1_wordIs 33 = .ok (.getfield 31, 3) := by decide +kernel
theorem dX1_wordIs_36 : decode cX1_wordIs 36 = .ok (.iload_n 2, 1) := by decide +kernel
theorem dX1_wordIs_37 : decode cX1_wordIs 37 = .ok (.iadd, 1) := by decide +kernel
theorem dX1_wordIs_38 : decode cX1_wordIs 38 = .ok (.iaload, 1) := by decide +kernel
theorem dX1_wordIs_39 : decode cX1_wordIs 39 = .ok (.aload_n 1, 1) := by decide +kernel
theorem dX1_wordIs_40 : decode cX1_wordIs 40 = .ok (.iload_n 2, 1) := by decide +kernel
theorem dX1_wordIs_41 : decode cX1_wordIs 41 = .ok (.invokevirtual 63, 3) := by decide +kernel
theorem dX1_wordIs_44 : decode cX1_wordIs 44 = .ok (.if_icmp .eq 5, 3) := by decide +kernel
theorem dX1_wordIs_47 : decode cX1_wordIs 47 = .ok (.iconst 0, 1) := by decide +kernel
theorem dX1_wordIs_48 : decode cX1_wordIs 48 = .ok (.ireturn, 1) := by decide +kernel
theorem dX1_wordIs_49 : decode cX1_wordIs 49 = .ok (.iinc 2 1, 3) := by decide +kernel
theorem dX1_wordIs_52 : decode cX1_wordIs 52 = .ok (.goto (-32), 3) := by decide +kernel
theorem dX1_wordIs_55 : decode cX1_wordIs 55 = .ok (.iconst 1, 1) := by decide +kernel
theorem dX1_wordIs_56 : decode cX1_wordIs 56 = .ok (.ireturn, 1) := by decide +kernel
set_option maxRecDepth 20000 in
theorem s_X1_wordIs_0 {l : Launch} {G : GT} {d : Nat} {Q : AV → AH → Prop} {H : AH} {a0 : Int} {q0 t0 : Nat} {bs : List Int32} (hgs : gS G q0 t0 bs) (hgc : gC G) (hbs : bs.length < 1000) (h_r0 : Lay LRun H a0) (h : (-2147483648 ≤ (hg H (a0 + 1) 2) - (hg H (a0 + 1) 3) ∧ (hg H (a0 + 1) 2) - (hg H (a0 + 1) 3) ≤ 2147483647) ∧ (((hg H (a0 + 1) 2) - (hg H (a0 + 1) 3)) = (bs.length : Int) → AW l G mX1_wordIs (d + 1) 0 0 Q 20 [vR (a0 + 1), vX q0, vI 0] [] 0 0 H) ∧ (¬ ((hg H (a0 + 1) 2) - (hg H (a0 + 1) 3)) = (bs.length : Int) → Q (vI 0) H)) (hd : 3 ≤ d := by omega) : AW l G mX1_wordIs (d + 1) 0 0 Q 0 [vR (a0 + 1), vX q0, vU] [] 0 0 H := by
  refine a_aload_n dX1_wordIs_0 rfl rfl ?_
  refine a_getI dX1_wordIs_1 fw_RX1_15 rfl rfl (kRun_1 h_r0) ?_
  refine a_aload_n dX1_wordIs_4 rfl rfl ?_
  refine a_getI dX1_wordIs_5 fw_RX1_31 rfl rfl (kRun_1 h_r0) ?_
  obtain ⟨q8_0, h⟩ := h
  refine a_isub dX1_wordIs_8 q8_0 ?_
  refine a_xload_n dX1_wordIs_9 rfl rfl ?_
  refine a_callX hgs dX1_wordIs_10 cx_X1_wordIs_10 (as := []) rfl rfl (Nat.le_refl _) (Nat.le_of_ble_eq_true rfl) (nocov rfl) (Nat.le_of_ble_eq_true rfl) (Nat.le_of_ble_eq_true rfl) (CL.mono (q_length hgs hgc hbs) (fun r9 H9 h9 => ?_))
  rw [h9.1, h9.2]
  show AW l G mX1_wordIs (d + 1) 0 0 Q 13 [vR (a0 + 1), vX q0, vU] [vI (bs.length : Int), vI ((hg H (a0 + 1) 2) - (hg H (a0 + 1) 3))] 0 0 H
  refine a_icmp_eq dX1_wordIs_13 (tgt := 18) rfl (fun c13 => ?_) (fun c13 => ?_)
  · replace h := h.1 c13
    refine a_iconst dX1_wordIs_18 ⟨by decide, by decide⟩ ?_
    refine a_istore_n dX1_wordIs_19 rfl (Nat.le_of_ble_eq_true rfl) (ls' := [vR (a0 + 1), vX q0, vI 0]) rfl ?_
    exact h
  · replace h := h.2 c13
    refine a_iconst dX1_wordIs_16 ⟨by decide, by decide⟩ ?_
    exact a_zret dX1_wordIs_17 rfl (by decide) (Nat.le_of_ble_eq_true rfl) (Nat.le_of_ble_eq_true rfl) h

set_option maxRecDepth 20000 in
theorem s_X1_wordIs_20 {l : Launch} {G : GT} {d : Nat} {Q : AV → AH → Prop} {H : AH} {a0 x2 : Int} {q0 t0 : Nat} {bs : List Int32} (hgs : gS G q0 t0 bs) (hgc : gC G) (hbs : bs.length < 1000) (h_r0 : Lay LRun H a0) (h : ((bs.length : Int) ≤ x2 → Q (vI 1) H) ∧ (x2 < (bs.length : Int) → (-2147483648 ≤ (hg H (a0 + 1) 3) + x2 ∧ (hg H (a0 + 1) 3) + x2 ≤ 2147483647) ∧ (0 ≤ ((hg H (a0 + 1) 3) + x2) ∧ ((hg H (a0 + 1) 3) + x2) < 900) ∧ (0 ≤ x2 ∧ x2 < (bs.length : Int)) ∧ ((hg H (a0 + 2) ((hg H (a0 + 1) 3) + x2)) = ((bs.getD (x2).toNat 0).toInt % 256) → (-2147483648 ≤ x2 + 1 ∧ x2 + 1 ≤ 2147483647) ∧ AW l G mX1_wordIs (d + 1) 0 0 Q 20 [vR (a0 + 1), vX q0, vI (x2 + 1)] [] 0 0 H) ∧ (¬ (hg H (a0 + 2) ((hg H (a0 + 1) 3) + x2)) = ((bs.getD (x2).toNat 0).toInt % 256) → Q (vI 0) H))) (hd : 3 ≤ d := by omega) : AW l G mX1_wordIs (d + 1) 0 0 Q 20 [vR (a0 + 1), vX q0, vI x2] [] 0 0 H := by
  refine a_iload_n dX1_wordIs_20 rfl rfl ?_
  refine a_xload_n dX1_wordIs_21 rfl rfl ?_
  refine a_callX hgs dX1_wordIs_22 cx_X1_wordIs_22 (as := []) rfl rfl (Nat.le_refl _) (Nat.le_of_ble_eq_true rfl) (nocov rfl) (Nat.le_of_ble_eq_true rfl) (Nat.le_of_ble_eq_true rfl) (CL.mono (q_length hgs hgc hbs) (fun r9 H9 h9 => ?_))
  rw [h9.1, h9.2]
  show AW l G mX1_wordIs (d + 1) 0 0 Q 25 [vR (a0 + 1), vX q0, vI x2] [vI (bs.length : Int), vI x2] 0 0 H
  refine a_icmp_ge dX1_wordIs_25 (tgt := 55) rfl (fun c25 => ?_) (fun c25 => ?_)
  · replace h := h.1 c25
    refine a_iconst dX1_wordIs_55 ⟨by decide, by decide⟩ ?_
    exact a_zret dX1_wordIs_56 rfl (by decide) (Nat.le_of_ble_eq_true rfl) (Nat.le_of_ble_eq_true rfl) h
  · replace h := h.2 c25
    refine a_aload_n dX1_wordIs_28 rfl rfl ?_
    refine a_getR dX1_wordIs_29 fw_RX1_9 rfl rfl (kRun_1 h_r0) (rRun_1_0 h_r0) ?_
    refine a_aload_n dX1_wordIs_32 rfl rfl ?_
    refine a_getI dX1_wordIs_33 fw_RX1_31 rfl rfl (kRun_1 h_r0) ?_
    refine a_iload_n dX1_wordIs_36 rfl rfl ?_
    obtain ⟨q37_0, h⟩ := h
    refine a_iadd dX1_wordIs_37 q37_0 ?_
    obtain ⟨q38_0, h⟩ := h
    refine b_iald dX1_wordIs_38 (kRun_2 h_r0) (nRun_2 h_r0) q38_0 ?_
    refine a_xload_n dX1_wordIs_39 rfl rfl ?_
    refine a_iload_n dX1_wordIs_40 rfl rfl ?_
    obtain ⟨q41_0, h⟩ := h
    refine a_callX hgs dX1_wordIs_41 cx_X1_wordIs_41 (as := [vI x2]) rfl rfl (Nat.le_refl _) (Nat.le_of_ble_eq_true rfl) (nocov rfl) (Nat.le_of_ble_eq_true rfl) (Nat.le_of_ble_eq_true rfl) (CL.mono (q_charAt hgs hgc hbs q41_0) (fun r9 H9 h9 => ?_))
    rw [h9.1, h9.2]
    show AW l G mX1_wordIs (d + 1) 0 0 Q 44 [vR (a0 + 1), vX q0, vI x2] [vI ((bs.getD (x2).toNat 0).toInt % 256), vI (hg H (a0 + 2) ((hg H (a0 + 1) 3) + x2))] 0 0 H
    refine a_icmp_eq dX1_wordIs_44 (tgt := 49) rfl (fun c44 => ?_) (fun c44 => ?_)
    · replace h := h.1 c44
      obtain ⟨q49_0, h⟩ := h
      refine a_iinc dX1_wordIs_49 rfl (Nat.le_of_ble_eq_true rfl) (by decide) q49_0 (ls' := [vR (a0 + 1), vX q0, vI (x2 + 1)]) rfl ?_
      refine a_goto dX1_wordIs_52 (tgt := 20) rfl ?_
      exact h
    · replace h := h.2 c44
      refine a_iconst dX1_wordIs_47 ⟨by decide, by decide⟩ ?_
      exact a_zret dX1_wordIs_48 rfl (by decide) (Nat.le_of_ble_eq_true rfl) (Nat.le_of_ble_eq_true rfl) h


theorem dX8_isWord_0 : decode cX8_isWord 0 = .ok (.aload_n 0, 1) := by decide +kernel
theorem dX8_isWord_1 : decode cX8_isWord 1 = .ok (.getfield 85, 3) := by decide +kernel
theorem dX8_isWord_4 : decode cX8_isWord 4 = .ok (.aload_n 0, 1) := by decide +kernel
theorem dX8_isWord_5 : decode cX8_isWord 5 = .ok (.getfield 91, 3) := by decide +kernel
theorem dX8_isWord_8 : decode cX8_isWord 8 = .ok (.isub, 1) := by decide +kernel
theorem dX8_isWord_9 : decode cX8_isWord 9 = .ok (.aload_n 1, 1) := by decide +kernel
theorem dX8_isWord_10 : decode cX8_isWord 10 = .ok (.invokevirtual 103, 3) := by decide +kernel
theorem dX8_isWord_13 : decode cX8_isWord 13 = .ok (.if_icmp .ne 7, 3) := by decide +kernel
theorem dX8_isWord_16 : decode cX8_isWord 16 = .ok (.iconst 1, 1) := by decide +kernel
theorem dX8_isWord_17 : decode cX8_isWord 17 = .ok (.goto 4, 3) := by decide +kernel
theorem dX8_isWord_20 : decode cX8_isWord 20 = .ok (.iconst 0, 1) := by decide +kernel
theorem dX8_isWord_21 : decode cX8_isWord 21 = .ok (.istore_n 2, 1) := by decide +kernel
theorem dX8_isWord_22 : decode cX8_isWord 22 = .ok (.iconst 0, 1) := by decide +kernel
theorem dX8_isWord_23 : decode cX8_isWord 23 = .ok (.istore_n 3, 1) := by decide +kernel
theorem dX8_isWord_24 : decode cX8_isWord 24 = .ok (.iload_n 2, 1) := by decide +kernel
theorem dX8_isWord_25 : decode cX8_isWord 25 = .ok (.ifCond .eq 42, 3) := by decide +kernel
theorem dX8_isWord_28 : decode cX8_isWord 28 = .ok (.iload_n 3, 1) := by decide +kernel
theorem dX8_isWord_29 : decode cX8_isWord 29 = .ok (.aload_n 1, 1) := by decide +kernel
theorem dX8_isWord_30 : decode cX8_isWord 30 = .ok (.invokevirtual 103, 3) := by decide +kernel
theorem dX8_isWord_33 : decode cX8_isWord 33 = .ok (.if_icmp .ge 34, 3) := by decide +kernel
theorem dX8_isWord_36 : decode cX8_isWord 36 = .ok (.aload_n 0, 1) := by decide +kernel
theorem dX8_isWord_37 : decode cX8_isWord 37 = .ok (.getfield 26, 3) := by decide +kernel
theorem dX8_isWord_40 : decode cX8_isWord 40 = .ok (.aload_n 0, 1) := by decide +kernel
theorem dX8_isWord_41 : decode cX8_isWord 41 = .ok (.getfield 91, 3) := by decide +kernel
theorem dX8_isWord_44 : decode cX8_isWord 44 = .ok (.iload_n 3, 1) := by decide +kernel
theorem dX8_isWord_45 : decode cX8_isWord 45 = .ok (.iadd, 1) := by decide +kernel
theorem dX8_isWord_46 : decode cX8_isWord 46 = .ok (.baload, 1) := by decide +kernel
theorem dX8_isWord_47 : decode cX8_isWord 47 = .ok (.aload_n 1, 1) := by decide +kernel
theorem dX8_isWord_48 : decode cX8_isWord 48 = .ok (.iload_n 3, 1) := by decide +kernel
theorem dX8_isWord_49 : decode cX8_isWord 49 = .ok (.invokevirtual 107, 3) := by decide +kernel
theorem dX8_isWord_52 : decode cX8_isWord 52 = .ok (.if_icmp .ne 7, 3) := by decide +kernel
theorem dX8_isWord_55 : decode cX8_isWord 55 = .ok (.iconst 1, 1) := by decide +kernel
theorem dX8_isWord_56 : decode cX8_isWord 56 = .ok (.goto 4, 3) := by decide +kernel
theorem dX8_isWord_59 : decode cX8_isWord 59 = .ok (.iconst 0, 1) := by decide +kernel
theorem dX8_isWord_60 : decode cX8_isWord 60 = .ok (.istore_n 2, 1) := by decide +kernel
theorem dX8_isWord_61 : decode cX8_isWord 61 = .ok (.iinc 3 1, 3) := by decide +kernel
theorem dX8_isWord_64 : decode cX8_isWord 64 = .ok (.goto (-40), 3) := by decide +kernel
theorem dX8_isWord_67 : decode cX8_isWord 67 = .ok (.iload_n 2, 1) := by decide +kernel
theorem dX8_isWord_68 : decode cX8_isWord 68 = .ok (.ireturn, 1) := by decide +kernel
set_option maxRecDepth 20000 in
theorem s_X8_isWord_0 {l : Launch} {G : GT} {d : Nat} {Q : AV → AH → Prop} {H : AH} {a0 : Int} {q0 t0 : Nat} {bs : List Int32} (hgs : gS G q0 t0 bs) (hgc : gC G) (hbs : bs.length < 1000) (h_r0 : Lay LMod H a0) (h : (-2147483648 ≤ (hg H a0 8) - (hg H a0 9) ∧ (hg H a0 8) - (hg H a0 9) ≤ 2147483647) ∧ (¬ ((hg H a0 8) - (hg H a0 9)) = (bs.length : Int) → AW l G mX8_isWord (d + 1) 0 0 Q 24 [vR a0, vX q0, vI 0, vI 0] [] 0 0 H) ∧ (((hg H a0 8) - (hg H a0 9)) = (bs.length : Int) → AW l G mX8_isWord (d + 1) 0 0 Q 24 [vR a0, vX q0, vI 1, vI 0] [] 0 0 H)) (hd : 3 ≤ d := by omega) : AW l G mX8_isWord (d + 1) 0 0 Q 0 [vR a0, vX q0, vU, vU] [] 0 0 H := by
  refine a_aload_n dX8_isWord_0 rfl rfl ?_
  refine a_getI dX8_isWord_1 fw_RX8_85 rfl rfl (kMod_0 h_r0) ?_
  refine a_aload_n dX8_isWord_4 rfl rfl ?_
  refine a_getI dX8_isWord_5 fw_RX8_91 rfl rfl (kMod_0 h_r0) ?_
  obtain ⟨q8_0, h⟩ := h
  refine a_isub dX8_isWord_8 q8_0 ?_
  refine a_xload_n dX8_isWord_9 rfl rfl ?_
  refine a_callX hgs dX8_isWord_10 cx_X8_isWord_10 (as := []) rfl rfl (Nat.le_refl _) (Nat.le_of_ble_eq_true rfl) (nocov rfl) (Nat.le_of_ble_eq_true rfl) (Nat.le_of_ble_eq_true rfl) (CL.mono (q_length hgs hgc hbs) (fun r9 H9 h9 => ?_))
  rw [h9.1, h9.2]
  show AW l G mX8_isWord (d + 1) 0 0 Q 13 [vR a0, vX q0, vU, vU] [vI (bs.length : Int), vI ((hg H a0 8) - (hg H a0 9))] 0 0 H
  refine a_icmp_ne dX8_isWord_13 (tgt := 20) rfl (fun c13 => ?_) (fun c13 => ?_)
  · replace h := h.1 c13
    refine a_iconst dX8_isWord_20 ⟨by decide, by decide⟩ ?_
    refine a_istore_n dX8_isWord_21 rfl (Nat.le_of_ble_eq_true rfl) (ls' := [vR a0, vX q0, vI 0, vU]) rfl ?_
    refine a_iconst dX8_isWord_22 ⟨by decide, by decide⟩ ?_
    refine a_istore_n dX8_isWord_23 rfl (Nat.le_of_ble_eq_true rfl) (ls' := [vR a0, vX q0, vI 0, vI 0]) rfl ?_
    exact h
  · replace h := h.2 c13
    refine a_iconst dX8_isWord_16 ⟨by decide, by decide⟩ ?_
    refine a_goto dX8_isWord_17 (tgt := 21) rfl ?_
    refine a_istore_n dX8_isWord_21 rfl (Nat.le_of_ble_eq_true rfl) (ls' := [vR a0, vX q0, vI 1, vU]) rfl ?_
    refine a_iconst dX8_isWord_22 ⟨by decide, by decide⟩ ?_
    refine a_istore_n dX8_isWord_23 rfl (Nat.le_of_ble_eq_true rfl) (ls' := [vR a0, vX q0, vI 1, vI 0]) rfl ?_
    exact h

set_option maxRecDepth 20000 in
theorem s_X8_isWord_24 {l : Launch} {G : GT} {d : Nat} {Q : AV → AH → Prop} {H : AH} {a0 x2 x3 : Int} {q0 t0 : Nat} {bs : List Int32} (hgs : gS G q0 t0 bs) (hgc : gC G) (hbs : bs.length < 1000) (h_r0 : Lay LMod H a0) (h : (x2 = 0 → (x2 = 0 ∨ x2 = 1) ∧ Q (vI x2) H) ∧ (¬ x2 = 0 → ((bs.length : Int) ≤ x3 → (x2 = 0 ∨ x2 = 1) ∧ Q (vI x2) H) ∧ (x3 < (bs.length : Int) → (-2147483648 ≤ (hg H a0 9) + x3 ∧ (hg H a0 9) + x3 ≤ 2147483647) ∧ (0 ≤ ((hg H a0 9) + x3) ∧ ((hg H a0 9) + x3) < 900) ∧ (0 ≤ x3 ∧ x3 < (bs.length : Int)) ∧ (¬ (hg H (a0 + 6) ((hg H a0 9) + x3)) = ((bs.getD (x3).toNat 0).toInt % 256) → (-2147483648 ≤ x3 + 1 ∧ x3 + 1 ≤ 2147483647) ∧ AW l G mX8_isWord (d + 1) 0 0 Q 24 [vR a0, vX q0, vI 0, vI (x3 + 1)] [] 0 0 H) ∧ ((hg H (a0 + 6) ((hg H a0 9) + x3)) = ((bs.getD (x3).toNat 0).toInt % 256) → (-2147483648 ≤ x3 + 1 ∧ x3 + 1 ≤ 2147483647) ∧ AW l G mX8_isWord (d + 1) 0 0 Q 24 [vR a0, vX q0, vI 1, vI (x3 + 1)] [] 0 0 H)))) (hd : 3 ≤ d := by omega) : AW l G mX8_isWord (d + 1) 0 0 Q 24 [vR a0, vX q0, vI x2, vI x3] [] 0 0 H := by
  refine a_iload_n dX8_isWord_24 rfl rfl ?_
  refine a_if_eq dX8_isWord_25 (tgt := 67) rfl (fun c25 => ?_) (fun c25 => ?_)
  · replace h := h.1 c25
    refine a_iload_n dX8_isWord_67 rfl rfl ?_
    obtain ⟨q68_0, h⟩ := h
    exact a_zret dX8_isWord_68 rfl q68_0 (Nat.le_of_ble_eq_true rfl) (Nat.le_of_ble_eq_true rfl) h
  · replace h := h.2 c25
    refine a_iload_n dX8_isWord_28 rfl rfl ?_
    refine a_xload_n dX8_isWord_29 rfl rfl ?_
    refine a_callX hgs dX8_isWord_30 cx_X8_isWord_30 (as := []) rfl rfl (Nat.le_refl _) (Nat.le_of_ble_eq_true rfl) (nocov rfl) (Nat.le_of_ble_eq_true rfl) (Nat.le_of_ble_eq_true rfl) (CL.mono (q_length hgs hgc hbs) (fun r9 H9 h9 => ?_))
    rw [h9.1, h9.2]
    show AW l G mX8_isWord (d + 1) 0 0 Q 33 [vR a0, vX q0, vI x2, vI x3] [vI (bs.length : Int), vI x3] 0 0 H
    refine a_icmp_ge dX8_isWord_33 (tgt := 67) rfl (fun c33 => ?_) (fun c33 => ?_)
    · replace h := h.1 c33
      refine a_iload_n dX8_isWord_67 rfl rfl ?_
      obtain ⟨q68_0, h⟩ := h
      exact a_zret dX8_isWord_68 rfl q68_0 (Nat.le_of_ble_eq_true rfl) (Nat.le_of_ble_eq_true rfl) h
    · replace h := h.2 c33
      refine a_aload_n dX8_isWord_36 rfl rfl ?_
      refine a_getR dX8_isWord_37 fw_RX8_26 rfl rfl (kMod_0 h_r0) (rMod_0_6 h_r0) ?_
      refine a_aload_n dX8_isWord_40 rfl rfl ?_
      refine a_getI dX8_isWord_41 fw_RX8_91 rfl rfl (kMod_0 h_r0) ?_
      refine a_iload_n dX8_isWord_44 rfl rfl ?_
      obtain ⟨q45_0, h⟩ := h
      refine a_iadd dX8_isWord_45 q45_0 ?_
      obtain ⟨q46_0, h⟩ := h
      refine b_bald dX8_isWord_46 (kMod_6 h_r0) (nMod_6 h_r0) q46_0 ?_
      refine a_xload_n dX8_isWord_47 rfl rfl ?_
      refine a_iload_n dX8_isWord_48 rfl rfl ?_
      obtain ⟨q49_0, h⟩ := h
      refine a_callX hgs dX8_isWord_49 cx_X8_isWord_49 (as := [vI x3]) rfl rfl (Nat.le_refl _) (Nat.le_of_ble_eq_true rfl) (nocov rfl) (Nat.le_of_ble_eq_true rfl) (Nat.le_of_ble_eq_true rfl) (CL.mono (q_charAt hgs hgc hbs q49_0) (fun r9 H9 h9 => ?_))
      rw [h9.1, h9.2]
      show AW l G mX8_isWord (d + 1) 0 0 Q 52 [vR a0, vX q0, vI x2, vI x3] [vI ((bs.getD (x3).toNat 0).toInt % 256), vI (hg H (a0 + 6) ((hg H a0 9) + x3))] 0 0 H
      refine a_icmp_ne dX8_isWord_52 (tgt := 59) rfl (fun c52 => ?_) (fun c52 => ?_)
      · replace h := h.1 c52
        refine a_iconst dX8_isWord_59 ⟨by decide, by decide⟩ ?_
        refine a_istore_n dX8_isWord_60 rfl (Nat.le_of_ble_eq_true rfl) (ls' := [vR a0, vX q0, vI 0, vI x3]) rfl ?_
        obtain ⟨q61_0, h⟩ := h
        refine a_iinc dX8_isWord_61 rfl (Nat.le_of_ble_eq_true rfl) (by decide) q61_0 (ls' := [vR a0, vX q0, vI 0, vI (x3 + 1)]) rfl ?_
        refine a_goto dX8_isWord_64 (tgt := 24) rfl ?_
        exact h
      · replace h := h.2 c52
        refine a_iconst dX8_isWord_55 ⟨by decide, by decide⟩ ?_
        refine a_goto dX8_isWord_56 (tgt := 60) rfl ?_
        refine a_istore_n dX8_isWord_60 rfl (Nat.le_of_ble_eq_true rfl) (ls' := [vR a0, vX q0, vI 1, vI x3]) rfl ?_
        obtain ⟨q61_0, h⟩ := h
        refine a_iinc dX8_isWord_61 rfl (Nat.le_of_ble_eq_true rfl) (by decide) q61_0 (ls' := [vR a0, vX q0, vI 1, vI (x3 + 1)]) rfl ?_
        refine a_goto dX8_isWord_64 (tgt := 24) rfl ?_
        exact h


theorem dX1_rewind_0 : decode cX1_rewind 0 = .ok (.aload_n 0, 1) := by decide +kernel
theorem dX1_rewind_1 : decode cX1_rewind 1 = .ok (.iconst 0, 1) := by decide +kernel
theorem dX1_rewind_2 : decode cX1_rewind 2 = .ok (.putfield 15, 3) := by decide +kernel
theorem dX1_rewind_5 : decode cX1_rewind 5 = .ok (.aload_n 0, 1) := by decide +kernel
theorem dX1_rewind_6 : decode cX1_rewind 6 = .ok (.iconst 0, 1) := by decide +kernel
theorem dX1_rewind_7 : decode cX1_rewind 7 = .ok (.putfield 19, 3) := by decide +kernel
theorem dX1_rewind_10 : decode cX1_rewind 10 = .ok (.return_, 1) := by decide +kernel
set_option maxRecDepth 20000 in
theorem s_X1_rewind_0 {l : Launch} {G : GT} {d : Nat} {Q : AV → AH → Prop} {H : AH} {a0 : Int} (h_r0 : Lay LRun H a0) (h : ∀ H1 : AH, H1 = hs H (a0 + 1) 2 0 → ∀ H2 : AH, H2 = hs H1 (a0 + 1) 5 0 → Q vV H2) : AW l G mX1_rewind d 0 0 Q 0 [vR (a0 + 1)] [] 0 0 H := by
  refine a_aload_n dX1_rewind_0 rfl rfl ?_
  refine a_iconst dX1_rewind_1 ⟨by decide, by decide⟩ ?_
  refine a_putI dX1_rewind_2 fp_RX1_15 rfl rfl (kRun_1 h_r0) ?_
  have h_r0_1 := Lay.wr h_r0 ok_Run (nrf_fld 2 (kRun_1 h_r0) (by decide) (by decide)) (i := 2) (x := 0)
  generalize e_H1 : hs H (a0 + 1) 2 0 = H1 at h_r0_1 ⊢
  replace h := h H1 e_H1.symm
  refine a_aload_n dX1_rewind_5 rfl rfl ?_
  refine a_iconst dX1_rewind_6 ⟨by decide, by decide⟩ ?_
  refine a_putI dX1_rewind_7 fp_RX1_19 rfl rfl (kRun_1 h_r0_1) ?_
  have h_r0_2 := Lay.wr h_r0_1 ok_Run (nrf_fld 5 (kRun_1 h_r0_1) (by decide) (by decide)) (i := 5) (x := 0)
  generalize e_H2 : hs H1 (a0 + 1) 5 0 = H2 at h_r0_2 ⊢
  replace h := h H2 e_H2.symm
  exact a_vret dX1_rewind_10 rfl (Nat.le_of_ble_eq_true rfl) (Nat.le_of_ble_eq_true rfl) h


theorem dX1_fail_0 : decode cX1_fail 0 = .ok (.aload_n 0, 1) := by decide +kernel
theorem dX1_fail_1 : decode cX1_fail 1 = .ok (.iload_n 1, 1) := by decide +kernel
theorem dX1_fail_2 : decode cX1_fail 2 = .ok (.putfield 19, 3) := by decide +kernel
theorem dX1_fail_5 : decode cX1_fail 5 = .ok (.aload_n 0, 1) := by decide +kernel
theorem dX1_fail_6 : decode cX1_fail 6 = .ok (.iload_n 2, 1) := by decide +kernel
theorem dX1_fail_7 : decode cX1_fail 7 = .ok (.putfield 22, 3) := by decide +kernel
theorem dX1_fail_10 : decode cX1_fail 10 = .ok (.iconst 0, 1) := by decide +kernel
theorem dX1_fail_11 : decode cX1_fail 11 = .ok (.ireturn, 1) := by decide +kernel
set_option maxRecDepth 20000 in
theorem s_X1_fail_0 {l : Launch} {G : GT} {d : Nat} {Q : AV → AH → Prop} {H : AH} {a0 x1 x2 : Int} (h_r0 : Lay LRun H a0) (h : ∀ H1 : AH, H1 = hs H (a0 + 1) 5 x1 → ∀ H2 : AH, H2 = hs H1 (a0 + 1) 6 x2 → Q (vI 0) H2) : AW l G mX1_fail d 0 0 Q 0 [vR (a0 + 1), vI x1, vI x2] [] 0 0 H := by
  refine a_aload_n dX1_fail_0 rfl rfl ?_
  refine a_iload_n dX1_fail_1 rfl rfl ?_
  refine a_putI dX1_fail_2 fp_RX1_19 rfl rfl (kRun_1 h_r0) ?_
  have h_r0_1 := Lay.wr h_r0 ok_Run (nrf_fld 5 (kRun_1 h_r0) (by decide) (by decide)) (i := 5) (x := x1)
  generalize e_H1 : hs H (a0 + 1) 5 x1 = H1 at h_r0_1 ⊢
  replace h := h H1 e_H1.symm
  refine a_aload_n dX1_fail_5 rfl rfl ?_
  refine a_iload_n dX1_fail_6 rfl rfl ?_
  refine a_putI dX1_fail_7 fp_RX1_22 rfl rfl (kRun_1 h_r0_1) ?_
  have h_r0_2 := Lay.wr h_r0_1 ok_Run (nrf_fld 6 (kRun_1 h_r0_1) (by decide) (by decide)) (i := 6) (x := x2)
  generalize e_H2 : hs H1 (a0 + 1) 6 x2 = H2 at h_r0_2 ⊢
  replace h := h H2 e_H2.symm
  refine a_iconst dX1_fail_10 ⟨by decide, by decide⟩ ?_
  exact a_zret dX1_fail_11 rfl (by decide) (Nat.le_of_ble_eq_true rfl) (Nat.le_of_ble_eq_true rfl) h


theorem dX1_skipSpaces_0 : decode cX1_skipSpaces 0 = .ok (.aload_n 0, 1) := by decide +kernel
theorem dX1_skipSpaces_1 : decode cX1_skipSpaces 1 = .ok (.getfield 15, 3) := by decide +kernel
theorem dX1_skipSpaces_4 : decode cX1_skipSpaces 4 = .ok (.aload_n 0, 1) := by decide +kernel
theorem dX1_skipSpaces_5 : decode cX1_skipSpaces 5 = .ok (.getfield 25, 3) := by decide +kernel
theorem dX1_skipSpaces_8 : decode cX1_skipSpaces 8 = .ok (.if_icmp .ge 30, 3) := by decide +kernel
theorem dX1_skipSpaces_11 : decode cX1_skipSpaces 11 = .ok (.aload_n 0, 1) := by decide +kernel
theorem dX1_skipSpaces_12 : decode cX1_skipSpaces 12 = .ok (.getfield 9, 3) := by decide +kernel
theorem dX1_skipSpaces_15 : decode cX1_skipSpaces 15 = .ok (.aload_n 0, 1) := by decide +kernel
theorem dX1_skipSpaces_16 : decode cX1_skipSpaces 16 = .ok (.getfield 15, 3) := by decide +kernel
theorem dX1_skipSpaces_19 : decode cX1_skipSpaces 19 = .ok (.iaload, 1) := by decide +kernel
theorem dX1_skipSpaces_20 : decode cX1_skipSpaces 20 = .ok (.bipush 32, 2) := by decide +kernel
theorem dX1_skipSpaces_22 : decode cX1_skipSpaces 22 = .ok (.if_icmp .ne 16, 3) := by decide +kernel
theorem dX1_skipSpaces_25 : decode cX1_skipSpaces 25 = .ok (.aload_n 0, 1) := by decide +kernel
theorem dX1_skipSpaces_26 : decode cX1_skipSpaces 26 = .ok (.dup, 1) := by decide +kernel
theorem dX1_skipSpaces_27 : decode cX1_skipSpaces 27 = .ok (.getfield 15, 3) := by decide +kernel
theorem dX1_skipSpaces_30 : decode cX1_skipSpaces 30 = .ok (.iconst 1, 1) := by decide +kernel
theorem dX1_skipSpaces_31 : decode cX1_skipSpaces 31 = .ok (.iadd, 1) := by decide +kernel
theorem dX1_skipSpaces_32 : decode cX1_skipSpaces 32 = .ok (.putfield 15, 3) := by decide +kernel
theorem dX1_skipSpaces_35 : decode cX1_skipSpaces 35 = .ok (.goto (-35), 3) := by decide +kernel
theorem dX1_skipSpaces_38 : decode cX1_skipSpaces 38 = .ok (.return_, 1) := by decide +kernel
set_option maxRecDepth 20000 in
theorem s_X1_skipSpaces_0 {l : Launch} {G : GT} {d : Nat} {Q : AV → AH → Prop} {H : AH} {a0 : Int} (h_r0 : Lay LRun H a0) (h : ((hg H (a0 + 1) 1) ≤ (hg H (a0 + 1) 2) → Q vV H) ∧ ((hg H (a0 + 1) 2) < (hg H (a0 + 1) 1) → (0 ≤ (hg H (a0 + 1) 2) ∧ (hg H (a0 + 1) 2) < 900) ∧ (¬ (hg H (a0 + 2) (hg H (a0 + 1) 2)) = 32 → Q vV H) ∧ ((hg H (a0 + 2) (hg H (a0 + 1) 2)) = 32 → (-2147483648 ≤ (hg H (a0 + 1) 2) + 1 ∧ (hg H (a0 + 1) 2) + 1 ≤ 2147483647) ∧ ∀ H1 : AH, H1 = hs H (a0 + 1) 2 ((hg H (a0 + 1) 2) + 1) → AW l G mX1_skipSpaces d 0 0 Q 0 [vR (a0 + 1)] [] 0 0 H1))) : AW l G mX1_skipSpaces d 0 0 Q 0 [vR (a0 + 1)] [] 0 0 H := by
  refine a_aload_n dX1_skipSpaces_0 rfl rfl ?_
  refine a_getI dX1_skipSpaces_1 fw_RX1_15 rfl rfl (kRun_1 h_r0) ?_
  refine a_aload_n dX1_skipSpaces_4 rfl rfl ?_
  refine a_getI dX1_skipSpaces_5 fw_RX1_25 rfl rfl (kRun_1 h_r0) ?_
  refine a_icmp_ge dX1_skipSpaces_8 (tgt := 38) rfl (fun c8 => ?_) (fun c8 => ?_)
  · replace h := h.1 c8
    exact a_vret dX1_skipSpaces_38 rfl (Nat.le_of_ble_eq_true rfl) (Nat.le_of_ble_eq_true rfl) h
  · replace h := h.2 c8
    refine a_aload_n dX1_skipSpaces_11 rfl rfl ?_
    refine a_getR dX1_skipSpaces_12 fw_RX1_9 rfl rfl (kRun_1 h_r0) (rRun_1_0 h_r0) ?_
    refine a_aload_n dX1_skipSpaces_15 rfl rfl ?_
    refine a_getI dX1_skipSpaces_16 fw_RX1_15 rfl rfl (kRun_1 h_r0) ?_
    obtain ⟨q19_0, h⟩ := h
    refine b_iald dX1_skipSpaces_19 (kRun_2 h_r0) (nRun_2 h_r0) q19_0 ?_
    refine a_bipush dX1_skipSpaces_20 (by decide) ?_
    refine a_icmp_ne dX1_skipSpaces_22 (tgt := 38) rfl (fun c22 => ?_) (fun c22 => ?_)
    · replace h := h.1 c22
      exact a_vret dX1_skipSpaces_38 rfl (Nat.le_of_ble_eq_true rfl) (Nat.le_of_ble_eq_true rfl) h
    · replace h := h.2 c22
      refine a_aload_n dX1_skipSpaces_25 rfl rfl ?_
      refine a_dup dX1_skipSpaces_26 rfl ?_
      refine a_getI dX1_skipSpaces_27 fw_RX1_15 rfl rfl (kRun_1 h_r0) ?_
      refine a_iconst dX1_skipSpaces_30 ⟨by decide, by decide⟩ ?_
      obtain ⟨q31_0, h⟩ := h
      refine a_iadd dX1_skipSpaces_31 q31_0 ?_
      refine a_putI dX1_skipSpaces_32 fp_RX1_15 rfl rfl (kRun_1 h_r0) ?_
      have h_r0_1 := Lay.wr h_r0 ok_Run (nrf_fld 2 (kRun_1 h_r0) (by decide) (by decide)) (i := 2) (x := ((hg H (a0 + 1) 2) + 1))
      generalize e_H1 : hs H (a0 + 1) 2 ((hg H (a0 + 1) 2) + 1) = H1 at h_r0_1 ⊢
      replace h := h H1 e_H1.symm
      refine a_goto dX1_skipSpaces_35 (tgt := 0) rfl ?_
      exact h


theorem dX1_readWord_0 : decode cX1_readWord 0 = .ok (.aload_n 0, 1) := by decide +kernel
theorem dX1_readWord_1 : decode cX1_readWord 1 = .ok (.invokevirtual 28, 3) := by decide +kernel
theorem dX1_readWord_4 : decode cX1_readWord 4 = .ok (.aload_n 0, 1) := by decide +kernel
theorem dX1_readWord_5 : decode cX1_readWord 5 = .ok (.aload_n 0, 1) := by decide +kernel
theorem dX1_readWord_6 : decode cX1_readWord 6 = .ok (.getfield 15, 3) := by decide +kernel
theorem dX1_readWord_9 : decode cX1_readWord 9 = .ok (.putfield 31, 3) := by decide +kernel
theorem dX1_readWord_12 : decode cX1_readWord 12 = .ok (.aload_n 0, 1) := by decide +kernel
theorem dX1_readWord_13 : decode cX1_readWord 13 = .ok (.getfield 15, 3) := by decide +kernel
theorem dX1_readWord_16 : decode cX1_readWord 16 = .ok (.aload_n 0, 1) := by decide +kernel
theorem dX1_readWord_17 : decode cX1_readWord 17 = .ok (.getfield 25, 3) := by decide +kernel
theorem dX1_readWord_20 : decode cX1_readWord 20 = .ok (.if_icmp .ge 44, 3) := by decide +kernel
theorem dX1_readWord_23 : decode cX1_readWord 23 = .ok (.aload_n 0, 1) := by decide +kernel
theorem dX1_readWord_24 : decode cX1_readWord 24 = .ok (.getfield 9, 3) := by decide +kernel
theorem dX1_readWord_27 : decode cX1_readWord 27 = .ok (.aload_n 0, 1) := by decide +kernel
theorem dX1_readWord_28 : decode cX1_readWord 28 = .ok (.getfield 15, 3) := by decide +kernel
theorem dX1_readWord_31 : decode cX1_readWord 31 = .ok (.iaload, 1) := by decide +kernel
theorem dX1_readWord_32 : decode cX1_readWord 32 = .ok (.bipush 97, 2) := by decide +kernel
theorem dX1_readWord_34 : decode cX1_readWord 34 = .ok (.if_icmp .lt 30, 3) := by decide +kernel
theorem dX1_readWord_37 : decode cX1_readWord 37 = .ok (.aload_n 0, 1) := by decide +kernel
theorem dX1_readWord_38 : decode cX1_readWord 38 = .ok (.getfield 9, 3) := by decide +kernel
theorem dX1_readWord_41 : decode cX1_readWord 41 = .ok (.aload_n 0, 1) := by decide +kernel
theorem dX1_readWord_42 : decode cX1_readWord 42 = .ok (.getfield 15, 3) := by decide +kernel
theorem dX1_readWord_45 : decode cX1_readWord 45 = .ok (.iaload, 1) := by decide +kernel
theorem dX1_readWord_46 : decode cX1_readWord 46 = .ok (.bipush 122, 2) := by decide +kernel
theorem dX1_readWord_48 : decode cX1_readWord 48 = .ok (.if_icmp .gt 16, 3) := by decide +kernel
theorem dX1_readWord_51 : decode cX1_readWord 51 = .ok (.aload_n 0, 1) := by decide +kernel
theorem dX1_readWord_52 : decode cX1_readWord 52 = .ok (.dup, 1) := by decide +kernel
theorem dX1_readWord_53 : decode cX1_readWord 53 = .ok (.getfield 15, 3) := by decide +kernel
theorem dX1_readWord_56 : decode cX1_readWord 56 = .ok (.iconst 1, 1) := by decide +kernel
theorem dX1_readWord_57 : decode cX1_readWord 57 = .ok (.iadd, 1) := by decide +kernel
theorem dX1_readWord_58 : decode cX1_readWord 58 = .ok (.putfield 15, 3) := by decide +kernel
theorem dX1_readWord_61 : decode cX1_readWord 61 = .ok (.goto (-49), 3) := by decide +kernel
theorem dX1_readWord_64 : decode cX1_readWord 64 = .ok (.aload_n 0, 1) := by decide +kernel
theorem dX1_readWord_65 : decode cX1_readWord 65 = .ok (.getfield 15, 3) := by decide +kernel
theorem dX1_readWord_68 : decode cX1_readWord 68 = .ok (.aload_n 0, 1) := by decide +kernel
theorem dX1_readWord_69 : decode cX1_readWord 69 = .ok (.getfield 31, 3) := by decide +kernel
theorem dX1_readWord_72 : decode cX1_readWord 72 = .ok (.if_icmp .gt 15, 3) := by decide +kernel
theorem dX1_readWord_75 : decode cX1_readWord 75 = .ok (.aload_n 0, 1) := by decide +kernel
theorem dX1_readWord_76 : decode cX1_readWord 76 = .ok (.iconst 1, 1) := by decide +kernel
theorem dX1_readWord_77 : decode cX1_readWord 77 = .ok (.aload_n 0, 1) := by decide +kernel
theorem dX1_readWord_78 : decode cX1_readWord 78 = .ok (.getfield 31, 3) := by decide +kernel
theorem dX1_readWord_81 : decode cX1_readWord 81 = .ok (.invokevirtual 34, 3) := by decide +kernel
theorem dX1_readWord_84 : decode cX1_readWord 84 = .ok (.ifCond .eq 7, 3) := by decide +kernel
theorem dX1_readWord_87 : decode cX1_readWord 87 = .ok (.iconst 1, 1) := by decide +kernel
theorem dX1_readWord_88 : decode cX1_readWord 88 = .ok (.goto 4, 3) := by decide +kernel
theorem dX1_readWord_91 : decode cX1_readWord 91 = .ok (.iconst 0, 1) := by decide +kernel
theorem dX1_readWord_92 : decode cX1_readWord 92 = .ok (.ireturn, 1) := by decide +kernel
set_option maxRecDepth 20000 in
theorem s_X1_readWord_0 {l : Launch} {G : GT} {d : Nat} {Q : AV → AH → Prop} {H : AH} {a0 : Int} (h_r0 : Lay LRun H a0) (h : CL l G mX1_skipSpaces d 0 0 [vR (a0 + 1)] H (fun r9 H1 => Lay LRun H1 a0 ∧ r9 = vV ∧ ∀ H2 : AH, H2 = hs H1 (a0 + 1) 3 (hg H1 (a0 + 1) 2) → AW l G mX1_readWord (d + 1) 0 0 Q 12 [vR (a0 + 1)] [] 0 0 H2)) : AW l G mX1_readWord (d + 1) 0 0 Q 0 [vR (a0 + 1)] [] 0 0 H := by
  refine a_aload_n dX1_readWord_0 rfl rfl ?_
  refine a_callV dX1_readWord_1 cw_X1_readWord_1 (as := []) rfl rfl (kRun_1 h_r0) (Nat.le_refl _) (Nat.le_of_ble_eq_true rfl) (nocov rfl) (Nat.le_of_ble_eq_true rfl) (Nat.le_of_ble_eq_true rfl) (CL.mono h (fun r9 H1 h => ?_))
  obtain ⟨h_r0_1, e9, h⟩ := h
  rw [e9]
  show AW l G mX1_readWord (d + 1) 0 0 Q 4 [vR (a0 + 1)] [] 0 0 H1
  refine a_aload_n dX1_readWord_4 rfl rfl ?_
  refine a_aload_n dX1_readWord_5 rfl rfl ?_
  refine a_getI dX1_readWord_6 fw_RX1_15 rfl rfl (kRun_1 h_r0_1) ?_
  refine a_putI dX1_readWord_9 fp_RX1_31 rfl rfl (kRun_1 h_r0_1) ?_
  have h_r0_2 := Lay.wr h_r0_1 ok_Run (nrf_fld 3 (kRun_1 h_r0_1) (by decide) (by decide)) (i := 3) (x := (hg H1 (a0 + 1) 2))
  generalize e_H2 : hs H1 (a0 + 1) 3 (hg H1 (a0 + 1) 2) = H2 at h_r0_2 ⊢
  replace h := h H2 e_H2.symm
  exact h

set_option maxRecDepth 20000 in
theorem s_X1_readWord_12 {l : Launch} {G : GT} {d : Nat} {Q : AV → AH → Prop} {H : AH} {a0 : Int} (h_r0 : Lay LRun H a0) (h : ((hg H (a0 + 1) 1) ≤ (hg H (a0 + 1) 2) → AW l G mX1_readWord (d + 1) 0 0 Q 64 [vR (a0 + 1)] [] 0 0 H) ∧ ((hg H (a0 + 1) 2) < (hg H (a0 + 1) 1) → (0 ≤ (hg H (a0 + 1) 2) ∧ (hg H (a0 + 1) 2) < 900) ∧ ((hg H (a0 + 2) (hg H (a0 + 1) 2)) < 97 → AW l G mX1_readWord (d + 1) 0 0 Q 64 [vR (a0 + 1)] [] 0 0 H) ∧ (97 ≤ (hg H (a0 + 2) (hg H (a0 + 1) 2)) → (122 < (hg H (a0 + 2) (hg H (a0 + 1) 2)) → AW l G mX1_readWord (d + 1) 0 0 Q 64 [vR (a0 + 1)] [] 0 0 H) ∧ ((hg H (a0 + 2) (hg H (a0 + 1) 2)) ≤ 122 → (-2147483648 ≤ (hg H (a0 + 1) 2) + 1 ∧ (hg H (a0 + 1) 2) + 1 ≤ 2147483647) ∧ ∀ H1 : AH, H1 = hs H (a0 + 1) 2 ((hg H (a0 + 1) 2) + 1) → AW l G mX1_readWord (d + 1) 0 0 Q 12 [vR (a0 + 1)] [] 0 0 H1)))) : AW l G mX1_readWord (d + 1) 0 0 Q 12 [vR (a0 + 1)] [] 0 0 H := by
  refine a_aload_n dX1_readWord_12 rfl rfl ?_
  refine a_getI dX1_readWord_13 fw_RX1_15 rfl rfl (kRun_1 h_r0) ?_
  refine a_aload_n dX1_readWord_16 rfl rfl ?_
  refine a_getI dX1_readWord_17 fw_RX1_25 rfl rfl (kRun_1 h_r0) ?_
  refine a_icmp_ge dX1_readWord_20 (tgt := 64) rfl (fun c20 => ?_) (fun c20 => ?_)
  · replace h := h.1 c20
    exact h
  · replace h := h.2 c20
    refine a_aload_n dX1_readWord_23 rfl rfl ?_
    refine a_getR dX1_readWord_24 fw_RX1_9 rfl rfl (kRun_1 h_r0) (rRun_1_0 h_r0) ?_
    refine a_aload_n dX1_readWord_27 rfl rfl ?_
    refine a_getI dX1_readWord_28 fw_RX1_15 rfl rfl (kRun_1 h_r0) ?_
    obtain ⟨q31_0, h⟩ := h
    refine b_iald dX1_readWord_31 (kRun_2 h_r0) (nRun_2 h_r0) q31_0 ?_
    refine a_bipush dX1_readWord_32 (by decide) ?_
    refine a_icmp_lt dX1_readWord_34 (tgt := 64) rfl (fun c34 => ?_) (fun c34 => ?_)
    · replace h := h.1 c34
      exact h
    · replace h := h.2 c34
      refine a_aload_n dX1_readWord_37 rfl rfl ?_
      refine a_getR dX1_readWord_38 fw_RX1_9 rfl rfl (kRun_1 h_r0) (rRun_1_0 h_r0) ?_
      refine a_aload_n dX1_readWord_41 rfl rfl ?_
      refine a_getI dX1_readWord_42 fw_RX1_15 rfl rfl (kRun_1 h_r0) ?_
      refine b_iald dX1_readWord_45 (kRun_2 h_r0) (nRun_2 h_r0) q31_0 ?_
      refine a_bipush dX1_readWord_46 (by decide) ?_
      refine a_icmp_gt dX1_readWord_48 (tgt := 64) rfl (fun c48 => ?_) (fun c48 => ?_)
      · replace h := h.1 c48
        exact h
      · replace h := h.2 c48
        refine a_aload_n dX1_readWord_51 rfl rfl ?_
        refine a_dup dX1_readWord_52 rfl ?_
        refine a_getI dX1_readWord_53 fw_RX1_15 rfl rfl (kRun_1 h_r0) ?_
        refine a_iconst dX1_readWord_56 ⟨by decide, by decide⟩ ?_
        obtain ⟨q57_0, h⟩ := h
        refine a_iadd dX1_readWord_57 q57_0 ?_
        refine a_putI dX1_readWord_58 fp_RX1_15 rfl rfl (kRun_1 h_r0) ?_
        have h_r0_1 := Lay.wr h_r0 ok_Run (nrf_fld 2 (kRun_1 h_r0) (by decide) (by decide)) (i := 2) (x := ((hg H (a0 + 1) 2) + 1))
        generalize e_H1 : hs H (a0 + 1) 2 ((hg H (a0 + 1) 2) + 1) = H1 at h_r0_1 ⊢
        replace h := h H1 e_H1.symm
        refine a_goto dX1_readWord_61 (tgt := 12) rfl ?_
        exact h

set_option maxRecDepth 20000 in
theorem s_X1_readWord_64 {l : Launch} {G : GT} {d : Nat} {Q : AV → AH → Prop} {H : AH} {a0 : Int} (h_r0 : Lay LRun H a0) (h : ((hg H (a0 + 1) 3) < (hg H (a0 + 1) 2) → Q (vI 1) H) ∧ ((hg H (a0 + 1) 2) ≤ (hg H (a0 + 1) 3) → CL l G mX1_fail d 0 0 [vR (a0 + 1), vI 1, vI (hg H (a0 + 1) 3)] H (fun r9 H1 => Lay LRun H1 a0 ∧ ∃ y1 : Int, r9 = vI y1 ∧ (y1 = 0 → Q (vI 0) H1) ∧ (¬ y1 = 0 → Q (vI 1) H1)))) : AW l G mX1_readWord (d + 1) 0 0 Q 64 [vR (a0 + 1)] [] 0 0 H := by
  refine a_aload_n dX1_readWord_64 rfl rfl ?_
  refine a_getI dX1_readWord_65 fw_RX1_15 rfl rfl (kRun_1 h_r0) ?_
  refine a_aload_n dX1_readWord_68 rfl rfl ?_
  refine a_getI dX1_readWord_69 fw_RX1_31 rfl rfl (kRun_1 h_r0) ?_
  refine a_icmp_gt dX1_readWord_72 (tgt := 87) rfl (fun c72 => ?_) (fun c72 => ?_)
  · replace h := h.1 c72
    refine a_iconst dX1_readWord_87 ⟨by decide, by decide⟩ ?_
    refine a_goto dX1_readWord_88 (tgt := 92) rfl ?_
    exact a_zret dX1_readWord_92 rfl (by decide) (Nat.le_of_ble_eq_true rfl) (Nat.le_of_ble_eq_true rfl) h
  · replace h := h.2 c72
    refine a_aload_n dX1_readWord_75 rfl rfl ?_
    refine a_iconst dX1_readWord_76 ⟨by decide, by decide⟩ ?_
    refine a_aload_n dX1_readWord_77 rfl rfl ?_
    refine a_getI dX1_readWord_78 fw_RX1_31 rfl rfl (kRun_1 h_r0) ?_
    refine a_callV dX1_readWord_81 cw_X1_readWord_81 (as := [vI 1, vI (hg H (a0 + 1) 3)]) rfl rfl (kRun_1 h_r0) (Nat.le_refl _) (Nat.le_of_ble_eq_true rfl) (nocov rfl) (Nat.le_of_ble_eq_true rfl) (Nat.le_of_ble_eq_true rfl) (CL.mono h (fun r9 H1 h => ?_))
    obtain ⟨h_r0_1, y1, e9, h⟩ := h
    rw [e9]
    show AW l G mX1_readWord (d + 1) 0 0 Q 84 [vR (a0 + 1)] [vI y1] 0 0 H1
    refine a_if_eq dX1_readWord_84 (tgt := 91) rfl (fun c84 => ?_) (fun c84 => ?_)
    · replace h := h.1 c84
      refine a_iconst dX1_readWord_91 ⟨by decide, by decide⟩ ?_
      exact a_zret dX1_readWord_92 rfl (by decide) (Nat.le_of_ble_eq_true rfl) (Nat.le_of_ble_eq_true rfl) h
    · replace h := h.2 c84
      refine a_iconst dX1_readWord_87 ⟨by decide, by decide⟩ ?_
      refine a_goto dX1_readWord_88 (tgt := 92) rfl ?_
      exact a_zret dX1_readWord_92 rfl (by decide) (Nat.le_of_ble_eq_true rfl) (Nat.le_of_ble_eq_true rfl) h


theorem dX1_readNumber_0 : decode cX1_readNumber 0 = .ok (.aload_n 0, 1) := by decide +kernel
theorem dX1_readNumber_1 : decode cX1_readNumber 1 = .ok (.invokevirtual 28, 3) := by decide +kernel
theorem dX1_readNumber_4 : decode cX1_readNumber 4 = .ok (.aload_n 0, 1) := by decide +kernel
theorem dX1_readNumber_5 : decode cX1_readNumber 5 = .ok (.aload_n 0, 1) := by decide +kernel
theorem dX1_readNumber_6 : decode cX1_readNumber 6 = .ok (.getfield 15, 3) := by decide +kernel
theorem dX1_readNumber_9 : decode cX1_readNumber 9 = .ok (.putfield 31, 3) := by decide +kernel
theorem dX1_readNumber_12 : decode cX1_readNumber 12 = .ok (.aload_n 0, 1) := by decide +kernel
theorem dX1_readNumber_13 : decode cX1_readNumber 13 = .ok (.iconst 0, 1) := by decide +kernel
theorem dX1_readNumber_14 : decode cX1_readNumber 14 = .ok (.putfield 38, 3) := by decide +kernel
theorem dX1_readNumber_17 : decode cX1_readNumber 17 = .ok (.aload_n 0, 1) := by decide +kernel
theorem dX1_readNumber_18 : decode cX1_readNumber 18 = .ok (.getfield 15, 3) := by decide +kernel
theorem dX1_readNumber_21 : decode cX1_readNumber 21 = .ok (.aload_n 0, 1) := by decide +kernel
theorem dX1_readNumber_22 : decode cX1_readNumber 22 = .ok (.getfield 25, 3) := by decide +kernel
theorem dX1_readNumber_25 : decode cX1_readNumber 25 = .ok (.if_icmp .ge 77, 3) := by decide +kernel
theorem dX1_readNumber_28 : decode cX1_readNumber 28 = .ok (.aload_n 0, 1) := by decide +kernel
theorem dX1_readNumber_29 : decode cX1_readNumber 29 = .ok (.getfield 9, 3) := by decide +kernel
theorem dX1_readNumber_32 : decode cX1_readNumber 32 = .ok (.aload_n 0, 1) := by decide +kernel
theorem dX1_readNumber_33 : decode cX1_readNumber 33 = .ok (.getfield 15, 3) := by decide +kernel
theorem dX1_readNumber_36 : decode cX1_readNumber 36 = .ok (.iaload, 1) := by decide +kernel
theorem dX1_readNumber_37 : decode cX1_readNumber 37 = .ok (.bipush 48, 2) := by decide +kernel
theorem dX1_readNumber_39 : decode cX1_readNumber 39 = .ok (.if_icmp .lt 63, 3) := by decide +kernel
theorem dX1_readNumber_42 : decode cX1_readNumber 42 = .ok (.aload_n 0, 1) := by decide +kernel
theorem dX1_readNumber_43 : decode cX1_readNumber 43 = .ok (.getfield 9, 3) := by decide +kernel
theorem dX1_readNumber_46 : decode cX1_readNumber 46 = .ok (.aload_n 0, 1) := by decide +kernel
theorem dX1_readNumber_47 : decode cX1_readNumber 47 = .ok (.getfield 15, 3) := by decide +kernel
theorem dX1_readNumber_50 : decode cX1_readNumber 50 = .ok (.iaload, 1) := by decide +kernel
theorem dX1_readNumber_51 : decode cX1_readNumber 51 = .ok (.bipush 57, 2) := by decide +kernel
theorem dX1_readNumber_53 : decode cX1_readNumber 53 = .ok (.if_icmp .gt 49, 3) := by decide +kernel
theorem dX1_readNumber_56 : decode cX1_readNumber 56 = .ok (.aload_n 0, 1) := by decide +kernel
theorem dX1_readNumber_57 : decode cX1_readNumber 57 = .ok (.getfield 38, 3) := by decide +kernel
theorem dX1_readNumber_60 : decode cX1_readNumber 60 = .ok (.ldc 41, 2) := by decide +kernel
theorem dX1_readNumber_62 : decode cX1_readNumber 62 = .ok (.if_icmp .ge 27, 3) := by decide +kernel
theorem dX1_readNumber_65 : decode cX1_readNumber 65 = .ok (.aload_n 0, 1) := by decide +kernel
theorem dX1_readNumber_66 : decode cX1_readNumber 66 = .ok (.aload_n 0, 1) := by decide +kernel
theorem dX1_readNumber_67 : decode cX1_readNumber 67 = .ok (.getfield 38, 3) := by decide +kernel
theorem dX1_readNumber_70 : decode cX1_readNumber 70 = .ok (.bipush 10, 2) := by decide +kernel
theorem dX1_readNumber_72 : decode cX1_readNumber 72 = .ok (.imul, 1) := by decide +kernel
theorem dX1_readNumber_73 : decode cX1_readNumber 73 = .ok (.aload_n 0, 1) := by decide +kernel
theorem dX1_readNumber_74 : decode cX1_readNumber 74 = .ok (.getfield 9, 3) := by decide +kernel
theorem dX1_readNumber_77 : decode cX1_readNumber 77 = .ok (.aload_n 0, 1) := by decide +kernel
theorem dX1_readNumber_78 : decode cX1_readNumber 78 = .ok (.getfield 15, 3) := by decide +kernel
theorem dX1_readNumber_81 : decode cX1_readNumber 81 = .ok (.iaload, 1) := by decide +kernel
theorem dX1_readNumber_82 : decode cX1_readNumber 82 = .ok (.iadd, 1) := by decide +kernel
theorem dX1_readNumber_83 : decode cX1_readNumber 83 = .ok (.bipush 48, 2) := by decide +kernel
theorem dX1_readNumber_85 : decode cX1_readNumber 85 = .ok (.isub, 1) := by decide +kernel
theorem dX1_readNumber_86 : decode cX1_readNumber 86 = .ok (.putfield 38, 3) := by decide +kernel
theorem dX1_readNumber_89 : decode cX1_readNumber 89 = .ok (.aload_n 0, 1) := by decide +kernel
theorem dX1_readNumber_90 : decode cX1_readNumber 90 = .ok (.dup, 1) := by decide +kernel
theorem dX1_readNumber_91 : decode cX1_readNumber 91 = .ok (.getfield 15, 3) := by decide +kernel
theorem dX1_readNumber_94 : decode cX1_readNumber 94 = .ok (.iconst 1, 1) := by decide +kernel
theorem dX1_readNumber_95 : decode cX1_readNumber 95 = .ok (.iadd, 1) := by decide +kernel
theorem dX1_readNumber_96 : decode cX1_readNumber 96 = .ok (.putfield 15, 3) := by decide +kernel
theorem dX1_readNumber_99 : decode cX1_readNumber 99 = .ok (.goto (-82), 3) := by decide +kernel
theorem dX1_readNumber_102 : decode cX1_readNumber 102 = .ok (.aload_n 0, 1) := by decide +kernel
theorem dX1_readNumber_103 : decode cX1_readNumber 103 = .ok (.getfield 15, 3) := by decide +kernel
theorem dX1_readNumber_106 : decode cX1_readNumber 106 = .ok (.aload_n 0, 1) := by decide +kernel
theorem dX1_readNumber_107 : decode cX1_readNumber 107 = .ok (.getfield 31, 3) := by decide +kernel
theorem dX1_readNumber_110 : decode cX1_readNumber 110 = .ok (.if_icmp .ne 13, 3) := by decide +kernel
theorem dX1_readNumber_113 : decode cX1_readNumber 113 = .ok (.aload_n 0, 1) := by decide +kernel
theorem dX1_readNumber_114 : decode cX1_readNumber 114 = .ok (.iconst 1, 1) := by decide +kernel
theorem dX1_readNumber_115 : decode cX1_readNumber 115 = .ok (.aload_n 0, 1) := by decide +kernel
theorem dX1_readNumber_116 : decode cX1_readNumber 116 = .ok (.getfield 31, 3) := by decide +kernel
theorem dX1_readNumber_119 : decode cX1_readNumber 119 = .ok (.invokevirtual 34, 3) := by decide +kernel
theorem dX1_readNumber_122 : decode cX1_readNumber 122 = .ok (.ireturn, 1) := by decide +kernel
theorem dX1_readNumber_123 : decode cX1_readNumber 123 = .ok (.aload_n 0, 1) := by decide +kernel
theorem dX1_readNumber_124 : decode cX1_readNumber 124 = .ok (.getfield 38, 3) := by decide +kernel
theorem dX1_readNumber_127 : decode cX1_readNumber 127 = .ok (.iload_n 1, 1) := by decide +kernel
theorem dX1_readNumber_128 : decode cX1_readNumber 128 = .ok (.if_icmp .lt 11, 3) := by decide +kernel
theorem dX1_readNumber_131 : decode cX1_readNumber 131 = .ok (.aload_n 0, 1) := by decide +kernel
theorem dX1_readNumber_132 : decode cX1_readNumber 132 = .ok (.getfield 38, 3) := by decide +kernel
theorem dX1_readNumber_135 : decode cX1_readNumber 135 = .ok (.iload_n 2, 1) := by decide +kernel
theorem dX1_readNumber_136 : decode cX1_readNumber 136 = .ok (.if_icmp .le 15, 3) := by decide +kernel
theorem dX1_readNumber_139 : decode cX1_readNumber 139 = .ok (.aload_n 0, 1) := by decide +kernel
theorem dX1_readNumber_140 : decode cX1_readNumber 140 = .ok (.iconst 2, 1) := by decide +kernel
theorem dX1_readNumber_141 : decode cX1_readNumber 141 = .ok (.aload_n 0, 1) := by decide +kernel
theorem dX1_readNumber_142 : decode cX1_readNumber 142 = .ok (.getfield 31, 3) := by decide +kernel
theorem dX1_readNumber_145 : decode cX1_readNumber 145 = .ok (.invokevirtual 34, 3) := by decide +kernel
theorem dX1_readNumber_148 : decode cX1_readNumber 148 = .ok (.ifCond .eq 7, 3) := by decide +kernel
theorem dX1_readNumber_151 : decode cX1_readNumber 151 = .ok (.iconst 1, 1) := by decide +kernel
theorem dX1_readNumber_152 : decode cX1_readNumber 152 = .ok (.goto 4, 3) := by decide +kernel
theorem dX1_readNumber_155 : decode cX1_readNumber 155 = .ok (.iconst 0, 1) := by decide +kernel
theorem dX1_readNumber_156 : decode cX1_readNumber 156 = .ok (.ireturn, 1) := by decide +kernel
set_option maxRecDepth 20000 in
theorem s_X1_readNumber_0 {l : Launch} {G : GT} {d : Nat} {Q : AV → AH → Prop} {H : AH} {a0 x1 x2 : Int} (h_r0 : Lay LRun H a0) (h : CL l G mX1_skipSpaces d 0 0 [vR (a0 + 1)] H (fun r9 H1 => Lay LRun H1 a0 ∧ r9 = vV ∧ ∀ H2 : AH, H2 = hs H1 (a0 + 1) 3 (hg H1 (a0 + 1) 2) → ∀ H3 : AH, H3 = hs H2 (a0 + 1) 4 0 → AW l G mX1_readNumber (d + 1) 0 0 Q 17 [vR (a0 + 1), vI x1, vI x2] [] 0 0 H3)) : AW l G mX1_readNumber (d + 1) 0 0 Q 0 [vR (a0 + 1), vI x1, vI x2] [] 0 0 H := by
  refine a_aload_n dX1_readNumber_0 rfl rfl ?_
  refine a_callV dX1_readNumber_1 cw_X1_readNumber_1 (as := []) rfl rfl (kRun_1 h_r0) (Nat.le_refl _) (Nat.le_of_ble_eq_true rfl) (nocov rfl) (Nat.le_of_ble_eq_true rfl) (Nat.le_of_ble_eq_true rfl) (CL.mono h (fun r9 H1 h => ?_))
  obtain ⟨h_r0_1, e9, h⟩ := h
  rw [e9]
  show AW l G mX1_readNumber (d + 1) 0 0 Q 4 [vR (a0 + 1), vI x1, vI x2] [] 0 0 H1
  refine a_aload_n dX1_readNumber_4 rfl rfl ?_
  refine a_aload_n dX1_readNumber_5 rfl rfl ?_
  refine a_getI dX1_readNumber_6 fw_RX1_15 rfl rfl (kRun_1 h_r0_1) ?_
  refine a_putI dX1_readNumber_9 fp_RX1_31 rfl rfl (kRun_1 h_r0_1) ?_
  have h_r0_2 := Lay.wr h_r0_1 ok_Run (nrf_fld 3 (kRun_1 h_r0_1) (by decide) (by decide)) (i := 3) (x := (hg H1 (a0 + 1) 2))
  generalize e_H2 : hs H1 (a0 + 1) 3 (hg H1 (a0 + 1) 2) = H2 at h_r0_2 ⊢
  replace h := h H2 e_H2.symm
  refine a_aload_n dX1_readNumber_12 rfl rfl ?_
  refine a_iconst dX1_readNumber_13 ⟨by decide, by decide⟩ ?_
  refine a_putI dX1_readNumber_14 fp_RX1_38 rfl rfl (kRun_1 h_r0_2) ?_
  have h_r0_3 := Lay.wr h_r0_2 ok_Run (nrf_fld 4 (kRun_1 h_r0_2) (by decide) (by decide)) (i := 4) (x := 0)
  generalize e_H3 : hs H2 (a0 + 1) 4 0 = H3 at h_r0_3 ⊢
  replace h := h H3 e_H3.symm
  exact h

set_option maxRecDepth 20000 in
theorem s_X1_readNumber_17 {l : Launch} {G : GT} {d : Nat} {Q : AV → AH → Prop} {H : AH} {a0 x1 x2 : Int} (h_r0 : Lay LRun H a0) (h : ((hg H (a0 + 1) 1) ≤ (hg H (a0 + 1) 2) → AW l G mX1_readNumber (d + 1) 0 0 Q 102 [vR (a0 + 1), vI x1, vI x2] [] 0 0 H) ∧ ((hg H (a0 + 1) 2) < (hg H (a0 + 1) 1) → (0 ≤ (hg H (a0 + 1) 2) ∧ (hg H (a0 + 1) 2) < 900) ∧ ((hg H (a0 + 2) (hg H (a0 + 1) 2)) < 48 → AW l G mX1_readNumber (d + 1) 0 0 Q 102 [vR (a0 + 1), vI x1, vI x2] [] 0 0 H) ∧ (48 ≤ (hg H (a0 + 2) (hg H (a0 + 1) 2)) → (57 < (hg H (a0 + 2) (hg H (a0 + 1) 2)) → AW l G mX1_readNumber (d + 1) 0 0 Q 102 [vR (a0 + 1), vI x1, vI x2] [] 0 0 H) ∧ ((hg H (a0 + 2) (hg H (a0 + 1) 2)) ≤ 57 → (1000000 ≤ (hg H (a0 + 1) 4) → (-2147483648 ≤ (hg H (a0 + 1) 2) + 1 ∧ (hg H (a0 + 1) 2) + 1 ≤ 2147483647) ∧ ∀ H1 : AH, H1 = hs H (a0 + 1) 2 ((hg H (a0 + 1) 2) + 1) → AW l G mX1_readNumber (d + 1) 0 0 Q 17 [vR (a0 + 1), vI x1, vI x2] [] 0 0 H1) ∧ ((hg H (a0 + 1) 4) < 1000000 → (-2147483648 ≤ (hg H (a0 + 1) 4) * 10 ∧ (hg H (a0 + 1) 4) * 10 ≤ 2147483647) ∧ (-2147483648 ≤ ((hg H (a0 + 1) 4) * 10) + (hg H (a0 + 2) (hg H (a0 + 1) 2)) ∧ ((hg H (a0 + 1) 4) * 10) + (hg H (a0 + 2) (hg H (a0 + 1) 2)) ≤ 2147483647) ∧ (-2147483648 ≤ (((hg H (a0 + 1) 4) * 10) + (hg H (a0 + 2) (hg H (a0 + 1) 2))) - 48 ∧ (((hg H (a0 + 1) 4) * 10) + (hg H (a0 + 2) (hg H (a0 + 1) 2))) - 48 ≤ 2147483647) ∧ ∀ H1 : AH, H1 = hs H (a0 + 1) 4 ((((hg H (a0 + 1) 4) * 10) + (hg H (a0 + 2) (hg H (a0 + 1) 2))) - 48) → (-2147483648 ≤ (hg H1 (a0 + 1) 2) + 1 ∧ (hg H1 (a0 + 1) 2) + 1 ≤ 2147483647) ∧ ∀ H2 : AH, H2 = hs H1 (a0 + 1) 2 ((hg H1 (a0 + 1) 2) + 1) → AW l G mX1_readNumber (d + 1) 0 0 Q 17 [vR (a0 + 1), vI x1, vI x2] [] 0 0 H2))))) : AW l G mX1_readNumber (d + 1) 0 0 Q 17 [vR (a0 + 1), vI x1, vI x2] [] 0 0 H := by
  refine a_aload_n dX1_readNumber_17 rfl rfl ?_
  refine a_getI dX1_readNumber_18 fw_RX1_15 rfl rfl (kRun_1 h_r0) ?_
  refine a_aload_n dX1_readNumber_21 rfl rfl ?_
  refine a_getI dX1_readNumber_22 fw_RX1_25 rfl rfl (kRun_1 h_r0) ?_
  refine a_icmp_ge dX1_readNumber_25 (tgt := 102) rfl (fun c25 => ?_) (fun c25 => ?_)
  · replace h := h.1 c25
    exact h
  · replace h := h.2 c25
    refine a_aload_n dX1_readNumber_28 rfl rfl ?_
    refine a_getR dX1_readNumber_29 fw_RX1_9 rfl rfl (kRun_1 h_r0) (rRun_1_0 h_r0) ?_
    refine a_aload_n dX1_readNumber_32 rfl rfl ?_
    refine a_getI dX1_readNumber_33 fw_RX1_15 rfl rfl (kRun_1 h_r0) ?_
    obtain ⟨q36_0, h⟩ := h
    refine b_iald dX1_readNumber_36 (kRun_2 h_r0) (nRun_2 h_r0) q36_0 ?_
    refine a_bipush dX1_readNumber_37 (by decide) ?_
    refine a_icmp_lt dX1_readNumber_39 (tgt := 102) rfl (fun c39 => ?_) (fun c39 => ?_)
    · replace h := h.1 c39
      exact h
    · replace h := h.2 c39
      refine a_aload_n dX1_readNumber_42 rfl rfl ?_
      refine a_getR dX1_readNumber_43 fw_RX1_9 rfl rfl (kRun_1 h_r0) (rRun_1_0 h_r0) ?_
      refine a_aload_n dX1_readNumber_46 rfl rfl ?_
      refine a_getI dX1_readNumber_47 fw_RX1_15 rfl rfl (kRun_1 h_r0) ?_
      refine b_iald dX1_readNumber_50 (kRun_2 h_r0) (nRun_2 h_r0) q36_0 ?_
      refine a_bipush dX1_readNumber_51 (by decide) ?_
      refine a_icmp_gt dX1_readNumber_53 (tgt := 102) rfl (fun c53 => ?_) (fun c53 => ?_)
      · replace h := h.1 c53
        exact h
      · replace h := h.2 c53
        refine a_aload_n dX1_readNumber_56 rfl rfl ?_
        refine a_getI dX1_readNumber_57 fw_RX1_38 rfl rfl (kRun_1 h_r0) ?_
        refine a_ldc dX1_readNumber_60 (w_452) ?_
        show AW l G mX1_readNumber (d + 1) 0 0 Q 62 [vR (a0 + 1), vI x1, vI x2] [vI 1000000, vI (hg H (a0 + 1) 4)] 0 0 H
        refine a_icmp_ge dX1_readNumber_62 (tgt := 89) rfl (fun c62 => ?_) (fun c62 => ?_)
        · replace h := h.1 c62
          refine a_aload_n dX1_readNumber_89 rfl rfl ?_
          refine a_dup dX1_readNumber_90 rfl ?_
          refine a_getI dX1_readNumber_91 fw_RX1_15 rfl rfl (kRun_1 h_r0) ?_
          refine a_iconst dX1_readNumber_94 ⟨by decide, by decide⟩ ?_
          obtain ⟨q95_0, h⟩ := h
          refine a_iadd dX1_readNumber_95 q95_0 ?_
          refine a_putI dX1_readNumber_96 fp_RX1_15 rfl rfl (kRun_1 h_r0) ?_
          have h_r0_1 := Lay.wr h_r0 ok_Run (nrf_fld 2 (kRun_1 h_r0) (by decide) (by decide)) (i := 2) (x := ((hg H (a0 + 1) 2) + 1))
          generalize e_H1 : hs H (a0 + 1) 2 ((hg H (a0 + 1) 2) + 1) = H1 at h_r0_1 ⊢
          replace h := h H1 e_H1.symm
          refine a_goto dX1_readNumber_99 (tgt := 17) rfl ?_
          exact h
        · replace h := h.2 c62
          refine a_aload_n dX1_readNumber_65 rfl rfl ?_
          refine a_aload_n dX1_readNumber_66 rfl rfl ?_
          refine a_getI dX1_readNumber_67 fw_RX1_38 rfl rfl (kRun_1 h_r0) ?_
          refine a_bipush dX1_readNumber_70 (by decide) ?_
          obtain ⟨q72_0, h⟩ := h
          refine a_imul dX1_readNumber_72 q72_0 ?_
          refine a_aload_n dX1_readNumber_73 rfl rfl ?_
          refine a_getR dX1_readNumber_74 fw_RX1_9 rfl rfl (kRun_1 h_r0) (rRun_1_0 h_r0) ?_
          refine a_aload_n dX1_readNumber_77 rfl rfl ?_
          refine a_getI dX1_readNumber_78 fw_RX1_15 rfl rfl (kRun_1 h_r0) ?_
          refine b_iald dX1_readNumber_81 (kRun_2 h_r0) (nRun_2 h_r0) q36_0 ?_
          obtain ⟨q82_0, h⟩ := h
          refine a_iadd dX1_readNumber_82 q82_0 ?_
          refine a_bipush dX1_readNumber_83 (by decide) ?_
          obtain ⟨q85_0, h⟩ := h
          refine a_isub dX1_readNumber_85 q85_0 ?_
          refine a_putI dX1_readNumber_86 fp_RX1_38 rfl rfl (kRun_1 h_r0) ?_
          have h_r0_1 := Lay.wr h_r0 ok_Run (nrf_fld 4 (kRun_1 h_r0) (by decide) (by decide)) (i := 4) (x := ((((hg H (a0 + 1) 4) * 10) + (hg H (a0 + 2) (hg H (a0 + 1) 2))) - 48))
          generalize e_H1 : hs H (a0 + 1) 4 ((((hg H (a0 + 1) 4) * 10) + (hg H (a0 + 2) (hg H (a0 + 1) 2))) - 48) = H1 at h_r0_1 ⊢
          replace h := h H1 e_H1.symm
          refine a_aload_n dX1_readNumber_89 rfl rfl ?_
          refine a_dup dX1_readNumber_90 rfl ?_
          refine a_getI dX1_readNumber_91 fw_RX1_15 rfl rfl (kRun_1 h_r0_1) ?_
          refine a_iconst dX1_readNumber_94 ⟨by decide, by decide⟩ ?_
          obtain ⟨q95_0, h⟩ := h
          refine a_iadd dX1_readNumber_95 q95_0 ?_
          refine a_putI dX1_readNumber_96 fp_RX1_15 rfl rfl (kRun_1 h_r0_1) ?_
          have h_r0_2 := Lay.wr h_r0_1 ok_Run (nrf_fld 2 (kRun_1 h_r0_1) (by decide) (by decide)) (i := 2) (x := ((hg H1 (a0 + 1) 2) + 1))
          generalize e_H2 : hs H1 (a0 + 1) 2 ((hg H1 (a0 + 1) 2) + 1) = H2 at h_r0_2 ⊢
          replace h := h H2 e_H2.symm
          refine a_goto dX1_readNumber_99 (tgt := 17) rfl ?_
          exact h

set_option maxRecDepth 20000 in
theorem s_X1_readNumber_102 {l : Launch} {G : GT} {d : Nat} {Q : AV → AH → Prop} {H : AH} {a0 x1 x2 : Int} (h_r0 : Lay LRun H a0) (h : (¬ (hg H (a0 + 1) 2) = (hg H (a0 + 1) 3) → ((hg H (a0 + 1) 4) < x1 → CL l G mX1_fail d 0 0 [vR (a0 + 1), vI 2, vI (hg H (a0 + 1) 3)] H (fun r9 H1 => Lay LRun H1 a0 ∧ ∃ y1 : Int, r9 = vI y1 ∧ (y1 = 0 → Q (vI 0) H1) ∧ (¬ y1 = 0 → Q (vI 1) H1))) ∧ (x1 ≤ (hg H (a0 + 1) 4) → ((hg H (a0 + 1) 4) ≤ x2 → Q (vI 1) H) ∧ (x2 < (hg H (a0 + 1) 4) → CL l G mX1_fail d 0 0 [vR (a0 + 1), vI 2, vI (hg H (a0 + 1) 3)] H (fun r9 H1 => Lay LRun H1 a0 ∧ ∃ y1 : Int, r9 = vI y1 ∧ (y1 = 0 → Q (vI 0) H1) ∧ (¬ y1 = 0 → Q (vI 1) H1))))) ∧ ((hg H (a0 + 1) 2) = (hg H (a0 + 1) 3) → CL l G mX1_fail d 0 0 [vR (a0 + 1), vI 1, vI (hg H (a0 + 1) 3)] H (fun r9 H1 => Lay LRun H1 a0 ∧ ∃ y1 : Int, r9 = vI y1 ∧ (y1 = 0 ∨ y1 = 1) ∧ Q (vI y1) H1))) : AW l G mX1_readNumber (d + 1) 0 0 Q 102 [vR (a0 + 1), vI x1, vI x2] [] 0 0 H := by
  refine a_aload_n dX1_readNumber_102 rfl rfl ?_
  refine a_getI dX1_readNumber_103 fw_RX1_15 rfl rfl (kRun_1 h_r0) ?_
  refine a_aload_n dX1_readNumber_106 rfl rfl ?_
  refine a_getI dX1_readNumber_107 fw_RX1_31 rfl rfl (kRun_1 h_r0) ?_
  refine a_icmp_ne dX1_readNumber_110 (tgt := 123) rfl (fun c110 => ?_) (fun c110 => ?_)
  · replace h := h.1 c110
    refine a_aload_n dX1_readNumber_123 rfl rfl ?_
    refine a_getI dX1_readNumber_124 fw_RX1_38 rfl rfl (kRun_1 h_r0) ?_
    refine a_iload_n dX1_readNumber_127 rfl rfl ?_
    refine a_icmp_lt dX1_readNumber_128 (tgt := 139) rfl (fun c128 => ?_) (fun c128 => ?_)
    · replace h := h.1 c128
      refine a_aload_n dX1_readNumber_139 rfl rfl ?_
      refine a_iconst dX1_readNumber_140 ⟨by decide, by decide⟩ ?_
      refine a_aload_n dX1_readNumber_141 rfl rfl ?_
      refine a_getI dX1_readNumber_142 fw_RX1_31 rfl rfl (kRun_1 h_r0) ?_
      refine a_callV dX1_readNumber_145 cw_X1_readNumber_145 (as := [vI 2, vI (hg H (a0 + 1) 3)]) rfl rfl (kRun_1 h_r0) (Nat.le_refl _) (Nat.le_of_ble_eq_true rfl) (nocov rfl) (Nat.le_of_ble_eq_true rfl) (Nat.le_of_ble_eq_true rfl) (CL.mono h (fun r9 H1 h => ?_))
      obtain ⟨h_r0_1, y1, e9, h⟩ := h
      rw [e9]
      show AW l G mX1_readNumber (d + 1) 0 0 Q 148 [vR (a0 + 1), vI x1, vI x2] [vI y1] 0 0 H1
      refine a_if_eq dX1_readNumber_148 (tgt := 155) rfl (fun c148 => ?_) (fun c148 => ?_)
      · replace h := h.1 c148
        refine a_iconst dX1_readNumber_155 ⟨by decide, by decide⟩ ?_
        exact a_zret dX1_readNumber_156 rfl (by decide) (Nat.le_of_ble_eq_true rfl) (Nat.le_of_ble_eq_true rfl) h
      · replace h := h.2 c148
        refine a_iconst dX1_readNumber_151 ⟨by decide, by decide⟩ ?_
        refine a_goto dX1_readNumber_152 (tgt := 156) rfl ?_
        exact a_zret dX1_readNumber_156 rfl (by decide) (Nat.le_of_ble_eq_true rfl) (Nat.le_of_ble_eq_true rfl) h
    · replace h := h.2 c128
      refine a_aload_n dX1_readNumber_131 rfl rfl ?_
      refine a_getI dX1_readNumber_132 fw_RX1_38 rfl rfl (kRun_1 h_r0) ?_
      refine a_iload_n dX1_readNumber_135 rfl rfl ?_
      refine a_icmp_le dX1_readNumber_136 (tgt := 151) rfl (fun c136 => ?_) (fun c136 => ?_)
      · replace h := h.1 c136
        refine a_iconst dX1_readNumber_151 ⟨by decide, by decide⟩ ?_
        refine a_goto dX1_readNumber_152 (tgt := 156) rfl ?_
        exact a_zret dX1_readNumber_156 rfl (by decide) (Nat.le_of_ble_eq_true rfl) (Nat.le_of_ble_eq_true rfl) h
      · replace h := h.2 c136
        refine a_aload_n dX1_readNumber_139 rfl rfl ?_
        refine a_iconst dX1_readNumber_140 ⟨by decide, by decide⟩ ?_
        refine a_aload_n dX1_readNumber_141 rfl rfl ?_
        refine a_getI dX1_readNumber_142 fw_RX1_31 rfl rfl (kRun_1 h_r0) ?_
        refine a_callV dX1_readNumber_145 cw_X1_readNumber_145 (as := [vI 2, vI (hg H (a0 + 1) 3)]) rfl rfl (kRun_1 h_r0) (Nat.le_refl _) (Nat.le_of_ble_eq_true rfl) (nocov rfl) (Nat.le_of_ble_eq_true rfl) (Nat.le_of_ble_eq_true rfl) (CL.mono h (fun r9 H1 h => ?_))
        obtain ⟨h_r0_1, y1, e9, h⟩ := h
        rw [e9]
        show AW l G mX1_readNumber (d + 1) 0 0 Q 148 [vR (a0 + 1), vI x1, vI x2] [vI y1] 0 0 H1
        refine a_if_eq dX1_readNumber_148 (tgt := 155) rfl (fun c148 => ?_) (fun c148 => ?_)
        · replace h := h.1 c148
          refine a_iconst dX1_readNumber_155 ⟨by decide, by decide⟩ ?_
          exact a_zret dX1_readNumber_156 rfl (by decide) (Nat.le_of_ble_eq_true rfl) (Nat.le_of_ble_eq_true rfl) h
        · replace h := h.2 c148
          refine a_iconst dX1_readNumber_151 ⟨by decide, by decide⟩ ?_
          refine a_goto dX1_readNumber_152 (tgt := 156) rfl ?_
          exact a_zret dX1_readNumber_156 rfl (by decide) (Nat.le_of_ble_eq_true rfl) (Nat.le_of_ble_eq_true rfl) h
  · replace h := h.2 c110
    refine a_aload_n dX1_readNumber_113 rfl rfl ?_
    refine a_iconst dX1_readNumber_114 ⟨by decide, by decide⟩ ?_
    refine a_aload_n dX1_readNumber_115 rfl rfl ?_
    refine a_getI dX1_readNumber_116 fw_RX1_31 rfl rfl (kRun_1 h_r0) ?_
    refine a_callV dX1_readNumber_119 cw_X1_readNumber_119 (as := [vI 1, vI (hg H (a0 + 1) 3)]) rfl rfl (kRun_1 h_r0) (Nat.le_refl _) (Nat.le_of_ble_eq_true rfl) (nocov rfl) (Nat.le_of_ble_eq_true rfl) (Nat.le_of_ble_eq_true rfl) (CL.mono h (fun r9 H1 h => ?_))
    obtain ⟨h_r0_1, y1, e9, h⟩ := h
    rw [e9]
    show AW l G mX1_readNumber (d + 1) 0 0 Q 122 [vR (a0 + 1), vI x1, vI x2] [vI y1] 0 0 H1
    obtain ⟨q122_0, h⟩ := h
    exact a_zret dX1_readNumber_122 rfl q122_0 (Nat.le_of_ble_eq_true rfl) (Nat.le_of_ble_eq_true rfl) h


theorem dX8_here_0 : decode cX8_here 0 = .ok (.aload_n 0, 1) := by decide +kernel
theorem dX8_here_1 : decode cX8_here 1 = .ok (.getfield 85, 3) := by decide +kernel
theorem dX8_here_4 : decode cX8_here 4 = .ok (.aload_n 0, 1) := by decide +kernel
theorem dX8_here_5 : decode cX8_here 5 = .ok (.getfield 82, 3) := by decide +kernel
theorem dX8_here_8 : decode cX8_here 8 = .ok (.if_icmp .ge 19, 3) := by decide +kernel
theorem dX8_here_11 : decode cX8_here 11 = .ok (.aload_n 0, 1) := by decide +kernel
theorem dX8_here_12 : decode cX8_here 12 = .ok (.getfield 26, 3) := by decide +kernel
theorem dX8_here_15 : decode cX8_here 15 = .ok (.aload_n 0, 1) := by decide +kernel
theorem dX8_here_16 : decode cX8_here 16 = .ok (.getfield 85, 3) := by decide +kernel
theorem dX8_here_19 : decode cX8_here 19 = .ok (.baload, 1) := by decide +kernel
theorem dX8_here_20 : decode cX8_here 20 = .ok (.sipush 255, 3) := by decide +kernel
theorem dX8_here_23 : decode cX8_here 23 = .ok (.iand, 1) := by decide +kernel
theorem dX8_here_24 : decode cX8_here 24 = .ok (.goto 4, 3) := by decide +kernel
theorem dX8_here_27 : decode cX8_here 27 = .ok (.iconst (-1), 1) := by decide +kernel
theorem dX8_here_28 : decode cX8_here 28 = .ok (.ireturn, 1) := by decide +kernel
set_option maxRecDepth 20000 in
theorem s_X8_here_0 {l : Launch} {G : GT} {d : Nat} {Q : AV → AH → Prop} {H : AH} {a0 : Int} (h_r0 : Lay LMod H a0) (h : ((hg H a0 7) ≤ (hg H a0 8) → Q (vI (-1)) H) ∧ ((hg H a0 8) < (hg H a0 7) → (0 ≤ (hg H a0 8) ∧ (hg H a0 8) < 900) ∧ Q (vI ((hg H (a0 + 6) (hg H a0 8)) % 256)) H)) : AW l G mX8_here d 0 0 Q 0 [vR a0] [] 0 0 H := by
  refine a_aload_n dX8_here_0 rfl rfl ?_
  refine a_getI dX8_here_1 fw_RX8_85 rfl rfl (kMod_0 h_r0) ?_
  refine a_aload_n dX8_here_4 rfl rfl ?_
  refine a_getI dX8_here_5 fw_RX8_82 rfl rfl (kMod_0 h_r0) ?_
  refine a_icmp_ge dX8_here_8 (tgt := 27) rfl (fun c8 => ?_) (fun c8 => ?_)
  · replace h := h.1 c8
    refine a_iconst dX8_here_27 ⟨by decide, by decide⟩ ?_
    exact a_iret dX8_here_28 rfl (Nat.le_of_ble_eq_true rfl) (Nat.le_of_ble_eq_true rfl) h
  · replace h := h.2 c8
    refine a_aload_n dX8_here_11 rfl rfl ?_
    refine a_getR dX8_here_12 fw_RX8_26 rfl rfl (kMod_0 h_r0) (rMod_0_6 h_r0) ?_
    refine a_aload_n dX8_here_15 rfl rfl ?_
    refine a_getI dX8_here_16 fw_RX8_85 rfl rfl (kMod_0 h_r0) ?_
    obtain ⟨q19_0, h⟩ := h
    refine b_bald dX8_here_19 (kMod_6 h_r0) (nMod_6 h_r0) q19_0 ?_
    refine a_sipush dX8_here_20 (by decide) ?_
    refine a_iand255 dX8_here_23 ?_
    refine a_goto dX8_here_24 (tgt := 28) rfl ?_
    exact a_iret dX8_here_28 rfl (Nat.le_of_ble_eq_true rfl) (Nat.le_of_ble_eq_true rfl) h


theorem dX8_next_0 : decode cX8_next 0 = .ok (.aload_n 0, 1) := by decide +kernel
theorem dX8_next_1 : decode cX8_next 1 = .ok (.invokevirtual 87, 3) := by decide +kernel
theorem dX8_next_4 : decode cX8_next 4 = .ok (.bipush 32, 2) := by decide +kernel
theorem dX8_next_6 : decode cX8_next 6 = .ok (.if_icmp .ne 16, 3) := by decide +kernel
theorem dX8_next_9 : decode cX8_next 9 = .ok (.aload_n 0, 1) := by decide +kernel
theorem dX8_next_10 : decode cX8_next 10 = .ok (.dup, 1) := by decide +kernel
theorem dX8_next_11 : decode cX8_next 11 = .ok (.getfield 85, 3) := by decide +kernel
theorem dX8_next_14 : decode cX8_next 14 = .ok (.iconst 1, 1) := by decide +kernel
theorem dX8_next_15 : decode cX8_next 15 = .ok (.iadd, 1) := by decide +kernel
theorem dX8_next_16 : decode cX8_next 16 = .ok (.putfield 85, 3) := by decide +kernel
theorem dX8_next_19 : decode cX8_next 19 = .ok (.goto (-19), 3) := by decide +kernel
theorem dX8_next_22 : decode cX8_next 22 = .ok (.aload_n 0, 1) := by decide +kernel
theorem dX8_next_23 : decode cX8_next 23 = .ok (.aload_n 0, 1) := by decide +kernel
theorem dX8_next_24 : decode cX8_next 24 = .ok (.getfield 85, 3) := by decide +kernel
theorem dX8_next_27 : decode cX8_next 27 = .ok (.putfield 91, 3) := by decide +kernel
theorem dX8_next_30 : decode cX8_next 30 = .ok (.aload_n 0, 1) := by decide +kernel
theorem dX8_next_31 : decode cX8_next 31 = .ok (.invokevirtual 87, 3) := by decide +kernel
theorem dX8_next_34 : decode cX8_next 34 = .ok (.ireturn, 1) := by decide +kernel
set_option maxRecDepth 20000 in
theorem s_X8_next_0 {l : Launch} {G : GT} {d : Nat} {Q : AV → AH → Prop} {H : AH} {a0 : Int} (h_r0 : Lay LMod H a0) (h : CL l G mX8_here d 0 0 [vR a0] H (fun r9 H1 => Lay LMod H1 a0 ∧ ∃ y1 : Int, r9 = vI y1 ∧ (¬ y1 = 32 → ∀ H2 : AH, H2 = hs H1 a0 9 (hg H1 a0 8) → CL l G mX8_here d 0 0 [vR a0] H2 (fun r9 H3 => Lay LMod H3 a0 ∧ ∃ y3 : Int, r9 = vI y3 ∧ Q (vI y3) H3)) ∧ (y1 = 32 → (-2147483648 ≤ (hg H1 a0 8) + 1 ∧ (hg H1 a0 8) + 1 ≤ 2147483647) ∧ ∀ H2 : AH, H2 = hs H1 a0 8 ((hg H1 a0 8) + 1) → AW l G mX8_next (d + 1) 0 0 Q 0 [vR a0] [] 0 0 H2))) : AW l G mX8_next (d + 1) 0 0 Q 0 [vR a0] [] 0 0 H := by
  refine a_aload_n dX8_next_0 rfl rfl ?_
  refine a_callV dX8_next_1 cw_X8_next_1 (as := []) rfl rfl (kMod_0 h_r0) (Nat.le_refl _) (Nat.le_of_ble_eq_true rfl) (nocov rfl) (Nat.le_of_ble_eq_true rfl) (Nat.le_of_ble_eq_true rfl) (CL.mono h (fun r9 H1 h => ?_))
  obtain ⟨h_r0_1, y1, e9, h⟩ := h
  rw [e9]
  show AW l G mX8_next (d + 1) 0 0 Q 4 [vR a0] [vI y1] 0 0 H1
  refine a_bipush dX8_next_4 (by decide) ?_
  refine a_icmp_ne dX8_next_6 (tgt := 22) rfl (fun c6 => ?_) (fun c6 => ?_)
  · replace h := h.1 c6
    refine a_aload_n dX8_next_22 rfl rfl ?_
    refine a_aload_n dX8_next_23 rfl rfl ?_
    refine a_getI dX8_next_24 fw_RX8_85 rfl rfl (kMod_0 h_r0_1) ?_
    refine a_putI dX8_next_27 fp_RX8_91 rfl rfl (kMod_0 h_r0_1) ?_
    have h_r0_2 := Lay.wr h_r0_1 ok_Mod (nrf_fld 9 (kMod_0 h_r0_1) (by decide) (by decide)) (i := 9) (x := (hg H1 a0 8))
    generalize e_H2 : hs H1 a0 9 (hg H1 a0 8) = H2 at h_r0_2 ⊢
    replace h := h H2 e_H2.symm
    refine a_aload_n dX8_next_30 rfl rfl ?_
    refine a_callV dX8_next_31 cw_X8_next_31 (as := []) rfl rfl (kMod_0 h_r0_2) (Nat.le_refl _) (Nat.le_of_ble_eq_true rfl) (nocov rfl) (Nat.le_of_ble_eq_true rfl) (Nat.le_of_ble_eq_true rfl) (CL.mono h (fun r9 H3 h => ?_))
    obtain ⟨h_r0_3, y3, e9, h⟩ := h
    rw [e9]
    show AW l G mX8_next (d + 1) 0 0 Q 34 [vR a0] [vI y3] 0 0 H3
    exact a_iret dX8_next_34 rfl (Nat.le_of_ble_eq_true rfl) (Nat.le_of_ble_eq_true rfl) h
  · replace h := h.2 c6
    refine a_aload_n dX8_next_9 rfl rfl ?_
    refine a_dup dX8_next_10 rfl ?_
    refine a_getI dX8_next_11 fw_RX8_85 rfl rfl (kMod_0 h_r0_1) ?_
    refine a_iconst dX8_next_14 ⟨by decide, by decide⟩ ?_
    obtain ⟨q15_0, h⟩ := h
    refine a_iadd dX8_next_15 q15_0 ?_
    refine a_putI dX8_next_16 fp_RX8_85 rfl rfl (kMod_0 h_r0_1) ?_
    have h_r0_2 := Lay.wr h_r0_1 ok_Mod (nrf_fld 8 (kMod_0 h_r0_1) (by decide) (by decide)) (i := 8) (x := ((hg H1 a0 8) + 1))
    generalize e_H2 : hs H1 a0 8 ((hg H1 a0 8) + 1) = H2 at h_r0_2 ⊢
    replace h := h H2 e_H2.symm
    refine a_goto dX8_next_19 (tgt := 0) rfl ?_
    exact h


theorem dX8_reads_0 : decode cX8_reads 0 = .ok (.aload_n 0, 1) := by decide +kernel
theorem dX8_reads_1 : decode cX8_reads 1 = .ok (.invokevirtual 100, 3) := by decide +kernel
theorem dX8_reads_4 : decode cX8_reads 4 = .ok (.pop, 1) := by decide +kernel
theorem dX8_reads_5 : decode cX8_reads 5 = .ok (.aload_n 0, 1) := by decide +kernel
theorem dX8_reads_6 : decode cX8_reads 6 = .ok (.invokevirtual 87, 3) := by decide +kernel
theorem dX8_reads_9 : decode cX8_reads 9 = .ok (.bipush 97, 2) := by decide +kernel
theorem dX8_reads_11 : decode cX8_reads 11 = .ok (.bipush 122, 2) := by decide +kernel
theorem dX8_reads_13 : decode cX8_reads 13 = .ok (.invokestatic 67, 3) := by decide +kernel
theorem dX8_reads_16 : decode cX8_reads 16 = .ok (.ifCond .eq 16, 3) := by decide +kernel
theorem dX8_reads_19 : decode cX8_reads 19 = .ok (.aload_n 0, 1) := by decide +kernel
theorem dX8_reads_20 : decode cX8_reads 20 = .ok (.dup, 1) := by decide +kernel
theorem dX8_reads_21 : decode cX8_reads 21 = .ok (.getfield 85, 3) := by decide +kernel
theorem dX8_reads_24 : decode cX8_reads 24 = .ok (.iconst 1, 1) := by decide +kernel
theorem dX8_reads_25 : decode cX8_reads 25 = .ok (.iadd, 1) := by decide +kernel
theorem dX8_reads_26 : decode cX8_reads 26 = .ok (.putfield 85, 3) := by decide +kernel
theorem dX8_reads_29 : decode cX8_reads 29 = .ok (.goto (-24), 3) := by decide +kernel
theorem dX8_reads_32 : decode cX8_reads 32 = .ok (.return_, 1) := by decide +kernel
set_option maxRecDepth 20000 in
theorem s_X8_reads_0 {l : Launch} {G : GT} {d : Nat} {Q : AV → AH → Prop} {H : AH} {a0 : Int} (h_r0 : Lay LMod H a0) (h : CL l G mX8_next d 0 0 [vR a0] H (fun r9 H1 => Lay LMod H1 a0 ∧ ∃ y1 : Int, r9 = vI y1 ∧ AW l G mX8_reads (d + 1) 0 0 Q 5 [vR a0] [] 0 0 H1)) : AW l G mX8_reads (d + 1) 0 0 Q 0 [vR a0] [] 0 0 H := by
  refine a_aload_n dX8_reads_0 rfl rfl ?_
  refine a_callV dX8_reads_1 cw_X8_reads_1 (as := []) rfl rfl (kMod_0 h_r0) (Nat.le_refl _) (Nat.le_of_ble_eq_true rfl) (nocov rfl) (Nat.le_of_ble_eq_true rfl) (Nat.le_of_ble_eq_true rfl) (CL.mono h (fun r9 H1 h => ?_))
  obtain ⟨h_r0_1, y1, e9, h⟩ := h
  rw [e9]
  show AW l G mX8_reads (d + 1) 0 0 Q 4 [vR a0] [vI y1] 0 0 H1
  refine a_pop dX8_reads_4 rfl ?_
  exact h

set_option maxRecDepth 20000 in
theorem s_X8_reads_5 {l : Launch} {G : GT} {d : Nat} {Q : AV → AH → Prop} {H : AH} {a0 : Int} (h_r0 : Lay LMod H a0) (h : CL l G mX8_here d 0 0 [vR a0] H (fun r9 H1 => Lay LMod H1 a0 ∧ ∃ y1 : Int, r9 = vI y1 ∧ (¬ (97 ≤ y1 ∧ y1 ≤ 122) → Q vV H1) ∧ (97 ≤ y1 ∧ y1 ≤ 122 → (-2147483648 ≤ (hg H1 a0 8) + 1 ∧ (hg H1 a0 8) + 1 ≤ 2147483647) ∧ ∀ H2 : AH, H2 = hs H1 a0 8 ((hg H1 a0 8) + 1) → AW l G mX8_reads (d + 1) 0 0 Q 5 [vR a0] [] 0 0 H2))) : AW l G mX8_reads (d + 1) 0 0 Q 5 [vR a0] [] 0 0 H := by
  refine a_aload_n dX8_reads_5 rfl rfl ?_
  refine a_callV dX8_reads_6 cw_X8_reads_6 (as := []) rfl rfl (kMod_0 h_r0) (Nat.le_refl _) (Nat.le_of_ble_eq_true rfl) (nocov rfl) (Nat.le_of_ble_eq_true rfl) (Nat.le_of_ble_eq_true rfl) (CL.mono h (fun r9 H1 h => ?_))
  obtain ⟨h_r0_1, y1, e9, h⟩ := h
  rw [e9]
  show AW l G mX8_reads (d + 1) 0 0 Q 9 [vR a0] [vI y1] 0 0 H1
  refine a_bipush dX8_reads_9 (by decide) ?_
  refine a_bipush dX8_reads_11 (by decide) ?_
  refine a_callS dX8_reads_13 cw_X8_reads_13 (as := [vI y1, vI 97, vI 122]) rfl rfl (Nat.le_refl _) (Nat.le_of_ble_eq_true rfl) (nocov rfl) (Nat.le_of_ble_eq_true rfl) (Nat.le_of_ble_eq_true rfl) (CL.mono (c_in  ) (fun r9 H9 h9 => ?_))
  rw [h9.1, h9.2]
  show AW l G mX8_reads (d + 1) 0 0 Q 16 [vR a0] [vI (bi (decide (97 ≤ y1 ∧ y1 ≤ 122)))] 0 0 H1
  refine a_if_eq dX8_reads_16 (tgt := 32) rfl (fun c16 => ?_) (fun c16 => ?_)
  · replace h := h.1 (bi_0 c16)
    exact a_vret dX8_reads_32 rfl (Nat.le_of_ble_eq_true rfl) (Nat.le_of_ble_eq_true rfl) h
  · replace h := h.2 (bi_1 c16)
    refine a_aload_n dX8_reads_19 rfl rfl ?_
    refine a_dup dX8_reads_20 rfl ?_
    refine a_getI dX8_reads_21 fw_RX8_85 rfl rfl (kMod_0 h_r0_1) ?_
    refine a_iconst dX8_reads_24 ⟨by decide, by decide⟩ ?_
    obtain ⟨q25_0, h⟩ := h
    refine a_iadd dX8_reads_25 q25_0 ?_
    refine a_putI dX8_reads_26 fp_RX8_85 rfl rfl (kMod_0 h_r0_1) ?_
    have h_r0_2 := Lay.wr h_r0_1 ok_Mod (nrf_fld 8 (kMod_0 h_r0_1) (by decide) (by decide)) (i := 8) (x := ((hg H1 a0 8) + 1))
    generalize e_H2 : hs H1 a0 8 ((hg H1 a0 8) + 1) = H2 at h_r0_2 ⊢
    replace h := h H2 e_H2.symm
    refine a_goto dX8_reads_29 (tgt := 5) rfl ?_
    exact h


theorem dX8_fails_0 : decode cX8_fails 0 = .ok (.aload_n 0, 1) := by decide +kernel
theorem dX8_fails_1 : decode cX8_fails 1 = .ok (.getfield 94, 3) := by decide +kernel
theorem dX8_fails_4 : decode cX8_fails 4 = .ok (.ifCond .ne 13, 3) := by decide +kernel
theorem dX8_fails_7 : decode cX8_fails 7 = .ok (.aload_n 0, 1) := by decide +kernel
theorem dX8_fails_8 : decode cX8_fails 8 = .ok (.iload_n 1, 1) := by decide +kernel
theorem dX8_fails_9 : decode cX8_fails 9 = .ok (.putfield 94, 3) := by decide +kernel
theorem dX8_fails_12 : decode cX8_fails 12 = .ok (.aload_n 0, 1) := by decide +kernel
theorem dX8_fails_13 : decode cX8_fails 13 = .ok (.iload_n 2, 1) := by decide +kernel
theorem dX8_fails_14 : decode cX8_fails 14 = .ok (.putfield 97, 3) := by decide +kernel
theorem dX8_fails_17 : decode cX8_fails 17 = .ok (.return_, 1) := by decide +kernel
set_option maxRecDepth 20000 in
theorem s_X8_fails_0 {l : Launch} {G : GT} {d : Nat} {Q : AV → AH → Prop} {H : AH} {a0 x1 x2 : Int} (h_r0 : Lay LMod H a0) (h : (¬ (hg H a0 10) = 0 → Q vV H) ∧ ((hg H a0 10) = 0 → ∀ H1 : AH, H1 = hs H a0 10 x1 → ∀ H2 : AH, H2 = hs H1 a0 11 x2 → Q vV H2)) : AW l G mX8_fails d 0 0 Q 0 [vR a0, vI x1, vI x2] [] 0 0 H := by
  refine a_aload_n dX8_fails_0 rfl rfl ?_
  refine a_getI dX8_fails_1 fw_RX8_94 rfl rfl (kMod_0 h_r0) ?_
  refine a_if_ne dX8_fails_4 (tgt := 17) rfl (fun c4 => ?_) (fun c4 => ?_)
  · replace h := h.1 c4
    exact a_vret dX8_fails_17 rfl (Nat.le_of_ble_eq_true rfl) (Nat.le_of_ble_eq_true rfl) h
  · replace h := h.2 c4
    refine a_aload_n dX8_fails_7 rfl rfl ?_
    refine a_iload_n dX8_fails_8 rfl rfl ?_
    refine a_putI dX8_fails_9 fp_RX8_94 rfl rfl (kMod_0 h_r0) ?_
    have h_r0_1 := Lay.wr h_r0 ok_Mod (nrf_fld 10 (kMod_0 h_r0) (by decide) (by decide)) (i := 10) (x := x1)
    generalize e_H1 : hs H a0 10 x1 = H1 at h_r0_1 ⊢
    replace h := h H1 e_H1.symm
    refine a_aload_n dX8_fails_12 rfl rfl ?_
    refine a_iload_n dX8_fails_13 rfl rfl ?_
    refine a_putI dX8_fails_14 fp_RX8_97 rfl rfl (kMod_0 h_r0_1) ?_
    have h_r0_2 := Lay.wr h_r0_1 ok_Mod (nrf_fld 11 (kMod_0 h_r0_1) (by decide) (by decide)) (i := 11) (x := x2)
    generalize e_H2 : hs H1 a0 11 x2 = H2 at h_r0_2 ⊢
    replace h := h H2 e_H2.symm
    exact a_vret dX8_fails_17 rfl (Nat.le_of_ble_eq_true rfl) (Nat.le_of_ble_eq_true rfl) h


theorem dX8_number_0 : decode cX8_number 0 = .ok (.aload_n 0, 1) := by decide +kernel
theorem dX8_number_1 : decode cX8_number 1 = .ok (.getfield 94, 3) := by decide +kernel
theorem dX8_number_4 : decode cX8_number 4 = .ok (.ifCond .eq 5, 3) := by decide +kernel
theorem dX8_number_7 : decode cX8_number 7 = .ok (.iload_n 1, 1) := by decide +kernel
theorem dX8_number_8 : decode cX8_number 8 = .ok (.ireturn, 1) := by decide +kernel
theorem dX8_number_9 : decode cX8_number 9 = .ok (.aload_n 0, 1) := by decide +kernel
theorem dX8_number_10 : decode cX8_number 10 = .ok (.invokevirtual 100, 3) := by decide +kernel
theorem dX8_number_13 : decode cX8_number 13 = .ok (.bipush 48, 2) := by decide +kernel
theorem dX8_number_15 : decode cX8_number 15 = .ok (.bipush 57, 2) := by decide +kernel
theorem dX8_number_17 : decode cX8_number 17 = .ok (.invokestatic 67, 3) := by decide +kernel
theorem dX8_number_20 : decode cX8_number 20 = .ok (.ifCond .ne 14, 3) := by decide +kernel
theorem dX8_number_23 : decode cX8_number 23 = .ok (.aload_n 0, 1) := by decide +kernel
theorem dX8_number_24 : decode cX8_number 24 = .ok (.iconst 1, 1) := by decide +kernel
theorem dX8_number_25 : decode cX8_number 25 = .ok (.aload_n 0, 1) := by decide +kernel
theorem dX8_number_26 : decode cX8_number 26 = .ok (.getfield 85, 3) := by decide +kernel
theorem dX8_number_29 : decode cX8_number 29 = .ok (.invokevirtual 111, 3) := by decide +kernel
theorem dX8_number_32 : decode cX8_number 32 = .ok (.iload_n 1, 1) := by decide +kernel
theorem dX8_number_33 : decode cX8_number 33 = .ok (.ireturn, 1) := by decide +kernel
theorem dX8_number_34 : decode cX8_number 34 = .ok (.iconst 0, 1) := by decide +kernel
theorem dX8_number_35 : decode cX8_number 35 = .ok (.istore_n 3, 1) := by decide +kernel
theorem dX8_number_36 : decode cX8_number 36 = .ok (.aload_n 0, 1) := by decide +kernel
theorem dX8_number_37 : decode cX8_number 37 = .ok (.invokevirtual 87, 3) := by decide +kernel
theorem dX8_number_40 : decode cX8_number 40 = .ok (.bipush 48, 2) := by decide +kernel
theorem dX8_number_42 : decode cX8_number 42 = .ok (.bipush 57, 2) := by decide +kernel
theorem dX8_number_44 : decode cX8_number 44 = .ok (.invokestatic 67, 3) := by decide +kernel
theorem dX8_number_47 : decode cX8_number 47 = .ok (.ifCond .eq 34, 3) := by decide +kernel
theorem dX8_number_50 : decode cX8_number 50 = .ok (.ldc 115, 2) := by decide +kernel
theorem dX8_number_52 : decode cX8_number 52 = .ok (.bipush 10, 2) := by decide +kernel
theorem dX8_number_54 : decode cX8_number 54 = .ok (.iload_n 3, 1) := by decide +kernel
theorem dX8_number_55 : decode cX8_number 55 = .ok (.imul, 1) := by decide +kernel
theorem dX8_number_56 : decode cX8_number 56 = .ok (.aload_n 0, 1) := by decide +kernel
theorem dX8_number_57 : decode cX8_number 57 = .ok (.invokevirtual 87, 3) := by decide +kernel
theorem dX8_number_60 : decode cX8_number 60 = .ok (.iadd, 1) := by decide +kernel
theorem dX8_number_61 : decode cX8_number 61 = .ok (.bipush 48, 2) := by decide +kernel
theorem dX8_number_63 : decode cX8_number 63 = .ok (.isub, 1) := by decide +kernel
theorem dX8_number_64 : decode cX8_number 64 = .ok (.invokestatic 116, 3) := by decide +kernel
theorem dX8_number_67 : decode cX8_number 67 = .ok (.istore_n 3, 1) := by decide +kernel
theorem dX8_number_68 : decode cX8_number 68 = .ok (.aload_n 0, 1) := by decide +kernel
theorem dX8_number_69 : decode cX8_number 69 = .ok (.dup, 1) := by decide +kernel
theorem dX8_number_70 : decode cX8_number 70 = .ok (.getfield 85, 3) := by decide +kernel
theorem dX8_number_73 : decode cX8_number 73 = .ok (.iconst 1, 1) := by decide +kernel
theorem dX8_number_74 : decode cX8_number 74 = .ok (.iadd, 1) := by decide +kernel
theorem dX8_number_75 : decode cX8_number 75 = .ok (.putfield 85, 3) := by decide +kernel
theorem dX8_number_78 : decode cX8_number 78 = .ok (.goto (-42), 3) := by decide +kernel
theorem dX8_number_81 : decode cX8_number 81 = .ok (.iload_n 3, 1) := by decide +kernel
theorem dX8_number_82 : decode cX8_number 82 = .ok (.iload_n 1, 1) := by decide +kernel
theorem dX8_number_83 : decode cX8_number 83 = .ok (.iload_n 2, 1) := by decide +kernel
theorem dX8_number_84 : decode cX8_number 84 = .ok (.invokestatic 67, 3) := by decide +kernel
theorem dX8_number_87 : decode cX8_number 87 = .ok (.ifCond .ne 14, 3) := by decide +kernel
theorem dX8_number_90 : decode cX8_number 90 = .ok (.aload_n 0, 1) := by decide +kernel
theorem dX8_number_91 : decode cX8_number 91 = .ok (.iconst 2, 1) := by decide +kernel
theorem dX8_number_92 : decode cX8_number 92 = .ok (.aload_n 0, 1) := by decide +kernel
theorem dX8_number_93 : decode cX8_number 93 = .ok (.getfield 91, 3) := by decide +kernel
theorem dX8_number_96 : decode cX8_number 96 = .ok (.invokevirtual 111, 3) := by decide +kernel
theorem dX8_number_99 : decode cX8_number 99 = .ok (.iload_n 1, 1) := by decide +kernel
theorem dX8_number_100 : decode cX8_number 100 = .ok (.ireturn, 1) := by decide +kernel
theorem dX8_number_101 : decode cX8_number 101 = .ok (.iload_n 3, 1) := by decide +kernel
theorem dX8_number_102 : decode cX8_number 102 = .ok (.ireturn, 1) := by decide +kernel
set_option maxRecDepth 20000 in
theorem s_X8_number_0 {l : Launch} {G : GT} {d : Nat} {Q : AV → AH → Prop} {H : AH} {a0 x1 x2 : Int} (h_r0 : Lay LMod H a0) (h : ((hg H a0 10) = 0 → CL l G mX8_next d 0 0 [vR a0] H (fun r9 H1 => Lay LMod H1 a0 ∧ ∃ y1 : Int, r9 = vI y1 ∧ (48 ≤ y1 ∧ y1 ≤ 57 → AW l G mX8_number (d + 1) 0 0 Q 36 [vR a0, vI x1, vI x2, vI 0] [] 0 0 H1) ∧ (¬ (48 ≤ y1 ∧ y1 ≤ 57) → CL l G mX8_fails d 0 0 [vR a0, vI 1, vI (hg H1 a0 8)] H1 (fun r9 H2 => Lay LMod H2 a0 ∧ r9 = vV ∧ Q (vI x1) H2)))) ∧ (¬ (hg H a0 10) = 0 → Q (vI x1) H)) : AW l G mX8_number (d + 1) 0 0 Q 0 [vR a0, vI x1, vI x2, vU] [] 0 0 H := by
  refine a_aload_n dX8_number_0 rfl rfl ?_
  refine a_getI dX8_number_1 fw_RX8_94 rfl rfl (kMod_0 h_r0) ?_
  refine a_if_eq dX8_number_4 (tgt := 9) rfl (fun c4 => ?_) (fun c4 => ?_)
  · replace h := h.1 c4
    refine a_aload_n dX8_number_9 rfl rfl ?_
    refine a_callV dX8_number_10 cw_X8_number_10 (as := []) rfl rfl (kMod_0 h_r0) (Nat.le_refl _) (Nat.le_of_ble_eq_true rfl) (nocov rfl) (Nat.le_of_ble_eq_true rfl) (Nat.le_of_ble_eq_true rfl) (CL.mono h (fun r9 H1 h => ?_))
    obtain ⟨h_r0_1, y1, e9, h⟩ := h
    rw [e9]
    show AW l G mX8_number (d + 1) 0 0 Q 13 [vR a0, vI x1, vI x2, vU] [vI y1] 0 0 H1
    refine a_bipush dX8_number_13 (by decide) ?_
    refine a_bipush dX8_number_15 (by decide) ?_
    refine a_callS dX8_number_17 cw_X8_number_17 (as := [vI y1, vI 48, vI 57]) rfl rfl (Nat.le_refl _) (Nat.le_of_ble_eq_true rfl) (nocov rfl) (Nat.le_of_ble_eq_true rfl) (Nat.le_of_ble_eq_true rfl) (CL.mono (c_in  ) (fun r9 H9 h9 => ?_))
    rw [h9.1, h9.2]
    show AW l G mX8_number (d + 1) 0 0 Q 20 [vR a0, vI x1, vI x2, vU] [vI (bi (decide (48 ≤ y1 ∧ y1 ≤ 57)))] 0 0 H1
    refine a_if_ne dX8_number_20 (tgt := 34) rfl (fun c20 => ?_) (fun c20 => ?_)
    · replace h := h.1 (bi_1 c20)
      refine a_iconst dX8_number_34 ⟨by decide, by decide⟩ ?_
      refine a_istore_n dX8_number_35 rfl (Nat.le_of_ble_eq_true rfl) (ls' := [vR a0, vI x1, vI x2, vI 0]) rfl ?_
      exact h
    · replace h := h.2 (bi_0 c20)
      refine a_aload_n dX8_number_23 rfl rfl ?_
      refine a_iconst dX8_number_24 ⟨by decide, by decide⟩ ?_
      refine a_aload_n dX8_number_25 rfl rfl ?_
      refine a_getI dX8_number_26 fw_RX8_85 rfl rfl (kMod_0 h_r0_1) ?_
      refine a_callV dX8_number_29 cw_X8_number_29 (as := [vI 1, vI (hg H1 a0 8)]) rfl rfl (kMod_0 h_r0_1) (Nat.le_refl _) (Nat.le_of_ble_eq_true rfl) (nocov rfl) (Nat.le_of_ble_eq_true rfl) (Nat.le_of_ble_eq_true rfl) (CL.mono h (fun r9 H2 h => ?_))
      obtain ⟨h_r0_2, e9, h⟩ := h
      rw [e9]
      show AW l G mX8_number (d + 1) 0 0 Q 32 [vR a0, vI x1, vI x2, vU] [] 0 0 H2
      refine a_iload_n dX8_number_32 rfl rfl ?_
      exact a_iret dX8_number_33 rfl (Nat.le_of_ble_eq_true rfl) (Nat.le_of_ble_eq_true rfl) h
  · replace h := h.2 c4
    refine a_iload_n dX8_number_7 rfl rfl ?_
    exact a_iret dX8_number_8 rfl (Nat.le_of_ble_eq_true rfl) (Nat.le_of_ble_eq_true rfl) h

set_option maxRecDepth 20000 in
theorem s_X8_number_36 {l : Launch} {G : GT} {d : Nat} {Q : AV → AH → Prop} {H : AH} {a0 x1 x2 x3 : Int} (h_r0 : Lay LMod H a0) (h : CL l G mX8_here d 0 0 [vR a0] H (fun r9 H1 => Lay LMod H1 a0 ∧ ∃ y1 : Int, r9 = vI y1 ∧ (¬ (48 ≤ y1 ∧ y1 ≤ 57) → (x1 ≤ x3 ∧ x3 ≤ x2 → Q (vI x3) H1) ∧ (¬ (x1 ≤ x3 ∧ x3 ≤ x2) → CL l G mX8_fails d 0 0 [vR a0, vI 2, vI (hg H1 a0 9)] H1 (fun r9 H2 => Lay LMod H2 a0 ∧ r9 = vV ∧ Q (vI x1) H2))) ∧ (48 ≤ y1 ∧ y1 ≤ 57 → (-2147483648 ≤ 10 * x3 ∧ 10 * x3 ≤ 2147483647) ∧ CL l G mX8_here d 0 0 [vR a0] H1 (fun r9 H2 => Lay LMod H2 a0 ∧ ∃ y2 : Int, r9 = vI y2 ∧ (-2147483648 ≤ (10 * x3) + y2 ∧ (10 * x3) + y2 ≤ 2147483647) ∧ (-2147483648 ≤ ((10 * x3) + y2) - 48 ∧ ((10 * x3) + y2) - 48 ≤ 2147483647) ∧ (-2147483648 ≤ (hg H2 a0 8) + 1 ∧ (hg H2 a0 8) + 1 ≤ 2147483647) ∧ ∀ H3 : AH, H3 = hs H2 a0 8 ((hg H2 a0 8) + 1) → AW l G mX8_number (d + 1) 0 0 Q 36 [vR a0, vI x1, vI x2, vI (min 10000000 (((10 * x3) + y2) - 48))] [] 0 0 H3)))) : AW l G mX8_number (d + 1) 0 0 Q 36 [vR a0, vI x1, vI x2, vI x3] [] 0 0 H := by
  refine a_aload_n dX8_number_36 rfl rfl ?_
  refine a_callV dX8_number_37 cw_X8_number_37 (as := []) rfl rfl (kMod_0 h_r0) (Nat.le_refl _) (Nat.le_of_ble_eq_true rfl) (nocov rfl) (Nat.le_of_ble_eq_true rfl) (Nat.le_of_ble_eq_true rfl) (CL.mono h (fun r9 H1 h => ?_))
  obtain ⟨h_r0_1, y1, e9, h⟩ := h
  rw [e9]
  show AW l G mX8_number (d + 1) 0 0 Q 40 [vR a0, vI x1, vI x2, vI x3] [vI y1] 0 0 H1
  refine a_bipush dX8_number_40 (by decide) ?_
  refine a_bipush dX8_number_42 (by decide) ?_
  refine a_callS dX8_number_44 cw_X8_number_44 (as := [vI y1, vI 48, vI 57]) rfl rfl (Nat.le_refl _) (Nat.le_of_ble_eq_true rfl) (nocov rfl) (Nat.le_of_ble_eq_true rfl) (Nat.le_of_ble_eq_true rfl) (CL.mono (c_in  ) (fun r9 H9 h9 => ?_))
  rw [h9.1, h9.2]
  show AW l G mX8_number (d + 1) 0 0 Q 47 [vR a0, vI x1, vI x2, vI x3] [vI (bi (decide (48 ≤ y1 ∧ y1 ≤ 57)))] 0 0 H1
  refine a_if_eq dX8_number_47 (tgt := 81) rfl (fun c47 => ?_) (fun c47 => ?_)
  · replace h := h.1 (bi_0 c47)
    refine a_iload_n dX8_number_81 rfl rfl ?_
    refine a_iload_n dX8_number_82 rfl rfl ?_
    refine a_iload_n dX8_number_83 rfl rfl ?_
    refine a_callS dX8_number_84 cw_X8_number_84 (as := [vI x3, vI x1, vI x2]) rfl rfl (Nat.le_refl _) (Nat.le_of_ble_eq_true rfl) (nocov rfl) (Nat.le_of_ble_eq_true rfl) (Nat.le_of_ble_eq_true rfl) (CL.mono (c_in  ) (fun r9 H9 h9 => ?_))
    rw [h9.1, h9.2]
    show AW l G mX8_number (d + 1) 0 0 Q 87 [vR a0, vI x1, vI x2, vI x3] [vI (bi (decide (x1 ≤ x3 ∧ x3 ≤ x2)))] 0 0 H1
    refine a_if_ne dX8_number_87 (tgt := 101) rfl (fun c87 => ?_) (fun c87 => ?_)
    · replace h := h.1 (bi_1 c87)
      refine a_iload_n dX8_number_101 rfl rfl ?_
      exact a_iret dX8_number_102 rfl (Nat.le_of_ble_eq_true rfl) (Nat.le_of_ble_eq_true rfl) h
    · replace h := h.2 (bi_0 c87)
      refine a_aload_n dX8_number_90 rfl rfl ?_
      refine a_iconst dX8_number_91 ⟨by decide, by decide⟩ ?_
      refine a_aload_n dX8_number_92 rfl rfl ?_
      refine a_getI dX8_number_93 fw_RX8_91 rfl rfl (kMod_0 h_r0_1) ?_
      refine a_callV dX8_number_96 cw_X8_number_96 (as := [vI 2, vI (hg H1 a0 9)]) rfl rfl (kMod_0 h_r0_1) (Nat.le_refl _) (Nat.le_of_ble_eq_true rfl) (nocov rfl) (Nat.le_of_ble_eq_true rfl) (Nat.le_of_ble_eq_true rfl) (CL.mono h (fun r9 H2 h => ?_))
      obtain ⟨h_r0_2, e9, h⟩ := h
      rw [e9]
      show AW l G mX8_number (d + 1) 0 0 Q 99 [vR a0, vI x1, vI x2, vI x3] [] 0 0 H2
      refine a_iload_n dX8_number_99 rfl rfl ?_
      exact a_iret dX8_number_100 rfl (Nat.le_of_ble_eq_true rfl) (Nat.le_of_ble_eq_true rfl) h
  · replace h := h.2 (bi_1 c47)
    refine a_ldc dX8_number_50 (w_1333) ?_
    show AW l G mX8_number (d + 1) 0 0 Q 52 [vR a0, vI x1, vI x2, vI x3] [vI 10000000] 0 0 H1
    refine a_bipush dX8_number_52 (by decide) ?_
    refine a_iload_n dX8_number_54 rfl rfl ?_
    obtain ⟨q55_0, h⟩ := h
    refine a_imul dX8_number_55 q55_0 ?_
    refine a_aload_n dX8_number_56 rfl rfl ?_
    refine a_callV dX8_number_57 cw_X8_number_57 (as := []) rfl rfl (kMod_0 h_r0_1) (Nat.le_refl _) (Nat.le_of_ble_eq_true rfl) (nocov rfl) (Nat.le_of_ble_eq_true rfl) (Nat.le_of_ble_eq_true rfl) (CL.mono h (fun r9 H2 h => ?_))
    obtain ⟨h_r0_2, y2, e9, h⟩ := h
    rw [e9]
    show AW l G mX8_number (d + 1) 0 0 Q 60 [vR a0, vI x1, vI x2, vI x3] [vI y2, vI (10 * x3), vI 10000000] 0 0 H2
    obtain ⟨q60_0, h⟩ := h
    refine a_iadd dX8_number_60 q60_0 ?_
    refine a_bipush dX8_number_61 (by decide) ?_
    obtain ⟨q63_0, h⟩ := h
    refine a_isub dX8_number_63 q63_0 ?_
    refine a_mmin dX8_number_64 cw_X8_number_64 (Nat.le_of_ble_eq_true rfl) (Nat.le_of_ble_eq_true rfl) (Nat.le_of_ble_eq_true rfl) ?_
    refine a_istore_n dX8_number_67 rfl (Nat.le_of_ble_eq_true rfl) (ls' := [vR a0, vI x1, vI x2, vI (min 10000000 (((10 * x3) + y2) - 48))]) rfl ?_
    refine a_aload_n dX8_number_68 rfl rfl ?_
    refine a_dup dX8_number_69 rfl ?_
    refine a_getI dX8_number_70 fw_RX8_85 rfl rfl (kMod_0 h_r0_2) ?_
    refine a_iconst dX8_number_73 ⟨by decide, by decide⟩ ?_
    obtain ⟨q74_0, h⟩ := h
    refine a_iadd dX8_number_74 q74_0 ?_
    refine a_putI dX8_number_75 fp_RX8_85 rfl rfl (kMod_0 h_r0_2) ?_
    have h_r0_3 := Lay.wr h_r0_2 ok_Mod (nrf_fld 8 (kMod_0 h_r0_2) (by decide) (by decide)) (i := 8) (x := ((hg H2 a0 8) + 1))
    generalize e_H3 : hs H2 a0 8 ((hg H2 a0 8) + 1) = H3 at h_r0_3 ⊢
    replace h := h H3 e_H3.symm
    refine a_goto dX8_number_78 (tgt := 36) rfl ?_
    exact h


