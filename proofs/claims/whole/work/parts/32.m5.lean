theorem dX8_placeIn_0 : decode cX8_placeIn 0 = .ok (.aload_n 0, 1) := by decide +kernel
theorem dX8_placeIn_1 : decode cX8_placeIn 1 = .ok (.invokevirtual 261, 3) := by decide +kernel
theorem dX8_placeIn_4 : decode cX8_placeIn 4 = .ok (.aload_n 0, 1) := by decide +kernel
theorem dX8_placeIn_5 : decode cX8_placeIn 5 = .ok (.iload_n 2, 1) := by decide +kernel
theorem dX8_placeIn_6 : decode cX8_placeIn 6 = .ok (.bipush 6, 2) := by decide +kernel
theorem dX8_placeIn_8 : decode cX8_placeIn 8 = .ok (.invokevirtual 75, 3) := by decide +kernel
theorem dX8_placeIn_11 : decode cX8_placeIn 11 = .ok (.istore_n 3, 1) := by decide +kernel
theorem dX8_placeIn_12 : decode cX8_placeIn 12 = .ok (.iconst 0, 1) := by decide +kernel
theorem dX8_placeIn_13 : decode cX8_placeIn 13 = .ok (.istore 4, 2) := by decide +kernel
theorem dX8_placeIn_15 : decode cX8_placeIn 15 = .ok (.aload_n 1, 1) := by decide +kernel
theorem dX8_placeIn_16 : decode cX8_placeIn 16 = .ok (.bipush 24, 2) := by decide +kernel
theorem dX8_placeIn_18 : decode cX8_placeIn 18 = .ok (.iload_n 3, 1) := by decide +kernel
theorem dX8_placeIn_19 : decode cX8_placeIn 19 = .ok (.imul, 1) := by decide +kernel
theorem dX8_placeIn_20 : decode cX8_placeIn 20 = .ok (.iload 4, 2) := by decide +kernel
theorem dX8_placeIn_22 : decode cX8_placeIn 22 = .ok (.iadd, 1) := by decide +kernel
theorem dX8_placeIn_23 : decode cX8_placeIn 23 = .ok (.iaload, 1) := by decide +kernel
theorem dX8_placeIn_24 : decode cX8_placeIn 24 = .ok (.iload_n 2, 1) := by decide +kernel
theorem dX8_placeIn_25 : decode cX8_placeIn 25 = .ok (.if_icmp .eq 9, 3) := by decide +kernel
theorem dX8_placeIn_28 : decode cX8_placeIn 28 = .ok (.iinc 4 1, 3) := by decide +kernel
theorem dX8_placeIn_31 : decode cX8_placeIn 31 = .ok (.goto (-16), 3) := by decide +kernel
theorem dX8_placeIn_34 : decode cX8_placeIn 34 = .ok (.iload 4, 2) := by decide +kernel
theorem dX8_placeIn_36 : decode cX8_placeIn 36 = .ok (.ireturn, 1) := by decide +kernel
set_option maxRecDepth 20000 in
theorem s_X8_placeIn_0 {l : Launch} {G : GT} {d : Nat} {Q : AV → AH → Prop} {H : AH} {a0 a1 x2 : Int} {M : Row} (hW : MW H a0 M) (h_r1 : Lay (LArr 10 72) H a1) (h : ∀ H1 : AH, only H H1 (pMks a0) → MW H1 a0 M → Made H1 a0 M → Lay (LArr 10 72) H1 a1 ∧ (0 ≤ x2 ∧ x2 < 24) ∧ AW l G mX8_placeIn (d + 1) 0 0 Q 15 [vR a0, vR a1, vI x2, vI (ofM M x2 6), vI 0] [] 0 0 H1) (hd : 14 ≤ d := by omega) : AW l G mX8_placeIn (d + 1) 0 0 Q 0 [vR a0, vR a1, vI x2, vU, vU] [] 0 0 H := by
  refine a_aload_n dX8_placeIn_0 rfl rfl ?_
  refine a_callV dX8_placeIn_1 cw_X8_placeIn_1 (as := []) rfl rfl (kMod_0 hW.1) (Nat.le_refl _) (Nat.le_of_ble_eq_true rfl) (nocov rfl) (Nat.le_of_ble_eq_true rfl) (Nat.le_of_ble_eq_true rfl) (CL.mono (c_makesQ (show MW H a0 M from ⟨hW.1, hW.2.1, hW.2.2⟩) ) (fun r9 H1 h9 => ?_))
  obtain ⟨e9, o_H1, hW_H1, hX_H1⟩ := h9
  rw [e9]
  replace h := h H1 o_H1 hW_H1 hX_H1
  obtain ⟨h_r1_1, h⟩ := h
  show AW l G mX8_placeIn (d + 1) 0 0 Q 4 [vR a0, vR a1, vI x2, vU, vU] [] 0 0 H1
  refine a_aload_n dX8_placeIn_4 rfl rfl ?_
  refine a_iload_n dX8_placeIn_5 rfl rfl ?_
  refine a_bipush dX8_placeIn_6 (by decide) ?_
  obtain ⟨q8_0, h⟩ := h
  refine a_callV dX8_placeIn_8 cw_X8_placeIn_8 (as := [vI x2, vI 6]) rfl rfl (kMod_0 hW_H1.1) (Nat.le_refl _) (Nat.le_of_ble_eq_true rfl) (nocov rfl) (Nat.le_of_ble_eq_true rfl) (Nat.le_of_ble_eq_true rfl) (CL.mono (c_of hW_H1.1 ⟨q8_0.1, q8_0.2, by decide, by decide⟩) (fun r9 H9 h9 => ?_))
  rw [h9.1, h9.2]
  (try rw [hW_H1.2.1])
  show AW l G mX8_placeIn (d + 1) 0 0 Q 11 [vR a0, vR a1, vI x2, vU, vU] [vI (ofM M x2 6)] 0 0 H1
  refine a_istore_n dX8_placeIn_11 rfl (Nat.le_of_ble_eq_true rfl) (ls' := [vR a0, vR a1, vI x2, vI (ofM M x2 6), vU]) rfl ?_
  refine a_iconst dX8_placeIn_12 ⟨by decide, by decide⟩ ?_
  refine a_istore dX8_placeIn_13 (Nat.le_of_ble_eq_true rfl) (ls' := [vR a0, vR a1, vI x2, vI (ofM M x2 6), vI 0]) rfl ?_
  exact h

set_option maxRecDepth 20000 in
theorem s_X8_placeIn_15 {l : Launch} {G : GT} {d : Nat} {Q : AV → AH → Prop} {H : AH} {a0 a1 x2 x3 x4 : Int} {M : Row} (hW : MW H a0 M) (h_r1 : Lay (LArr 10 72) H a1) (h : (-2147483648 ≤ 24 * x3 ∧ 24 * x3 ≤ 2147483647) ∧ (-2147483648 ≤ (24 * x3) + x4 ∧ (24 * x3) + x4 ≤ 2147483647) ∧ (0 ≤ ((24 * x3) + x4) ∧ ((24 * x3) + x4) < 72) ∧ ((hg H a1 ((24 * x3) + x4)) = x2 → Q (vI x4) H) ∧ (¬ (hg H a1 ((24 * x3) + x4)) = x2 → (-2147483648 ≤ x4 + 1 ∧ x4 + 1 ≤ 2147483647) ∧ AW l G mX8_placeIn (d + 1) 0 0 Q 15 [vR a0, vR a1, vI x2, vI x3, vI (x4 + 1)] [] 0 0 H)) (hd : 14 ≤ d := by omega) : AW l G mX8_placeIn (d + 1) 0 0 Q 15 [vR a0, vR a1, vI x2, vI x3, vI x4] [] 0 0 H := by
  refine a_aload_n dX8_placeIn_15 rfl rfl ?_
  refine a_bipush dX8_placeIn_16 (by decide) ?_
  refine a_iload_n dX8_placeIn_18 rfl rfl ?_
  obtain ⟨q19_0, h⟩ := h
  refine a_imul dX8_placeIn_19 q19_0 ?_
  refine a_iload dX8_placeIn_20 rfl ?_
  obtain ⟨q22_0, h⟩ := h
  refine a_iadd dX8_placeIn_22 q22_0 ?_
  obtain ⟨q23_0, h⟩ := h
  refine b_iald dX8_placeIn_23 (kArr_0 h_r1) (nArr_0 h_r1) q23_0 ?_
  refine a_iload_n dX8_placeIn_24 rfl rfl ?_
  refine a_icmp_eq dX8_placeIn_25 (tgt := 34) rfl (fun c25 => ?_) (fun c25 => ?_)
  · replace h := h.1 c25
    refine a_iload dX8_placeIn_34 rfl ?_
    exact a_iret dX8_placeIn_36 rfl (Nat.le_of_ble_eq_true rfl) (Nat.le_of_ble_eq_true rfl) h
  · replace h := h.2 c25
    obtain ⟨q28_0, h⟩ := h
    refine a_iinc dX8_placeIn_28 rfl (Nat.le_of_ble_eq_true rfl) (by decide) q28_0 (ls' := [vR a0, vR a1, vI x2, vI x3, vI (x4 + 1)]) rfl ?_
    refine a_goto dX8_placeIn_31 (tgt := 15) rfl ?_
    exact h

theorem placeIn_at {l : Launch} {G : GT} {d : Nat} {H0 H : AH} {a q f r : Int} {M : Row} {L : List Int} (hW : MW H a M) (hA : Lay (LArr 10 72) H q) (hr : 0 ≤ r ∧ r < 3) (hlen : L.length ≤ 24) (hl : lst H q (24 * r) L) (hf : f ∈ L) (hd : 14 ≤ d) (P : Prop) (ho : P) : ∀ j, j ≤ L.idxOf f → AW l G mX8_placeIn (d + 1) 0 0 (fun v H' => v = vI (ixOf L f) ∧ H' = H ∧ P) 15 [vR a, vR q, vI f, vI r, vI j] [] 0 0 H := by
  have hlt := List.idxOf_lt_length_of_mem hf
  refine upN _ ?_ ?_
  · intro j hj ih
    have hv := hl.at (k := j) (by omega)
    refine s_X8_placeIn_15 hW hA ⟨by omega, by omega, by omega, fun c => ?_, fun c => ⟨by omega, ih⟩⟩
    rw [hv] at c
    have := List.not_of_lt_findIdx (p := (· == f)) (xs := L) hj
    simp [c] at this
  · have hv := hl.at hlt
    rw [List.getElem_idxOf hlt] at hv
    exact s_X8_placeIn_15 hW hA ⟨by omega, by omega, by omega, fun c => ⟨rfl, rfl, ho⟩, fun c => absurd hv c⟩
theorem c_placeInP {l : Launch} {G : GT} {d : Nat} {H : AH} {a f : Int} {M : Row} (hW : MW H a M) (hf : 0 ≤ f ∧ f < M 6) (hp : ofM M f 7 = 0) (hd : 15 ≤ d := by omega) : CL l G mX8_placeIn d 0 0 [vR a, vR (a + 9), vI f] H (fun v H' => v = vI (ixOf (planL M (ofM M f 6)) f) ∧ only H H' (pMks a) ∧ MW H' a M ∧ Made H' a M) := by
  obtain ⟨d, rfl⟩ : ∃ k, d = k + 1 := ⟨d - 1, by omega⟩
  have hM := hW.2.2.1
  have hn := okM_n hM
  have hn5 := hM.1.2.2.2.2.2.1
  obtain ⟨-, -, -, -, -, -, h6, -⟩ := hM.2 f hf.1 hf.2
  obtain ⟨p1, p2, p3⟩ := planL_perm hM (r := ofM M f 6)
  have hlc := comeL_len hM (r := ofM M f 6)
  refine CL.of (by decide) rfl (Nat.le_of_ble_eq_true rfl) (s_X8_placeIn_0 hW (sA_Mod_9 hW.1) fun H1 o1 w1 m1 => ⟨sA_Mod_9 w1.1, by omega, ?_⟩)
  have := placeIn_at (l := l) (G := G) (d := d) (H0 := H) (f := f) (L := planL M (ofM M f 6)) w1 (sA_Mod_9 w1.1) (r := ofM M f 6) (by omega) (by omega) (m1 _ h6.1 h6.2).2.2.1 ((p3 f).mpr ((comeL_mem hM).mpr ⟨hf, hp, rfl⟩)) (by omega) _ (⟨o1, w1, m1⟩ : only H H1 (pMks a) ∧ MW H1 a M ∧ Made H1 a M) 0 (Nat.zero_le _)
  exact this.post (fun v H' q => ⟨q.1, by rw [q.2.1]; exact q.2.2⟩)
theorem c_placeInC {l : Launch} {G : GT} {d : Nat} {H : AH} {a f : Int} {M : Row} (hW : MW H a M) (hf : 0 ≤ f ∧ f < M 6) (hp : ofM M f 7 = 0) (hd : 15 ≤ d := by omega) : CL l G mX8_placeIn d 0 0 [vR a, vR (a + 8), vI f] H (qP a M (vI (ixOf (comeL M (ofM M f 6)) f)) H) := by
  obtain ⟨d, rfl⟩ : ∃ k, d = k + 1 := ⟨d - 1, by omega⟩
  have hM := hW.2.2.1
  have hn := okM_n hM
  have hn5 := hM.1.2.2.2.2.2.1
  obtain ⟨-, -, -, -, -, -, h6, -⟩ := hM.2 f hf.1 hf.2
  have hlc := comeL_len hM (r := ofM M f 6)
  refine CL.of (by decide) rfl (Nat.le_of_ble_eq_true rfl) (s_X8_placeIn_0 hW (sA_Mod_8 hW.1) fun H1 o1 w1 m1 => ⟨sA_Mod_8 w1.1, by omega, ?_⟩)
  have := placeIn_at (l := l) (G := G) (d := d) (H0 := H) (f := f) (L := comeL M (ofM M f 6)) w1 (sA_Mod_8 w1.1) (r := ofM M f 6) (by omega) (by omega) (m1 _ h6.1 h6.2).2.1 ((comeL_mem hM).mpr ⟨hf, hp, rfl⟩) (by omega) _ (⟨o1, w1⟩ : only H H1 (pMks a) ∧ MW H1 a M) 0 (Nat.zero_le _)
  exact this.post (fun v H' q => ⟨q.1, by rw [q.2.1]; exact q.2.2⟩)

theorem dX8_told_0 : decode cX8_told 0 = .ok (.aload_n 0, 1) := by decide +kernel
theorem dX8_told_1 : decode cX8_told 1 = .ok (.iload_n 1, 1) := by decide +kernel
theorem dX8_told_2 : decode cX8_told 2 = .ok (.invokevirtual 71, 3) := by decide +kernel
theorem dX8_told_5 : decode cX8_told 5 = .ok (.ifCond .ne 5, 3) := by decide +kernel
theorem dX8_told_8 : decode cX8_told 8 = .ok (.iconst 0, 1) := by decide +kernel
theorem dX8_told_9 : decode cX8_told 9 = .ok (.ireturn, 1) := by decide +kernel
theorem dX8_told_10 : decode cX8_told 10 = .ok (.aload_n 0, 1) := by decide +kernel
theorem dX8_told_11 : decode cX8_told 11 = .ok (.iload_n 1, 1) := by decide +kernel
theorem dX8_told_12 : decode cX8_told 12 = .ok (.iload_n 2, 1) := by decide +kernel
theorem dX8_told_13 : decode cX8_told 13 = .ok (.invokevirtual 75, 3) := by decide +kernel
theorem dX8_told_16 : decode cX8_told 16 = .ok (.ireturn, 1) := by decide +kernel
set_option maxRecDepth 20000 in
theorem s_X8_told_0 {l : Launch} {G : GT} {d : Nat} {Q : AV → AH → Prop} {H : AH} {a0 x1 x2 : Int} {M : Row} (hW : MW H a0 M) (h : (0 ≤ M 6 ∧ M 6 ≤ 24) ∧ ∀ H1 : AH, H1 = hs H a0 5 (1 - bi (decide (0 ≤ x1 ∧ x1 < M 6))) → (0 ≤ x1 ∧ x1 < M 6 → (0 ≤ x1 ∧ x1 < 24 ∧ 0 ≤ x2 ∧ x2 < 16) ∧ Q (vI (ofM M x1 x2)) H1) ∧ (¬ (0 ≤ x1 ∧ x1 < M 6) → Q (vI 0) H1)) (hd : 1 ≤ d := by omega) : AW l G mX8_told (d + 1) 0 0 Q 0 [vR a0, vI x1, vI x2] [] 0 0 H := by
  refine a_aload_n dX8_told_0 rfl rfl ?_
  refine a_iload_n dX8_told_1 rfl rfl ?_
  obtain ⟨q2_0, h⟩ := h
  refine a_callV dX8_told_2 cw_X8_told_2 (as := [vI x1]) rfl rfl (kMod_0 hW.1) (Nat.le_refl _) (Nat.le_of_ble_eq_true rfl) (nocov rfl) (Nat.le_of_ble_eq_true rfl) (Nat.le_of_ble_eq_true rfl) (CL.mono (c_isFlight hW.1 (by rw [hW.2.1]; exact q2_0)) (fun r9 H9 h9 => ?_))
  rw [h9.1, h9.2]
  (try rw [hW.2.1])
  have h_r0_1 := Lay.wr hW.1 ok_Mod (nrf_fld 5 (kMod_0 hW.1) (by decide) (by decide)) (i := 5) (x := (1 - bi (decide (0 ≤ x1 ∧ x1 < M 6))))
  generalize e_H1 : hs H a0 5 (1 - bi (decide (0 ≤ x1 ∧ x1 < M 6))) = H1 at h_r0_1 ⊢
  replace h := h H1 e_H1.symm
  have row_H1 := (show rowM H1 a0 = _ from by rw [← e_H1, rowM_ne (by omega), hW.2.1])
  have mk_H1 := (show okM _ ∧ mkd H1 a0 from by rw [← e_H1]; exact ⟨hW.2.2.1, mkd_wr hW.2.2.2 (by omega) (by omega) (by omega)⟩)
  show AW l G mX8_told (d + 1) 0 0 Q 5 [vR a0, vI x1, vI x2] [vI (bi (decide (0 ≤ x1 ∧ x1 < M 6)))] 0 0 H1
  refine a_if_ne dX8_told_5 (tgt := 10) rfl (fun c5 => ?_) (fun c5 => ?_)
  · replace h := h.1 (bi_1 c5)
    refine a_aload_n dX8_told_10 rfl rfl ?_
    refine a_iload_n dX8_told_11 rfl rfl ?_
    refine a_iload_n dX8_told_12 rfl rfl ?_
    obtain ⟨q13_0, h⟩ := h
    refine a_callV dX8_told_13 cw_X8_told_13 (as := [vI x1, vI x2]) rfl rfl (kMod_0 h_r0_1) (Nat.le_refl _) (Nat.le_of_ble_eq_true rfl) (nocov rfl) (Nat.le_of_ble_eq_true rfl) (Nat.le_of_ble_eq_true rfl) (CL.mono (c_of h_r0_1 q13_0) (fun r9 H9 h9 => ?_))
    rw [h9.1, h9.2]
    (try rw [row_H1])
    show AW l G mX8_told (d + 1) 0 0 Q 16 [vR a0, vI x1, vI x2] [vI (ofM M x1 x2)] 0 0 H1
    exact a_iret dX8_told_16 rfl (Nat.le_of_ble_eq_true rfl) (Nat.le_of_ble_eq_true rfl) h
  · replace h := h.2 (bi_0 c5)
    refine a_iconst dX8_told_8 ⟨by decide, by decide⟩ ?_
    exact a_iret dX8_told_9 rfl (Nat.le_of_ble_eq_true rfl) (Nat.le_of_ble_eq_true rfl) h


theorem dX8_timeOf_0 : decode cX8_timeOf 0 = .ok (.aload_n 0, 1) := by decide +kernel
theorem dX8_timeOf_1 : decode cX8_timeOf 1 = .ok (.iload_n 1, 1) := by decide +kernel
theorem dX8_timeOf_2 : decode cX8_timeOf 2 = .ok (.invokevirtual 71, 3) := by decide +kernel
theorem dX8_timeOf_5 : decode cX8_timeOf 5 = .ok (.ifCond .ne 5, 3) := by decide +kernel
theorem dX8_timeOf_8 : decode cX8_timeOf 8 = .ok (.iconst 0, 1) := by decide +kernel
theorem dX8_timeOf_9 : decode cX8_timeOf 9 = .ok (.ireturn, 1) := by decide +kernel
theorem dX8_timeOf_10 : decode cX8_timeOf 10 = .ok (.aload_n 0, 1) := by decide +kernel
theorem dX8_timeOf_11 : decode cX8_timeOf 11 = .ok (.iload_n 1, 1) := by decide +kernel
theorem dX8_timeOf_12 : decode cX8_timeOf 12 = .ok (.invokevirtual 267, 3) := by decide +kernel
theorem dX8_timeOf_15 : decode cX8_timeOf 15 = .ok (.ifCond .eq 11, 3) := by decide +kernel
theorem dX8_timeOf_18 : decode cX8_timeOf 18 = .ok (.aload_n 0, 1) := by decide +kernel
theorem dX8_timeOf_19 : decode cX8_timeOf 19 = .ok (.iload_n 1, 1) := by decide +kernel
theorem dX8_timeOf_20 : decode cX8_timeOf 20 = .ok (.invokevirtual 270, 3) := by decide +kernel
theorem dX8_timeOf_23 : decode cX8_timeOf 23 = .ok (.goto 4, 3) := by decide +kernel
theorem dX8_timeOf_26 : decode cX8_timeOf 26 = .ok (.iconst (-1), 1) := by decide +kernel
theorem dX8_timeOf_27 : decode cX8_timeOf 27 = .ok (.ireturn, 1) := by decide +kernel
set_option maxRecDepth 20000 in
theorem s_X8_timeOf_0 {l : Launch} {G : GT} {d : Nat} {Q : AV → AH → Prop} {H : AH} {a0 x1 : Int} {M : Row} (hW : MW H a0 M) (h : (0 ≤ M 6 ∧ M 6 ≤ 24) ∧ ∀ H1 : AH, H1 = hs H a0 5 (1 - bi (decide (0 ≤ x1 ∧ x1 < M 6))) → (0 ≤ x1 ∧ x1 < M 6 → (0 ≤ x1 ∧ x1 < 24) ∧ (¬ (¬ ofM M x1 7 = 3) → Q (vI (-1)) H1) ∧ (¬ ofM M x1 7 = 3 → (0 ≤ x1 ∧ x1 < M 6) ∧ ∀ H2 : AH, only H1 H2 (pMks a0) → MW H2 a0 M → Q (vI (tmNow M x1)) H2)) ∧ (¬ (0 ≤ x1 ∧ x1 < M 6) → Q (vI 0) H1)) (hd : 15 ≤ d := by omega) : AW l G mX8_timeOf (d + 1) 0 0 Q 0 [vR a0, vI x1] [] 0 0 H := by
  refine a_aload_n dX8_timeOf_0 rfl rfl ?_
  refine a_iload_n dX8_timeOf_1 rfl rfl ?_
  obtain ⟨q2_0, h⟩ := h
  refine a_callV dX8_timeOf_2 cw_X8_timeOf_2 (as := [vI x1]) rfl rfl (kMod_0 hW.1) (Nat.le_refl _) (Nat.le_of_ble_eq_true rfl) (nocov rfl) (Nat.le_of_ble_eq_true rfl) (Nat.le_of_ble_eq_true rfl) (CL.mono (c_isFlight hW.1 (by rw [hW.2.1]; exact q2_0)) (fun r9 H9 h9 => ?_))
  rw [h9.1, h9.2]
  (try rw [hW.2.1])
  have h_r0_1 := Lay.wr hW.1 ok_Mod (nrf_fld 5 (kMod_0 hW.1) (by decide) (by decide)) (i := 5) (x := (1 - bi (decide (0 ≤ x1 ∧ x1 < M 6))))
  generalize e_H1 : hs H a0 5 (1 - bi (decide (0 ≤ x1 ∧ x1 < M 6))) = H1 at h_r0_1 ⊢
  replace h := h H1 e_H1.symm
  have row_H1 := (show rowM H1 a0 = _ from by rw [← e_H1, rowM_ne (by omega), hW.2.1])
  have mk_H1 := (show okM _ ∧ mkd H1 a0 from by rw [← e_H1]; exact ⟨hW.2.2.1, mkd_wr hW.2.2.2 (by omega) (by omega) (by omega)⟩)
  show AW l G mX8_timeOf (d + 1) 0 0 Q 5 [vR a0, vI x1] [vI (bi (decide (0 ≤ x1 ∧ x1 < M 6)))] 0 0 H1
  refine a_if_ne dX8_timeOf_5 (tgt := 10) rfl (fun c5 => ?_) (fun c5 => ?_)
  · replace h := h.1 (bi_1 c5)
    refine a_aload_n dX8_timeOf_10 rfl rfl ?_
    refine a_iload_n dX8_timeOf_11 rfl rfl ?_
    obtain ⟨q12_0, h⟩ := h
    refine a_callV dX8_timeOf_12 cw_X8_timeOf_12 (as := [vI x1]) rfl rfl (kMod_0 h_r0_1) (Nat.le_refl _) (Nat.le_of_ble_eq_true rfl) (nocov rfl) (Nat.le_of_ble_eq_true rfl) (Nat.le_of_ble_eq_true rfl) (CL.mono (c_isThere h_r0_1 q12_0) (fun r9 H9 h9 => ?_))
    rw [h9.1, h9.2]
    (try rw [row_H1])
    show AW l G mX8_timeOf (d + 1) 0 0 Q 15 [vR a0, vI x1] [vI (bi (decide (¬ ofM M x1 7 = 3)))] 0 0 H1
    refine a_if_eq dX8_timeOf_15 (tgt := 26) rfl (fun c15 => ?_) (fun c15 => ?_)
    · replace h := h.1 (bi_0 c15)
      refine a_iconst dX8_timeOf_26 ⟨by decide, by decide⟩ ?_
      exact a_iret dX8_timeOf_27 rfl (Nat.le_of_ble_eq_true rfl) (Nat.le_of_ble_eq_true rfl) h
    · replace h := h.2 (bi_1 c15)
      refine a_aload_n dX8_timeOf_18 rfl rfl ?_
      refine a_iload_n dX8_timeOf_19 rfl rfl ?_
      obtain ⟨q20_0, h⟩ := h
      refine a_callV dX8_timeOf_20 cw_X8_timeOf_20 (as := [vI x1]) rfl rfl (kMod_0 h_r0_1) (Nat.le_refl _) (Nat.le_of_ble_eq_true rfl) (nocov rfl) (Nat.le_of_ble_eq_true rfl) (Nat.le_of_ble_eq_true rfl) (CL.mono (c_timeNow (show MW H1 a0 M from ⟨h_r0_1, row_H1, mk_H1⟩) q20_0) (fun r9 H2 h9 => ?_))
      obtain ⟨e9, o_H2, hW_H2⟩ := h9
      rw [e9]
      replace h := h H2 o_H2 hW_H2
      show AW l G mX8_timeOf (d + 1) 0 0 Q 23 [vR a0, vI x1] [vI (tmNow M x1)] 0 0 H2
      refine a_goto dX8_timeOf_23 (tgt := 27) rfl ?_
      exact a_iret dX8_timeOf_27 rfl (Nat.le_of_ble_eq_true rfl) (Nat.le_of_ble_eq_true rfl) h
  · replace h := h.2 (bi_0 c5)
    refine a_iconst dX8_timeOf_8 ⟨by decide, by decide⟩ ?_
    exact a_iret dX8_timeOf_9 rfl (Nat.le_of_ble_eq_true rfl) (Nat.le_of_ble_eq_true rfl) h


theorem dX8_placeOf_0 : decode cX8_placeOf 0 = .ok (.aload_n 0, 1) := by decide +kernel
theorem dX8_placeOf_1 : decode cX8_placeOf 1 = .ok (.iload_n 1, 1) := by decide +kernel
theorem dX8_placeOf_2 : decode cX8_placeOf 2 = .ok (.invokevirtual 71, 3) := by decide +kernel
theorem dX8_placeOf_5 : decode cX8_placeOf 5 = .ok (.ifCond .ne 5, 3) := by decide +kernel
theorem dX8_placeOf_8 : decode cX8_placeOf 8 = .ok (.iconst 0, 1) := by decide +kernel
theorem dX8_placeOf_9 : decode cX8_placeOf 9 = .ok (.ireturn, 1) := by decide +kernel
theorem dX8_placeOf_10 : decode cX8_placeOf 10 = .ok (.aload_n 0, 1) := by decide +kernel
theorem dX8_placeOf_11 : decode cX8_placeOf 11 = .ok (.iload_n 1, 1) := by decide +kernel
theorem dX8_placeOf_12 : decode cX8_placeOf 12 = .ok (.invokevirtual 264, 3) := by decide +kernel
theorem dX8_placeOf_15 : decode cX8_placeOf 15 = .ok (.ifCond .eq 15, 3) := by decide +kernel
theorem dX8_placeOf_18 : decode cX8_placeOf 18 = .ok (.aload_n 0, 1) := by decide +kernel
theorem dX8_placeOf_19 : decode cX8_placeOf 19 = .ok (.aload_n 0, 1) := by decide +kernel
theorem dX8_placeOf_20 : decode cX8_placeOf 20 = .ok (.getfield 36, 3) := by decide +kernel
theorem dX8_placeOf_23 : decode cX8_placeOf 23 = .ok (.iload_n 1, 1) := by decide +kernel
theorem dX8_placeOf_24 : decode cX8_placeOf 24 = .ok (.invokevirtual 273, 3) := by decide +kernel
theorem dX8_placeOf_27 : decode cX8_placeOf 27 = .ok (.goto 4, 3) := by decide +kernel
theorem dX8_placeOf_30 : decode cX8_placeOf 30 = .ok (.iconst (-1), 1) := by decide +kernel
theorem dX8_placeOf_31 : decode cX8_placeOf 31 = .ok (.ireturn, 1) := by decide +kernel
set_option maxRecDepth 20000 in
theorem s_X8_placeOf_0 {l : Launch} {G : GT} {d : Nat} {Q : AV → AH → Prop} {H : AH} {a0 x1 : Int} {M : Row} (hW : MW H a0 M) (h : (0 ≤ M 6 ∧ M 6 ≤ 24) ∧ ∀ H1 : AH, H1 = hs H a0 5 (1 - bi (decide (0 ≤ x1 ∧ x1 < M 6))) → (0 ≤ x1 ∧ x1 < M 6 → (0 ≤ x1 ∧ x1 < 24) ∧ (¬ (ofM M x1 7 = 0) → Q (vI (-1)) H1) ∧ (ofM M x1 7 = 0 → (0 ≤ x1 ∧ x1 < M 6) ∧ (ofM M x1 7 = 0) ∧ ∀ H2 : AH, only H1 H2 (pMks a0) → MW H2 a0 M → Made H2 a0 M → Q (vI (ixOf (planL M (ofM M x1 6)) x1)) H2)) ∧ (¬ (0 ≤ x1 ∧ x1 < M 6) → Q (vI 0) H1)) (hd : 15 ≤ d := by omega) : AW l G mX8_placeOf (d + 1) 0 0 Q 0 [vR a0, vI x1] [] 0 0 H := by
  refine a_aload_n dX8_placeOf_0 rfl rfl ?_
  refine a_iload_n dX8_placeOf_1 rfl rfl ?_
  obtain ⟨q2_0, h⟩ := h
  refine a_callV dX8_placeOf_2 cw_X8_placeOf_2 (as := [vI x1]) rfl rfl (kMod_0 hW.1) (Nat.le_refl _) (Nat.le_of_ble_eq_true rfl) (nocov rfl) (Nat.le_of_ble_eq_true rfl) (Nat.le_of_ble_eq_true rfl) (CL.mono (c_isFlight hW.1 (by rw [hW.2.1]; exact q2_0)) (fun r9 H9 h9 => ?_))
  rw [h9.1, h9.2]
  (try rw [hW.2.1])
  have h_r0_1 := Lay.wr hW.1 ok_Mod (nrf_fld 5 (kMod_0 hW.1) (by decide) (by decide)) (i := 5) (x := (1 - bi (decide (0 ≤ x1 ∧ x1 < M 6))))
  generalize e_H1 : hs H a0 5 (1 - bi (decide (0 ≤ x1 ∧ x1 < M 6))) = H1 at h_r0_1 ⊢
  replace h := h H1 e_H1.symm
  have row_H1 := (show rowM H1 a0 = _ from by rw [← e_H1, rowM_ne (by omega), hW.2.1])
  have mk_H1 := (show okM _ ∧ mkd H1 a0 from by rw [← e_H1]; exact ⟨hW.2.2.1, mkd_wr hW.2.2.2 (by omega) (by omega) (by omega)⟩)
  show AW l G mX8_placeOf (d + 1) 0 0 Q 5 [vR a0, vI x1] [vI (bi (decide (0 ≤ x1 ∧ x1 < M 6)))] 0 0 H1
  refine a_if_ne dX8_placeOf_5 (tgt := 10) rfl (fun c5 => ?_) (fun c5 => ?_)
  · replace h := h.1 (bi_1 c5)
    refine a_aload_n dX8_placeOf_10 rfl rfl ?_
    refine a_iload_n dX8_placeOf_11 rfl rfl ?_
    obtain ⟨q12_0, h⟩ := h
    refine a_callV dX8_placeOf_12 cw_X8_placeOf_12 (as := [vI x1]) rfl rfl (kMod_0 h_r0_1) (Nat.le_refl _) (Nat.le_of_ble_eq_true rfl) (nocov rfl) (Nat.le_of_ble_eq_true rfl) (Nat.le_of_ble_eq_true rfl) (CL.mono (c_isPlanned h_r0_1 q12_0) (fun r9 H9 h9 => ?_))
    rw [h9.1, h9.2]
    (try rw [row_H1])
    show AW l G mX8_placeOf (d + 1) 0 0 Q 15 [vR a0, vI x1] [vI (bi (decide (ofM M x1 7 = 0)))] 0 0 H1
    refine a_if_eq dX8_placeOf_15 (tgt := 30) rfl (fun c15 => ?_) (fun c15 => ?_)
    · replace h := h.1 (bi_0 c15)
      refine a_iconst dX8_placeOf_30 ⟨by decide, by decide⟩ ?_
      exact a_iret dX8_placeOf_31 rfl (Nat.le_of_ble_eq_true rfl) (Nat.le_of_ble_eq_true rfl) h
    · replace h := h.2 (bi_1 c15)
      refine a_aload_n dX8_placeOf_18 rfl rfl ?_
      refine a_aload_n dX8_placeOf_19 rfl rfl ?_
      refine a_getR dX8_placeOf_20 fw_RX8_36 rfl rfl (kMod_0 h_r0_1) (rMod_0_16 h_r0_1) ?_
      refine a_iload_n dX8_placeOf_23 rfl rfl ?_
      obtain ⟨q24_0, h⟩ := h
      obtain ⟨q24_1, h⟩ := h
      refine a_callV dX8_placeOf_24 cw_X8_placeOf_24 (as := [vR (a0 + 9), vI x1]) rfl rfl (kMod_0 h_r0_1) (Nat.le_refl _) (Nat.le_of_ble_eq_true rfl) (nocov rfl) (Nat.le_of_ble_eq_true rfl) (Nat.le_of_ble_eq_true rfl) (CL.mono (c_placeInP (show MW H1 a0 M from ⟨h_r0_1, row_H1, mk_H1⟩) q24_0 q24_1) (fun r9 H2 h9 => ?_))
      obtain ⟨e9, o_H2, hW_H2, hX_H2⟩ := h9
      rw [e9]
      replace h := h H2 o_H2 hW_H2 hX_H2
      show AW l G mX8_placeOf (d + 1) 0 0 Q 27 [vR a0, vI x1] [vI (ixOf (planL M (ofM M x1 6)) x1)] 0 0 H2
      refine a_goto dX8_placeOf_27 (tgt := 31) rfl ?_
      exact a_iret dX8_placeOf_31 rfl (Nat.le_of_ble_eq_true rfl) (Nat.le_of_ble_eq_true rfl) h
  · replace h := h.2 (bi_0 c5)
    refine a_iconst dX8_placeOf_8 ⟨by decide, by decide⟩ ?_
    exact a_iret dX8_placeOf_9 rfl (Nat.le_of_ble_eq_true rfl) (Nat.le_of_ble_eq_true rfl) h


theorem dX8_firstComePlace_0 : decode cX8_firstComePlace 0 = .ok (.aload_n 0, 1) := by decide +kernel
theorem dX8_firstComePlace_1 : decode cX8_firstComePlace 1 = .ok (.iload_n 1, 1) := by decide +kernel
theorem dX8_firstComePlace_2 : decode cX8_firstComePlace 2 = .ok (.invokevirtual 71, 3) := by decide +kernel
theorem dX8_firstComePlace_5 : decode cX8_firstComePlace 5 = .ok (.ifCond .ne 5, 3) := by decide +kernel
theorem dX8_firstComePlace_8 : decode cX8_firstComePlace 8 = .ok (.iconst 0, 1) := by decide +kernel
theorem dX8_firstComePlace_9 : decode cX8_firstComePlace 9 = .ok (.ireturn, 1) := by decide +kernel
theorem dX8_firstComePlace_10 : decode cX8_firstComePlace 10 = .ok (.aload_n 0, 1) := by decide +kernel
theorem dX8_firstComePlace_11 : decode cX8_firstComePlace 11 = .ok (.iload_n 1, 1) := by decide +kernel
theorem dX8_firstComePlace_12 : decode cX8_firstComePlace 12 = .ok (.invokevirtual 264, 3) := by decide +kernel
theorem dX8_firstComePlace_15 : decode cX8_firstComePlace 15 = .ok (.ifCond .eq 15, 3) := by decide +kernel
theorem dX8_firstComePlace_18 : decode cX8_firstComePlace 18 = .ok (.aload_n 0, 1) := by decide +kernel
theorem dX8_firstComePlace_19 : decode cX8_firstComePlace 19 = .ok (.aload_n 0, 1) := by decide +kernel
theorem dX8_firstComePlace_20 : decode cX8_firstComePlace 20 = .ok (.getfield 33, 3) := by decide +kernel
theorem dX8_firstComePlace_23 : decode cX8_firstComePlace 23 = .ok (.iload_n 1, 1) := by decide +kernel
theorem dX8_firstComePlace_24 : decode cX8_firstComePlace 24 = .ok (.invokevirtual 273, 3) := by decide +kernel
theorem dX8_firstComePlace_27 : decode cX8_firstComePlace 27 = .ok (.goto 4, 3) := by decide +kernel
theorem dX8_firstComePlace_30 : decode cX8_firstComePlace 30 = .ok (.iconst (-1), 1) := by decide +kernel
theorem dX8_firstComePlace_31 : decode cX8_firstComePlace 31 = .ok (.ireturn, 1) := by decide +kernel
set_option maxRecDepth 20000 in
theorem s_X8_firstComePlace_0 {l : Launch} {G : GT} {d : Nat} {Q : AV → AH → Prop} {H : AH} {a0 x1 : Int} {M : Row} (hW : MW H a0 M) (h : (0 ≤ M 6 ∧ M 6 ≤ 24) ∧ ∀ H1 : AH, H1 = hs H a0 5 (1 - bi (decide (0 ≤ x1 ∧ x1 < M 6))) → (0 ≤ x1 ∧ x1 < M 6 → (0 ≤ x1 ∧ x1 < 24) ∧ (¬ (ofM M x1 7 = 0) → Q (vI (-1)) H1) ∧ (ofM M x1 7 = 0 → (0 ≤ x1 ∧ x1 < M 6) ∧ (ofM M x1 7 = 0) ∧ ∀ H2 : AH, only H1 H2 (pMks a0) → MW H2 a0 M → Q (vI (ixOf (comeL M (ofM M x1 6)) x1)) H2)) ∧ (¬ (0 ≤ x1 ∧ x1 < M 6) → Q (vI 0) H1)) (hd : 15 ≤ d := by omega) : AW l G mX8_firstComePlace (d + 1) 0 0 Q 0 [vR a0, vI x1] [] 0 0 H := by
  refine a_aload_n dX8_firstComePlace_0 rfl rfl ?_
  refine a_iload_n dX8_firstComePlace_1 rfl rfl ?_
  obtain ⟨q2_0, h⟩ := h
  refine a_callV dX8_firstComePlace_2 cw_X8_firstComePlace_2 (as := [vI x1]) rfl rfl (kMod_0 hW.1) (Nat.le_refl _) (Nat.le_of_ble_eq_true rfl) (nocov rfl) (Nat.le_of_ble_eq_true rfl) (Nat.le_of_ble_eq_true rfl) (CL.mono (c_isFlight hW.1 (by rw [hW.2.1]; exact q2_0)) (fun r9 H9 h9 => ?_))
  rw [h9.1, h9.2]
  (try rw [hW.2.1])
  have h_r0_1 := Lay.wr hW.1 ok_Mod (nrf_fld 5 (kMod_0 hW.1) (by decide) (by decide)) (i := 5) (x := (1 - bi (decide (0 ≤ x1 ∧ x1 < M 6))))
  generalize e_H1 : hs H a0 5 (1 - bi (decide (0 ≤ x1 ∧ x1 < M 6))) = H1 at h_r0_1 ⊢
  replace h := h H1 e_H1.symm
  have row_H1 := (show rowM H1 a0 = _ from by rw [← e_H1, rowM_ne (by omega), hW.2.1])
  have mk_H1 := (show okM _ ∧ mkd H1 a0 from by rw [← e_H1]; exact ⟨hW.2.2.1, mkd_wr hW.2.2.2 (by omega) (by omega) (by omega)⟩)
  show AW l G mX8_firstComePlace (d + 1) 0 0 Q 5 [vR a0, vI x1] [vI (bi (decide (0 ≤ x1 ∧ x1 < M 6)))] 0 0 H1
  refine a_if_ne dX8_firstComePlace_5 (tgt := 10) rfl (fun c5 => ?_) (fun c5 => ?_)
  · replace h := h.1 (bi_1 c5)
    refine a_aload_n dX8_firstComePlace_10 rfl rfl ?_
    refine a_iload_n dX8_firstComePlace_11 rfl rfl ?_
    obtain ⟨q12_0, h⟩ := h
    refine a_callV dX8_firstComePlace_12 cw_X8_firstComePlace_12 (as := [vI x1]) rfl rfl (kMod_0 h_r0_1) (Nat.le_refl _) (Nat.le_of_ble_eq_true rfl) (nocov rfl) (Nat.le_of_ble_eq_true rfl) (Nat.le_of_ble_eq_true rfl) (CL.mono (c_isPlanned h_r0_1 q12_0) (fun r9 H9 h9 => ?_))
    rw [h9.1, h9.2]
    (try rw [row_H1])
    show AW l G mX8_firstComePlace (d + 1) 0 0 Q 15 [vR a0, vI x1] [vI (bi (decide (ofM M x1 7 = 0)))] 0 0 H1
    refine a_if_eq dX8_firstComePlace_15 (tgt := 30) rfl (fun c15 => ?_) (fun c15 => ?_)
    · replace h := h.1 (bi_0 c15)
      refine a_iconst dX8_firstComePlace_30 ⟨by decide, by decide⟩ ?_
      exact a_iret dX8_firstComePlace_31 rfl (Nat.le_of_ble_eq_true rfl) (Nat.le_of_ble_eq_true rfl) h
    · replace h := h.2 (bi_1 c15)
      refine a_aload_n dX8_firstComePlace_18 rfl rfl ?_
      refine a_aload_n dX8_firstComePlace_19 rfl rfl ?_
      refine a_getR dX8_firstComePlace_20 fw_RX8_33 rfl rfl (kMod_0 h_r0_1) (rMod_0_15 h_r0_1) ?_
      refine a_iload_n dX8_firstComePlace_23 rfl rfl ?_
      obtain ⟨q24_0, h⟩ := h
      obtain ⟨q24_1, h⟩ := h
      refine a_callV dX8_firstComePlace_24 cw_X8_firstComePlace_24 (as := [vR (a0 + 8), vI x1]) rfl rfl (kMod_0 h_r0_1) (Nat.le_refl _) (Nat.le_of_ble_eq_true rfl) (nocov rfl) (Nat.le_of_ble_eq_true rfl) (Nat.le_of_ble_eq_true rfl) (CL.mono (c_placeInC (show MW H1 a0 M from ⟨h_r0_1, row_H1, mk_H1⟩) q24_0 q24_1) (fun r9 H2 h9 => ?_))
      obtain ⟨e9, o_H2, hW_H2⟩ := h9
      rw [e9]
      replace h := h H2 o_H2 hW_H2
      show AW l G mX8_firstComePlace (d + 1) 0 0 Q 27 [vR a0, vI x1] [vI (ixOf (comeL M (ofM M x1 6)) x1)] 0 0 H2
      refine a_goto dX8_firstComePlace_27 (tgt := 31) rfl ?_
      exact a_iret dX8_firstComePlace_31 rfl (Nat.le_of_ble_eq_true rfl) (Nat.le_of_ble_eq_true rfl) h
  · replace h := h.2 (bi_0 c5)
    refine a_iconst dX8_firstComePlace_8 ⟨by decide, by decide⟩ ?_
    exact a_iret dX8_firstComePlace_9 rfl (Nat.le_of_ble_eq_true rfl) (Nat.le_of_ble_eq_true rfl) h


theorem dX8_plannedAt_0 : decode cX8_plannedAt 0 = .ok (.aload_n 0, 1) := by decide +kernel
theorem dX8_plannedAt_1 : decode cX8_plannedAt 1 = .ok (.iload_n 1, 1) := by decide +kernel
theorem dX8_plannedAt_2 : decode cX8_plannedAt 2 = .ok (.invokevirtual 276, 3) := by decide +kernel
theorem dX8_plannedAt_5 : decode cX8_plannedAt 5 = .ok (.ifCond .ne 5, 3) := by decide +kernel
theorem dX8_plannedAt_8 : decode cX8_plannedAt 8 = .ok (.iconst 0, 1) := by decide +kernel
theorem dX8_plannedAt_9 : decode cX8_plannedAt 9 = .ok (.ireturn, 1) := by decide +kernel
theorem dX8_plannedAt_10 : decode cX8_plannedAt 10 = .ok (.aload_n 0, 1) := by decide +kernel
theorem dX8_plannedAt_11 : decode cX8_plannedAt 11 = .ok (.invokevirtual 261, 3) := by decide +kernel
theorem dX8_plannedAt_14 : decode cX8_plannedAt 14 = .ok (.iload_n 2, 1) := by decide +kernel
theorem dX8_plannedAt_15 : decode cX8_plannedAt 15 = .ok (.iconst 0, 1) := by decide +kernel
theorem dX8_plannedAt_16 : decode cX8_plannedAt 16 = .ok (.aload_n 0, 1) := by decide +kernel
theorem dX8_plannedAt_17 : decode cX8_plannedAt 17 = .ok (.getfield 30, 3) := by decide +kernel
theorem dX8_plannedAt_20 : decode cX8_plannedAt 20 = .ok (.iload_n 1, 1) := by decide +kernel
theorem dX8_plannedAt_21 : decode cX8_plannedAt 21 = .ok (.iaload, 1) := by decide +kernel
theorem dX8_plannedAt_22 : decode cX8_plannedAt 22 = .ok (.iconst 1, 1) := by decide +kernel
theorem dX8_plannedAt_23 : decode cX8_plannedAt 23 = .ok (.isub, 1) := by decide +kernel
theorem dX8_plannedAt_24 : decode cX8_plannedAt 24 = .ok (.invokestatic 67, 3) := by decide +kernel
theorem dX8_plannedAt_27 : decode cX8_plannedAt 27 = .ok (.ifCond .eq 17, 3) := by decide +kernel
theorem dX8_plannedAt_30 : decode cX8_plannedAt 30 = .ok (.aload_n 0, 1) := by decide +kernel
theorem dX8_plannedAt_31 : decode cX8_plannedAt 31 = .ok (.getfield 36, 3) := by decide +kernel
theorem dX8_plannedAt_34 : decode cX8_plannedAt 34 = .ok (.bipush 24, 2) := by decide +kernel
theorem dX8_plannedAt_36 : decode cX8_plannedAt 36 = .ok (.iload_n 1, 1) := by decide +kernel
theorem dX8_plannedAt_37 : decode cX8_plannedAt 37 = .ok (.imul, 1) := by decide +kernel
theorem dX8_plannedAt_38 : decode cX8_plannedAt 38 = .ok (.iload_n 2, 1) := by decide +kernel
theorem dX8_plannedAt_39 : decode cX8_plannedAt 39 = .ok (.iadd, 1) := by decide +kernel
theorem dX8_plannedAt_40 : decode cX8_plannedAt 40 = .ok (.iaload, 1) := by decide +kernel
theorem dX8_plannedAt_41 : decode cX8_plannedAt 41 = .ok (.goto 4, 3) := by decide +kernel
theorem dX8_plannedAt_44 : decode cX8_plannedAt 44 = .ok (.iconst (-1), 1) := by decide +kernel
theorem dX8_plannedAt_45 : decode cX8_plannedAt 45 = .ok (.ireturn, 1) := by decide +kernel
set_option maxRecDepth 20000 in
theorem s_X8_plannedAt_0 {l : Launch} {G : GT} {d : Nat} {Q : AV → AH → Prop} {H : AH} {a0 x1 x2 : Int} {M : Row} (hW : MW H a0 M) (h : (0 ≤ M 5 ∧ M 5 ≤ 3) ∧ ∀ H1 : AH, H1 = hs H a0 5 (1 - bi (decide (0 ≤ x1 ∧ x1 < M 5))) → (0 ≤ x1 ∧ x1 < M 5 → ∀ H2 : AH, only H1 H2 (pMks a0) → MW H2 a0 M → Made H2 a0 M → (0 ≤ x1 ∧ x1 < 3) ∧ (-2147483648 ≤ (hg H2 (a0 + 7) x1) - 1 ∧ (hg H2 (a0 + 7) x1) - 1 ≤ 2147483647) ∧ (¬ (0 ≤ x2 ∧ x2 ≤ ((hg H2 (a0 + 7) x1) - 1)) → Q (vI (-1)) H2) ∧ (0 ≤ x2 ∧ x2 ≤ ((hg H2 (a0 + 7) x1) - 1) → (-2147483648 ≤ 24 * x1 ∧ 24 * x1 ≤ 2147483647) ∧ (-2147483648 ≤ (24 * x1) + x2 ∧ (24 * x1) + x2 ≤ 2147483647) ∧ (0 ≤ ((24 * x1) + x2) ∧ ((24 * x1) + x2) < 72) ∧ Q (vI (hg H2 (a0 + 9) ((24 * x1) + x2))) H2)) ∧ (¬ (0 ≤ x1 ∧ x1 < M 5) → Q (vI 0) H1)) (hd : 14 ≤ d := by omega) : AW l G mX8_plannedAt (d + 1) 0 0 Q 0 [vR a0, vI x1, vI x2] [] 0 0 H := by
  refine a_aload_n dX8_plannedAt_0 rfl rfl ?_
  refine a_iload_n dX8_plannedAt_1 rfl rfl ?_
  obtain ⟨q2_0, h⟩ := h
  refine a_callV dX8_plannedAt_2 cw_X8_plannedAt_2 (as := [vI x1]) rfl rfl (kMod_0 hW.1) (Nat.le_refl _) (Nat.le_of_ble_eq_true rfl) (nocov rfl) (Nat.le_of_ble_eq_true rfl) (Nat.le_of_ble_eq_true rfl) (CL.mono (c_isRunway hW.1 (by rw [hW.2.1]; exact q2_0)) (fun r9 H9 h9 => ?_))
  rw [h9.1, h9.2]
  (try rw [hW.2.1])
  have h_r0_1 := Lay.wr hW.1 ok_Mod (nrf_fld 5 (kMod_0 hW.1) (by decide) (by decide)) (i := 5) (x := (1 - bi (decide (0 ≤ x1 ∧ x1 < M 5))))
  generalize e_H1 : hs H a0 5 (1 - bi (decide (0 ≤ x1 ∧ x1 < M 5))) = H1 at h_r0_1 ⊢
  replace h := h H1 e_H1.symm
  have row_H1 := (show rowM H1 a0 = _ from by rw [← e_H1, rowM_ne (by omega), hW.2.1])
  have mk_H1 := (show okM _ ∧ mkd H1 a0 from by rw [← e_H1]; exact ⟨hW.2.2.1, mkd_wr hW.2.2.2 (by omega) (by omega) (by omega)⟩)
  show AW l G mX8_plannedAt (d + 1) 0 0 Q 5 [vR a0, vI x1, vI x2] [vI (bi (decide (0 ≤ x1 ∧ x1 < M 5)))] 0 0 H1
  refine a_if_ne dX8_plannedAt_5 (tgt := 10) rfl (fun c5 => ?_) (fun c5 => ?_)
  · replace h := h.1 (bi_1 c5)
    refine a_aload_n dX8_plannedAt_10 rfl rfl ?_
    refine a_callV dX8_plannedAt_11 cw_X8_plannedAt_11 (as := []) rfl rfl (kMod_0 h_r0_1) (Nat.le_refl _) (Nat.le_of_ble_eq_true rfl) (nocov rfl) (Nat.le_of_ble_eq_true rfl) (Nat.le_of_ble_eq_true rfl) (CL.mono (c_makesQ (show MW H1 a0 M from ⟨h_r0_1, row_H1, mk_H1⟩) ) (fun r9 H2 h9 => ?_))
    obtain ⟨e9, o_H2, hW_H2, hX_H2⟩ := h9
    rw [e9]
    replace h := h H2 o_H2 hW_H2 hX_H2
    show AW l G mX8_plannedAt (d + 1) 0 0 Q 14 [vR a0, vI x1, vI x2] [] 0 0 H2
    refine a_iload_n dX8_plannedAt_14 rfl rfl ?_
    refine a_iconst dX8_plannedAt_15 ⟨by decide, by decide⟩ ?_
    refine a_aload_n dX8_plannedAt_16 rfl rfl ?_
    refine a_getR dX8_plannedAt_17 fw_RX8_30 rfl rfl (kMod_0 hW_H2.1) (rMod_0_14 hW_H2.1) ?_
    refine a_iload_n dX8_plannedAt_20 rfl rfl ?_
    obtain ⟨q21_0, h⟩ := h
    refine b_iald dX8_plannedAt_21 (kMod_7 hW_H2.1) (nMod_7 hW_H2.1) q21_0 ?_
    refine a_iconst dX8_plannedAt_22 ⟨by decide, by decide⟩ ?_
    obtain ⟨q23_0, h⟩ := h
    refine a_isub dX8_plannedAt_23 q23_0 ?_
    refine a_callS dX8_plannedAt_24 cw_X8_plannedAt_24 (as := [vI x2, vI 0, vI ((hg H2 (a0 + 7) x1) - 1)]) rfl rfl (Nat.le_refl _) (Nat.le_of_ble_eq_true rfl) (nocov rfl) (Nat.le_of_ble_eq_true rfl) (Nat.le_of_ble_eq_true rfl) (CL.mono (c_in  ) (fun r9 H9 h9 => ?_))
    rw [h9.1, h9.2]
    (try rw [hW_H2.2.1])
    show AW l G mX8_plannedAt (d + 1) 0 0 Q 27 [vR a0, vI x1, vI x2] [vI (bi (decide (0 ≤ x2 ∧ x2 ≤ ((hg H2 (a0 + 7) x1) - 1))))] 0 0 H2
    refine a_if_eq dX8_plannedAt_27 (tgt := 44) rfl (fun c27 => ?_) (fun c27 => ?_)
    · replace h := h.1 (bi_0 c27)
      refine a_iconst dX8_plannedAt_44 ⟨by decide, by decide⟩ ?_
      exact a_iret dX8_plannedAt_45 rfl (Nat.le_of_ble_eq_true rfl) (Nat.le_of_ble_eq_true rfl) h
    · replace h := h.2 (bi_1 c27)
      refine a_aload_n dX8_plannedAt_30 rfl rfl ?_
      refine a_getR dX8_plannedAt_31 fw_RX8_36 rfl rfl (kMod_0 hW_H2.1) (rMod_0_16 hW_H2.1) ?_
      refine a_bipush dX8_plannedAt_34 (by decide) ?_
      refine a_iload_n dX8_plannedAt_36 rfl rfl ?_
      obtain ⟨q37_0, h⟩ := h
      refine a_imul dX8_plannedAt_37 q37_0 ?_
      refine a_iload_n dX8_plannedAt_38 rfl rfl ?_
      obtain ⟨q39_0, h⟩ := h
      refine a_iadd dX8_plannedAt_39 q39_0 ?_
      obtain ⟨q40_0, h⟩ := h
      refine b_iald dX8_plannedAt_40 (kMod_9 hW_H2.1) (nMod_9 hW_H2.1) q40_0 ?_
      refine a_goto dX8_plannedAt_41 (tgt := 45) rfl ?_
      exact a_iret dX8_plannedAt_45 rfl (Nat.le_of_ble_eq_true rfl) (Nat.le_of_ble_eq_true rfl) h
  · replace h := h.2 (bi_0 c5)
    refine a_iconst dX8_plannedAt_8 ⟨by decide, by decide⟩ ?_
    exact a_iret dX8_plannedAt_9 rfl (Nat.le_of_ble_eq_true rfl) (Nat.le_of_ble_eq_true rfl) h


theorem dX8_delay_0 : decode cX8_delay 0 = .ok (.aload_n 0, 1) := by decide +kernel
theorem dX8_delay_1 : decode cX8_delay 1 = .ok (.iload_n 1, 1) := by decide +kernel
theorem dX8_delay_2 : decode cX8_delay 2 = .ok (.invokevirtual 71, 3) := by decide +kernel
theorem dX8_delay_5 : decode cX8_delay 5 = .ok (.ifCond .ne 5, 3) := by decide +kernel
theorem dX8_delay_8 : decode cX8_delay 8 = .ok (.iconst 0, 1) := by decide +kernel
theorem dX8_delay_9 : decode cX8_delay 9 = .ok (.ireturn, 1) := by decide +kernel
theorem dX8_delay_10 : decode cX8_delay 10 = .ok (.aload_n 0, 1) := by decide +kernel
theorem dX8_delay_11 : decode cX8_delay 11 = .ok (.iload_n 1, 1) := by decide +kernel
theorem dX8_delay_12 : decode cX8_delay 12 = .ok (.invokevirtual 267, 3) := by decide +kernel
theorem dX8_delay_15 : decode cX8_delay 15 = .ok (.ifCond .eq 18, 3) := by decide +kernel
theorem dX8_delay_18 : decode cX8_delay 18 = .ok (.aload_n 0, 1) := by decide +kernel
theorem dX8_delay_19 : decode cX8_delay 19 = .ok (.iload_n 1, 1) := by decide +kernel
theorem dX8_delay_20 : decode cX8_delay 20 = .ok (.invokevirtual 270, 3) := by decide +kernel
theorem dX8_delay_23 : decode cX8_delay 23 = .ok (.aload_n 0, 1) := by decide +kernel
theorem dX8_delay_24 : decode cX8_delay 24 = .ok (.iload_n 1, 1) := by decide +kernel
theorem dX8_delay_25 : decode cX8_delay 25 = .ok (.iconst 2, 1) := by decide +kernel
theorem dX8_delay_26 : decode cX8_delay 26 = .ok (.invokevirtual 75, 3) := by decide +kernel
theorem dX8_delay_29 : decode cX8_delay 29 = .ok (.isub, 1) := by decide +kernel
theorem dX8_delay_30 : decode cX8_delay 30 = .ok (.goto 4, 3) := by decide +kernel
theorem dX8_delay_33 : decode cX8_delay 33 = .ok (.iconst (-1), 1) := by decide +kernel
theorem dX8_delay_34 : decode cX8_delay 34 = .ok (.ireturn, 1) := by decide +kernel
set_option maxRecDepth 20000 in
theorem s_X8_delay_0 {l : Launch} {G : GT} {d : Nat} {Q : AV → AH → Prop} {H : AH} {a0 x1 : Int} {M : Row} (hW : MW H a0 M) (h : (0 ≤ M 6 ∧ M 6 ≤ 24) ∧ ∀ H1 : AH, H1 = hs H a0 5 (1 - bi (decide (0 ≤ x1 ∧ x1 < M 6))) → (0 ≤ x1 ∧ x1 < M 6 → (0 ≤ x1 ∧ x1 < 24) ∧ (¬ (¬ ofM M x1 7 = 3) → Q (vI (-1)) H1) ∧ (¬ ofM M x1 7 = 3 → (0 ≤ x1 ∧ x1 < M 6) ∧ ∀ H2 : AH, only H1 H2 (pMks a0) → MW H2 a0 M → (-2147483648 ≤ (tmNow M x1) - (ofM M x1 2) ∧ (tmNow M x1) - (ofM M x1 2) ≤ 2147483647) ∧ Q (vI ((tmNow M x1) - (ofM M x1 2))) H2)) ∧ (¬ (0 ≤ x1 ∧ x1 < M 6) → Q (vI 0) H1)) (hd : 15 ≤ d := by omega) : AW l G mX8_delay (d + 1) 0 0 Q 0 [vR a0, vI x1] [] 0 0 H := by
  refine a_aload_n dX8_delay_0 rfl rfl ?_
  refine a_iload_n dX8_delay_1 rfl rfl ?_
  obtain ⟨q2_0, h⟩ := h
  refine a_callV dX8_delay_2 cw_X8_delay_2 (as := [vI x1]) rfl rfl (kMod_0 hW.1) (Nat.le_refl _) (Nat.le_of_ble_eq_true rfl) (nocov rfl) (Nat.le_of_ble_eq_true rfl) (Nat.le_of_ble_eq_true rfl) (CL.mono (c_isFlight hW.1 (by rw [hW.2.1]; exact q2_0)) (fun r9 H9 h9 => ?_))
  rw [h9.1, h9.2]
  (try rw [hW.2.1])
  have h_r0_1 := Lay.wr hW.1 ok_Mod (nrf_fld 5 (kMod_0 hW.1) (by decide) (by decide)) (i := 5) (x := (1 - bi (decide (0 ≤ x1 ∧ x1 < M 6))))
  generalize e_H1 : hs H a0 5 (1 - bi (decide (0 ≤ x1 ∧ x1 < M 6))) = H1 at h_r0_1 ⊢
  replace h := h H1 e_H1.symm
  have row_H1 := (show rowM H1 a0 = _ from by rw [← e_H1, rowM_ne (by omega), hW.2.1])
  have mk_H1 := (show okM _ ∧ mkd H1 a0 from by rw [← e_H1]; exact ⟨hW.2.2.1, mkd_wr hW.2.2.2 (by omega) (by omega) (by omega)⟩)
  show AW l G mX8_delay (d + 1) 0 0 Q 5 [vR a0, vI x1] [vI (bi (decide (0 ≤ x1 ∧ x1 < M 6)))] 0 0 H1
  refine a_if_ne dX8_delay_5 (tgt := 10) rfl (fun c5 => ?_) (fun c5 => ?_)
  · replace h := h.1 (bi_1 c5)
    refine a_aload_n dX8_delay_10 rfl rfl ?_
    refine a_iload_n dX8_delay_11 rfl rfl ?_
    obtain ⟨q12_0, h⟩ := h
    refine a_callV dX8_delay_12 cw_X8_delay_12 (as := [vI x1]) rfl rfl (kMod_0 h_r0_1) (Nat.le_refl _) (Nat.le_of_ble_eq_true rfl) (nocov rfl) (Nat.le_of_ble_eq_true rfl) (Nat.le_of_ble_eq_true rfl) (CL.mono (c_isThere h_r0_1 q12_0) (fun r9 H9 h9 => ?_))
    rw [h9.1, h9.2]
    (try rw [row_H1])
    show AW l G mX8_delay (d + 1) 0 0 Q 15 [vR a0, vI x1] [vI (bi (decide (¬ ofM M x1 7 = 3)))] 0 0 H1
    refine a_if_eq dX8_delay_15 (tgt := 33) rfl (fun c15 => ?_) (fun c15 => ?_)
    · replace h := h.1 (bi_0 c15)
      refine a_iconst dX8_delay_33 ⟨by decide, by decide⟩ ?_
      exact a_iret dX8_delay_34 rfl (Nat.le_of_ble_eq_true rfl) (Nat.le_of_ble_eq_true rfl) h
    · replace h := h.2 (bi_1 c15)
      refine a_aload_n dX8_delay_18 rfl rfl ?_
      refine a_iload_n dX8_delay_19 rfl rfl ?_
      obtain ⟨q20_0, h⟩ := h
      refine a_callV dX8_delay_20 cw_X8_delay_20 (as := [vI x1]) rfl rfl (kMod_0 h_r0_1) (Nat.le_refl _) (Nat.le_of_ble_eq_true rfl) (nocov rfl) (Nat.le_of_ble_eq_true rfl) (Nat.le_of_ble_eq_true rfl) (CL.mono (c_timeNow (show MW H1 a0 M from ⟨h_r0_1, row_H1, mk_H1⟩) q20_0) (fun r9 H2 h9 => ?_))
      obtain ⟨e9, o_H2, hW_H2⟩ := h9
      rw [e9]
      replace h := h H2 o_H2 hW_H2
      show AW l G mX8_delay (d + 1) 0 0 Q 23 [vR a0, vI x1] [vI (tmNow M x1)] 0 0 H2
      refine a_aload_n dX8_delay_23 rfl rfl ?_
      refine a_iload_n dX8_delay_24 rfl rfl ?_
      refine a_iconst dX8_delay_25 ⟨by decide, by decide⟩ ?_
      refine a_callV dX8_delay_26 cw_X8_delay_26 (as := [vI x1, vI 2]) rfl rfl (kMod_0 hW_H2.1) (Nat.le_refl _) (Nat.le_of_ble_eq_true rfl) (nocov rfl) (Nat.le_of_ble_eq_true rfl) (Nat.le_of_ble_eq_true rfl) (CL.mono (c_of hW_H2.1 ⟨q12_0.1, q12_0.2, by decide, by decide⟩) (fun r9 H9 h9 => ?_))
      rw [h9.1, h9.2]
      (try rw [hW_H2.2.1])
      show AW l G mX8_delay (d + 1) 0 0 Q 29 [vR a0, vI x1] [vI (ofM M x1 2), vI (tmNow M x1)] 0 0 H2
      obtain ⟨q29_0, h⟩ := h
      refine a_isub dX8_delay_29 q29_0 ?_
      refine a_goto dX8_delay_30 (tgt := 34) rfl ?_
      exact a_iret dX8_delay_34 rfl (Nat.le_of_ble_eq_true rfl) (Nat.le_of_ble_eq_true rfl) h
  · replace h := h.2 (bi_0 c5)
    refine a_iconst dX8_delay_8 ⟨by decide, by decide⟩ ?_
    exact a_iret dX8_delay_9 rfl (Nat.le_of_ble_eq_true rfl) (Nat.le_of_ble_eq_true rfl) h


theorem dX8_isLate_0 : decode cX8_isLate 0 = .ok (.aload_n 0, 1) := by decide +kernel
theorem dX8_isLate_1 : decode cX8_isLate 1 = .ok (.iload_n 1, 1) := by decide +kernel
theorem dX8_isLate_2 : decode cX8_isLate 2 = .ok (.invokevirtual 71, 3) := by decide +kernel
theorem dX8_isLate_5 : decode cX8_isLate 5 = .ok (.ifCond .eq 15, 3) := by decide +kernel
theorem dX8_isLate_8 : decode cX8_isLate 8 = .ok (.aload_n 0, 1) := by decide +kernel
theorem dX8_isLate_9 : decode cX8_isLate 9 = .ok (.iload_n 1, 1) := by decide +kernel
theorem dX8_isLate_10 : decode cX8_isLate 10 = .ok (.invokevirtual 279, 3) := by decide +kernel
theorem dX8_isLate_13 : decode cX8_isLate 13 = .ok (.ifCond .eq 7, 3) := by decide +kernel
theorem dX8_isLate_16 : decode cX8_isLate 16 = .ok (.iconst 1, 1) := by decide +kernel
theorem dX8_isLate_17 : decode cX8_isLate 17 = .ok (.goto 4, 3) := by decide +kernel
theorem dX8_isLate_20 : decode cX8_isLate 20 = .ok (.iconst 0, 1) := by decide +kernel
theorem dX8_isLate_21 : decode cX8_isLate 21 = .ok (.ireturn, 1) := by decide +kernel
set_option maxRecDepth 20000 in
theorem s_X8_isLate_0 {l : Launch} {G : GT} {d : Nat} {Q : AV → AH → Prop} {H : AH} {a0 x1 : Int} {M : Row} (hW : MW H a0 M) (h : (0 ≤ M 6 ∧ M 6 ≤ 24) ∧ ∀ H1 : AH, H1 = hs H a0 5 (1 - bi (decide (0 ≤ x1 ∧ x1 < M 6))) → (¬ (0 ≤ x1 ∧ x1 < M 6) → Q (vI 0) H1) ∧ (0 ≤ x1 ∧ x1 < M 6 → (0 ≤ x1 ∧ x1 < M 6) ∧ ∀ H2 : AH, only H1 H2 (pMks a0) → MW H2 a0 M → (¬ (¬ ofM M x1 7 = 3 ∧ ofM M x1 4 < tmNow M x1) → Q (vI 0) H2) ∧ (¬ ofM M x1 7 = 3 ∧ ofM M x1 4 < tmNow M x1 → Q (vI 1) H2))) (hd : 16 ≤ d := by omega) : AW l G mX8_isLate (d + 1) 0 0 Q 0 [vR a0, vI x1] [] 0 0 H := by
  refine a_aload_n dX8_isLate_0 rfl rfl ?_
  refine a_iload_n dX8_isLate_1 rfl rfl ?_
  obtain ⟨q2_0, h⟩ := h
  refine a_callV dX8_isLate_2 cw_X8_isLate_2 (as := [vI x1]) rfl rfl (kMod_0 hW.1) (Nat.le_refl _) (Nat.le_of_ble_eq_true rfl) (nocov rfl) (Nat.le_of_ble_eq_true rfl) (Nat.le_of_ble_eq_true rfl) (CL.mono (c_isFlight hW.1 (by rw [hW.2.1]; exact q2_0)) (fun r9 H9 h9 => ?_))
  rw [h9.1, h9.2]
  (try rw [hW.2.1])
  have h_r0_1 := Lay.wr hW.1 ok_Mod (nrf_fld 5 (kMod_0 hW.1) (by decide) (by decide)) (i := 5) (x := (1 - bi (decide (0 ≤ x1 ∧ x1 < M 6))))
  generalize e_H1 : hs H a0 5 (1 - bi (decide (0 ≤ x1 ∧ x1 < M 6))) = H1 at h_r0_1 ⊢
  replace h := h H1 e_H1.symm
  have row_H1 := (show rowM H1 a0 = _ from by rw [← e_H1, rowM_ne (by omega), hW.2.1])
  have mk_H1 := (show okM _ ∧ mkd H1 a0 from by rw [← e_H1]; exact ⟨hW.2.2.1, mkd_wr hW.2.2.2 (by omega) (by omega) (by omega)⟩)
  show AW l G mX8_isLate (d + 1) 0 0 Q 5 [vR a0, vI x1] [vI (bi (decide (0 ≤ x1 ∧ x1 < M 6)))] 0 0 H1
  refine a_if_eq dX8_isLate_5 (tgt := 20) rfl (fun c5 => ?_) (fun c5 => ?_)
  · replace h := h.1 (bi_0 c5)
    refine a_iconst dX8_isLate_20 ⟨by decide, by decide⟩ ?_
    exact a_zret dX8_isLate_21 rfl (by decide) (Nat.le_of_ble_eq_true rfl) (Nat.le_of_ble_eq_true rfl) h
  · replace h := h.2 (bi_1 c5)
    refine a_aload_n dX8_isLate_8 rfl rfl ?_
    refine a_iload_n dX8_isLate_9 rfl rfl ?_
    obtain ⟨q10_0, h⟩ := h
    refine a_callV dX8_isLate_10 cw_X8_isLate_10 (as := [vI x1]) rfl rfl (kMod_0 h_r0_1) (Nat.le_refl _) (Nat.le_of_ble_eq_true rfl) (nocov rfl) (Nat.le_of_ble_eq_true rfl) (Nat.le_of_ble_eq_true rfl) (CL.mono (c_isLateNow (show MW H1 a0 M from ⟨h_r0_1, row_H1, mk_H1⟩) q10_0) (fun r9 H2 h9 => ?_))
    obtain ⟨e9, o_H2, hW_H2⟩ := h9
    rw [e9]
    replace h := h H2 o_H2 hW_H2
    show AW l G mX8_isLate (d + 1) 0 0 Q 13 [vR a0, vI x1] [vI (bi (decide (¬ ofM M x1 7 = 3 ∧ ofM M x1 4 < tmNow M x1)))] 0 0 H2
    refine a_if_eq dX8_isLate_13 (tgt := 20) rfl (fun c13 => ?_) (fun c13 => ?_)
    · replace h := h.1 (bi_0 c13)
      refine a_iconst dX8_isLate_20 ⟨by decide, by decide⟩ ?_
      exact a_zret dX8_isLate_21 rfl (by decide) (Nat.le_of_ble_eq_true rfl) (Nat.le_of_ble_eq_true rfl) h
    · replace h := h.2 (bi_1 c13)
      refine a_iconst dX8_isLate_16 ⟨by decide, by decide⟩ ?_
      refine a_goto dX8_isLate_17 (tgt := 21) rfl ?_
      exact a_zret dX8_isLate_21 rfl (by decide) (Nat.le_of_ble_eq_true rfl) (Nat.le_of_ble_eq_true rfl) h


theorem dX8_costOf_0 : decode cX8_costOf 0 = .ok (.aload_n 0, 1) := by decide +kernel
theorem dX8_costOf_1 : decode cX8_costOf 1 = .ok (.iload_n 1, 1) := by decide +kernel
theorem dX8_costOf_2 : decode cX8_costOf 2 = .ok (.invokevirtual 71, 3) := by decide +kernel
theorem dX8_costOf_5 : decode cX8_costOf 5 = .ok (.ifCond .ne 5, 3) := by decide +kernel
theorem dX8_costOf_8 : decode cX8_costOf 8 = .ok (.fconst 0, 1) := by decide +kernel
theorem dX8_costOf_9 : decode cX8_costOf 9 = .ok (.freturn, 1) := by decide +kernel
theorem dX8_costOf_10 : decode cX8_costOf 10 = .ok (.aload_n 0, 1) := by decide +kernel
theorem dX8_costOf_11 : decode cX8_costOf 11 = .ok (.iload_n 1, 1) := by decide +kernel
theorem dX8_costOf_12 : decode cX8_costOf 12 = .ok (.invokevirtual 282, 3) := by decide +kernel
theorem dX8_costOf_15 : decode cX8_costOf 15 = .ok (.l2f, 1) := by decide +kernel
theorem dX8_costOf_16 : decode cX8_costOf 16 = .ok (.ldc_w 286, 3) := by decide +kernel
theorem dX8_costOf_19 : decode cX8_costOf 19 = .ok (.fdiv, 1) := by decide +kernel
theorem dX8_costOf_20 : decode cX8_costOf 20 = .ok (.freturn, 1) := by decide +kernel
set_option maxRecDepth 20000 in
theorem s_X8_costOf_0 {l : Launch} {G : GT} {d : Nat} {Q : AV → AH → Prop} {H : AH} {a0 x1 : Int} {M : Row} (hW : MW H a0 M) (h : (0 ≤ M 6 ∧ M 6 ≤ 24) ∧ ∀ H1 : AH, H1 = hs H a0 5 (1 - bi (decide (0 ≤ x1 ∧ x1 < M 6))) → (0 ≤ x1 ∧ x1 < M 6 → (0 ≤ x1 ∧ x1 < M 6) ∧ ∀ H2 : AH, only H1 H2 (pMks a0) → MW H2 a0 M → (afok (al2f (cNow M x1)) 1148846080) ∧ Q (vF (afdiv (al2f (cNow M x1)) 1148846080)) H2) ∧ (¬ (0 ≤ x1 ∧ x1 < M 6) → Q (vF 0) H1)) (hd : 16 ≤ d := by omega) : AW l G mX8_costOf (d + 1) 0 0 Q 0 [vR a0, vI x1] [] 0 0 H := by
  refine a_aload_n dX8_costOf_0 rfl rfl ?_
  refine a_iload_n dX8_costOf_1 rfl rfl ?_
  obtain ⟨q2_0, h⟩ := h
  refine a_callV dX8_costOf_2 cw_X8_costOf_2 (as := [vI x1]) rfl rfl (kMod_0 hW.1) (Nat.le_refl _) (Nat.le_of_ble_eq_true rfl) (nocov rfl) (Nat.le_of_ble_eq_true rfl) (Nat.le_of_ble_eq_true rfl) (CL.mono (c_isFlight hW.1 (by rw [hW.2.1]; exact q2_0)) (fun r9 H9 h9 => ?_))
  rw [h9.1, h9.2]
  (try rw [hW.2.1])
  have h_r0_1 := Lay.wr hW.1 ok_Mod (nrf_fld 5 (kMod_0 hW.1) (by decide) (by decide)) (i := 5) (x := (1 - bi (decide (0 ≤ x1 ∧ x1 < M 6))))
  generalize e_H1 : hs H a0 5 (1 - bi (decide (0 ≤ x1 ∧ x1 < M 6))) = H1 at h_r0_1 ⊢
  replace h := h H1 e_H1.symm
  have row_H1 := (show rowM H1 a0 = _ from by rw [← e_H1, rowM_ne (by omega), hW.2.1])
  have mk_H1 := (show okM _ ∧ mkd H1 a0 from by rw [← e_H1]; exact ⟨hW.2.2.1, mkd_wr hW.2.2.2 (by omega) (by omega) (by omega)⟩)
  show AW l G mX8_costOf (d + 1) 0 0 Q 5 [vR a0, vI x1] [vI (bi (decide (0 ≤ x1 ∧ x1 < M 6)))] 0 0 H1
  refine a_if_ne dX8_costOf_5 (tgt := 10) rfl (fun c5 => ?_) (fun c5 => ?_)
  · replace h := h.1 (bi_1 c5)
    refine a_aload_n dX8_costOf_10 rfl rfl ?_
    refine a_iload_n dX8_costOf_11 rfl rfl ?_
    obtain ⟨q12_0, h⟩ := h
    refine a_callV dX8_costOf_12 cw_X8_costOf_12 (as := [vI x1]) rfl rfl (kMod_0 h_r0_1) (Nat.le_refl _) (Nat.le_of_ble_eq_true rfl) (nocov rfl) (Nat.le_of_ble_eq_true rfl) (Nat.le_of_ble_eq_true rfl) (CL.mono (c_costNow (show MW H1 a0 M from ⟨h_r0_1, row_H1, mk_H1⟩) q12_0) (fun r9 H2 h9 => ?_))
    obtain ⟨e9, o_H2, hW_H2⟩ := h9
    rw [e9]
    replace h := h H2 o_H2 hW_H2
    show AW l G mX8_costOf (d + 1) 0 0 Q 15 [vR a0, vI x1] [vJ (cNow M x1)] 0 0 H2
    refine a_l2f dX8_costOf_15 ?_
    refine a_ldcfw dX8_costOf_16 (w_1596) ?_
    show AW l G mX8_costOf (d + 1) 0 0 Q 19 [vR a0, vI x1] [vF 1148846080, vF (al2f (cNow M x1))] 0 0 H2
    obtain ⟨q19_0, h⟩ := h
    refine a_fdiv dX8_costOf_19 q19_0 ?_
    exact a_fret dX8_costOf_20 rfl (Nat.le_of_ble_eq_true rfl) (Nat.le_of_ble_eq_true rfl) h
  · replace h := h.2 (bi_0 c5)
    refine a_fconst dX8_costOf_8 ?_
    exact a_fret dX8_costOf_9 rfl (Nat.le_of_ble_eq_true rfl) (Nat.le_of_ble_eq_true rfl) h


theorem dX8_totalCost_0 : decode cX8_totalCost 0 = .ok (.aload_n 0, 1) := by decide +kernel
theorem dX8_totalCost_1 : decode cX8_totalCost 1 = .ok (.iconst 0, 1) := by decide +kernel
theorem dX8_totalCost_2 : decode cX8_totalCost 2 = .ok (.putfield 55, 3) := by decide +kernel
theorem dX8_totalCost_5 : decode cX8_totalCost 5 = .ok (.aload_n 0, 1) := by decide +kernel
theorem dX8_totalCost_6 : decode cX8_totalCost 6 = .ok (.invokevirtual 287, 3) := by decide +kernel
theorem dX8_totalCost_9 : decode cX8_totalCost 9 = .ok (.lreturn, 1) := by decide +kernel
set_option maxRecDepth 20000 in
theorem s_X8_totalCost_0 {l : Launch} {G : GT} {d : Nat} {Q : AV → AH → Prop} {H : AH} {a0 : Int} {M : Row} (hW : MW H a0 M) (h : ∀ H1 : AH, H1 = hs H a0 5 0 → ∀ H2 : AH, only H1 H2 (pMks a0) → MW H2 a0 M → Q (vJ (totM M)) H2) (hd : 17 ≤ d := by omega) : AW l G mX8_totalCost (d + 1) 0 0 Q 0 [vR a0] [] 0 0 H := by
  refine a_aload_n dX8_totalCost_0 rfl rfl ?_
  refine a_iconst dX8_totalCost_1 ⟨by decide, by decide⟩ ?_
  refine a_putI dX8_totalCost_2 fp_RX8_55 rfl rfl (kMod_0 hW.1) ?_
  have h_r0_1 := Lay.wr hW.1 ok_Mod (nrf_fld 5 (kMod_0 hW.1) (by decide) (by decide)) (i := 5) (x := 0)
  generalize e_H1 : hs H a0 5 0 = H1 at h_r0_1 ⊢
  replace h := h H1 e_H1.symm
  have row_H1 := (show rowM H1 a0 = _ from by rw [← e_H1, rowM_ne (by omega), hW.2.1])
  have mk_H1 := (show okM _ ∧ mkd H1 a0 from by rw [← e_H1]; exact ⟨hW.2.2.1, mkd_wr hW.2.2.2 (by omega) (by omega) (by omega)⟩)
  refine a_aload_n dX8_totalCost_5 rfl rfl ?_
  refine a_callV dX8_totalCost_6 cw_X8_totalCost_6 (as := []) rfl rfl (kMod_0 h_r0_1) (Nat.le_refl _) (Nat.le_of_ble_eq_true rfl) (nocov rfl) (Nat.le_of_ble_eq_true rfl) (Nat.le_of_ble_eq_true rfl) (CL.mono (c_total (show MW H1 a0 M from ⟨h_r0_1, row_H1, mk_H1⟩) ) (fun r9 H2 h9 => ?_))
  obtain ⟨e9, o_H2, hW_H2⟩ := h9
  rw [e9]
  replace h := h H2 o_H2 hW_H2
  show AW l G mX8_totalCost (d + 1) 0 0 Q 9 [vR a0] [vJ (totM M)] 0 0 H2
  exact a_lret dX8_totalCost_9 rfl (Nat.le_of_ble_eq_true rfl) (Nat.le_of_ble_eq_true rfl) h


theorem dX8_planCost_0 : decode cX8_planCost 0 = .ok (.aload_n 0, 1) := by decide +kernel
theorem dX8_planCost_1 : decode cX8_planCost 1 = .ok (.iload_n 1, 1) := by decide +kernel
theorem dX8_planCost_2 : decode cX8_planCost 2 = .ok (.invokevirtual 276, 3) := by decide +kernel
theorem dX8_planCost_5 : decode cX8_planCost 5 = .ok (.ifCond .ne 5, 3) := by decide +kernel
theorem dX8_planCost_8 : decode cX8_planCost 8 = .ok (.lconst 0, 1) := by decide +kernel
theorem dX8_planCost_9 : decode cX8_planCost 9 = .ok (.lreturn, 1) := by decide +kernel
theorem dX8_planCost_10 : decode cX8_planCost 10 = .ok (.lconst 0, 1) := by decide +kernel
theorem dX8_planCost_11 : decode cX8_planCost 11 = .ok (.lstore_n 2, 1) := by decide +kernel
theorem dX8_planCost_12 : decode cX8_planCost 12 = .ok (.iconst 0, 1) := by decide +kernel
theorem dX8_planCost_13 : decode cX8_planCost 13 = .ok (.istore 4, 2) := by decide +kernel
theorem dX8_planCost_15 : decode cX8_planCost 15 = .ok (.iload 4, 2) := by decide +kernel
theorem dX8_planCost_17 : decode cX8_planCost 17 = .ok (.aload_n 0, 1) := by decide +kernel
theorem dX8_planCost_18 : decode cX8_planCost 18 = .ok (.getfield 9, 3) := by decide +kernel
theorem dX8_planCost_21 : decode cX8_planCost 21 = .ok (.bipush 6, 2) := by decide +kernel
theorem dX8_planCost_23 : decode cX8_planCost 23 = .ok (.iaload, 1) := by decide +kernel
theorem dX8_planCost_24 : decode cX8_planCost 24 = .ok (.if_icmp .ge 33, 3) := by decide +kernel
theorem dX8_planCost_27 : decode cX8_planCost 27 = .ok (.lload_n 2, 1) := by decide +kernel
theorem dX8_planCost_28 : decode cX8_planCost 28 = .ok (.aload_n 0, 1) := by decide +kernel
theorem dX8_planCost_29 : decode cX8_planCost 29 = .ok (.iload 4, 2) := by decide +kernel
theorem dX8_planCost_31 : decode cX8_planCost 31 = .ok (.iconst 0, 1) := by decide +kernel
theorem dX8_planCost_32 : decode cX8_planCost 32 = .ok (.iload_n 1, 1) := by decide +kernel
theorem dX8_planCost_33 : decode cX8_planCost 33 = .ok (.invokevirtual 210, 3) := by decide +kernel
theorem dX8_planCost_36 : decode cX8_planCost 36 = .ok (.ifCond .eq 12, 3) := by decide +kernel
theorem dX8_planCost_39 : decode cX8_planCost 39 = .ok (.aload_n 0, 1) := by decide +kernel
theorem dX8_planCost_40 : decode cX8_planCost 40 = .ok (.iload 4, 2) := by decide +kernel
theorem dX8_planCost_42 : decode cX8_planCost 42 = .ok (.invokevirtual 282, 3) := by decide +kernel
theorem dX8_planCost_45 : decode cX8_planCost 45 = .ok (.goto 4, 3) := by decide +kernel
theorem dX8_planCost_48 : decode cX8_planCost 48 = .ok (.lconst 0, 1) := by decide +kernel
theorem dX8_planCost_49 : decode cX8_planCost 49 = .ok (.ladd, 1) := by decide +kernel
theorem dX8_planCost_50 : decode cX8_planCost 50 = .ok (.lstore_n 2, 1) := by decide +kernel
theorem dX8_planCost_51 : decode cX8_planCost 51 = .ok (.iinc 4 1, 3) := by decide +kernel
theorem dX8_planCost_54 : decode cX8_planCost 54 = .ok (.goto (-39), 3) := by decide +kernel
theorem dX8_planCost_57 : decode cX8_planCost 57 = .ok (.lload_n 2, 1) := by decide +kernel
theorem dX8_planCost_58 : decode cX8_planCost 58 = .ok (.lreturn, 1) := by decide +kernel
set_option maxRecDepth 20000 in
theorem s_X8_planCost_0 {l : Launch} {G : GT} {d : Nat} {Q : AV → AH → Prop} {H : AH} {a0 x1 : Int} {M : Row} (hW : MW H a0 M) (h : (0 ≤ M 5 ∧ M 5 ≤ 3) ∧ ∀ H1 : AH, H1 = hs H a0 5 (1 - bi (decide (0 ≤ x1 ∧ x1 < M 5))) → (0 ≤ x1 ∧ x1 < M 5 → AW l G mX8_planCost (d + 1) 0 0 Q 15 [vR a0, vI x1, vJ 0, vU, vI 0] [] 0 0 H1) ∧ (¬ (0 ≤ x1 ∧ x1 < M 5) → Q (vJ 0) H1)) (hd : 16 ≤ d := by omega) : AW l G mX8_planCost (d + 1) 0 0 Q 0 [vR a0, vI x1, vU, vU, vU] [] 0 0 H := by
  refine a_aload_n dX8_planCost_0 rfl rfl ?_
  refine a_iload_n dX8_planCost_1 rfl rfl ?_
  obtain ⟨q2_0, h⟩ := h
  refine a_callV dX8_planCost_2 cw_X8_planCost_2 (as := [vI x1]) rfl rfl (kMod_0 hW.1) (Nat.le_refl _) (Nat.le_of_ble_eq_true rfl) (nocov rfl) (Nat.le_of_ble_eq_true rfl) (Nat.le_of_ble_eq_true rfl) (CL.mono (c_isRunway hW.1 (by rw [hW.2.1]; exact q2_0)) (fun r9 H9 h9 => ?_))
  rw [h9.1, h9.2]
  (try rw [hW.2.1])
  have h_r0_1 := Lay.wr hW.1 ok_Mod (nrf_fld 5 (kMod_0 hW.1) (by decide) (by decide)) (i := 5) (x := (1 - bi (decide (0 ≤ x1 ∧ x1 < M 5))))
  generalize e_H1 : hs H a0 5 (1 - bi (decide (0 ≤ x1 ∧ x1 < M 5))) = H1 at h_r0_1 ⊢
  replace h := h H1 e_H1.symm
  have row_H1 := (show rowM H1 a0 = _ from by rw [← e_H1, rowM_ne (by omega), hW.2.1])
  have mk_H1 := (show okM _ ∧ mkd H1 a0 from by rw [← e_H1]; exact ⟨hW.2.2.1, mkd_wr hW.2.2.2 (by omega) (by omega) (by omega)⟩)
  show AW l G mX8_planCost (d + 1) 0 0 Q 5 [vR a0, vI x1, vU, vU, vU] [vI (bi (decide (0 ≤ x1 ∧ x1 < M 5)))] 0 0 H1
  refine a_if_ne dX8_planCost_5 (tgt := 10) rfl (fun c5 => ?_) (fun c5 => ?_)
  · replace h := h.1 (bi_1 c5)
    refine a_lconst dX8_planCost_10 ?_
    show AW l G mX8_planCost (d + 1) 0 0 Q 11 [vR a0, vI x1, vU, vU, vU] [vJ 0] 0 0 H1
    refine a_lstore_n dX8_planCost_11 rfl (Nat.le_of_ble_eq_true rfl) (ls' := [vR a0, vI x1, vJ 0, vU, vU]) rfl ?_
    refine a_iconst dX8_planCost_12 ⟨by decide, by decide⟩ ?_
    refine a_istore dX8_planCost_13 (Nat.le_of_ble_eq_true rfl) (ls' := [vR a0, vI x1, vJ 0, vU, vI 0]) rfl ?_
    exact h
  · replace h := h.2 (bi_0 c5)
    refine a_lconst dX8_planCost_8 ?_
    show AW l G mX8_planCost (d + 1) 0 0 Q 9 [vR a0, vI x1, vU, vU, vU] [vJ 0] 0 0 H1
    exact a_lret dX8_planCost_9 rfl (Nat.le_of_ble_eq_true rfl) (Nat.le_of_ble_eq_true rfl) h

set_option maxRecDepth 20000 in
theorem s_X8_planCost_15 {l : Launch} {G : GT} {d : Nat} {Q : AV → AH → Prop} {H : AH} {a0 x1 x2 x4 : Int} {M : Row} (hW : MW H a0 M) (h : ((M 6) ≤ x4 → Q (vJ x2) H) ∧ (x4 < (M 6) → (0 ≤ x4 ∧ x4 < 24) ∧ (¬ (ofM M x4 7 = 0 ∧ ofM M x4 6 = x1) → (-9223372036854775808 ≤ x2 + 0 ∧ x2 + 0 ≤ 9223372036854775807) ∧ (-2147483648 ≤ x4 + 1 ∧ x4 + 1 ≤ 2147483647) ∧ AW l G mX8_planCost (d + 1) 0 0 Q 15 [vR a0, vI x1, vJ (x2 + 0), vU, vI (x4 + 1)] [] 0 0 H) ∧ (ofM M x4 7 = 0 ∧ ofM M x4 6 = x1 → (0 ≤ x4 ∧ x4 < M 6) ∧ ∀ H1 : AH, only H H1 (pMks a0) → MW H1 a0 M → (-9223372036854775808 ≤ x2 + (cNow M x4) ∧ x2 + (cNow M x4) ≤ 9223372036854775807) ∧ (-2147483648 ≤ x4 + 1 ∧ x4 + 1 ≤ 2147483647) ∧ AW l G mX8_planCost (d + 1) 0 0 Q 15 [vR a0, vI x1, vJ (x2 + (cNow M x4)), vU, vI (x4 + 1)] [] 0 0 H1))) (hd : 16 ≤ d := by omega) : AW l G mX8_planCost (d + 1) 0 0 Q 15 [vR a0, vI x1, vJ x2, vU, vI x4] [] 0 0 H := by
  refine a_iload dX8_planCost_15 rfl ?_
  refine a_aload_n dX8_planCost_17 rfl rfl ?_
  refine a_getR dX8_planCost_18 fw_RX8_9 rfl rfl (kMod_0 hW.1) (rMod_0_0 hW.1) ?_
  refine a_bipush dX8_planCost_21 (by decide) ?_
  refine b_ialdV dX8_planCost_23 (kMod_1 hW.1) (nMod_1 hW.1) (⟨by decide, by decide⟩) (congrFun hW.2.1 _) ?_
  refine a_icmp_ge dX8_planCost_24 (tgt := 57) rfl (fun c24 => ?_) (fun c24 => ?_)
  · replace h := h.1 c24
    refine a_lload_n dX8_planCost_57 rfl rfl ?_
    exact a_lret dX8_planCost_58 rfl (Nat.le_of_ble_eq_true rfl) (Nat.le_of_ble_eq_true rfl) h
  · replace h := h.2 c24
    refine a_lload_n dX8_planCost_27 rfl rfl ?_
    refine a_aload_n dX8_planCost_28 rfl rfl ?_
    refine a_iload dX8_planCost_29 rfl ?_
    refine a_iconst dX8_planCost_31 ⟨by decide, by decide⟩ ?_
    refine a_iload_n dX8_planCost_32 rfl rfl ?_
    obtain ⟨q33_0, h⟩ := h
    refine a_callV dX8_planCost_33 cw_X8_planCost_33 (as := [vI x4, vI 0, vI x1]) rfl rfl (kMod_0 hW.1) (Nat.le_refl _) (Nat.le_of_ble_eq_true rfl) (nocov rfl) (Nat.le_of_ble_eq_true rfl) (Nat.le_of_ble_eq_true rfl) (CL.mono (c_isOn hW.1 q33_0) (fun r9 H9 h9 => ?_))
    rw [h9.1, h9.2]
    (try rw [hW.2.1])
    show AW l G mX8_planCost (d + 1) 0 0 Q 36 [vR a0, vI x1, vJ x2, vU, vI x4] [vI (bi (decide (ofM M x4 7 = 0 ∧ ofM M x4 6 = x1))), vJ x2] 0 0 H
    refine a_if_eq dX8_planCost_36 (tgt := 48) rfl (fun c36 => ?_) (fun c36 => ?_)
    · replace h := h.1 (bi_0 c36)
      refine a_lconst dX8_planCost_48 ?_
      show AW l G mX8_planCost (d + 1) 0 0 Q 49 [vR a0, vI x1, vJ x2, vU, vI x4] [vJ 0, vJ x2] 0 0 H
      obtain ⟨q49_0, h⟩ := h
      refine a_ladd dX8_planCost_49 q49_0 ?_
      refine a_lstore_n dX8_planCost_50 rfl (Nat.le_of_ble_eq_true rfl) (ls' := [vR a0, vI x1, vJ (x2 + 0), vU, vI x4]) rfl ?_
      obtain ⟨q51_0, h⟩ := h
      refine a_iinc dX8_planCost_51 rfl (Nat.le_of_ble_eq_true rfl) (by decide) q51_0 (ls' := [vR a0, vI x1, vJ (x2 + 0), vU, vI (x4 + 1)]) rfl ?_
      refine a_goto dX8_planCost_54 (tgt := 15) rfl ?_
      exact h
    · replace h := h.2 (bi_1 c36)
      refine a_aload_n dX8_planCost_39 rfl rfl ?_
      refine a_iload dX8_planCost_40 rfl ?_
      obtain ⟨q42_0, h⟩ := h
      refine a_callV dX8_planCost_42 cw_X8_planCost_42 (as := [vI x4]) rfl rfl (kMod_0 hW.1) (Nat.le_refl _) (Nat.le_of_ble_eq_true rfl) (nocov rfl) (Nat.le_of_ble_eq_true rfl) (Nat.le_of_ble_eq_true rfl) (CL.mono (c_costNow (show MW H a0 M from ⟨hW.1, hW.2.1, hW.2.2⟩) q42_0) (fun r9 H1 h9 => ?_))
      obtain ⟨e9, o_H1, hW_H1⟩ := h9
      rw [e9]
      replace h := h H1 o_H1 hW_H1
      show AW l G mX8_planCost (d + 1) 0 0 Q 45 [vR a0, vI x1, vJ x2, vU, vI x4] [vJ (cNow M x4), vJ x2] 0 0 H1
      refine a_goto dX8_planCost_45 (tgt := 49) rfl ?_
      obtain ⟨q49_0, h⟩ := h
      refine a_ladd dX8_planCost_49 q49_0 ?_
      refine a_lstore_n dX8_planCost_50 rfl (Nat.le_of_ble_eq_true rfl) (ls' := [vR a0, vI x1, vJ (x2 + (cNow M x4)), vU, vI x4]) rfl ?_
      obtain ⟨q51_0, h⟩ := h
      refine a_iinc dX8_planCost_51 rfl (Nat.le_of_ble_eq_true rfl) (by decide) q51_0 (ls' := [vR a0, vI x1, vJ (x2 + (cNow M x4)), vU, vI (x4 + 1)]) rfl ?_
      refine a_goto dX8_planCost_54 (tgt := 15) rfl ?_
      exact h


theorem dX8_firstComeCost_0 : decode cX8_firstComeCost 0 = .ok (.aload_n 0, 1) := by decide +kernel
theorem dX8_firstComeCost_1 : decode cX8_firstComeCost 1 = .ok (.iload_n 1, 1) := by decide +kernel
theorem dX8_firstComeCost_2 : decode cX8_firstComeCost 2 = .ok (.invokevirtual 276, 3) := by decide +kernel
theorem dX8_firstComeCost_5 : decode cX8_firstComeCost 5 = .ok (.ifCond .ne 5, 3) := by decide +kernel
theorem dX8_firstComeCost_8 : decode cX8_firstComeCost 8 = .ok (.lconst 0, 1) := by decide +kernel
theorem dX8_firstComeCost_9 : decode cX8_firstComeCost 9 = .ok (.lreturn, 1) := by decide +kernel
theorem dX8_firstComeCost_10 : decode cX8_firstComeCost 10 = .ok (.aload_n 0, 1) := by decide +kernel
theorem dX8_firstComeCost_11 : decode cX8_firstComeCost 11 = .ok (.invokevirtual 261, 3) := by decide +kernel
theorem dX8_firstComeCost_14 : decode cX8_firstComeCost 14 = .ok (.aload_n 0, 1) := by decide +kernel
theorem dX8_firstComeCost_15 : decode cX8_firstComeCost 15 = .ok (.iload_n 1, 1) := by decide +kernel
theorem dX8_firstComeCost_16 : decode cX8_firstComeCost 16 = .ok (.invokevirtual 247, 3) := by decide +kernel
theorem dX8_firstComeCost_19 : decode cX8_firstComeCost 19 = .ok (.aload_n 0, 1) := by decide +kernel
theorem dX8_firstComeCost_20 : decode cX8_firstComeCost 20 = .ok (.iload_n 1, 1) := by decide +kernel
theorem dX8_firstComeCost_21 : decode cX8_firstComeCost 21 = .ok (.aload_n 0, 1) := by decide +kernel
theorem dX8_firstComeCost_22 : decode cX8_firstComeCost 22 = .ok (.getfield 33, 3) := by decide +kernel
theorem dX8_firstComeCost_25 : decode cX8_firstComeCost 25 = .ok (.invokevirtual 254, 3) := by decide +kernel
theorem dX8_firstComeCost_28 : decode cX8_firstComeCost 28 = .ok (.lreturn, 1) := by decide +kernel
set_option maxRecDepth 20000 in
theorem s_X8_firstComeCost_0 {l : Launch} {G : GT} {d : Nat} {Q : AV → AH → Prop} {H : AH} {a0 x1 : Int} {M : Row} (hW : MW H a0 M) (h : (0 ≤ M 5 ∧ M 5 ≤ 3) ∧ ∀ H1 : AH, H1 = hs H a0 5 (1 - bi (decide (0 ≤ x1 ∧ x1 < M 5))) → (0 ≤ x1 ∧ x1 < M 5 → ∀ H2 : AH, only H1 H2 (pMks a0) → MW H2 a0 M → Made H2 a0 M → CL l G mX8_laysBase d 0 0 [vR a0, vI x1] H2 (fun r9 H3 => Lay LMod H3 a0 ∧ r9 = vV ∧ CL l G mX8_laysTimes d 0 0 [vR a0, vI x1, vR (a0 + 8)] H3 (fun r9 H4 => Lay LMod H4 a0 ∧ ∃ y4 : Int, r9 = vJ y4 ∧ Q (vJ y4) H4))) ∧ (¬ (0 ≤ x1 ∧ x1 < M 5) → Q (vJ 0) H1)) (hd : 14 ≤ d := by omega) : AW l G mX8_firstComeCost (d + 1) 0 0 Q 0 [vR a0, vI x1] [] 0 0 H := by
  refine a_aload_n dX8_firstComeCost_0 rfl rfl ?_
  refine a_iload_n dX8_firstComeCost_1 rfl rfl ?_
  obtain ⟨q2_0, h⟩ := h
  refine a_callV dX8_firstComeCost_2 cw_X8_firstComeCost_2 (as := [vI x1]) rfl rfl (kMod_0 hW.1) (Nat.le_refl _) (Nat.le_of_ble_eq_true rfl) (nocov rfl) (Nat.le_of_ble_eq_true rfl) (Nat.le_of_ble_eq_true rfl) (CL.mono (c_isRunway hW.1 (by rw [hW.2.1]; exact q2_0)) (fun r9 H9 h9 => ?_))
  rw [h9.1, h9.2]
  (try rw [hW.2.1])
  have h_r0_1 := Lay.wr hW.1 ok_Mod (nrf_fld 5 (kMod_0 hW.1) (by decide) (by decide)) (i := 5) (x := (1 - bi (decide (0 ≤ x1 ∧ x1 < M 5))))
  generalize e_H1 : hs H a0 5 (1 - bi (decide (0 ≤ x1 ∧ x1 < M 5))) = H1 at h_r0_1 ⊢
  replace h := h H1 e_H1.symm
  have row_H1 := (show rowM H1 a0 = _ from by rw [← e_H1, rowM_ne (by omega), hW.2.1])
  have mk_H1 := (show okM _ ∧ mkd H1 a0 from by rw [← e_H1]; exact ⟨hW.2.2.1, mkd_wr hW.2.2.2 (by omega) (by omega) (by omega)⟩)
  show AW l G mX8_firstComeCost (d + 1) 0 0 Q 5 [vR a0, vI x1] [vI (bi (decide (0 ≤ x1 ∧ x1 < M 5)))] 0 0 H1
  refine a_if_ne dX8_firstComeCost_5 (tgt := 10) rfl (fun c5 => ?_) (fun c5 => ?_)
  · replace h := h.1 (bi_1 c5)
    refine a_aload_n dX8_firstComeCost_10 rfl rfl ?_
    refine a_callV dX8_firstComeCost_11 cw_X8_firstComeCost_11 (as := []) rfl rfl (kMod_0 h_r0_1) (Nat.le_refl _) (Nat.le_of_ble_eq_true rfl) (nocov rfl) (Nat.le_of_ble_eq_true rfl) (Nat.le_of_ble_eq_true rfl) (CL.mono (c_makesQ (show MW H1 a0 M from ⟨h_r0_1, row_H1, mk_H1⟩) ) (fun r9 H2 h9 => ?_))
    obtain ⟨e9, o_H2, hW_H2, hX_H2⟩ := h9
    rw [e9]
    replace h := h H2 o_H2 hW_H2 hX_H2
    show AW l G mX8_firstComeCost (d + 1) 0 0 Q 14 [vR a0, vI x1] [] 0 0 H2
    refine a_aload_n dX8_firstComeCost_14 rfl rfl ?_
    refine a_iload_n dX8_firstComeCost_15 rfl rfl ?_
    refine a_callV dX8_firstComeCost_16 cw_X8_firstComeCost_16 (as := [vI x1]) rfl rfl (kMod_0 hW_H2.1) (Nat.le_refl _) (Nat.le_of_ble_eq_true rfl) (nocov rfl) (Nat.le_of_ble_eq_true rfl) (Nat.le_of_ble_eq_true rfl) (CL.mono h (fun r9 H3 h => ?_))
    obtain ⟨h_r0_3, e9, h⟩ := h
    rw [e9]
    show AW l G mX8_firstComeCost (d + 1) 0 0 Q 19 [vR a0, vI x1] [] 0 0 H3
    refine a_aload_n dX8_firstComeCost_19 rfl rfl ?_
    refine a_iload_n dX8_firstComeCost_20 rfl rfl ?_
    refine a_aload_n dX8_firstComeCost_21 rfl rfl ?_
    refine a_getR dX8_firstComeCost_22 fw_RX8_33 rfl rfl (kMod_0 h_r0_3) (rMod_0_15 h_r0_3) ?_
    refine a_callV dX8_firstComeCost_25 cw_X8_firstComeCost_25 (as := [vI x1, vR (a0 + 8)]) rfl rfl (kMod_0 h_r0_3) (Nat.le_refl _) (Nat.le_of_ble_eq_true rfl) (nocov rfl) (Nat.le_of_ble_eq_true rfl) (Nat.le_of_ble_eq_true rfl) (CL.mono h (fun r9 H4 h => ?_))
    obtain ⟨h_r0_4, y4, e9, h⟩ := h
    rw [e9]
    show AW l G mX8_firstComeCost (d + 1) 0 0 Q 28 [vR a0, vI x1] [vJ y4] 0 0 H4
    exact a_lret dX8_firstComeCost_28 rfl (Nat.le_of_ble_eq_true rfl) (Nat.le_of_ble_eq_true rfl) h
  · replace h := h.2 (bi_0 c5)
    refine a_lconst dX8_firstComeCost_8 ?_
    show AW l G mX8_firstComeCost (d + 1) 0 0 Q 9 [vR a0, vI x1] [vJ 0] 0 0 H1
    exact a_lret dX8_firstComeCost_9 rfl (Nat.le_of_ble_eq_true rfl) (Nat.le_of_ble_eq_true rfl) h


theorem dX8_lateCount_0 : decode cX8_lateCount 0 = .ok (.aload_n 0, 1) := by decide +kernel
theorem dX8_lateCount_1 : decode cX8_lateCount 1 = .ok (.iconst 0, 1) := by decide +kernel
theorem dX8_lateCount_2 : decode cX8_lateCount 2 = .ok (.putfield 55, 3) := by decide +kernel
theorem dX8_lateCount_5 : decode cX8_lateCount 5 = .ok (.aload_n 0, 1) := by decide +kernel
theorem dX8_lateCount_6 : decode cX8_lateCount 6 = .ok (.invokevirtual 295, 3) := by decide +kernel
theorem dX8_lateCount_9 : decode cX8_lateCount 9 = .ok (.ireturn, 1) := by decide +kernel
set_option maxRecDepth 20000 in
theorem s_X8_lateCount_0 {l : Launch} {G : GT} {d : Nat} {Q : AV → AH → Prop} {H : AH} {a0 : Int} {M : Row} (hW : MW H a0 M) (h : ∀ H1 : AH, H1 = hs H a0 5 0 → ∀ H2 : AH, only H1 H2 (pMks a0) → MW H2 a0 M → Q (vI (lateM M)) H2) (hd : 17 ≤ d := by omega) : AW l G mX8_lateCount (d + 1) 0 0 Q 0 [vR a0] [] 0 0 H := by
  refine a_aload_n dX8_lateCount_0 rfl rfl ?_
  refine a_iconst dX8_lateCount_1 ⟨by decide, by decide⟩ ?_
  refine a_putI dX8_lateCount_2 fp_RX8_55 rfl rfl (kMod_0 hW.1) ?_
  have h_r0_1 := Lay.wr hW.1 ok_Mod (nrf_fld 5 (kMod_0 hW.1) (by decide) (by decide)) (i := 5) (x := 0)
  generalize e_H1 : hs H a0 5 0 = H1 at h_r0_1 ⊢
  replace h := h H1 e_H1.symm
  have row_H1 := (show rowM H1 a0 = _ from by rw [← e_H1, rowM_ne (by omega), hW.2.1])
  have mk_H1 := (show okM _ ∧ mkd H1 a0 from by rw [← e_H1]; exact ⟨hW.2.2.1, mkd_wr hW.2.2.2 (by omega) (by omega) (by omega)⟩)
  refine a_aload_n dX8_lateCount_5 rfl rfl ?_
  refine a_callV dX8_lateCount_6 cw_X8_lateCount_6 (as := []) rfl rfl (kMod_0 h_r0_1) (Nat.le_refl _) (Nat.le_of_ble_eq_true rfl) (nocov rfl) (Nat.le_of_ble_eq_true rfl) (Nat.le_of_ble_eq_true rfl) (CL.mono (c_lateMany (show MW H1 a0 M from ⟨h_r0_1, row_H1, mk_H1⟩) ) (fun r9 H2 h9 => ?_))
  obtain ⟨e9, o_H2, hW_H2⟩ := h9
  rw [e9]
  replace h := h H2 o_H2 hW_H2
  show AW l G mX8_lateCount (d + 1) 0 0 Q 9 [vR a0] [vI (lateM M)] 0 0 H2
  exact a_iret dX8_lateCount_9 rfl (Nat.le_of_ble_eq_true rfl) (Nat.le_of_ble_eq_true rfl) h


theorem dX8_slack_0 : decode cX8_slack 0 = .ok (.aload_n 0, 1) := by decide +kernel
theorem dX8_slack_1 : decode cX8_slack 1 = .ok (.iload_n 1, 1) := by decide +kernel
theorem dX8_slack_2 : decode cX8_slack 2 = .ok (.invokevirtual 71, 3) := by decide +kernel
theorem dX8_slack_5 : decode cX8_slack 5 = .ok (.ifCond .ne 5, 3) := by decide +kernel
theorem dX8_slack_8 : decode cX8_slack 8 = .ok (.iconst 0, 1) := by decide +kernel
theorem dX8_slack_9 : decode cX8_slack 9 = .ok (.ireturn, 1) := by decide +kernel
theorem dX8_slack_10 : decode cX8_slack 10 = .ok (.aload_n 0, 1) := by decide +kernel
theorem dX8_slack_11 : decode cX8_slack 11 = .ok (.iload_n 1, 1) := by decide +kernel
theorem dX8_slack_12 : decode cX8_slack 12 = .ok (.invokevirtual 264, 3) := by decide +kernel
theorem dX8_slack_15 : decode cX8_slack 15 = .ok (.ifCond .ne 5, 3) := by decide +kernel
theorem dX8_slack_18 : decode cX8_slack 18 = .ok (.iconst (-1), 1) := by decide +kernel
theorem dX8_slack_19 : decode cX8_slack 19 = .ok (.ireturn, 1) := by decide +kernel
theorem dX8_slack_20 : decode cX8_slack 20 = .ok (.aload_n 0, 1) := by decide +kernel
theorem dX8_slack_21 : decode cX8_slack 21 = .ok (.iload_n 1, 1) := by decide +kernel
theorem dX8_slack_22 : decode cX8_slack 22 = .ok (.bipush 6, 2) := by decide +kernel
theorem dX8_slack_24 : decode cX8_slack 24 = .ok (.invokevirtual 75, 3) := by decide +kernel
theorem dX8_slack_27 : decode cX8_slack 27 = .ok (.istore_n 2, 1) := by decide +kernel
theorem dX8_slack_28 : decode cX8_slack 28 = .ok (.iconst (-1), 1) := by decide +kernel
theorem dX8_slack_29 : decode cX8_slack 29 = .ok (.istore_n 3, 1) := by decide +kernel
theorem dX8_slack_30 : decode cX8_slack 30 = .ok (.aload_n 0, 1) := by decide +kernel
theorem dX8_slack_31 : decode cX8_slack 31 = .ok (.aload_n 0, 1) := by decide +kernel
theorem dX8_slack_32 : decode cX8_slack 32 = .ok (.getfield 36, 3) := by decide +kernel
theorem dX8_slack_35 : decode cX8_slack 35 = .ok (.iload_n 1, 1) := by decide +kernel
theorem dX8_slack_36 : decode cX8_slack 36 = .ok (.invokevirtual 273, 3) := by decide +kernel
theorem dX8_slack_39 : decode cX8_slack 39 = .ok (.iconst 1, 1) := by decide +kernel
theorem dX8_slack_40 : decode cX8_slack 40 = .ok (.iadd, 1) := by decide +kernel
theorem dX8_slack_41 : decode cX8_slack 41 = .ok (.istore 4, 2) := by decide +kernel
theorem dX8_slack_43 : decode cX8_slack 43 = .ok (.iload 4, 2) := by decide +kernel
theorem dX8_slack_45 : decode cX8_slack 45 = .ok (.aload_n 0, 1) := by decide +kernel
theorem dX8_slack_46 : decode cX8_slack 46 = .ok (.getfield 30, 3) := by decide +kernel
theorem dX8_slack_49 : decode cX8_slack 49 = .ok (.iload_n 2, 1) := by decide +kernel
theorem dX8_slack_50 : decode cX8_slack 50 = .ok (.iaload, 1) := by decide +kernel
theorem dX8_slack_51 : decode cX8_slack 51 = .ok (.if_icmp .ge 64, 3) := by decide +kernel
theorem dX8_slack_54 : decode cX8_slack 54 = .ok (.aload_n 0, 1) := by decide +kernel
theorem dX8_slack_55 : decode cX8_slack 55 = .ok (.getfield 36, 3) := by decide +kernel
theorem dX8_slack_58 : decode cX8_slack 58 = .ok (.bipush 24, 2) := by decide +kernel
theorem dX8_slack_60 : decode cX8_slack 60 = .ok (.iload_n 2, 1) := by decide +kernel
theorem dX8_slack_61 : decode cX8_slack 61 = .ok (.imul, 1) := by decide +kernel
theorem dX8_slack_62 : decode cX8_slack 62 = .ok (.iload 4, 2) := by decide +kernel
theorem dX8_slack_64 : decode cX8_slack 64 = .ok (.iadd, 1) := by decide +kernel
theorem dX8_slack_65 : decode cX8_slack 65 = .ok (.iaload, 1) := by decide +kernel
theorem dX8_slack_66 : decode cX8_slack 66 = .ok (.istore 5, 2) := by decide +kernel
theorem dX8_slack_68 : decode cX8_slack 68 = .ok (.aload_n 0, 1) := by decide +kernel
theorem dX8_slack_69 : decode cX8_slack 69 = .ok (.getfield 39, 3) := by decide +kernel
theorem dX8_slack_72 : decode cX8_slack 72 = .ok (.iload 5, 2) := by decide +kernel
theorem dX8_slack_74 : decode cX8_slack 74 = .ok (.iaload, 1) := by decide +kernel
theorem dX8_slack_75 : decode cX8_slack 75 = .ok (.aload_n 0, 1) := by decide +kernel
theorem dX8_slack_76 : decode cX8_slack 76 = .ok (.getfield 39, 3) := by decide +kernel
theorem dX8_slack_79 : decode cX8_slack 79 = .ok (.iload_n 1, 1) := by decide +kernel
theorem dX8_slack_80 : decode cX8_slack 80 = .ok (.iaload, 1) := by decide +kernel
theorem dX8_slack_81 : decode cX8_slack 81 = .ok (.isub, 1) := by decide +kernel
theorem dX8_slack_82 : decode cX8_slack 82 = .ok (.aload_n 0, 1) := by decide +kernel
theorem dX8_slack_83 : decode cX8_slack 83 = .ok (.iload_n 1, 1) := by decide +kernel
theorem dX8_slack_84 : decode cX8_slack 84 = .ok (.iload 5, 2) := by decide +kernel
theorem dX8_slack_86 : decode cX8_slack 86 = .ok (.invokevirtual 207, 3) := by decide +kernel
theorem dX8_slack_89 : decode cX8_slack 89 = .ok (.isub, 1) := by decide +kernel
theorem dX8_slack_90 : decode cX8_slack 90 = .ok (.istore 6, 2) := by decide +kernel
theorem dX8_slack_92 : decode cX8_slack 92 = .ok (.iload_n 3, 1) := by decide +kernel
theorem dX8_slack_93 : decode cX8_slack 93 = .ok (.iconst (-1), 1) := by decide +kernel
theorem dX8_slack_94 : decode cX8_slack 94 = .ok (.if_icmp .ne 8, 3) := by decide +kernel
theorem dX8_slack_97 : decode cX8_slack 97 = .ok (.iload 6, 2) := by decide +kernel
theorem dX8_slack_99 : decode cX8_slack 99 = .ok (.goto 9, 3) := by decide +kernel
theorem dX8_slack_102 : decode cX8_slack 102 = .ok (.iload_n 3, 1) := by decide +kernel
theorem dX8_slack_103 : decode cX8_slack 103 = .ok (.iload 6, 2) := by decide +kernel
theorem dX8_slack_105 : decode cX8_slack 105 = .ok (.invokestatic 116, 3) := by decide +kernel
theorem dX8_slack_108 : decode cX8_slack 108 = .ok (.istore_n 3, 1) := by decide +kernel
theorem dX8_slack_109 : decode cX8_slack 109 = .ok (.iinc 4 1, 3) := by decide +kernel
theorem dX8_slack_112 : decode cX8_slack 112 = .ok (.goto (-69), 3) := by decide +kernel
theorem dX8_slack_115 : decode cX8_slack 115 = .ok (.iload_n 3, 1) := by decide +kernel
theorem dX8_slack_116 : decode cX8_slack 116 = .ok (.ireturn, 1) := by decide +kernel
set_option maxRecDepth 20000 in
theorem s_X8_slack_0 {l : Launch} {G : GT} {d : Nat} {Q : AV → AH → Prop} {H : AH} {a0 x1 : Int} {M : Row} (hW : MW H a0 M) (h : (0 ≤ M 6 ∧ M 6 ≤ 24) ∧ ∀ H1 : AH, H1 = hs H a0 5 (1 - bi (decide (0 ≤ x1 ∧ x1 < M 6))) → (0 ≤ x1 ∧ x1 < M 6 → (0 ≤ x1 ∧ x1 < 24) ∧ (ofM M x1 7 = 0 → (0 ≤ x1 ∧ x1 < M 6) ∧ (ofM M x1 7 = 0) ∧ ∀ H2 : AH, only H1 H2 (pMks a0) → MW H2 a0 M → Made H2 a0 M → (-2147483648 ≤ (ixOf (planL M (ofM M x1 6)) x1) + 1 ∧ (ixOf (planL M (ofM M x1 6)) x1) + 1 ≤ 2147483647) ∧ AW l G mX8_slack (d + 1) 0 0 Q 43 [vR a0, vI x1, vI (ofM M x1 6), vI (-1), vI ((ixOf (planL M (ofM M x1 6)) x1) + 1), vU, vU] [] 0 0 H2) ∧ (¬ (ofM M x1 7 = 0) → Q (vI (-1)) H1)) ∧ (¬ (0 ≤ x1 ∧ x1 < M 6) → Q (vI 0) H1)) (hd : 15 ≤ d := by omega) : AW l G mX8_slack (d + 1) 0 0 Q 0 [vR a0, vI x1, vU, vU, vU, vU, vU] [] 0 0 H := by
  refine a_aload_n dX8_slack_0 rfl rfl ?_
  refine a_iload_n dX8_slack_1 rfl rfl ?_
  obtain ⟨q2_0, h⟩ := h
  refine a_callV dX8_slack_2 cw_X8_slack_2 (as := [vI x1]) rfl rfl (kMod_0 hW.1) (Nat.le_refl _) (Nat.le_of_ble_eq_true rfl) (nocov rfl) (Nat.le_of_ble_eq_true rfl) (Nat.le_of_ble_eq_true rfl) (CL.mono (c_isFlight hW.1 (by rw [hW.2.1]; exact q2_0)) (fun r9 H9 h9 => ?_))
  rw [h9.1, h9.2]
  (try rw [hW.2.1])
  have h_r0_1 := Lay.wr hW.1 ok_Mod (nrf_fld 5 (kMod_0 hW.1) (by decide) (by decide)) (i := 5) (x := (1 - bi (decide (0 ≤ x1 ∧ x1 < M 6))))
  generalize e_H1 : hs H a0 5 (1 - bi (decide (0 ≤ x1 ∧ x1 < M 6))) = H1 at h_r0_1 ⊢
  replace h := h H1 e_H1.symm
  have row_H1 := (show rowM H1 a0 = _ from by rw [← e_H1, rowM_ne (by omega), hW.2.1])
  have mk_H1 := (show okM _ ∧ mkd H1 a0 from by rw [← e_H1]; exact ⟨hW.2.2.1, mkd_wr hW.2.2.2 (by omega) (by omega) (by omega)⟩)
  show AW l G mX8_slack (d + 1) 0 0 Q 5 [vR a0, vI x1, vU, vU, vU, vU, vU] [vI (bi (decide (0 ≤ x1 ∧ x1 < M 6)))] 0 0 H1
  refine a_if_ne dX8_slack_5 (tgt := 10) rfl (fun c5 => ?_) (fun c5 => ?_)
  · replace h := h.1 (bi_1 c5)
    refine a_aload_n dX8_slack_10 rfl rfl ?_
    refine a_iload_n dX8_slack_11 rfl rfl ?_
    obtain ⟨q12_0, h⟩ := h
    refine a_callV dX8_slack_12 cw_X8_slack_12 (as := [vI x1]) rfl rfl (kMod_0 h_r0_1) (Nat.le_refl _) (Nat.le_of_ble_eq_true rfl) (nocov rfl) (Nat.le_of_ble_eq_true rfl) (Nat.le_of_ble_eq_true rfl) (CL.mono (c_isPlanned h_r0_1 q12_0) (fun r9 H9 h9 => ?_))
    rw [h9.1, h9.2]
    (try rw [row_H1])
    show AW l G mX8_slack (d + 1) 0 0 Q 15 [vR a0, vI x1, vU, vU, vU, vU, vU] [vI (bi (decide (ofM M x1 7 = 0)))] 0 0 H1
    refine a_if_ne dX8_slack_15 (tgt := 20) rfl (fun c15 => ?_) (fun c15 => ?_)
    · replace h := h.1 (bi_1 c15)
      refine a_aload_n dX8_slack_20 rfl rfl ?_
      refine a_iload_n dX8_slack_21 rfl rfl ?_
      refine a_bipush dX8_slack_22 (by decide) ?_
      refine a_callV dX8_slack_24 cw_X8_slack_24 (as := [vI x1, vI 6]) rfl rfl (kMod_0 h_r0_1) (Nat.le_refl _) (Nat.le_of_ble_eq_true rfl) (nocov rfl) (Nat.le_of_ble_eq_true rfl) (Nat.le_of_ble_eq_true rfl) (CL.mono (c_of h_r0_1 ⟨q12_0.1, q12_0.2, by decide, by decide⟩) (fun r9 H9 h9 => ?_))
      rw [h9.1, h9.2]
      (try rw [row_H1])
      show AW l G mX8_slack (d + 1) 0 0 Q 27 [vR a0, vI x1, vU, vU, vU, vU, vU] [vI (ofM M x1 6)] 0 0 H1
      refine a_istore_n dX8_slack_27 rfl (Nat.le_of_ble_eq_true rfl) (ls' := [vR a0, vI x1, vI (ofM M x1 6), vU, vU, vU, vU]) rfl ?_
      refine a_iconst dX8_slack_28 ⟨by decide, by decide⟩ ?_
      refine a_istore_n dX8_slack_29 rfl (Nat.le_of_ble_eq_true rfl) (ls' := [vR a0, vI x1, vI (ofM M x1 6), vI (-1), vU, vU, vU]) rfl ?_
      refine a_aload_n dX8_slack_30 rfl rfl ?_
      refine a_aload_n dX8_slack_31 rfl rfl ?_
      refine a_getR dX8_slack_32 fw_RX8_36 rfl rfl (kMod_0 h_r0_1) (rMod_0_16 h_r0_1) ?_
      refine a_iload_n dX8_slack_35 rfl rfl ?_
      obtain ⟨q36_0, h⟩ := h
      obtain ⟨q36_1, h⟩ := h
      refine a_callV dX8_slack_36 cw_X8_slack_36 (as := [vR (a0 + 9), vI x1]) rfl rfl (kMod_0 h_r0_1) (Nat.le_refl _) (Nat.le_of_ble_eq_true rfl) (nocov rfl) (Nat.le_of_ble_eq_true rfl) (Nat.le_of_ble_eq_true rfl) (CL.mono (c_placeInP (show MW H1 a0 M from ⟨h_r0_1, row_H1, mk_H1⟩) q36_0 q36_1) (fun r9 H2 h9 => ?_))
      obtain ⟨e9, o_H2, hW_H2, hX_H2⟩ := h9
      rw [e9]
      replace h := h H2 o_H2 hW_H2 hX_H2
      show AW l G mX8_slack (d + 1) 0 0 Q 39 [vR a0, vI x1, vI (ofM M x1 6), vI (-1), vU, vU, vU] [vI (ixOf (planL M (ofM M x1 6)) x1)] 0 0 H2
      refine a_iconst dX8_slack_39 ⟨by decide, by decide⟩ ?_
      obtain ⟨q40_0, h⟩ := h
      refine a_iadd dX8_slack_40 q40_0 ?_
      refine a_istore dX8_slack_41 (Nat.le_of_ble_eq_true rfl) (ls' := [vR a0, vI x1, vI (ofM M x1 6), vI (-1), vI ((ixOf (planL M (ofM M x1 6)) x1) + 1), vU, vU]) rfl ?_
      exact h
    · replace h := h.2 (bi_0 c15)
      refine a_iconst dX8_slack_18 ⟨by decide, by decide⟩ ?_
      exact a_iret dX8_slack_19 rfl (Nat.le_of_ble_eq_true rfl) (Nat.le_of_ble_eq_true rfl) h
  · replace h := h.2 (bi_0 c5)
    refine a_iconst dX8_slack_8 ⟨by decide, by decide⟩ ?_
    exact a_iret dX8_slack_9 rfl (Nat.le_of_ble_eq_true rfl) (Nat.le_of_ble_eq_true rfl) h

set_option maxRecDepth 20000 in
theorem s_X8_slack_43 {l : Launch} {G : GT} {d : Nat} {Q : AV → AH → Prop} {H : AH} {a0 x1 x2 x3 x4 : Int} {M : Row} (hW : MW H a0 M) (h : (0 ≤ x2 ∧ x2 < 3) ∧ ((hg H (a0 + 7) x2) ≤ x4 → Q (vI x3) H) ∧ (x4 < (hg H (a0 + 7) x2) → (-2147483648 ≤ 24 * x2 ∧ 24 * x2 ≤ 2147483647) ∧ (-2147483648 ≤ (24 * x2) + x4 ∧ (24 * x2) + x4 ≤ 2147483647) ∧ (0 ≤ ((24 * x2) + x4) ∧ ((24 * x2) + x4) < 72) ∧ (0 ≤ (hg H (a0 + 9) ((24 * x2) + x4)) ∧ (hg H (a0 + 9) ((24 * x2) + x4)) < 24) ∧ (0 ≤ x1 ∧ x1 < 24) ∧ (-2147483648 ≤ (hg H (a0 + 10) (hg H (a0 + 9) ((24 * x2) + x4))) - (hg H (a0 + 10) x1) ∧ (hg H (a0 + 10) (hg H (a0 + 9) ((24 * x2) + x4))) - (hg H (a0 + 10) x1) ≤ 2147483647) ∧ (0 ≤ ofM M x1 1 ∧ ofM M x1 1 ≤ 3) ∧ (0 ≤ ofM M (hg H (a0 + 9) ((24 * x2) + x4)) 1 ∧ ofM M (hg H (a0 + 9) ((24 * x2) + x4)) 1 ≤ 3) ∧ (-2147483648 ≤ ((hg H (a0 + 10) (hg H (a0 + 9) ((24 * x2) + x4))) - (hg H (a0 + 10) x1)) - (apartM M x1 (hg H (a0 + 9) ((24 * x2) + x4))) ∧ ((hg H (a0 + 10) (hg H (a0 + 9) ((24 * x2) + x4))) - (hg H (a0 + 10) x1)) - (apartM M x1 (hg H (a0 + 9) ((24 * x2) + x4))) ≤ 2147483647) ∧ (¬ x3 = (-1) → (-2147483648 ≤ x4 + 1 ∧ x4 + 1 ≤ 2147483647) ∧ AW l G mX8_slack (d + 1) 0 0 Q 43 [vR a0, vI x1, vI x2, vI (min x3 (((hg H (a0 + 10) (hg H (a0 + 9) ((24 * x2) + x4))) - (hg H (a0 + 10) x1)) - (apartM M x1 (hg H (a0 + 9) ((24 * x2) + x4))))), vI (x4 + 1), vU, vU] [] 0 0 H) ∧ (x3 = (-1) → (-2147483648 ≤ x4 + 1 ∧ x4 + 1 ≤ 2147483647) ∧ AW l G mX8_slack (d + 1) 0 0 Q 43 [vR a0, vI x1, vI x2, vI (((hg H (a0 + 10) (hg H (a0 + 9) ((24 * x2) + x4))) - (hg H (a0 + 10) x1)) - (apartM M x1 (hg H (a0 + 9) ((24 * x2) + x4)))), vI (x4 + 1), vU, vU] [] 0 0 H))) (hd : 15 ≤ d := by omega) : AW l G mX8_slack (d + 1) 0 0 Q 43 [vR a0, vI x1, vI x2, vI x3, vI x4, vU, vU] [] 0 0 H := by
  refine a_iload dX8_slack_43 rfl ?_
  refine a_aload_n dX8_slack_45 rfl rfl ?_
  refine a_getR dX8_slack_46 fw_RX8_30 rfl rfl (kMod_0 hW.1) (rMod_0_14 hW.1) ?_
  refine a_iload_n dX8_slack_49 rfl rfl ?_
  obtain ⟨q50_0, h⟩ := h
  refine b_iald dX8_slack_50 (kMod_7 hW.1) (nMod_7 hW.1) q50_0 ?_
  refine a_icmp_ge dX8_slack_51 (tgt := 115) rfl (fun c51 => ?_) (fun c51 => ?_)
  · replace h := h.1 c51
    refine a_iload_n dX8_slack_115 rfl rfl ?_
    exact a_iret dX8_slack_116 rfl (Nat.le_of_ble_eq_true rfl) (Nat.le_of_ble_eq_true rfl) h
  · replace h := h.2 c51
    refine a_aload_n dX8_slack_54 rfl rfl ?_
    refine a_getR dX8_slack_55 fw_RX8_36 rfl rfl (kMod_0 hW.1) (rMod_0_16 hW.1) ?_
    refine a_bipush dX8_slack_58 (by decide) ?_
    refine a_iload_n dX8_slack_60 rfl rfl ?_
    obtain ⟨q61_0, h⟩ := h
    refine a_imul dX8_slack_61 q61_0 ?_
    refine a_iload dX8_slack_62 rfl ?_
    obtain ⟨q64_0, h⟩ := h
    refine a_iadd dX8_slack_64 q64_0 ?_
    obtain ⟨q65_0, h⟩ := h
    refine b_iald dX8_slack_65 (kMod_9 hW.1) (nMod_9 hW.1) q65_0 ?_
    refine a_istore dX8_slack_66 (Nat.le_of_ble_eq_true rfl) (ls' := [vR a0, vI x1, vI x2, vI x3, vI x4, vI (hg H (a0 + 9) ((24 * x2) + x4)), vU]) rfl ?_
    refine a_aload_n dX8_slack_68 rfl rfl ?_
    refine a_getR dX8_slack_69 fw_RX8_39 rfl rfl (kMod_0 hW.1) (rMod_0_17 hW.1) ?_
    refine a_iload dX8_slack_72 rfl ?_
    obtain ⟨q74_0, h⟩ := h
    refine b_iald dX8_slack_74 (kMod_10 hW.1) (nMod_10 hW.1) q74_0 ?_
    refine a_aload_n dX8_slack_75 rfl rfl ?_
    refine a_getR dX8_slack_76 fw_RX8_39 rfl rfl (kMod_0 hW.1) (rMod_0_17 hW.1) ?_
    refine a_iload_n dX8_slack_79 rfl rfl ?_
    obtain ⟨q80_0, h⟩ := h
    refine b_iald dX8_slack_80 (kMod_10 hW.1) (nMod_10 hW.1) q80_0 ?_
    obtain ⟨q81_0, h⟩ := h
    refine a_isub dX8_slack_81 q81_0 ?_
    refine a_aload_n dX8_slack_82 rfl rfl ?_
    refine a_iload_n dX8_slack_83 rfl rfl ?_
    refine a_iload dX8_slack_84 rfl ?_
    obtain ⟨q86_2, h⟩ := h
    obtain ⟨q86_3, h⟩ := h
    refine a_callV dX8_slack_86 cw_X8_slack_86 (as := [vI x1, vI (hg H (a0 + 9) ((24 * x2) + x4))]) rfl rfl (kMod_0 hW.1) (Nat.le_refl _) (Nat.le_of_ble_eq_true rfl) (nocov rfl) (Nat.le_of_ble_eq_true rfl) (Nat.le_of_ble_eq_true rfl) (CL.mono (c_apart hW.1 q80_0 q74_0 (by rw [hW.2.1]; exact q86_2) (by rw [hW.2.1]; exact q86_3)) (fun r9 H9 h9 => ?_))
    rw [h9.1, h9.2]
    (try rw [hW.2.1])
    show AW l G mX8_slack (d + 1) 0 0 Q 89 [vR a0, vI x1, vI x2, vI x3, vI x4, vI (hg H (a0 + 9) ((24 * x2) + x4)), vU] [vI (apartM M x1 (hg H (a0 + 9) ((24 * x2) + x4))), vI ((hg H (a0 + 10) (hg H (a0 + 9) ((24 * x2) + x4))) - (hg H (a0 + 10) x1))] 0 0 H
    obtain ⟨q89_0, h⟩ := h
    refine a_isub dX8_slack_89 q89_0 ?_
    refine a_istore dX8_slack_90 (Nat.le_of_ble_eq_true rfl) (ls' := [vR a0, vI x1, vI x2, vI x3, vI x4, vI (hg H (a0 + 9) ((24 * x2) + x4)), vI (((hg H (a0 + 10) (hg H (a0 + 9) ((24 * x2) + x4))) - (hg H (a0 + 10) x1)) - (apartM M x1 (hg H (a0 + 9) ((24 * x2) + x4))))]) rfl ?_
    refine a_iload_n dX8_slack_92 rfl rfl ?_
    refine a_iconst dX8_slack_93 ⟨by decide, by decide⟩ ?_
    refine a_icmp_ne dX8_slack_94 (tgt := 102) rfl (fun c94 => ?_) (fun c94 => ?_)
    · replace h := h.1 c94
      refine a_iload_n dX8_slack_102 rfl rfl ?_
      refine a_iload dX8_slack_103 rfl ?_
      refine a_mmin dX8_slack_105 cw_X8_slack_105 (Nat.le_of_ble_eq_true rfl) (Nat.le_of_ble_eq_true rfl) (Nat.le_of_ble_eq_true rfl) ?_
      refine a_istore_n dX8_slack_108 rfl (Nat.le_of_ble_eq_true rfl) (ls' := [vR a0, vI x1, vI x2, vI (min x3 (((hg H (a0 + 10) (hg H (a0 + 9) ((24 * x2) + x4))) - (hg H (a0 + 10) x1)) - (apartM M x1 (hg H (a0 + 9) ((24 * x2) + x4))))), vI x4, vI (hg H (a0 + 9) ((24 * x2) + x4)), vI (((hg H (a0 + 10) (hg H (a0 + 9) ((24 * x2) + x4))) - (hg H (a0 + 10) x1)) - (apartM M x1 (hg H (a0 + 9) ((24 * x2) + x4))))]) rfl ?_
      obtain ⟨q109_0, h⟩ := h
      refine a_iinc dX8_slack_109 rfl (Nat.le_of_ble_eq_true rfl) (by decide) q109_0 (ls' := [vR a0, vI x1, vI x2, vI (min x3 (((hg H (a0 + 10) (hg H (a0 + 9) ((24 * x2) + x4))) - (hg H (a0 + 10) x1)) - (apartM M x1 (hg H (a0 + 9) ((24 * x2) + x4))))), vI (x4 + 1), vI (hg H (a0 + 9) ((24 * x2) + x4)), vI (((hg H (a0 + 10) (hg H (a0 + 9) ((24 * x2) + x4))) - (hg H (a0 + 10) x1)) - (apartM M x1 (hg H (a0 + 9) ((24 * x2) + x4))))]) rfl ?_
      refine a_goto dX8_slack_112 (tgt := 43) rfl ?_
      exact a_weak (wk_e (wk_e (wk_e (wk_e (wk_e (wk_u (wk_u wk_n))))))) h
    · replace h := h.2 c94
      refine a_iload dX8_slack_97 rfl ?_
      refine a_goto dX8_slack_99 (tgt := 108) rfl ?_
      refine a_istore_n dX8_slack_108 rfl (Nat.le_of_ble_eq_true rfl) (ls' := [vR a0, vI x1, vI x2, vI (((hg H (a0 + 10) (hg H (a0 + 9) ((24 * x2) + x4))) - (hg H (a0 + 10) x1)) - (apartM M x1 (hg H (a0 + 9) ((24 * x2) + x4)))), vI x4, vI (hg H (a0 + 9) ((24 * x2) + x4)), vI (((hg H (a0 + 10) (hg H (a0 + 9) ((24 * x2) + x4))) - (hg H (a0 + 10) x1)) - (apartM M x1 (hg H (a0 + 9) ((24 * x2) + x4))))]) rfl ?_
      obtain ⟨q109_0, h⟩ := h
      refine a_iinc dX8_slack_109 rfl (Nat.le_of_ble_eq_true rfl) (by decide) q109_0 (ls' := [vR a0, vI x1, vI x2, vI (((hg H (a0 + 10) (hg H (a0 + 9) ((24 * x2) + x4))) - (hg H (a0 + 10) x1)) - (apartM M x1 (hg H (a0 + 9) ((24 * x2) + x4)))), vI (x4 + 1), vI (hg H (a0 + 9) ((24 * x2) + x4)), vI (((hg H (a0 + 10) (hg H (a0 + 9) ((24 * x2) + x4))) - (hg H (a0 + 10) x1)) - (apartM M x1 (hg H (a0 + 9) ((24 * x2) + x4))))]) rfl ?_
      refine a_goto dX8_slack_112 (tgt := 43) rfl ?_
      exact a_weak (wk_e (wk_e (wk_e (wk_e (wk_e (wk_u (wk_u wk_n))))))) h


theorem dX8_lastTime_0 : decode cX8_lastTime 0 = .ok (.aload_n 0, 1) := by decide +kernel
theorem dX8_lastTime_1 : decode cX8_lastTime 1 = .ok (.iload_n 1, 1) := by decide +kernel
theorem dX8_lastTime_2 : decode cX8_lastTime 2 = .ok (.invokevirtual 276, 3) := by decide +kernel
theorem dX8_lastTime_5 : decode cX8_lastTime 5 = .ok (.ifCond .ne 5, 3) := by decide +kernel
theorem dX8_lastTime_8 : decode cX8_lastTime 8 = .ok (.iconst 0, 1) := by decide +kernel
theorem dX8_lastTime_9 : decode cX8_lastTime 9 = .ok (.ireturn, 1) := by decide +kernel
theorem dX8_lastTime_10 : decode cX8_lastTime 10 = .ok (.aload_n 0, 1) := by decide +kernel
theorem dX8_lastTime_11 : decode cX8_lastTime 11 = .ok (.invokevirtual 261, 3) := by decide +kernel
theorem dX8_lastTime_14 : decode cX8_lastTime 14 = .ok (.aload_n 0, 1) := by decide +kernel
theorem dX8_lastTime_15 : decode cX8_lastTime 15 = .ok (.getfield 30, 3) := by decide +kernel
theorem dX8_lastTime_18 : decode cX8_lastTime 18 = .ok (.iload_n 1, 1) := by decide +kernel
theorem dX8_lastTime_19 : decode cX8_lastTime 19 = .ok (.iaload, 1) := by decide +kernel
theorem dX8_lastTime_20 : decode cX8_lastTime 20 = .ok (.ifCond .ne 7, 3) := by decide +kernel
theorem dX8_lastTime_23 : decode cX8_lastTime 23 = .ok (.iconst (-1), 1) := by decide +kernel
theorem dX8_lastTime_24 : decode cX8_lastTime 24 = .ok (.goto 26, 3) := by decide +kernel
theorem dX8_lastTime_27 : decode cX8_lastTime 27 = .ok (.aload_n 0, 1) := by decide +kernel
theorem dX8_lastTime_28 : decode cX8_lastTime 28 = .ok (.getfield 39, 3) := by decide +kernel
theorem dX8_lastTime_31 : decode cX8_lastTime 31 = .ok (.aload_n 0, 1) := by decide +kernel
theorem dX8_lastTime_32 : decode cX8_lastTime 32 = .ok (.getfield 36, 3) := by decide +kernel
theorem dX8_lastTime_35 : decode cX8_lastTime 35 = .ok (.bipush 24, 2) := by decide +kernel
theorem dX8_lastTime_37 : decode cX8_lastTime 37 = .ok (.iload_n 1, 1) := by decide +kernel
theorem dX8_lastTime_38 : decode cX8_lastTime 38 = .ok (.imul, 1) := by decide +kernel
theorem dX8_lastTime_39 : decode cX8_lastTime 39 = .ok (.aload_n 0, 1) := by decide +kernel
theorem dX8_lastTime_40 : decode cX8_lastTime 40 = .ok (.getfield 30, 3) := by decide +kernel
theorem dX8_lastTime_43 : decode cX8_lastTime 43 = .ok (.iload_n 1, 1) := by decide +kernel
theorem dX8_lastTime_44 : decode cX8_lastTime 44 = .ok (.iaload, 1) := by decide +kernel
theorem dX8_lastTime_45 : decode cX8_lastTime 45 = .ok (.iadd, 1) := by decide +kernel
theorem dX8_lastTime_46 : decode cX8_lastTime 46 = .ok (.iconst 1, 1) := by decide +kernel
theorem dX8_lastTime_47 : decode cX8_lastTime 47 = .ok (.isub, 1) := by decide +kernel
theorem dX8_lastTime_48 : decode cX8_lastTime 48 = .ok (.iaload, 1) := by decide +kernel
theorem dX8_lastTime_49 : decode cX8_lastTime 49 = .ok (.iaload, 1) := by decide +kernel
theorem dX8_lastTime_50 : decode cX8_lastTime 50 = .ok (.ireturn, 1) := by decide +kernel
set_option maxRecDepth 20000 in
theorem s_X8_lastTime_0 {l : Launch} {G : GT} {d : Nat} {Q : AV → AH → Prop} {H : AH} {a0 x1 : Int} {M : Row} (hW : MW H a0 M) (h : (0 ≤ M 5 ∧ M 5 ≤ 3) ∧ ∀ H1 : AH, H1 = hs H a0 5 (1 - bi (decide (0 ≤ x1 ∧ x1 < M 5))) → (0 ≤ x1 ∧ x1 < M 5 → ∀ H2 : AH, only H1 H2 (pMks a0) → MW H2 a0 M → Made H2 a0 M → (0 ≤ x1 ∧ x1 < 3) ∧ (¬ (hg H2 (a0 + 7) x1) = 0 → (-2147483648 ≤ 24 * x1 ∧ 24 * x1 ≤ 2147483647) ∧ (-2147483648 ≤ (24 * x1) + (hg H2 (a0 + 7) x1) ∧ (24 * x1) + (hg H2 (a0 + 7) x1) ≤ 2147483647) ∧ (-2147483648 ≤ ((24 * x1) + (hg H2 (a0 + 7) x1)) - 1 ∧ ((24 * x1) + (hg H2 (a0 + 7) x1)) - 1 ≤ 2147483647) ∧ (0 ≤ (((24 * x1) + (hg H2 (a0 + 7) x1)) - 1) ∧ (((24 * x1) + (hg H2 (a0 + 7) x1)) - 1) < 72) ∧ (0 ≤ (hg H2 (a0 + 9) (((24 * x1) + (hg H2 (a0 + 7) x1)) - 1)) ∧ (hg H2 (a0 + 9) (((24 * x1) + (hg H2 (a0 + 7) x1)) - 1)) < 24) ∧ Q (vI (hg H2 (a0 + 10) (hg H2 (a0 + 9) (((24 * x1) + (hg H2 (a0 + 7) x1)) - 1)))) H2) ∧ ((hg H2 (a0 + 7) x1) = 0 → Q (vI (-1)) H2)) ∧ (¬ (0 ≤ x1 ∧ x1 < M 5) → Q (vI 0) H1)) (hd : 14 ≤ d := by omega) : AW l G mX8_lastTime (d + 1) 0 0 Q 0 [vR a0, vI x1] [] 0 0 H := by
  refine a_aload_n dX8_lastTime_0 rfl rfl ?_
  refine a_iload_n dX8_lastTime_1 rfl rfl ?_
  obtain ⟨q2_0, h⟩ := h
  refine a_callV dX8_lastTime_2 cw_X8_lastTime_2 (as := [vI x1]) rfl rfl (kMod_0 hW.1) (Nat.le_refl _) (Nat.le_of_ble_eq_true rfl) (nocov rfl) (Nat.le_of_ble_eq_true rfl) (Nat.le_of_ble_eq_true rfl) (CL.mono (c_isRunway hW.1 (by rw [hW.2.1]; exact q2_0)) (fun r9 H9 h9 => ?_))
  rw [h9.1, h9.2]
  (try rw [hW.2.1])
  have h_r0_1 := Lay.wr hW.1 ok_Mod (nrf_fld 5 (kMod_0 hW.1) (by decide) (by decide)) (i := 5) (x := (1 - bi (decide (0 ≤ x1 ∧ x1 < M 5))))
  generalize e_H1 : hs H a0 5 (1 - bi (decide (0 ≤ x1 ∧ x1 < M 5))) = H1 at h_r0_1 ⊢
  replace h := h H1 e_H1.symm
  have row_H1 := (show rowM H1 a0 = _ from by rw [← e_H1, rowM_ne (by omega), hW.2.1])
  have mk_H1 := (show okM _ ∧ mkd H1 a0 from by rw [← e_H1]; exact ⟨hW.2.2.1, mkd_wr hW.2.2.2 (by omega) (by omega) (by omega)⟩)
  show AW l G mX8_lastTime (d + 1) 0 0 Q 5 [vR a0, vI x1] [vI (bi (decide (0 ≤ x1 ∧ x1 < M 5)))] 0 0 H1
  refine a_if_ne dX8_lastTime_5 (tgt := 10) rfl (fun c5 => ?_) (fun c5 => ?_)
  · replace h := h.1 (bi_1 c5)
    refine a_aload_n dX8_lastTime_10 rfl rfl ?_
    refine a_callV dX8_lastTime_11 cw_X8_lastTime_11 (as := []) rfl rfl (kMod_0 h_r0_1) (Nat.le_refl _) (Nat.le_of_ble_eq_true rfl) (nocov rfl) (Nat.le_of_ble_eq_true rfl) (Nat.le_of_ble_eq_true rfl) (CL.mono (c_makesQ (show MW H1 a0 M from ⟨h_r0_1, row_H1, mk_H1⟩) ) (fun r9 H2 h9 => ?_))
    obtain ⟨e9, o_H2, hW_H2, hX_H2⟩ := h9
    rw [e9]
    replace h := h H2 o_H2 hW_H2 hX_H2
    show AW l G mX8_lastTime (d + 1) 0 0 Q 14 [vR a0, vI x1] [] 0 0 H2
    refine a_aload_n dX8_lastTime_14 rfl rfl ?_
    refine a_getR dX8_lastTime_15 fw_RX8_30 rfl rfl (kMod_0 hW_H2.1) (rMod_0_14 hW_H2.1) ?_
    refine a_iload_n dX8_lastTime_18 rfl rfl ?_
    obtain ⟨q19_0, h⟩ := h
    refine b_iald dX8_lastTime_19 (kMod_7 hW_H2.1) (nMod_7 hW_H2.1) q19_0 ?_
    refine a_if_ne dX8_lastTime_20 (tgt := 27) rfl (fun c20 => ?_) (fun c20 => ?_)
    · replace h := h.1 c20
      refine a_aload_n dX8_lastTime_27 rfl rfl ?_
      refine a_getR dX8_lastTime_28 fw_RX8_39 rfl rfl (kMod_0 hW_H2.1) (rMod_0_17 hW_H2.1) ?_
      refine a_aload_n dX8_lastTime_31 rfl rfl ?_
      refine a_getR dX8_lastTime_32 fw_RX8_36 rfl rfl (kMod_0 hW_H2.1) (rMod_0_16 hW_H2.1) ?_
      refine a_bipush dX8_lastTime_35 (by decide) ?_
      refine a_iload_n dX8_lastTime_37 rfl rfl ?_
      obtain ⟨q38_0, h⟩ := h
      refine a_imul dX8_lastTime_38 q38_0 ?_
      refine a_aload_n dX8_lastTime_39 rfl rfl ?_
      refine a_getR dX8_lastTime_40 fw_RX8_30 rfl rfl (kMod_0 hW_H2.1) (rMod_0_14 hW_H2.1) ?_
      refine a_iload_n dX8_lastTime_43 rfl rfl ?_
      refine b_iald dX8_lastTime_44 (kMod_7 hW_H2.1) (nMod_7 hW_H2.1) q19_0 ?_
      obtain ⟨q45_0, h⟩ := h
      refine a_iadd dX8_lastTime_45 q45_0 ?_
      refine a_iconst dX8_lastTime_46 ⟨by decide, by decide⟩ ?_
      obtain ⟨q47_0, h⟩ := h
      refine a_isub dX8_lastTime_47 q47_0 ?_
      obtain ⟨q48_0, h⟩ := h
      refine b_iald dX8_lastTime_48 (kMod_9 hW_H2.1) (nMod_9 hW_H2.1) q48_0 ?_
      obtain ⟨q49_0, h⟩ := h
      refine b_iald dX8_lastTime_49 (kMod_10 hW_H2.1) (nMod_10 hW_H2.1) q49_0 ?_
      exact a_iret dX8_lastTime_50 rfl (Nat.le_of_ble_eq_true rfl) (Nat.le_of_ble_eq_true rfl) h
    · replace h := h.2 c20
      refine a_iconst dX8_lastTime_23 ⟨by decide, by decide⟩ ?_
      refine a_goto dX8_lastTime_24 (tgt := 50) rfl ?_
      exact a_iret dX8_lastTime_50 rfl (Nat.le_of_ble_eq_true rfl) (Nat.le_of_ble_eq_true rfl) h
  · replace h := h.2 (bi_0 c5)
    refine a_iconst dX8_lastTime_8 ⟨by decide, by decide⟩ ?_
    exact a_iret dX8_lastTime_9 rfl (Nat.le_of_ble_eq_true rfl) (Nat.le_of_ble_eq_true rfl) h


theorem dX8_pastNeighbor_0 : decode cX8_pastNeighbor 0 = .ok (.aload_n 0, 1) := by decide +kernel
theorem dX8_pastNeighbor_1 : decode cX8_pastNeighbor 1 = .ok (.iconst 0, 1) := by decide +kernel
theorem dX8_pastNeighbor_2 : decode cX8_pastNeighbor 2 = .ok (.putfield 55, 3) := by decide +kernel
theorem dX8_pastNeighbor_5 : decode cX8_pastNeighbor 5 = .ok (.aload_n 0, 1) := by decide +kernel
theorem dX8_pastNeighbor_6 : decode cX8_pastNeighbor 6 = .ok (.invokevirtual 261, 3) := by decide +kernel
theorem dX8_pastNeighbor_9 : decode cX8_pastNeighbor 9 = .ok (.iconst 0, 1) := by decide +kernel
theorem dX8_pastNeighbor_10 : decode cX8_pastNeighbor 10 = .ok (.istore_n 1, 1) := by decide +kernel
theorem dX8_pastNeighbor_11 : decode cX8_pastNeighbor 11 = .ok (.iconst 0, 1) := by decide +kernel
theorem dX8_pastNeighbor_12 : decode cX8_pastNeighbor 12 = .ok (.istore_n 2, 1) := by decide +kernel
theorem dX8_pastNeighbor_13 : decode cX8_pastNeighbor 13 = .ok (.iload_n 2, 1) := by decide +kernel
theorem dX8_pastNeighbor_14 : decode cX8_pastNeighbor 14 = .ok (.aload_n 0, 1) := by decide +kernel
theorem dX8_pastNeighbor_15 : decode cX8_pastNeighbor 15 = .ok (.getfield 9, 3) := by decide +kernel
theorem dX8_pastNeighbor_18 : decode cX8_pastNeighbor 18 = .ok (.iconst 5, 1) := by decide +kernel
theorem dX8_pastNeighbor_19 : decode cX8_pastNeighbor 19 = .ok (.iaload, 1) := by decide +kernel
theorem dX8_pastNeighbor_20 : decode cX8_pastNeighbor 20 = .ok (.if_icmp .ge 121, 3) := by decide +kernel
theorem dX8_pastNeighbor_23 : decode cX8_pastNeighbor 23 = .ok (.aload_n 0, 1) := by decide +kernel
theorem dX8_pastNeighbor_24 : decode cX8_pastNeighbor 24 = .ok (.iload_n 2, 1) := by decide +kernel
theorem dX8_pastNeighbor_25 : decode cX8_pastNeighbor 25 = .ok (.invokevirtual 247, 3) := by decide +kernel
theorem dX8_pastNeighbor_28 : decode cX8_pastNeighbor 28 = .ok (.iconst 1, 1) := by decide +kernel
theorem dX8_pastNeighbor_29 : decode cX8_pastNeighbor 29 = .ok (.istore_n 3, 1) := by decide +kernel
theorem dX8_pastNeighbor_30 : decode cX8_pastNeighbor 30 = .ok (.iload_n 3, 1) := by decide +kernel
theorem dX8_pastNeighbor_31 : decode cX8_pastNeighbor 31 = .ok (.aload_n 0, 1) := by decide +kernel
theorem dX8_pastNeighbor_32 : decode cX8_pastNeighbor 32 = .ok (.getfield 30, 3) := by decide +kernel
theorem dX8_pastNeighbor_35 : decode cX8_pastNeighbor 35 = .ok (.iload_n 2, 1) := by decide +kernel
theorem dX8_pastNeighbor_36 : decode cX8_pastNeighbor 36 = .ok (.iaload, 1) := by decide +kernel
theorem dX8_pastNeighbor_37 : decode cX8_pastNeighbor 37 = .ok (.if_icmp .ge 98, 3) := by decide +kernel
theorem dX8_pastNeighbor_40 : decode cX8_pastNeighbor 40 = .ok (.aload_n 0, 1) := by decide +kernel
theorem dX8_pastNeighbor_41 : decode cX8_pastNeighbor 41 = .ok (.getfield 36, 3) := by decide +kernel
theorem dX8_pastNeighbor_44 : decode cX8_pastNeighbor 44 = .ok (.bipush 24, 2) := by decide +kernel
theorem dX8_pastNeighbor_46 : decode cX8_pastNeighbor 46 = .ok (.iload_n 2, 1) := by decide +kernel
theorem dX8_pastNeighbor_47 : decode cX8_pastNeighbor 47 = .ok (.imul, 1) := by decide +kernel
theorem dX8_pastNeighbor_48 : decode cX8_pastNeighbor 48 = .ok (.iload_n 3, 1) := by decide +kernel
theorem dX8_pastNeighbor_49 : decode cX8_pastNeighbor 49 = .ok (.iadd, 1) := by decide +kernel
theorem dX8_pastNeighbor_50 : decode cX8_pastNeighbor 50 = .ok (.iaload, 1) := by decide +kernel
theorem dX8_pastNeighbor_51 : decode cX8_pastNeighbor 51 = .ok (.istore 4, 2) := by decide +kernel
theorem dX8_pastNeighbor_53 : decode cX8_pastNeighbor 53 = .ok (.aload_n 0, 1) := by decide +kernel
theorem dX8_pastNeighbor_54 : decode cX8_pastNeighbor 54 = .ok (.getfield 36, 3) := by decide +kernel
theorem dX8_pastNeighbor_57 : decode cX8_pastNeighbor 57 = .ok (.bipush 24, 2) := by decide +kernel
theorem dX8_pastNeighbor_59 : decode cX8_pastNeighbor 59 = .ok (.iload_n 2, 1) := by decide +kernel
theorem dX8_pastNeighbor_60 : decode cX8_pastNeighbor 60 = .ok (.imul, 1) := by decide +kernel
theorem dX8_pastNeighbor_61 : decode cX8_pastNeighbor 61 = .ok (.iload_n 3, 1) := by decide +kernel
theorem dX8_pastNeighbor_62 : decode cX8_pastNeighbor 62 = .ok (.iadd, 1) := by decide +kernel
theorem dX8_pastNeighbor_63 : decode cX8_pastNeighbor 63 = .ok (.iconst 1, 1) := by decide +kernel
theorem dX8_pastNeighbor_64 : decode cX8_pastNeighbor 64 = .ok (.isub, 1) := by decide +kernel
theorem dX8_pastNeighbor_65 : decode cX8_pastNeighbor 65 = .ok (.iaload, 1) := by decide +kernel
theorem dX8_pastNeighbor_66 : decode cX8_pastNeighbor 66 = .ok (.istore 5, 2) := by decide +kernel
theorem dX8_pastNeighbor_68 : decode cX8_pastNeighbor 68 = .ok (.aload_n 0, 1) := by decide +kernel
theorem dX8_pastNeighbor_69 : decode cX8_pastNeighbor 69 = .ok (.getfield 9, 3) := by decide +kernel
theorem dX8_pastNeighbor_72 : decode cX8_pastNeighbor 72 = .ok (.iconst 0, 1) := by decide +kernel
theorem dX8_pastNeighbor_73 : decode cX8_pastNeighbor 73 = .ok (.iaload, 1) := by decide +kernel
theorem dX8_pastNeighbor_74 : decode cX8_pastNeighbor 74 = .ok (.aload_n 0, 1) := by decide +kernel
theorem dX8_pastNeighbor_75 : decode cX8_pastNeighbor 75 = .ok (.iload 4, 2) := by decide +kernel
theorem dX8_pastNeighbor_77 : decode cX8_pastNeighbor 77 = .ok (.iconst 2, 1) := by decide +kernel
theorem dX8_pastNeighbor_78 : decode cX8_pastNeighbor 78 = .ok (.invokevirtual 75, 3) := by decide +kernel
theorem dX8_pastNeighbor_81 : decode cX8_pastNeighbor 81 = .ok (.invokestatic 213, 3) := by decide +kernel
theorem dX8_pastNeighbor_84 : decode cX8_pastNeighbor 84 = .ok (.istore 6, 2) := by decide +kernel
theorem dX8_pastNeighbor_86 : decode cX8_pastNeighbor 86 = .ok (.iload 6, 2) := by decide +kernel
theorem dX8_pastNeighbor_88 : decode cX8_pastNeighbor 88 = .ok (.aload_n 0, 1) := by decide +kernel
theorem dX8_pastNeighbor_89 : decode cX8_pastNeighbor 89 = .ok (.getfield 39, 3) := by decide +kernel
theorem dX8_pastNeighbor_92 : decode cX8_pastNeighbor 92 = .ok (.iload 5, 2) := by decide +kernel
theorem dX8_pastNeighbor_94 : decode cX8_pastNeighbor 94 = .ok (.iaload, 1) := by decide +kernel
theorem dX8_pastNeighbor_95 : decode cX8_pastNeighbor 95 = .ok (.aload_n 0, 1) := by decide +kernel
theorem dX8_pastNeighbor_96 : decode cX8_pastNeighbor 96 = .ok (.iload 5, 2) := by decide +kernel
theorem dX8_pastNeighbor_98 : decode cX8_pastNeighbor 98 = .ok (.iload 4, 2) := by decide +kernel
theorem dX8_pastNeighbor_100 : decode cX8_pastNeighbor 100 = .ok (.invokevirtual 207, 3) := by decide +kernel
theorem dX8_pastNeighbor_103 : decode cX8_pastNeighbor 103 = .ok (.iadd, 1) := by decide +kernel
theorem dX8_pastNeighbor_104 : decode cX8_pastNeighbor 104 = .ok (.invokestatic 213, 3) := by decide +kernel
theorem dX8_pastNeighbor_107 : decode cX8_pastNeighbor 107 = .ok (.istore 6, 2) := by decide +kernel
theorem dX8_pastNeighbor_109 : decode cX8_pastNeighbor 109 = .ok (.iload_n 1, 1) := by decide +kernel
theorem dX8_pastNeighbor_110 : decode cX8_pastNeighbor 110 = .ok (.aload_n 0, 1) := by decide +kernel
theorem dX8_pastNeighbor_111 : decode cX8_pastNeighbor 111 = .ok (.getfield 39, 3) := by decide +kernel
theorem dX8_pastNeighbor_114 : decode cX8_pastNeighbor 114 = .ok (.iload 4, 2) := by decide +kernel
theorem dX8_pastNeighbor_116 : decode cX8_pastNeighbor 116 = .ok (.iaload, 1) := by decide +kernel
theorem dX8_pastNeighbor_117 : decode cX8_pastNeighbor 117 = .ok (.iload 6, 2) := by decide +kernel
theorem dX8_pastNeighbor_119 : decode cX8_pastNeighbor 119 = .ok (.if_icmp .le 7, 3) := by decide +kernel
theorem dX8_pastNeighbor_122 : decode cX8_pastNeighbor 122 = .ok (.iconst 1, 1) := by decide +kernel
theorem dX8_pastNeighbor_123 : decode cX8_pastNeighbor 123 = .ok (.goto 4, 3) := by decide +kernel
theorem dX8_pastNeighbor_126 : decode cX8_pastNeighbor 126 = .ok (.iconst 0, 1) := by decide +kernel
theorem dX8_pastNeighbor_127 : decode cX8_pastNeighbor 127 = .ok (.iadd, 1) := by decide +kernel
theorem dX8_pastNeighbor_128 : decode cX8_pastNeighbor 128 = .ok (.istore_n 1, 1) := by decide +kernel
theorem dX8_pastNeighbor_129 : decode cX8_pastNeighbor 129 = .ok (.iinc 3 1, 3) := by decide +kernel
theorem dX8_pastNeighbor_132 : decode cX8_pastNeighbor 132 = .ok (.goto (-102), 3) := by decide +kernel
theorem dX8_pastNeighbor_135 : decode cX8_pastNeighbor 135 = .ok (.iinc 2 1, 3) := by decide +kernel
theorem dX8_pastNeighbor_138 : decode cX8_pastNeighbor 138 = .ok (.goto (-125), 3) := by decide +kernel
theorem dX8_pastNeighbor_141 : decode cX8_pastNeighbor 141 = .ok (.iload_n 1, 1) := by decide +kernel
theorem dX8_pastNeighbor_142 : decode cX8_pastNeighbor 142 = .ok (.ireturn, 1) := by decide +kernel
set_option maxRecDepth 20000 in
theorem s_X8_pastNeighbor_0 {l : Launch} {G : GT} {d : Nat} {Q : AV → AH → Prop} {H : AH} {a0 : Int} {M : Row} (hW : MW H a0 M) (h : ∀ H1 : AH, H1 = hs H a0 5 0 → ∀ H2 : AH, only H1 H2 (pMks a0) → MW H2 a0 M → Made H2 a0 M → AW l G mX8_pastNeighbor (d + 1) 0 0 Q 13 [vR a0, vI 0, vI 0, vU, vU, vU, vU] [] 0 0 H2) (hd : 14 ≤ d := by omega) : AW l G mX8_pastNeighbor (d + 1) 0 0 Q 0 [vR a0, vU, vU, vU, vU, vU, vU] [] 0 0 H := by
  refine a_aload_n dX8_pastNeighbor_0 rfl rfl ?_
  refine a_iconst dX8_pastNeighbor_1 ⟨by decide, by decide⟩ ?_
  refine a_putI dX8_pastNeighbor_2 fp_RX8_55 rfl rfl (kMod_0 hW.1) ?_
  have h_r0_1 := Lay.wr hW.1 ok_Mod (nrf_fld 5 (kMod_0 hW.1) (by decide) (by decide)) (i := 5) (x := 0)
  generalize e_H1 : hs H a0 5 0 = H1 at h_r0_1 ⊢
  replace h := h H1 e_H1.symm
  have row_H1 := (show rowM H1 a0 = _ from by rw [← e_H1, rowM_ne (by omega), hW.2.1])
  have mk_H1 := (show okM _ ∧ mkd H1 a0 from by rw [← e_H1]; exact ⟨hW.2.2.1, mkd_wr hW.2.2.2 (by omega) (by omega) (by omega)⟩)
  refine a_aload_n dX8_pastNeighbor_5 rfl rfl ?_
  refine a_callV dX8_pastNeighbor_6 cw_X8_pastNeighbor_6 (as := []) rfl rfl (kMod_0 h_r0_1) (Nat.le_refl _) (Nat.le_of_ble_eq_true rfl) (nocov rfl) (Nat.le_of_ble_eq_true rfl) (Nat.le_of_ble_eq_true rfl) (CL.mono (c_makesQ (show MW H1 a0 M from ⟨h_r0_1, row_H1, mk_H1⟩) ) (fun r9 H2 h9 => ?_))
  obtain ⟨e9, o_H2, hW_H2, hX_H2⟩ := h9
  rw [e9]
  replace h := h H2 o_H2 hW_H2 hX_H2
  show AW l G mX8_pastNeighbor (d + 1) 0 0 Q 9 [vR a0, vU, vU, vU, vU, vU, vU] [] 0 0 H2
  refine a_iconst dX8_pastNeighbor_9 ⟨by decide, by decide⟩ ?_
  refine a_istore_n dX8_pastNeighbor_10 rfl (Nat.le_of_ble_eq_true rfl) (ls' := [vR a0, vI 0, vU, vU, vU, vU, vU]) rfl ?_
  refine a_iconst dX8_pastNeighbor_11 ⟨by decide, by decide⟩ ?_
  refine a_istore_n dX8_pastNeighbor_12 rfl (Nat.le_of_ble_eq_true rfl) (ls' := [vR a0, vI 0, vI 0, vU, vU, vU, vU]) rfl ?_
  exact h

set_option maxRecDepth 20000 in
theorem s_X8_pastNeighbor_13 {l : Launch} {G : GT} {d : Nat} {Q : AV → AH → Prop} {H : AH} {a0 x1 x2 : Int} {M : Row} (hW : MW H a0 M) (h : ((M 5) ≤ x2 → Q (vI x1) H) ∧ (x2 < (M 5) → CL l G mX8_laysBase d 0 0 [vR a0, vI x2] H (fun r9 H1 => Lay LMod H1 a0 ∧ r9 = vV ∧ AW l G mX8_pastNeighbor (d + 1) 0 0 Q 30 [vR a0, vI x1, vI x2, vI 1, vU, vU, vU] [] 0 0 H1))) (hd : 14 ≤ d := by omega) : AW l G mX8_pastNeighbor (d + 1) 0 0 Q 13 [vR a0, vI x1, vI x2, vU, vU, vU, vU] [] 0 0 H := by
  refine a_iload_n dX8_pastNeighbor_13 rfl rfl ?_
  refine a_aload_n dX8_pastNeighbor_14 rfl rfl ?_
  refine a_getR dX8_pastNeighbor_15 fw_RX8_9 rfl rfl (kMod_0 hW.1) (rMod_0_0 hW.1) ?_
  refine a_iconst dX8_pastNeighbor_18 ⟨by decide, by decide⟩ ?_
  refine b_ialdV dX8_pastNeighbor_19 (kMod_1 hW.1) (nMod_1 hW.1) (⟨by decide, by decide⟩) (congrFun hW.2.1 _) ?_
  refine a_icmp_ge dX8_pastNeighbor_20 (tgt := 141) rfl (fun c20 => ?_) (fun c20 => ?_)
  · replace h := h.1 c20
    refine a_iload_n dX8_pastNeighbor_141 rfl rfl ?_
    exact a_iret dX8_pastNeighbor_142 rfl (Nat.le_of_ble_eq_true rfl) (Nat.le_of_ble_eq_true rfl) h
  · replace h := h.2 c20
    refine a_aload_n dX8_pastNeighbor_23 rfl rfl ?_
    refine a_iload_n dX8_pastNeighbor_24 rfl rfl ?_
    refine a_callV dX8_pastNeighbor_25 cw_X8_pastNeighbor_25 (as := [vI x2]) rfl rfl (kMod_0 hW.1) (Nat.le_refl _) (Nat.le_of_ble_eq_true rfl) (nocov rfl) (Nat.le_of_ble_eq_true rfl) (Nat.le_of_ble_eq_true rfl) (CL.mono h (fun r9 H1 h => ?_))
    obtain ⟨h_r0_1, e9, h⟩ := h
    rw [e9]
    show AW l G mX8_pastNeighbor (d + 1) 0 0 Q 28 [vR a0, vI x1, vI x2, vU, vU, vU, vU] [] 0 0 H1
    refine a_iconst dX8_pastNeighbor_28 ⟨by decide, by decide⟩ ?_
    refine a_istore_n dX8_pastNeighbor_29 rfl (Nat.le_of_ble_eq_true rfl) (ls' := [vR a0, vI x1, vI x2, vI 1, vU, vU, vU]) rfl ?_
    exact h

set_option maxRecDepth 20000 in
theorem s_X8_pastNeighbor_30 {l : Launch} {G : GT} {d : Nat} {Q : AV → AH → Prop} {H : AH} {a0 x1 x2 x3 : Int} {M : Row} (hW : MW H a0 M) (h : (0 ≤ x2 ∧ x2 < 3) ∧ ((hg H (a0 + 7) x2) ≤ x3 → (-2147483648 ≤ x2 + 1 ∧ x2 + 1 ≤ 2147483647) ∧ AW l G mX8_pastNeighbor (d + 1) 0 0 Q 13 [vR a0, vI x1, vI (x2 + 1), vU, vU, vU, vU] [] 0 0 H) ∧ (x3 < (hg H (a0 + 7) x2) → (-2147483648 ≤ 24 * x2 ∧ 24 * x2 ≤ 2147483647) ∧ (-2147483648 ≤ (24 * x2) + x3 ∧ (24 * x2) + x3 ≤ 2147483647) ∧ (0 ≤ ((24 * x2) + x3) ∧ ((24 * x2) + x3) < 72) ∧ (-2147483648 ≤ ((24 * x2) + x3) - 1 ∧ ((24 * x2) + x3) - 1 ≤ 2147483647) ∧ (0 ≤ (((24 * x2) + x3) - 1) ∧ (((24 * x2) + x3) - 1) < 72) ∧ (0 ≤ (hg H (a0 + 9) ((24 * x2) + x3)) ∧ (hg H (a0 + 9) ((24 * x2) + x3)) < 24) ∧ (0 ≤ (hg H (a0 + 9) (((24 * x2) + x3) - 1)) ∧ (hg H (a0 + 9) (((24 * x2) + x3) - 1)) < 24) ∧ (0 ≤ ofM M (hg H (a0 + 9) (((24 * x2) + x3) - 1)) 1 ∧ ofM M (hg H (a0 + 9) (((24 * x2) + x3) - 1)) 1 ≤ 3) ∧ (0 ≤ ofM M (hg H (a0 + 9) ((24 * x2) + x3)) 1 ∧ ofM M (hg H (a0 + 9) ((24 * x2) + x3)) 1 ≤ 3) ∧ (-2147483648 ≤ (hg H (a0 + 10) (hg H (a0 + 9) (((24 * x2) + x3) - 1))) + (apartM M (hg H (a0 + 9) (((24 * x2) + x3) - 1)) (hg H (a0 + 9) ((24 * x2) + x3))) ∧ (hg H (a0 + 10) (hg H (a0 + 9) (((24 * x2) + x3) - 1))) + (apartM M (hg H (a0 + 9) (((24 * x2) + x3) - 1)) (hg H (a0 + 9) ((24 * x2) + x3))) ≤ 2147483647) ∧ ((hg H (a0 + 10) (hg H (a0 + 9) ((24 * x2) + x3))) ≤ (max (max (M 0) (ofM M (hg H (a0 + 9) ((24 * x2) + x3)) 2)) ((hg H (a0 + 10) (hg H (a0 + 9) (((24 * x2) + x3) - 1))) + (apartM M (hg H (a0 + 9) (((24 * x2) + x3) - 1)) (hg H (a0 + 9) ((24 * x2) + x3))))) → (-2147483648 ≤ x1 + 0 ∧ x1 + 0 ≤ 2147483647) ∧ (-2147483648 ≤ x3 + 1 ∧ x3 + 1 ≤ 2147483647) ∧ AW l G mX8_pastNeighbor (d + 1) 0 0 Q 30 [vR a0, vI (x1 + 0), vI x2, vI (x3 + 1), vU, vU, vU] [] 0 0 H) ∧ ((max (max (M 0) (ofM M (hg H (a0 + 9) ((24 * x2) + x3)) 2)) ((hg H (a0 + 10) (hg H (a0 + 9) (((24 * x2) + x3) - 1))) + (apartM M (hg H (a0 + 9) (((24 * x2) + x3) - 1)) (hg H (a0 + 9) ((24 * x2) + x3))))) < (hg H (a0 + 10) (hg H (a0 + 9) ((24 * x2) + x3))) → (-2147483648 ≤ x1 + 1 ∧ x1 + 1 ≤ 2147483647) ∧ (-2147483648 ≤ x3 + 1 ∧ x3 + 1 ≤ 2147483647) ∧ AW l G mX8_pastNeighbor (d + 1) 0 0 Q 30 [vR a0, vI (x1 + 1), vI x2, vI (x3 + 1), vU, vU, vU] [] 0 0 H))) (hd : 14 ≤ d := by omega) : AW l G mX8_pastNeighbor (d + 1) 0 0 Q 30 [vR a0, vI x1, vI x2, vI x3, vU, vU, vU] [] 0 0 H := by
  refine a_iload_n dX8_pastNeighbor_30 rfl rfl ?_
  refine a_aload_n dX8_pastNeighbor_31 rfl rfl ?_
  refine a_getR dX8_pastNeighbor_32 fw_RX8_30 rfl rfl (kMod_0 hW.1) (rMod_0_14 hW.1) ?_
  refine a_iload_n dX8_pastNeighbor_35 rfl rfl ?_
  obtain ⟨q36_0, h⟩ := h
  refine b_iald dX8_pastNeighbor_36 (kMod_7 hW.1) (nMod_7 hW.1) q36_0 ?_
  refine a_icmp_ge dX8_pastNeighbor_37 (tgt := 135) rfl (fun c37 => ?_) (fun c37 => ?_)
  · replace h := h.1 c37
    obtain ⟨q135_0, h⟩ := h
    refine a_iinc dX8_pastNeighbor_135 rfl (Nat.le_of_ble_eq_true rfl) (by decide) q135_0 (ls' := [vR a0, vI x1, vI (x2 + 1), vI x3, vU, vU, vU]) rfl ?_
    refine a_goto dX8_pastNeighbor_138 (tgt := 13) rfl ?_
    exact a_weak (wk_e (wk_e (wk_e (wk_u (wk_u (wk_u (wk_u wk_n))))))) h
  · replace h := h.2 c37
    refine a_aload_n dX8_pastNeighbor_40 rfl rfl ?_
    refine a_getR dX8_pastNeighbor_41 fw_RX8_36 rfl rfl (kMod_0 hW.1) (rMod_0_16 hW.1) ?_
    refine a_bipush dX8_pastNeighbor_44 (by decide) ?_
    refine a_iload_n dX8_pastNeighbor_46 rfl rfl ?_
    obtain ⟨q47_0, h⟩ := h
    refine a_imul dX8_pastNeighbor_47 q47_0 ?_
    refine a_iload_n dX8_pastNeighbor_48 rfl rfl ?_
    obtain ⟨q49_0, h⟩ := h
    refine a_iadd dX8_pastNeighbor_49 q49_0 ?_
    obtain ⟨q50_0, h⟩ := h
    refine b_iald dX8_pastNeighbor_50 (kMod_9 hW.1) (nMod_9 hW.1) q50_0 ?_
    refine a_istore dX8_pastNeighbor_51 (Nat.le_of_ble_eq_true rfl) (ls' := [vR a0, vI x1, vI x2, vI x3, vI (hg H (a0 + 9) ((24 * x2) + x3)), vU, vU]) rfl ?_
    refine a_aload_n dX8_pastNeighbor_53 rfl rfl ?_
    refine a_getR dX8_pastNeighbor_54 fw_RX8_36 rfl rfl (kMod_0 hW.1) (rMod_0_16 hW.1) ?_
    refine a_bipush dX8_pastNeighbor_57 (by decide) ?_
    refine a_iload_n dX8_pastNeighbor_59 rfl rfl ?_
    refine a_imul dX8_pastNeighbor_60 q47_0 ?_
    refine a_iload_n dX8_pastNeighbor_61 rfl rfl ?_
    refine a_iadd dX8_pastNeighbor_62 q49_0 ?_
    refine a_iconst dX8_pastNeighbor_63 ⟨by decide, by decide⟩ ?_
    obtain ⟨q64_0, h⟩ := h
    refine a_isub dX8_pastNeighbor_64 q64_0 ?_
    obtain ⟨q65_0, h⟩ := h
    refine b_iald dX8_pastNeighbor_65 (kMod_9 hW.1) (nMod_9 hW.1) q65_0 ?_
    refine a_istore dX8_pastNeighbor_66 (Nat.le_of_ble_eq_true rfl) (ls' := [vR a0, vI x1, vI x2, vI x3, vI (hg H (a0 + 9) ((24 * x2) + x3)), vI (hg H (a0 + 9) (((24 * x2) + x3) - 1)), vU]) rfl ?_
    refine a_aload_n dX8_pastNeighbor_68 rfl rfl ?_
    refine a_getR dX8_pastNeighbor_69 fw_RX8_9 rfl rfl (kMod_0 hW.1) (rMod_0_0 hW.1) ?_
    refine a_iconst dX8_pastNeighbor_72 ⟨by decide, by decide⟩ ?_
    refine b_ialdV dX8_pastNeighbor_73 (kMod_1 hW.1) (nMod_1 hW.1) (⟨by decide, by decide⟩) (congrFun hW.2.1 _) ?_
    refine a_aload_n dX8_pastNeighbor_74 rfl rfl ?_
    refine a_iload dX8_pastNeighbor_75 rfl ?_
    refine a_iconst dX8_pastNeighbor_77 ⟨by decide, by decide⟩ ?_
    obtain ⟨q78_0, h⟩ := h
    refine a_callV dX8_pastNeighbor_78 cw_X8_pastNeighbor_78 (as := [vI (hg H (a0 + 9) ((24 * x2) + x3)), vI 2]) rfl rfl (kMod_0 hW.1) (Nat.le_refl _) (Nat.le_of_ble_eq_true rfl) (nocov rfl) (Nat.le_of_ble_eq_true rfl) (Nat.le_of_ble_eq_true rfl) (CL.mono (c_of hW.1 ⟨q78_0.1, q78_0.2, by decide, by decide⟩) (fun r9 H9 h9 => ?_))
    rw [h9.1, h9.2]
    (try rw [hW.2.1])
    show AW l G mX8_pastNeighbor (d + 1) 0 0 Q 81 [vR a0, vI x1, vI x2, vI x3, vI (hg H (a0 + 9) ((24 * x2) + x3)), vI (hg H (a0 + 9) (((24 * x2) + x3) - 1)), vU] [vI (ofM M (hg H (a0 + 9) ((24 * x2) + x3)) 2), vI (M 0)] 0 0 H
    refine a_mmax dX8_pastNeighbor_81 cw_X8_pastNeighbor_81 (Nat.le_of_ble_eq_true rfl) (Nat.le_of_ble_eq_true rfl) (Nat.le_of_ble_eq_true rfl) ?_
    refine a_istore dX8_pastNeighbor_84 (Nat.le_of_ble_eq_true rfl) (ls' := [vR a0, vI x1, vI x2, vI x3, vI (hg H (a0 + 9) ((24 * x2) + x3)), vI (hg H (a0 + 9) (((24 * x2) + x3) - 1)), vI (max (M 0) (ofM M (hg H (a0 + 9) ((24 * x2) + x3)) 2))]) rfl ?_
    refine a_iload dX8_pastNeighbor_86 rfl ?_
    refine a_aload_n dX8_pastNeighbor_88 rfl rfl ?_
    refine a_getR dX8_pastNeighbor_89 fw_RX8_39 rfl rfl (kMod_0 hW.1) (rMod_0_17 hW.1) ?_
    refine a_iload dX8_pastNeighbor_92 rfl ?_
    obtain ⟨q94_0, h⟩ := h
    refine b_iald dX8_pastNeighbor_94 (kMod_10 hW.1) (nMod_10 hW.1) q94_0 ?_
    refine a_aload_n dX8_pastNeighbor_95 rfl rfl ?_
    refine a_iload dX8_pastNeighbor_96 rfl ?_
    refine a_iload dX8_pastNeighbor_98 rfl ?_
    obtain ⟨q100_2, h⟩ := h
    obtain ⟨q100_3, h⟩ := h
    refine a_callV dX8_pastNeighbor_100 cw_X8_pastNeighbor_100 (as := [vI (hg H (a0 + 9) (((24 * x2) + x3) - 1)), vI (hg H (a0 + 9) ((24 * x2) + x3))]) rfl rfl (kMod_0 hW.1) (Nat.le_refl _) (Nat.le_of_ble_eq_true rfl) (nocov rfl) (Nat.le_of_ble_eq_true rfl) (Nat.le_of_ble_eq_true rfl) (CL.mono (c_apart hW.1 q94_0 q78_0 (by rw [hW.2.1]; exact q100_2) (by rw [hW.2.1]; exact q100_3)) (fun r9 H9 h9 => ?_))
    rw [h9.1, h9.2]
    (try rw [hW.2.1])
    show AW l G mX8_pastNeighbor (d + 1) 0 0 Q 103 [vR a0, vI x1, vI x2, vI x3, vI (hg H (a0 + 9) ((24 * x2) + x3)), vI (hg H (a0 + 9) (((24 * x2) + x3) - 1)), vI (max (M 0) (ofM M (hg H (a0 + 9) ((24 * x2) + x3)) 2))] [vI (apartM M (hg H (a0 + 9) (((24 * x2) + x3) - 1)) (hg H (a0 + 9) ((24 * x2) + x3))), vI (hg H (a0 + 10) (hg H (a0 + 9) (((24 * x2) + x3) - 1))), vI (max (M 0) (ofM M (hg H (a0 + 9) ((24 * x2) + x3)) 2))] 0 0 H
    obtain ⟨q103_0, h⟩ := h
    refine a_iadd dX8_pastNeighbor_103 q103_0 ?_
    refine a_mmax dX8_pastNeighbor_104 cw_X8_pastNeighbor_104 (Nat.le_of_ble_eq_true rfl) (Nat.le_of_ble_eq_true rfl) (Nat.le_of_ble_eq_true rfl) ?_
    refine a_istore dX8_pastNeighbor_107 (Nat.le_of_ble_eq_true rfl) (ls' := [vR a0, vI x1, vI x2, vI x3, vI (hg H (a0 + 9) ((24 * x2) + x3)), vI (hg H (a0 + 9) (((24 * x2) + x3) - 1)), vI (max (max (M 0) (ofM M (hg H (a0 + 9) ((24 * x2) + x3)) 2)) ((hg H (a0 + 10) (hg H (a0 + 9) (((24 * x2) + x3) - 1))) + (apartM M (hg H (a0 + 9) (((24 * x2) + x3) - 1)) (hg H (a0 + 9) ((24 * x2) + x3)))))]) rfl ?_
    refine a_iload_n dX8_pastNeighbor_109 rfl rfl ?_
    refine a_aload_n dX8_pastNeighbor_110 rfl rfl ?_
    refine a_getR dX8_pastNeighbor_111 fw_RX8_39 rfl rfl (kMod_0 hW.1) (rMod_0_17 hW.1) ?_
    refine a_iload dX8_pastNeighbor_114 rfl ?_
    refine b_iald dX8_pastNeighbor_116 (kMod_10 hW.1) (nMod_10 hW.1) q78_0 ?_
    refine a_iload dX8_pastNeighbor_117 rfl ?_
    refine a_icmp_le dX8_pastNeighbor_119 (tgt := 126) rfl (fun c119 => ?_) (fun c119 => ?_)
    · replace h := h.1 c119
      refine a_iconst dX8_pastNeighbor_126 ⟨by decide, by decide⟩ ?_
      obtain ⟨q127_0, h⟩ := h
      refine a_iadd dX8_pastNeighbor_127 q127_0 ?_
      refine a_istore_n dX8_pastNeighbor_128 rfl (Nat.le_of_ble_eq_true rfl) (ls' := [vR a0, vI (x1 + 0), vI x2, vI x3, vI (hg H (a0 + 9) ((24 * x2) + x3)), vI (hg H (a0 + 9) (((24 * x2) + x3) - 1)), vI (max (max (M 0) (ofM M (hg H (a0 + 9) ((24 * x2) + x3)) 2)) ((hg H (a0 + 10) (hg H (a0 + 9) (((24 * x2) + x3) - 1))) + (apartM M (hg H (a0 + 9) (((24 * x2) + x3) - 1)) (hg H (a0 + 9) ((24 * x2) + x3)))))]) rfl ?_
      obtain ⟨q129_0, h⟩ := h
      refine a_iinc dX8_pastNeighbor_129 rfl (Nat.le_of_ble_eq_true rfl) (by decide) q129_0 (ls' := [vR a0, vI (x1 + 0), vI x2, vI (x3 + 1), vI (hg H (a0 + 9) ((24 * x2) + x3)), vI (hg H (a0 + 9) (((24 * x2) + x3) - 1)), vI (max (max (M 0) (ofM M (hg H (a0 + 9) ((24 * x2) + x3)) 2)) ((hg H (a0 + 10) (hg H (a0 + 9) (((24 * x2) + x3) - 1))) + (apartM M (hg H (a0 + 9) (((24 * x2) + x3) - 1)) (hg H (a0 + 9) ((24 * x2) + x3)))))]) rfl ?_
      refine a_goto dX8_pastNeighbor_132 (tgt := 30) rfl ?_
      exact a_weak (wk_e (wk_e (wk_e (wk_e (wk_u (wk_u (wk_u wk_n))))))) h
    · replace h := h.2 c119
      refine a_iconst dX8_pastNeighbor_122 ⟨by decide, by decide⟩ ?_
      refine a_goto dX8_pastNeighbor_123 (tgt := 127) rfl ?_
      obtain ⟨q127_0, h⟩ := h
      refine a_iadd dX8_pastNeighbor_127 q127_0 ?_
      refine a_istore_n dX8_pastNeighbor_128 rfl (Nat.le_of_ble_eq_true rfl) (ls' := [vR a0, vI (x1 + 1), vI x2, vI x3, vI (hg H (a0 + 9) ((24 * x2) + x3)), vI (hg H (a0 + 9) (((24 * x2) + x3) - 1)), vI (max (max (M 0) (ofM M (hg H (a0 + 9) ((24 * x2) + x3)) 2)) ((hg H (a0 + 10) (hg H (a0 + 9) (((24 * x2) + x3) - 1))) + (apartM M (hg H (a0 + 9) (((24 * x2) + x3) - 1)) (hg H (a0 + 9) ((24 * x2) + x3)))))]) rfl ?_
      obtain ⟨q129_0, h⟩ := h
      refine a_iinc dX8_pastNeighbor_129 rfl (Nat.le_of_ble_eq_true rfl) (by decide) q129_0 (ls' := [vR a0, vI (x1 + 1), vI x2, vI (x3 + 1), vI (hg H (a0 + 9) ((24 * x2) + x3)), vI (hg H (a0 + 9) (((24 * x2) + x3) - 1)), vI (max (max (M 0) (ofM M (hg H (a0 + 9) ((24 * x2) + x3)) 2)) ((hg H (a0 + 10) (hg H (a0 + 9) (((24 * x2) + x3) - 1))) + (apartM M (hg H (a0 + 9) (((24 * x2) + x3) - 1)) (hg H (a0 + 9) ((24 * x2) + x3)))))]) rfl ?_
      refine a_goto dX8_pastNeighbor_132 (tgt := 30) rfl ?_
      exact a_weak (wk_e (wk_e (wk_e (wk_e (wk_u (wk_u (wk_u wk_n))))))) h


theorem dX8_doneAt_0 : decode cX8_doneAt 0 = .ok (.aload_n 0, 1) := by decide +kernel
theorem dX8_doneAt_1 : decode cX8_doneAt 1 = .ok (.iconst 0, 1) := by decide +kernel
theorem dX8_doneAt_2 : decode cX8_doneAt 2 = .ok (.putfield 55, 3) := by decide +kernel
theorem dX8_doneAt_5 : decode cX8_doneAt 5 = .ok (.iload_n 1, 1) := by decide +kernel
theorem dX8_doneAt_6 : decode cX8_doneAt 6 = .ok (.iconst 0, 1) := by decide +kernel
theorem dX8_doneAt_7 : decode cX8_doneAt 7 = .ok (.aload_n 0, 1) := by decide +kernel
theorem dX8_doneAt_8 : decode cX8_doneAt 8 = .ok (.getfield 9, 3) := by decide +kernel
theorem dX8_doneAt_11 : decode cX8_doneAt 11 = .ok (.bipush 7, 2) := by decide +kernel
theorem dX8_doneAt_13 : decode cX8_doneAt 13 = .ok (.iaload, 1) := by decide +kernel
theorem dX8_doneAt_14 : decode cX8_doneAt 14 = .ok (.iconst 1, 1) := by decide +kernel
theorem dX8_doneAt_15 : decode cX8_doneAt 15 = .ok (.isub, 1) := by decide +kernel
theorem dX8_doneAt_16 : decode cX8_doneAt 16 = .ok (.invokestatic 67, 3) := by decide +kernel
theorem dX8_doneAt_19 : decode cX8_doneAt 19 = .ok (.ifCond .eq 15, 3) := by decide +kernel
theorem dX8_doneAt_22 : decode cX8_doneAt 22 = .ok (.aload_n 0, 1) := by decide +kernel
theorem dX8_doneAt_23 : decode cX8_doneAt 23 = .ok (.getfield 9, 3) := by decide +kernel
theorem dX8_doneAt_26 : decode cX8_doneAt 26 = .ok (.bipush 32, 2) := by decide +kernel
theorem dX8_doneAt_28 : decode cX8_doneAt 28 = .ok (.iload_n 1, 1) := by decide +kernel
theorem dX8_doneAt_29 : decode cX8_doneAt 29 = .ok (.iadd, 1) := by decide +kernel
theorem dX8_doneAt_30 : decode cX8_doneAt 30 = .ok (.iaload, 1) := by decide +kernel
theorem dX8_doneAt_31 : decode cX8_doneAt 31 = .ok (.goto 4, 3) := by decide +kernel
theorem dX8_doneAt_34 : decode cX8_doneAt 34 = .ok (.iconst (-1), 1) := by decide +kernel
theorem dX8_doneAt_35 : decode cX8_doneAt 35 = .ok (.ireturn, 1) := by decide +kernel
set_option maxRecDepth 20000 in
theorem s_X8_doneAt_0 {l : Launch} {G : GT} {d : Nat} {Q : AV → AH → Prop} {H : AH} {a0 x1 : Int} {M : Row} (hW : MW H a0 M) (h : ∀ H1 : AH, H1 = hs H a0 5 0 → (-2147483648 ≤ (M 7) - 1 ∧ (M 7) - 1 ≤ 2147483647) ∧ (¬ (0 ≤ x1 ∧ x1 ≤ ((M 7) - 1)) → Q (vI (-1)) H1) ∧ (0 ≤ x1 ∧ x1 ≤ ((M 7) - 1) → (-2147483648 ≤ 32 + x1 ∧ 32 + x1 ≤ 2147483647) ∧ (0 ≤ (32 + x1) ∧ (32 + x1) < 440) ∧ Q (vI (M (32 + x1))) H1)) : AW l G mX8_doneAt (d + 1) 0 0 Q 0 [vR a0, vI x1] [] 0 0 H := by
  refine a_aload_n dX8_doneAt_0 rfl rfl ?_
  refine a_iconst dX8_doneAt_1 ⟨by decide, by decide⟩ ?_
  refine a_putI dX8_doneAt_2 fp_RX8_55 rfl rfl (kMod_0 hW.1) ?_
  have h_r0_1 := Lay.wr hW.1 ok_Mod (nrf_fld 5 (kMod_0 hW.1) (by decide) (by decide)) (i := 5) (x := 0)
  generalize e_H1 : hs H a0 5 0 = H1 at h_r0_1 ⊢
  replace h := h H1 e_H1.symm
  have row_H1 := (show rowM H1 a0 = _ from by rw [← e_H1, rowM_ne (by omega), hW.2.1])
  have mk_H1 := (show okM _ ∧ mkd H1 a0 from by rw [← e_H1]; exact ⟨hW.2.2.1, mkd_wr hW.2.2.2 (by omega) (by omega) (by omega)⟩)
  refine a_iload_n dX8_doneAt_5 rfl rfl ?_
  refine a_iconst dX8_doneAt_6 ⟨by decide, by decide⟩ ?_
  refine a_aload_n dX8_doneAt_7 rfl rfl ?_
  refine a_getR dX8_doneAt_8 fw_RX8_9 rfl rfl (kMod_0 h_r0_1) (rMod_0_0 h_r0_1) ?_
  refine a_bipush dX8_doneAt_11 (by decide) ?_
  refine b_ialdV dX8_doneAt_13 (kMod_1 h_r0_1) (nMod_1 h_r0_1) (⟨by decide, by decide⟩) (congrFun row_H1 _) ?_
  refine a_iconst dX8_doneAt_14 ⟨by decide, by decide⟩ ?_
  obtain ⟨q15_0, h⟩ := h
  refine a_isub dX8_doneAt_15 q15_0 ?_
  refine a_callS dX8_doneAt_16 cw_X8_doneAt_16 (as := [vI x1, vI 0, vI ((M 7) - 1)]) rfl rfl (Nat.le_refl _) (Nat.le_of_ble_eq_true rfl) (nocov rfl) (Nat.le_of_ble_eq_true rfl) (Nat.le_of_ble_eq_true rfl) (CL.mono (c_in  ) (fun r9 H9 h9 => ?_))
  rw [h9.1, h9.2]
  (try rw [row_H1])
  show AW l G mX8_doneAt (d + 1) 0 0 Q 19 [vR a0, vI x1] [vI (bi (decide (0 ≤ x1 ∧ x1 ≤ ((M 7) - 1))))] 0 0 H1
  refine a_if_eq dX8_doneAt_19 (tgt := 34) rfl (fun c19 => ?_) (fun c19 => ?_)
  · replace h := h.1 (bi_0 c19)
    refine a_iconst dX8_doneAt_34 ⟨by decide, by decide⟩ ?_
    exact a_iret dX8_doneAt_35 rfl (Nat.le_of_ble_eq_true rfl) (Nat.le_of_ble_eq_true rfl) h
  · replace h := h.2 (bi_1 c19)
    refine a_aload_n dX8_doneAt_22 rfl rfl ?_
    refine a_getR dX8_doneAt_23 fw_RX8_9 rfl rfl (kMod_0 h_r0_1) (rMod_0_0 h_r0_1) ?_
    refine a_bipush dX8_doneAt_26 (by decide) ?_
    refine a_iload_n dX8_doneAt_28 rfl rfl ?_
    obtain ⟨q29_0, h⟩ := h
    refine a_iadd dX8_doneAt_29 q29_0 ?_
    obtain ⟨q30_0, h⟩ := h
    refine b_ialdV dX8_doneAt_30 (kMod_1 h_r0_1) (nMod_1 h_r0_1) q30_0 (congrFun row_H1 _) ?_
    refine a_goto dX8_doneAt_31 (tgt := 35) rfl ?_
    exact a_iret dX8_doneAt_35 rfl (Nat.le_of_ble_eq_true rfl) (Nat.le_of_ble_eq_true rfl) h


theorem dX8_isSmooth_0 : decode cX8_isSmooth 0 = .ok (.aload_n 0, 1) := by decide +kernel
theorem dX8_isSmooth_1 : decode cX8_isSmooth 1 = .ok (.iconst 0, 1) := by decide +kernel
theorem dX8_isSmooth_2 : decode cX8_isSmooth 2 = .ok (.putfield 55, 3) := by decide +kernel
theorem dX8_isSmooth_5 : decode cX8_isSmooth 5 = .ok (.iconst 1, 1) := by decide +kernel
theorem dX8_isSmooth_6 : decode cX8_isSmooth 6 = .ok (.istore_n 1, 1) := by decide +kernel
theorem dX8_isSmooth_7 : decode cX8_isSmooth 7 = .ok (.iconst 0, 1) := by decide +kernel
theorem dX8_isSmooth_8 : decode cX8_isSmooth 8 = .ok (.istore_n 2, 1) := by decide +kernel
theorem dX8_isSmooth_9 : decode cX8_isSmooth 9 = .ok (.iload_n 2, 1) := by decide +kernel
theorem dX8_isSmooth_10 : decode cX8_isSmooth 10 = .ok (.aload_n 0, 1) := by decide +kernel
theorem dX8_isSmooth_11 : decode cX8_isSmooth 11 = .ok (.getfield 9, 3) := by decide +kernel
theorem dX8_isSmooth_14 : decode cX8_isSmooth 14 = .ok (.bipush 6, 2) := by decide +kernel
theorem dX8_isSmooth_16 : decode cX8_isSmooth 16 = .ok (.iaload, 1) := by decide +kernel
theorem dX8_isSmooth_17 : decode cX8_isSmooth 17 = .ok (.if_icmp .ge 29, 3) := by decide +kernel
theorem dX8_isSmooth_20 : decode cX8_isSmooth 20 = .ok (.iload_n 1, 1) := by decide +kernel
theorem dX8_isSmooth_21 : decode cX8_isSmooth 21 = .ok (.ifCond .eq 17, 3) := by decide +kernel
theorem dX8_isSmooth_24 : decode cX8_isSmooth 24 = .ok (.aload_n 0, 1) := by decide +kernel
theorem dX8_isSmooth_25 : decode cX8_isSmooth 25 = .ok (.iload_n 2, 1) := by decide +kernel
theorem dX8_isSmooth_26 : decode cX8_isSmooth 26 = .ok (.bipush 9, 2) := by decide +kernel
theorem dX8_isSmooth_28 : decode cX8_isSmooth 28 = .ok (.invokevirtual 75, 3) := by decide +kernel
theorem dX8_isSmooth_31 : decode cX8_isSmooth 31 = .ok (.ifCond .ne 7, 3) := by decide +kernel
theorem dX8_isSmooth_34 : decode cX8_isSmooth 34 = .ok (.iconst 1, 1) := by decide +kernel
theorem dX8_isSmooth_35 : decode cX8_isSmooth 35 = .ok (.goto 4, 3) := by decide +kernel
theorem dX8_isSmooth_38 : decode cX8_isSmooth 38 = .ok (.iconst 0, 1) := by decide +kernel
theorem dX8_isSmooth_39 : decode cX8_isSmooth 39 = .ok (.istore_n 1, 1) := by decide +kernel
theorem dX8_isSmooth_40 : decode cX8_isSmooth 40 = .ok (.iinc 2 1, 3) := by decide +kernel
theorem dX8_isSmooth_43 : decode cX8_isSmooth 43 = .ok (.goto (-34), 3) := by decide +kernel
theorem dX8_isSmooth_46 : decode cX8_isSmooth 46 = .ok (.iload_n 1, 1) := by decide +kernel
theorem dX8_isSmooth_47 : decode cX8_isSmooth 47 = .ok (.ireturn, 1) := by decide +kernel
set_option maxRecDepth 20000 in
theorem s_X8_isSmooth_0 {l : Launch} {G : GT} {d : Nat} {Q : AV → AH → Prop} {H : AH} {a0 : Int} {M : Row} (hW : MW H a0 M) (h : ∀ H1 : AH, H1 = hs H a0 5 0 → AW l G mX8_isSmooth (d + 1) 0 0 Q 9 [vR a0, vI 1, vI 0] [] 0 0 H1) (hd : 1 ≤ d := by omega) : AW l G mX8_isSmooth (d + 1) 0 0 Q 0 [vR a0, vU, vU] [] 0 0 H := by
  refine a_aload_n dX8_isSmooth_0 rfl rfl ?_
  refine a_iconst dX8_isSmooth_1 ⟨by decide, by decide⟩ ?_
  refine a_putI dX8_isSmooth_2 fp_RX8_55 rfl rfl (kMod_0 hW.1) ?_
  have h_r0_1 := Lay.wr hW.1 ok_Mod (nrf_fld 5 (kMod_0 hW.1) (by decide) (by decide)) (i := 5) (x := 0)
  generalize e_H1 : hs H a0 5 0 = H1 at h_r0_1 ⊢
  replace h := h H1 e_H1.symm
  have row_H1 := (show rowM H1 a0 = _ from by rw [← e_H1, rowM_ne (by omega), hW.2.1])
  have mk_H1 := (show okM _ ∧ mkd H1 a0 from by rw [← e_H1]; exact ⟨hW.2.2.1, mkd_wr hW.2.2.2 (by omega) (by omega) (by omega)⟩)
  refine a_iconst dX8_isSmooth_5 ⟨by decide, by decide⟩ ?_
  refine a_istore_n dX8_isSmooth_6 rfl (Nat.le_of_ble_eq_true rfl) (ls' := [vR a0, vI 1, vU]) rfl ?_
  refine a_iconst dX8_isSmooth_7 ⟨by decide, by decide⟩ ?_
  refine a_istore_n dX8_isSmooth_8 rfl (Nat.le_of_ble_eq_true rfl) (ls' := [vR a0, vI 1, vI 0]) rfl ?_
  exact h

set_option maxRecDepth 20000 in
theorem s_X8_isSmooth_9 {l : Launch} {G : GT} {d : Nat} {Q : AV → AH → Prop} {H : AH} {a0 x1 x2 : Int} {M : Row} (hW : MW H a0 M) (h : ((M 6) ≤ x2 → (x1 = 0 ∨ x1 = 1) ∧ Q (vI x1) H) ∧ (x2 < (M 6) → (x1 = 0 → (-2147483648 ≤ x2 + 1 ∧ x2 + 1 ≤ 2147483647) ∧ AW l G mX8_isSmooth (d + 1) 0 0 Q 9 [vR a0, vI 0, vI (x2 + 1)] [] 0 0 H) ∧ (¬ x1 = 0 → (0 ≤ x2 ∧ x2 < 24) ∧ (¬ (ofM M x2 9) = 0 → (-2147483648 ≤ x2 + 1 ∧ x2 + 1 ≤ 2147483647) ∧ AW l G mX8_isSmooth (d + 1) 0 0 Q 9 [vR a0, vI 0, vI (x2 + 1)] [] 0 0 H) ∧ ((ofM M x2 9) = 0 → (-2147483648 ≤ x2 + 1 ∧ x2 + 1 ≤ 2147483647) ∧ AW l G mX8_isSmooth (d + 1) 0 0 Q 9 [vR a0, vI 1, vI (x2 + 1)] [] 0 0 H)))) (hd : 1 ≤ d := by omega) : AW l G mX8_isSmooth (d + 1) 0 0 Q 9 [vR a0, vI x1, vI x2] [] 0 0 H := by
  refine a_iload_n dX8_isSmooth_9 rfl rfl ?_
  refine a_aload_n dX8_isSmooth_10 rfl rfl ?_
  refine a_getR dX8_isSmooth_11 fw_RX8_9 rfl rfl (kMod_0 hW.1) (rMod_0_0 hW.1) ?_
  refine a_bipush dX8_isSmooth_14 (by decide) ?_
  refine b_ialdV dX8_isSmooth_16 (kMod_1 hW.1) (nMod_1 hW.1) (⟨by decide, by decide⟩) (congrFun hW.2.1 _) ?_
  refine a_icmp_ge dX8_isSmooth_17 (tgt := 46) rfl (fun c17 => ?_) (fun c17 => ?_)
  · replace h := h.1 c17
    refine a_iload_n dX8_isSmooth_46 rfl rfl ?_
    obtain ⟨q47_0, h⟩ := h
    exact a_zret dX8_isSmooth_47 rfl q47_0 (Nat.le_of_ble_eq_true rfl) (Nat.le_of_ble_eq_true rfl) h
  · replace h := h.2 c17
    refine a_iload_n dX8_isSmooth_20 rfl rfl ?_
    refine a_if_eq dX8_isSmooth_21 (tgt := 38) rfl (fun c21 => ?_) (fun c21 => ?_)
    · replace h := h.1 c21
      refine a_iconst dX8_isSmooth_38 ⟨by decide, by decide⟩ ?_
      refine a_istore_n dX8_isSmooth_39 rfl (Nat.le_of_ble_eq_true rfl) (ls' := [vR a0, vI 0, vI x2]) rfl ?_
      obtain ⟨q40_0, h⟩ := h
      refine a_iinc dX8_isSmooth_40 rfl (Nat.le_of_ble_eq_true rfl) (by decide) q40_0 (ls' := [vR a0, vI 0, vI (x2 + 1)]) rfl ?_
      refine a_goto dX8_isSmooth_43 (tgt := 9) rfl ?_
      exact h
    · replace h := h.2 c21
      refine a_aload_n dX8_isSmooth_24 rfl rfl ?_
      refine a_iload_n dX8_isSmooth_25 rfl rfl ?_
      refine a_bipush dX8_isSmooth_26 (by decide) ?_
      obtain ⟨q28_0, h⟩ := h
      refine a_callV dX8_isSmooth_28 cw_X8_isSmooth_28 (as := [vI x2, vI 9]) rfl rfl (kMod_0 hW.1) (Nat.le_refl _) (Nat.le_of_ble_eq_true rfl) (nocov rfl) (Nat.le_of_ble_eq_true rfl) (Nat.le_of_ble_eq_true rfl) (CL.mono (c_of hW.1 ⟨q28_0.1, q28_0.2, by decide, by decide⟩) (fun r9 H9 h9 => ?_))
      rw [h9.1, h9.2]
      (try rw [hW.2.1])
      show AW l G mX8_isSmooth (d + 1) 0 0 Q 31 [vR a0, vI x1, vI x2] [vI (ofM M x2 9)] 0 0 H
      refine a_if_ne dX8_isSmooth_31 (tgt := 38) rfl (fun c31 => ?_) (fun c31 => ?_)
      · replace h := h.1 c31
        refine a_iconst dX8_isSmooth_38 ⟨by decide, by decide⟩ ?_
        refine a_istore_n dX8_isSmooth_39 rfl (Nat.le_of_ble_eq_true rfl) (ls' := [vR a0, vI 0, vI x2]) rfl ?_
        obtain ⟨q40_0, h⟩ := h
        refine a_iinc dX8_isSmooth_40 rfl (Nat.le_of_ble_eq_true rfl) (by decide) q40_0 (ls' := [vR a0, vI 0, vI (x2 + 1)]) rfl ?_
        refine a_goto dX8_isSmooth_43 (tgt := 9) rfl ?_
        exact h
      · replace h := h.2 c31
        refine a_iconst dX8_isSmooth_34 ⟨by decide, by decide⟩ ?_
        refine a_goto dX8_isSmooth_35 (tgt := 39) rfl ?_
        refine a_istore_n dX8_isSmooth_39 rfl (Nat.le_of_ble_eq_true rfl) (ls' := [vR a0, vI 1, vI x2]) rfl ?_
        obtain ⟨q40_0, h⟩ := h
        refine a_iinc dX8_isSmooth_40 rfl (Nat.le_of_ble_eq_true rfl) (by decide) q40_0 (ls' := [vR a0, vI 1, vI (x2 + 1)]) rfl ?_
        refine a_goto dX8_isSmooth_43 (tgt := 9) rfl ?_
        exact h


theorem dX8_longerTriples_0 : decode cX8_longerTriples 0 = .ok (.aload_n 0, 1) := by decide +kernel
theorem dX8_longerTriples_1 : decode cX8_longerTriples 1 = .ok (.iconst 0, 1) := by decide +kernel
theorem dX8_longerTriples_2 : decode cX8_longerTriples 2 = .ok (.putfield 55, 3) := by decide +kernel
theorem dX8_longerTriples_5 : decode cX8_longerTriples 5 = .ok (.iconst 0, 1) := by decide +kernel
theorem dX8_longerTriples_6 : decode cX8_longerTriples 6 = .ok (.istore_n 1, 1) := by decide +kernel
theorem dX8_longerTriples_7 : decode cX8_longerTriples 7 = .ok (.iconst 0, 1) := by decide +kernel
theorem dX8_longerTriples_8 : decode cX8_longerTriples 8 = .ok (.istore_n 2, 1) := by decide +kernel
theorem dX8_longerTriples_9 : decode cX8_longerTriples 9 = .ok (.iload_n 2, 1) := by decide +kernel
theorem dX8_longerTriples_10 : decode cX8_longerTriples 10 = .ok (.bipush 64, 2) := by decide +kernel
theorem dX8_longerTriples_12 : decode cX8_longerTriples 12 = .ok (.if_icmp .ge 60, 3) := by decide +kernel
theorem dX8_longerTriples_15 : decode cX8_longerTriples 15 = .ok (.iload_n 2, 1) := by decide +kernel
theorem dX8_longerTriples_16 : decode cX8_longerTriples 16 = .ok (.bipush 16, 2) := by decide +kernel
theorem dX8_longerTriples_18 : decode cX8_longerTriples 18 = .ok (.idiv, 1) := by decide +kernel
theorem dX8_longerTriples_19 : decode cX8_longerTriples 19 = .ok (.istore_n 3, 1) := by decide +kernel
theorem dX8_longerTriples_20 : decode cX8_longerTriples 20 = .ok (.iload_n 2, 1) := by decide +kernel
theorem dX8_longerTriples_21 : decode cX8_longerTriples 21 = .ok (.iconst 4, 1) := by decide +kernel
theorem dX8_longerTriples_22 : decode cX8_longerTriples 22 = .ok (.idiv, 1) := by decide +kernel
theorem dX8_longerTriples_23 : decode cX8_longerTriples 23 = .ok (.iconst 4, 1) := by decide +kernel
theorem dX8_longerTriples_24 : decode cX8_longerTriples 24 = .ok (.irem, 1) := by decide +kernel
theorem dX8_longerTriples_25 : decode cX8_longerTriples 25 = .ok (.istore 4, 2) := by decide +kernel
theorem dX8_longerTriples_27 : decode cX8_longerTriples 27 = .ok (.iload_n 2, 1) := by decide +kernel
theorem dX8_longerTriples_28 : decode cX8_longerTriples 28 = .ok (.iconst 4, 1) := by decide +kernel
theorem dX8_longerTriples_29 : decode cX8_longerTriples 29 = .ok (.irem, 1) := by decide +kernel
theorem dX8_longerTriples_30 : decode cX8_longerTriples 30 = .ok (.istore 5, 2) := by decide +kernel
theorem dX8_longerTriples_32 : decode cX8_longerTriples 32 = .ok (.iload_n 1, 1) := by decide +kernel
theorem dX8_longerTriples_33 : decode cX8_longerTriples 33 = .ok (.aload_n 0, 1) := by decide +kernel
theorem dX8_longerTriples_34 : decode cX8_longerTriples 34 = .ok (.iload_n 3, 1) := by decide +kernel
theorem dX8_longerTriples_35 : decode cX8_longerTriples 35 = .ok (.iload 5, 2) := by decide +kernel
theorem dX8_longerTriples_37 : decode cX8_longerTriples 37 = .ok (.invokevirtual 204, 3) := by decide +kernel
theorem dX8_longerTriples_40 : decode cX8_longerTriples 40 = .ok (.aload_n 0, 1) := by decide +kernel
theorem dX8_longerTriples_41 : decode cX8_longerTriples 41 = .ok (.iload_n 3, 1) := by decide +kernel
theorem dX8_longerTriples_42 : decode cX8_longerTriples 42 = .ok (.iload 4, 2) := by decide +kernel
theorem dX8_longerTriples_44 : decode cX8_longerTriples 44 = .ok (.invokevirtual 204, 3) := by decide +kernel
theorem dX8_longerTriples_47 : decode cX8_longerTriples 47 = .ok (.aload_n 0, 1) := by decide +kernel
theorem dX8_longerTriples_48 : decode cX8_longerTriples 48 = .ok (.iload 4, 2) := by decide +kernel
theorem dX8_longerTriples_50 : decode cX8_longerTriples 50 = .ok (.iload 5, 2) := by decide +kernel
theorem dX8_longerTriples_52 : decode cX8_longerTriples 52 = .ok (.invokevirtual 204, 3) := by decide +kernel
theorem dX8_longerTriples_55 : decode cX8_longerTriples 55 = .ok (.iadd, 1) := by decide +kernel
theorem dX8_longerTriples_56 : decode cX8_longerTriples 56 = .ok (.if_icmp .le 7, 3) := by decide +kernel
theorem dX8_longerTriples_59 : decode cX8_longerTriples 59 = .ok (.iconst 1, 1) := by decide +kernel
theorem dX8_longerTriples_60 : decode cX8_longerTriples 60 = .ok (.goto 4, 3) := by decide +kernel
theorem dX8_longerTriples_63 : decode cX8_longerTriples 63 = .ok (.iconst 0, 1) := by decide +kernel
theorem dX8_longerTriples_64 : decode cX8_longerTriples 64 = .ok (.iadd, 1) := by decide +kernel
theorem dX8_longerTriples_65 : decode cX8_longerTriples 65 = .ok (.istore_n 1, 1) := by decide +kernel
theorem dX8_longerTriples_66 : decode cX8_longerTriples 66 = .ok (.iinc 2 1, 3) := by decide +kernel
theorem dX8_longerTriples_69 : decode cX8_longerTriples 69 = .ok (.goto (-60), 3) := by decide +kernel
theorem dX8_longerTriples_72 : decode cX8_longerTriples 72 = .ok (.iload_n 1, 1) := by decide +kernel
theorem dX8_longerTriples_73 : decode cX8_longerTriples 73 = .ok (.ireturn, 1) := by decide +kernel
set_option maxRecDepth 20000 in
theorem s_X8_longerTriples_0 {l : Launch} {G : GT} {d : Nat} {Q : AV → AH → Prop} {H : AH} {a0 : Int} {M : Row} (hW : MW H a0 M) (h : ∀ H1 : AH, H1 = hs H a0 5 0 → AW l G mX8_longerTriples (d + 1) 0 0 Q 9 [vR a0, vI 0, vI 0, vU, vU, vU] [] 0 0 H1) : AW l G mX8_longerTriples (d + 1) 0 0 Q 0 [vR a0, vU, vU, vU, vU, vU] [] 0 0 H := by
  refine a_aload_n dX8_longerTriples_0 rfl rfl ?_
  refine a_iconst dX8_longerTriples_1 ⟨by decide, by decide⟩ ?_
  refine a_putI dX8_longerTriples_2 fp_RX8_55 rfl rfl (kMod_0 hW.1) ?_
  have h_r0_1 := Lay.wr hW.1 ok_Mod (nrf_fld 5 (kMod_0 hW.1) (by decide) (by decide)) (i := 5) (x := 0)
  generalize e_H1 : hs H a0 5 0 = H1 at h_r0_1 ⊢
  replace h := h H1 e_H1.symm
  have row_H1 := (show rowM H1 a0 = _ from by rw [← e_H1, rowM_ne (by omega), hW.2.1])
  have mk_H1 := (show okM _ ∧ mkd H1 a0 from by rw [← e_H1]; exact ⟨hW.2.2.1, mkd_wr hW.2.2.2 (by omega) (by omega) (by omega)⟩)
  refine a_iconst dX8_longerTriples_5 ⟨by decide, by decide⟩ ?_
  refine a_istore_n dX8_longerTriples_6 rfl (Nat.le_of_ble_eq_true rfl) (ls' := [vR a0, vI 0, vU, vU, vU, vU]) rfl ?_
  refine a_iconst dX8_longerTriples_7 ⟨by decide, by decide⟩ ?_
  refine a_istore_n dX8_longerTriples_8 rfl (Nat.le_of_ble_eq_true rfl) (ls' := [vR a0, vI 0, vI 0, vU, vU, vU]) rfl ?_
  exact h

set_option maxRecDepth 20000 in
theorem s_X8_longerTriples_9 {l : Launch} {G : GT} {d : Nat} {Q : AV → AH → Prop} {H : AH} {a0 x1 x2 : Int} {M : Row} (hW : MW H a0 M) (h : (64 ≤ x2 → Q (vI x1) H) ∧ (x2 < 64 → (-2147483648 ≤ x2.tdiv 16 ∧ x2.tdiv 16 ≤ 2147483647) ∧ (-2147483648 ≤ x2.tdiv 4 ∧ x2.tdiv 4 ≤ 2147483647) ∧ ((-2147483648 ≤ (x2.tdiv 4).tdiv 4 ∧ (x2.tdiv 4).tdiv 4 ≤ 2147483647) ∧ (-2147483648 ≤ ((x2.tdiv 4).tdiv 4) * 4 ∧ ((x2.tdiv 4).tdiv 4) * 4 ≤ 2147483647) ∧ (-2147483648 ≤ (x2.tdiv 4).tmod 4 ∧ (x2.tdiv 4).tmod 4 ≤ 2147483647)) ∧ ((-2147483648 ≤ x2.tdiv 4 ∧ x2.tdiv 4 ≤ 2147483647) ∧ (-2147483648 ≤ (x2.tdiv 4) * 4 ∧ (x2.tdiv 4) * 4 ≤ 2147483647) ∧ (-2147483648 ≤ x2.tmod 4 ∧ x2.tmod 4 ≤ 2147483647)) ∧ (0 ≤ (x2.tdiv 16) ∧ (x2.tdiv 16) ≤ 3 ∧ 0 ≤ (x2.tmod 4) ∧ (x2.tmod 4) ≤ 3) ∧ (0 ≤ (x2.tdiv 16) ∧ (x2.tdiv 16) ≤ 3 ∧ 0 ≤ ((x2.tdiv 4).tmod 4) ∧ ((x2.tdiv 4).tmod 4) ≤ 3) ∧ (0 ≤ ((x2.tdiv 4).tmod 4) ∧ ((x2.tdiv 4).tmod 4) ≤ 3 ∧ 0 ≤ (x2.tmod 4) ∧ (x2.tmod 4) ≤ 3) ∧ (-2147483648 ≤ (M (8 + 4 * (x2.tdiv 16) + ((x2.tdiv 4).tmod 4))) + (M (8 + 4 * ((x2.tdiv 4).tmod 4) + (x2.tmod 4))) ∧ (M (8 + 4 * (x2.tdiv 16) + ((x2.tdiv 4).tmod 4))) + (M (8 + 4 * ((x2.tdiv 4).tmod 4) + (x2.tmod 4))) ≤ 2147483647) ∧ ((M (8 + 4 * (x2.tdiv 16) + (x2.tmod 4))) ≤ ((M (8 + 4 * (x2.tdiv 16) + ((x2.tdiv 4).tmod 4))) + (M (8 + 4 * ((x2.tdiv 4).tmod 4) + (x2.tmod 4)))) → (-2147483648 ≤ x1 + 0 ∧ x1 + 0 ≤ 2147483647) ∧ (-2147483648 ≤ x2 + 1 ∧ x2 + 1 ≤ 2147483647) ∧ AW l G mX8_longerTriples (d + 1) 0 0 Q 9 [vR a0, vI (x1 + 0), vI (x2 + 1), vU, vU, vU] [] 0 0 H) ∧ (((M (8 + 4 * (x2.tdiv 16) + ((x2.tdiv 4).tmod 4))) + (M (8 + 4 * ((x2.tdiv 4).tmod 4) + (x2.tmod 4)))) < (M (8 + 4 * (x2.tdiv 16) + (x2.tmod 4))) → (-2147483648 ≤ x1 + 1 ∧ x1 + 1 ≤ 2147483647) ∧ (-2147483648 ≤ x2 + 1 ∧ x2 + 1 ≤ 2147483647) ∧ AW l G mX8_longerTriples (d + 1) 0 0 Q 9 [vR a0, vI (x1 + 1), vI (x2 + 1), vU, vU, vU] [] 0 0 H))) : AW l G mX8_longerTriples (d + 1) 0 0 Q 9 [vR a0, vI x1, vI x2, vU, vU, vU] [] 0 0 H := by
  refine a_iload_n dX8_longerTriples_9 rfl rfl ?_
  refine a_bipush dX8_longerTriples_10 (by decide) ?_
  refine a_icmp_ge dX8_longerTriples_12 (tgt := 72) rfl (fun c12 => ?_) (fun c12 => ?_)
  · replace h := h.1 c12
    refine a_iload_n dX8_longerTriples_72 rfl rfl ?_
    exact a_iret dX8_longerTriples_73 rfl (Nat.le_of_ble_eq_true rfl) (Nat.le_of_ble_eq_true rfl) h
  · replace h := h.2 c12
    refine a_iload_n dX8_longerTriples_15 rfl rfl ?_
    refine a_bipush dX8_longerTriples_16 (by decide) ?_
    obtain ⟨q18_1, h⟩ := h
    refine a_idiv dX8_longerTriples_18 (by decide) q18_1 ?_
    refine a_istore_n dX8_longerTriples_19 rfl (Nat.le_of_ble_eq_true rfl) (ls' := [vR a0, vI x1, vI x2, vI (x2.tdiv 16), vU, vU]) rfl ?_
    refine a_iload_n dX8_longerTriples_20 rfl rfl ?_
    refine a_iconst dX8_longerTriples_21 ⟨by decide, by decide⟩ ?_
    obtain ⟨q22_1, h⟩ := h
    refine a_idiv dX8_longerTriples_22 (by decide) q22_1 ?_
    refine a_iconst dX8_longerTriples_23 ⟨by decide, by decide⟩ ?_
    obtain ⟨q24_1, h⟩ := h
    refine a_irem dX8_longerTriples_24 (by decide) q24_1 ?_
    refine a_istore dX8_longerTriples_25 (Nat.le_of_ble_eq_true rfl) (ls' := [vR a0, vI x1, vI x2, vI (x2.tdiv 16), vI ((x2.tdiv 4).tmod 4), vU]) rfl ?_
    refine a_iload_n dX8_longerTriples_27 rfl rfl ?_
    refine a_iconst dX8_longerTriples_28 ⟨by decide, by decide⟩ ?_
    obtain ⟨q29_1, h⟩ := h
    refine a_irem dX8_longerTriples_29 (by decide) q29_1 ?_
    refine a_istore dX8_longerTriples_30 (Nat.le_of_ble_eq_true rfl) (ls' := [vR a0, vI x1, vI x2, vI (x2.tdiv 16), vI ((x2.tdiv 4).tmod 4), vI (x2.tmod 4)]) rfl ?_
    refine a_iload_n dX8_longerTriples_32 rfl rfl ?_
    refine a_aload_n dX8_longerTriples_33 rfl rfl ?_
    refine a_iload_n dX8_longerTriples_34 rfl rfl ?_
    refine a_iload dX8_longerTriples_35 rfl ?_
    obtain ⟨q37_0, h⟩ := h
    refine a_callV dX8_longerTriples_37 cw_X8_longerTriples_37 (as := [vI (x2.tdiv 16), vI (x2.tmod 4)]) rfl rfl (kMod_0 hW.1) (Nat.le_refl _) (Nat.le_of_ble_eq_true rfl) (nocov rfl) (Nat.le_of_ble_eq_true rfl) (Nat.le_of_ble_eq_true rfl) (CL.mono (c_wakeOf hW.1 q37_0) (fun r9 H9 h9 => ?_))
    rw [h9.1, h9.2]
    (try rw [hW.2.1])
    show AW l G mX8_longerTriples (d + 1) 0 0 Q 40 [vR a0, vI x1, vI x2, vI (x2.tdiv 16), vI ((x2.tdiv 4).tmod 4), vI (x2.tmod 4)] [vI (M (8 + 4 * (x2.tdiv 16) + (x2.tmod 4))), vI x1] 0 0 H
    refine a_aload_n dX8_longerTriples_40 rfl rfl ?_
    refine a_iload_n dX8_longerTriples_41 rfl rfl ?_
    refine a_iload dX8_longerTriples_42 rfl ?_
    obtain ⟨q44_0, h⟩ := h
    refine a_callV dX8_longerTriples_44 cw_X8_longerTriples_44 (as := [vI (x2.tdiv 16), vI ((x2.tdiv 4).tmod 4)]) rfl rfl (kMod_0 hW.1) (Nat.le_refl _) (Nat.le_of_ble_eq_true rfl) (nocov rfl) (Nat.le_of_ble_eq_true rfl) (Nat.le_of_ble_eq_true rfl) (CL.mono (c_wakeOf hW.1 q44_0) (fun r9 H9 h9 => ?_))
    rw [h9.1, h9.2]
    (try rw [hW.2.1])
    show AW l G mX8_longerTriples (d + 1) 0 0 Q 47 [vR a0, vI x1, vI x2, vI (x2.tdiv 16), vI ((x2.tdiv 4).tmod 4), vI (x2.tmod 4)] [vI (M (8 + 4 * (x2.tdiv 16) + ((x2.tdiv 4).tmod 4))), vI (M (8 + 4 * (x2.tdiv 16) + (x2.tmod 4))), vI x1] 0 0 H
    refine a_aload_n dX8_longerTriples_47 rfl rfl ?_
    refine a_iload dX8_longerTriples_48 rfl ?_
    refine a_iload dX8_longerTriples_50 rfl ?_
    obtain ⟨q52_0, h⟩ := h
    refine a_callV dX8_longerTriples_52 cw_X8_longerTriples_52 (as := [vI ((x2.tdiv 4).tmod 4), vI (x2.tmod 4)]) rfl rfl (kMod_0 hW.1) (Nat.le_refl _) (Nat.le_of_ble_eq_true rfl) (nocov rfl) (Nat.le_of_ble_eq_true rfl) (Nat.le_of_ble_eq_true rfl) (CL.mono (c_wakeOf hW.1 q52_0) (fun r9 H9 h9 => ?_))
    rw [h9.1, h9.2]
    (try rw [hW.2.1])
    show AW l G mX8_longerTriples (d + 1) 0 0 Q 55 [vR a0, vI x1, vI x2, vI (x2.tdiv 16), vI ((x2.tdiv 4).tmod 4), vI (x2.tmod 4)] [vI (M (8 + 4 * ((x2.tdiv 4).tmod 4) + (x2.tmod 4))), vI (M (8 + 4 * (x2.tdiv 16) + ((x2.tdiv 4).tmod 4))), vI (M (8 + 4 * (x2.tdiv 16) + (x2.tmod 4))), vI x1] 0 0 H
    obtain ⟨q55_0, h⟩ := h
    refine a_iadd dX8_longerTriples_55 q55_0 ?_
    refine a_icmp_le dX8_longerTriples_56 (tgt := 63) rfl (fun c56 => ?_) (fun c56 => ?_)
    · replace h := h.1 c56
      refine a_iconst dX8_longerTriples_63 ⟨by decide, by decide⟩ ?_
      obtain ⟨q64_0, h⟩ := h
      refine a_iadd dX8_longerTriples_64 q64_0 ?_
      refine a_istore_n dX8_longerTriples_65 rfl (Nat.le_of_ble_eq_true rfl) (ls' := [vR a0, vI (x1 + 0), vI x2, vI (x2.tdiv 16), vI ((x2.tdiv 4).tmod 4), vI (x2.tmod 4)]) rfl ?_
      obtain ⟨q66_0, h⟩ := h
      refine a_iinc dX8_longerTriples_66 rfl (Nat.le_of_ble_eq_true rfl) (by decide) q66_0 (ls' := [vR a0, vI (x1 + 0), vI (x2 + 1), vI (x2.tdiv 16), vI ((x2.tdiv 4).tmod 4), vI (x2.tmod 4)]) rfl ?_
      refine a_goto dX8_longerTriples_69 (tgt := 9) rfl ?_
      exact a_weak (wk_e (wk_e (wk_e (wk_u (wk_u (wk_u wk_n)))))) h
    · replace h := h.2 c56
      refine a_iconst dX8_longerTriples_59 ⟨by decide, by decide⟩ ?_
      refine a_goto dX8_longerTriples_60 (tgt := 64) rfl ?_
      obtain ⟨q64_0, h⟩ := h
      refine a_iadd dX8_longerTriples_64 q64_0 ?_
      refine a_istore_n dX8_longerTriples_65 rfl (Nat.le_of_ble_eq_true rfl) (ls' := [vR a0, vI (x1 + 1), vI x2, vI (x2.tdiv 16), vI ((x2.tdiv 4).tmod 4), vI (x2.tmod 4)]) rfl ?_
      obtain ⟨q66_0, h⟩ := h
      refine a_iinc dX8_longerTriples_66 rfl (Nat.le_of_ble_eq_true rfl) (by decide) q66_0 (ls' := [vR a0, vI (x1 + 1), vI (x2 + 1), vI (x2.tdiv 16), vI ((x2.tdiv 4).tmod 4), vI (x2.tmod 4)]) rfl ?_
      refine a_goto dX8_longerTriples_69 (tgt := 9) rfl ?_
      exact a_weak (wk_e (wk_e (wk_e (wk_u (wk_u (wk_u wk_n)))))) h


theorem dX8_setShift_0 : decode cX8_setShift 0 = .ok (.aload_n 0, 1) := by decide +kernel
theorem dX8_setShift_1 : decode cX8_setShift 1 = .ok (.iload_n 1, 1) := by decide +kernel
theorem dX8_setShift_2 : decode cX8_setShift 2 = .ok (.iconst 0, 1) := by decide +kernel
theorem dX8_setShift_3 : decode cX8_setShift 3 = .ok (.iconst 4, 1) := by decide +kernel
theorem dX8_setShift_4 : decode cX8_setShift 4 = .ok (.invokestatic 67, 3) := by decide +kernel
theorem dX8_setShift_7 : decode cX8_setShift 7 = .ok (.invokevirtual 78, 3) := by decide +kernel
theorem dX8_setShift_10 : decode cX8_setShift 10 = .ok (.ifCond .ne 5, 3) := by decide +kernel
theorem dX8_setShift_13 : decode cX8_setShift 13 = .ok (.iconst 0, 1) := by decide +kernel
theorem dX8_setShift_14 : decode cX8_setShift 14 = .ok (.ireturn, 1) := by decide +kernel
theorem dX8_setShift_15 : decode cX8_setShift 15 = .ok (.aload_n 0, 1) := by decide +kernel
theorem dX8_setShift_16 : decode cX8_setShift 16 = .ok (.getfield 9, 3) := by decide +kernel
theorem dX8_setShift_19 : decode cX8_setShift 19 = .ok (.iconst 1, 1) := by decide +kernel
theorem dX8_setShift_20 : decode cX8_setShift 20 = .ok (.iaload, 1) := by decide +kernel
theorem dX8_setShift_21 : decode cX8_setShift 21 = .ok (.istore_n 2, 1) := by decide +kernel
theorem dX8_setShift_22 : decode cX8_setShift 22 = .ok (.aload_n 0, 1) := by decide +kernel
theorem dX8_setShift_23 : decode cX8_setShift 23 = .ok (.getfield 9, 3) := by decide +kernel
theorem dX8_setShift_26 : decode cX8_setShift 26 = .ok (.iconst 1, 1) := by decide +kernel
theorem dX8_setShift_27 : decode cX8_setShift 27 = .ok (.iload_n 1, 1) := by decide +kernel
theorem dX8_setShift_28 : decode cX8_setShift 28 = .ok (.iastore, 1) := by decide +kernel
theorem dX8_setShift_29 : decode cX8_setShift 29 = .ok (.aload_n 0, 1) := by decide +kernel
theorem dX8_setShift_30 : decode cX8_setShift 30 = .ok (.iconst 0, 1) := by decide +kernel
theorem dX8_setShift_31 : decode cX8_setShift 31 = .ok (.putfield 63, 3) := by decide +kernel
theorem dX8_setShift_34 : decode cX8_setShift 34 = .ok (.iload_n 2, 1) := by decide +kernel
theorem dX8_setShift_35 : decode cX8_setShift 35 = .ok (.ireturn, 1) := by decide +kernel
set_option maxRecDepth 20000 in
theorem s_X8_setShift_0 {l : Launch} {G : GT} {d : Nat} {Q : AV → AH → Prop} {H : AH} {a0 x1 : Int} {M : Row} (hW : MW H a0 M) (h : ∀ H1 : AH, H1 = hs H a0 5 (1 - (bi (decide (0 ≤ x1 ∧ x1 ≤ 4)))) → (0 ≤ x1 ∧ x1 ≤ 4 → ∀ H2 : AH, H2 = hs H1 (a0 + 1) 1 x1 → ∀ M2 : Row, M2 = upM M 1 x1 → ∀ H3 : AH, H3 = hs H2 a0 13 0 → Q (vI (M 1)) H3) ∧ (¬ (0 ≤ x1 ∧ x1 ≤ 4) → Q (vI 0) H1)) : AW l G mX8_setShift (d + 1) 0 0 Q 0 [vR a0, vI x1, vU] [] 0 0 H := by
  refine a_aload_n dX8_setShift_0 rfl rfl ?_
  refine a_iload_n dX8_setShift_1 rfl rfl ?_
  refine a_iconst dX8_setShift_2 ⟨by decide, by decide⟩ ?_
  refine a_iconst dX8_setShift_3 ⟨by decide, by decide⟩ ?_
  refine a_callS dX8_setShift_4 cw_X8_setShift_4 (as := [vI x1, vI 0, vI 4]) rfl rfl (Nat.le_refl _) (Nat.le_of_ble_eq_true rfl) (nocov rfl) (Nat.le_of_ble_eq_true rfl) (Nat.le_of_ble_eq_true rfl) (CL.mono (c_in  ) (fun r9 H9 h9 => ?_))
  rw [h9.1, h9.2]
  (try rw [hW.2.1])
  show AW l G mX8_setShift (d + 1) 0 0 Q 7 [vR a0, vI x1, vU] [vI (bi (decide (0 ≤ x1 ∧ x1 ≤ 4))), vR a0] 0 0 H
  refine a_callV dX8_setShift_7 cw_X8_setShift_7 (as := [vI (bi (decide (0 ≤ x1 ∧ x1 ≤ 4)))]) rfl rfl (kMod_0 hW.1) (Nat.le_refl _) (Nat.le_of_ble_eq_true rfl) (nocov rfl) (Nat.le_of_ble_eq_true rfl) (Nat.le_of_ble_eq_true rfl) (CL.mono (c_isNumber hW.1 (bi_01 _)) (fun r9 H9 h9 => ?_))
  rw [h9.1, h9.2]
  (try rw [hW.2.1])
  have h_r0_1 := Lay.wr hW.1 ok_Mod (nrf_fld 5 (kMod_0 hW.1) (by decide) (by decide)) (i := 5) (x := (1 - (bi (decide (0 ≤ x1 ∧ x1 ≤ 4)))))
  generalize e_H1 : hs H a0 5 (1 - (bi (decide (0 ≤ x1 ∧ x1 ≤ 4)))) = H1 at h_r0_1 ⊢
  replace h := h H1 e_H1.symm
  have row_H1 := (show rowM H1 a0 = _ from by rw [← e_H1, rowM_ne (by omega), hW.2.1])
  have mk_H1 := (show okM _ ∧ mkd H1 a0 from by rw [← e_H1]; exact ⟨hW.2.2.1, mkd_wr hW.2.2.2 (by omega) (by omega) (by omega)⟩)
  show AW l G mX8_setShift (d + 1) 0 0 Q 10 [vR a0, vI x1, vU] [vI (bi (decide (0 ≤ x1 ∧ x1 ≤ 4)))] 0 0 H1
  refine a_if_ne dX8_setShift_10 (tgt := 15) rfl (fun c10 => ?_) (fun c10 => ?_)
  · replace h := h.1 (bi_1 c10)
    refine a_aload_n dX8_setShift_15 rfl rfl ?_
    refine a_getR dX8_setShift_16 fw_RX8_9 rfl rfl (kMod_0 h_r0_1) (rMod_0_0 h_r0_1) ?_
    refine a_iconst dX8_setShift_19 ⟨by decide, by decide⟩ ?_
    refine b_ialdV dX8_setShift_20 (kMod_1 h_r0_1) (nMod_1 h_r0_1) (⟨by decide, by decide⟩) (congrFun row_H1 _) ?_
    refine a_istore_n dX8_setShift_21 rfl (Nat.le_of_ble_eq_true rfl) (ls' := [vR a0, vI x1, vI (M 1)]) rfl ?_
    refine a_aload_n dX8_setShift_22 rfl rfl ?_
    refine a_getR dX8_setShift_23 fw_RX8_9 rfl rfl (kMod_0 h_r0_1) (rMod_0_0 h_r0_1) ?_
    refine a_iconst dX8_setShift_26 ⟨by decide, by decide⟩ ?_
    refine a_iload_n dX8_setShift_27 rfl rfl ?_
    refine b_iast dX8_setShift_28 (kMod_1 h_r0_1) (nMod_1 h_r0_1) (⟨by decide, by decide⟩) ?_
    have h_r0_2 := Lay.wr h_r0_1 ok_Mod (nrf_arr (kMod_1 h_r0_1) (by decide) (by decide)) (i := 1) (x := x1)
    generalize e_H2 : hs H1 (a0 + 1) 1 x1 = H2 at h_r0_2 ⊢
    replace h := h H2 e_H2.symm
    obtain ⟨M2, e_M2⟩ : ∃ M2 : Row, M2 = upM M 1 x1 := ⟨_, rfl⟩
    replace h := h M2 e_M2
    have row_H2 : rowM H2 a0 = M2 := by rw [← e_H2, rowM_hs, row_H1, e_M2]
    refine a_aload_n dX8_setShift_29 rfl rfl ?_
    refine a_iconst dX8_setShift_30 ⟨by decide, by decide⟩ ?_
    refine a_putZ dX8_setShift_31 fp_RX8_63 rfl rfl (kMod_0 h_r0_2) (by decide) ?_
    have h_r0_3 := Lay.wr h_r0_2 ok_Mod (nrf_fld 13 (kMod_0 h_r0_2) (by decide) (by decide)) (i := 13) (x := 0)
    generalize e_H3 : hs H2 a0 13 0 = H3 at h_r0_3 ⊢
    replace h := h H3 e_H3.symm
    have row_H3 := (show rowM H3 a0 = _ from by rw [← e_H3, rowM_ne (by omega), row_H2])
    refine a_iload_n dX8_setShift_34 rfl rfl ?_
    exact a_iret dX8_setShift_35 rfl (Nat.le_of_ble_eq_true rfl) (Nat.le_of_ble_eq_true rfl) h
  · replace h := h.2 (bi_0 c10)
    refine a_iconst dX8_setShift_13 ⟨by decide, by decide⟩ ?_
    exact a_iret dX8_setShift_14 rfl (Nat.le_of_ble_eq_true rfl) (Nat.le_of_ble_eq_true rfl) h


theorem dX8_setWake_0 : decode cX8_setWake 0 = .ok (.aload_n 0, 1) := by decide +kernel
theorem dX8_setWake_1 : decode cX8_setWake 1 = .ok (.iload_n 1, 1) := by decide +kernel
theorem dX8_setWake_2 : decode cX8_setWake 2 = .ok (.invokestatic 201, 3) := by decide +kernel
theorem dX8_setWake_5 : decode cX8_setWake 5 = .ok (.ifCond .eq 25, 3) := by decide +kernel
theorem dX8_setWake_8 : decode cX8_setWake 8 = .ok (.iload_n 2, 1) := by decide +kernel
theorem dX8_setWake_9 : decode cX8_setWake 9 = .ok (.invokestatic 201, 3) := by decide +kernel
theorem dX8_setWake_12 : decode cX8_setWake 12 = .ok (.ifCond .eq 18, 3) := by decide +kernel
theorem dX8_setWake_15 : decode cX8_setWake 15 = .ok (.iload_n 3, 1) := by decide +kernel
theorem dX8_setWake_16 : decode cX8_setWake 16 = .ok (.iconst 0, 1) := by decide +kernel
theorem dX8_setWake_17 : decode cX8_setWake 17 = .ok (.sipush 600, 3) := by decide +kernel
theorem dX8_setWake_20 : decode cX8_setWake 20 = .ok (.invokestatic 67, 3) := by decide +kernel
theorem dX8_setWake_23 : decode cX8_setWake 23 = .ok (.ifCond .eq 7, 3) := by decide +kernel
theorem dX8_setWake_26 : decode cX8_setWake 26 = .ok (.iconst 1, 1) := by decide +kernel
theorem dX8_setWake_27 : decode cX8_setWake 27 = .ok (.goto 4, 3) := by decide +kernel
theorem dX8_setWake_30 : decode cX8_setWake 30 = .ok (.iconst 0, 1) := by decide +kernel
theorem dX8_setWake_31 : decode cX8_setWake 31 = .ok (.invokevirtual 78, 3) := by decide +kernel
theorem dX8_setWake_34 : decode cX8_setWake 34 = .ok (.ifCond .ne 5, 3) := by decide +kernel
theorem dX8_setWake_37 : decode cX8_setWake 37 = .ok (.iconst 0, 1) := by decide +kernel
theorem dX8_setWake_38 : decode cX8_setWake 38 = .ok (.ireturn, 1) := by decide +kernel
theorem dX8_setWake_39 : decode cX8_setWake 39 = .ok (.aload_n 0, 1) := by decide +kernel
theorem dX8_setWake_40 : decode cX8_setWake 40 = .ok (.iload_n 1, 1) := by decide +kernel
theorem dX8_setWake_41 : decode cX8_setWake 41 = .ok (.iload_n 2, 1) := by decide +kernel
theorem dX8_setWake_42 : decode cX8_setWake 42 = .ok (.invokevirtual 204, 3) := by decide +kernel
theorem dX8_setWake_45 : decode cX8_setWake 45 = .ok (.istore 4, 2) := by decide +kernel
theorem dX8_setWake_47 : decode cX8_setWake 47 = .ok (.aload_n 0, 1) := by decide +kernel
theorem dX8_setWake_48 : decode cX8_setWake 48 = .ok (.getfield 9, 3) := by decide +kernel
theorem dX8_setWake_51 : decode cX8_setWake 51 = .ok (.bipush 8, 2) := by decide +kernel
theorem dX8_setWake_53 : decode cX8_setWake 53 = .ok (.iconst 4, 1) := by decide +kernel
theorem dX8_setWake_54 : decode cX8_setWake 54 = .ok (.iload_n 1, 1) := by decide +kernel
theorem dX8_setWake_55 : decode cX8_setWake 55 = .ok (.imul, 1) := by decide +kernel
theorem dX8_setWake_56 : decode cX8_setWake 56 = .ok (.iadd, 1) := by decide +kernel
theorem dX8_setWake_57 : decode cX8_setWake 57 = .ok (.iload_n 2, 1) := by decide +kernel
theorem dX8_setWake_58 : decode cX8_setWake 58 = .ok (.iadd, 1) := by decide +kernel
theorem dX8_setWake_59 : decode cX8_setWake 59 = .ok (.iload_n 3, 1) := by decide +kernel
theorem dX8_setWake_60 : decode cX8_setWake 60 = .ok (.iastore, 1) := by decide +kernel
theorem dX8_setWake_61 : decode cX8_setWake 61 = .ok (.aload_n 0, 1) := by decide +kernel
theorem dX8_setWake_62 : decode cX8_setWake 62 = .ok (.iconst 0, 1) := by decide +kernel
theorem dX8_setWake_63 : decode cX8_setWake 63 = .ok (.putfield 63, 3) := by decide +kernel
theorem dX8_setWake_66 : decode cX8_setWake 66 = .ok (.iload 4, 2) := by decide +kernel
theorem dX8_setWake_68 : decode cX8_setWake 68 = .ok (.ireturn, 1) := by decide +kernel
set_option maxRecDepth 20000 in
theorem s_X8_setWake_0 {l : Launch} {G : GT} {d : Nat} {Q : AV → AH → Prop} {H : AH} {a0 x1 x2 x3 : Int} {M : Row} (hW : MW H a0 M) (h : (¬ (0 ≤ x1 ∧ x1 ≤ 3) → ∀ H1 : AH, H1 = hs H a0 5 (1 - 0) → Q (vI 0) H1) ∧ (0 ≤ x1 ∧ x1 ≤ 3 → (¬ (0 ≤ x2 ∧ x2 ≤ 3) → ∀ H1 : AH, H1 = hs H a0 5 (1 - 0) → Q (vI 0) H1) ∧ (0 ≤ x2 ∧ x2 ≤ 3 → (¬ (0 ≤ x3 ∧ x3 ≤ 600) → ∀ H1 : AH, H1 = hs H a0 5 (1 - 0) → Q (vI 0) H1) ∧ (0 ≤ x3 ∧ x3 ≤ 600 → ∀ H1 : AH, H1 = hs H a0 5 (1 - 1) → (0 ≤ x1 ∧ x1 ≤ 3 ∧ 0 ≤ x2 ∧ x2 ≤ 3) ∧ (-2147483648 ≤ 4 * x1 ∧ 4 * x1 ≤ 2147483647) ∧ (-2147483648 ≤ 8 + (4 * x1) ∧ 8 + (4 * x1) ≤ 2147483647) ∧ (-2147483648 ≤ (8 + (4 * x1)) + x2 ∧ (8 + (4 * x1)) + x2 ≤ 2147483647) ∧ (0 ≤ ((8 + (4 * x1)) + x2) ∧ ((8 + (4 * x1)) + x2) < 440) ∧ ∀ H2 : AH, H2 = hs H1 (a0 + 1) ((8 + (4 * x1)) + x2) x3 → ∀ M2 : Row, M2 = upM M ((8 + (4 * x1)) + x2) x3 → ∀ H3 : AH, H3 = hs H2 a0 13 0 → Q (vI (M (8 + 4 * x1 + x2))) H3)))) (hd : 1 ≤ d := by omega) : AW l G mX8_setWake (d + 1) 0 0 Q 0 [vR a0, vI x1, vI x2, vI x3, vU] [] 0 0 H := by
  refine a_aload_n dX8_setWake_0 rfl rfl ?_
  refine a_iload_n dX8_setWake_1 rfl rfl ?_
  refine a_callS dX8_setWake_2 cw_X8_setWake_2 (as := [vI x1]) rfl rfl (Nat.le_refl _) (Nat.le_of_ble_eq_true rfl) (nocov rfl) (Nat.le_of_ble_eq_true rfl) (Nat.le_of_ble_eq_true rfl) (CL.mono (c_isClass  ) (fun r9 H9 h9 => ?_))
  rw [h9.1, h9.2]
  (try rw [hW.2.1])
  show AW l G mX8_setWake (d + 1) 0 0 Q 5 [vR a0, vI x1, vI x2, vI x3, vU] [vI (bi (decide (0 ≤ x1 ∧ x1 ≤ 3))), vR a0] 0 0 H
  refine a_if_eq dX8_setWake_5 (tgt := 30) rfl (fun c5 => ?_) (fun c5 => ?_)
  · replace h := h.1 (bi_0 c5)
    refine a_iconst dX8_setWake_30 ⟨by decide, by decide⟩ ?_
    refine a_callV dX8_setWake_31 cw_X8_setWake_31 (as := [vI 0]) rfl rfl (kMod_0 hW.1) (Nat.le_refl _) (Nat.le_of_ble_eq_true rfl) (nocov rfl) (Nat.le_of_ble_eq_true rfl) (Nat.le_of_ble_eq_true rfl) (CL.mono (c_isNumber hW.1 (by decide)) (fun r9 H9 h9 => ?_))
    rw [h9.1, h9.2]
    (try rw [hW.2.1])
    have h_r0_1 := Lay.wr hW.1 ok_Mod (nrf_fld 5 (kMod_0 hW.1) (by decide) (by decide)) (i := 5) (x := (1 - 0))
    generalize e_H1 : hs H a0 5 (1 - 0) = H1 at h_r0_1 ⊢
    replace h := h H1 e_H1.symm
    have row_H1 := (show rowM H1 a0 = _ from by rw [← e_H1, rowM_ne (by omega), hW.2.1])
    have mk_H1 := (show okM _ ∧ mkd H1 a0 from by rw [← e_H1]; exact ⟨hW.2.2.1, mkd_wr hW.2.2.2 (by omega) (by omega) (by omega)⟩)
    show AW l G mX8_setWake (d + 1) 0 0 Q 34 [vR a0, vI x1, vI x2, vI x3, vU] [vI 0] 0 0 H1
    refine a_if_ne dX8_setWake_34 (tgt := 39) rfl (fun c9 => absurd c9 (by decide)) (fun _ => ?_)
    refine a_iconst dX8_setWake_37 ⟨by decide, by decide⟩ ?_
    exact a_iret dX8_setWake_38 rfl (Nat.le_of_ble_eq_true rfl) (Nat.le_of_ble_eq_true rfl) h
  · replace h := h.2 (bi_1 c5)
    refine a_iload_n dX8_setWake_8 rfl rfl ?_
    refine a_callS dX8_setWake_9 cw_X8_setWake_9 (as := [vI x2]) rfl rfl (Nat.le_refl _) (Nat.le_of_ble_eq_true rfl) (nocov rfl) (Nat.le_of_ble_eq_true rfl) (Nat.le_of_ble_eq_true rfl) (CL.mono (c_isClass  ) (fun r9 H9 h9 => ?_))
    rw [h9.1, h9.2]
    (try rw [hW.2.1])
    show AW l G mX8_setWake (d + 1) 0 0 Q 12 [vR a0, vI x1, vI x2, vI x3, vU] [vI (bi (decide (0 ≤ x2 ∧ x2 ≤ 3))), vR a0] 0 0 H
    refine a_if_eq dX8_setWake_12 (tgt := 30) rfl (fun c12 => ?_) (fun c12 => ?_)
    · replace h := h.1 (bi_0 c12)
      refine a_iconst dX8_setWake_30 ⟨by decide, by decide⟩ ?_
      refine a_callV dX8_setWake_31 cw_X8_setWake_31 (as := [vI 0]) rfl rfl (kMod_0 hW.1) (Nat.le_refl _) (Nat.le_of_ble_eq_true rfl) (nocov rfl) (Nat.le_of_ble_eq_true rfl) (Nat.le_of_ble_eq_true rfl) (CL.mono (c_isNumber hW.1 (by decide)) (fun r9 H9 h9 => ?_))
      rw [h9.1, h9.2]
      (try rw [hW.2.1])
      have h_r0_1 := Lay.wr hW.1 ok_Mod (nrf_fld 5 (kMod_0 hW.1) (by decide) (by decide)) (i := 5) (x := (1 - 0))
      generalize e_H1 : hs H a0 5 (1 - 0) = H1 at h_r0_1 ⊢
      replace h := h H1 e_H1.symm
      have row_H1 := (show rowM H1 a0 = _ from by rw [← e_H1, rowM_ne (by omega), hW.2.1])
      have mk_H1 := (show okM _ ∧ mkd H1 a0 from by rw [← e_H1]; exact ⟨hW.2.2.1, mkd_wr hW.2.2.2 (by omega) (by omega) (by omega)⟩)
      show AW l G mX8_setWake (d + 1) 0 0 Q 34 [vR a0, vI x1, vI x2, vI x3, vU] [vI 0] 0 0 H1
      refine a_if_ne dX8_setWake_34 (tgt := 39) rfl (fun c9 => absurd c9 (by decide)) (fun _ => ?_)
      refine a_iconst dX8_setWake_37 ⟨by decide, by decide⟩ ?_
      exact a_iret dX8_setWake_38 rfl (Nat.le_of_ble_eq_true rfl) (Nat.le_of_ble_eq_true rfl) h
    · replace h := h.2 (bi_1 c12)
      refine a_iload_n dX8_setWake_15 rfl rfl ?_
      refine a_iconst dX8_setWake_16 ⟨by decide, by decide⟩ ?_
      refine a_sipush dX8_setWake_17 (by decide) ?_
      refine a_callS dX8_setWake_20 cw_X8_setWake_20 (as := [vI x3, vI 0, vI 600]) rfl rfl (Nat.le_refl _) (Nat.le_of_ble_eq_true rfl) (nocov rfl) (Nat.le_of_ble_eq_true rfl) (Nat.le_of_ble_eq_true rfl) (CL.mono (c_in  ) (fun r9 H9 h9 => ?_))
      rw [h9.1, h9.2]
      (try rw [hW.2.1])
      show AW l G mX8_setWake (d + 1) 0 0 Q 23 [vR a0, vI x1, vI x2, vI x3, vU] [vI (bi (decide (0 ≤ x3 ∧ x3 ≤ 600))), vR a0] 0 0 H
      refine a_if_eq dX8_setWake_23 (tgt := 30) rfl (fun c23 => ?_) (fun c23 => ?_)
      · replace h := h.1 (bi_0 c23)
        refine a_iconst dX8_setWake_30 ⟨by decide, by decide⟩ ?_
        refine a_callV dX8_setWake_31 cw_X8_setWake_31 (as := [vI 0]) rfl rfl (kMod_0 hW.1) (Nat.le_refl _) (Nat.le_of_ble_eq_true rfl) (nocov rfl) (Nat.le_of_ble_eq_true rfl) (Nat.le_of_ble_eq_true rfl) (CL.mono (c_isNumber hW.1 (by decide)) (fun r9 H9 h9 => ?_))
        rw [h9.1, h9.2]
        (try rw [hW.2.1])
        have h_r0_1 := Lay.wr hW.1 ok_Mod (nrf_fld 5 (kMod_0 hW.1) (by decide) (by decide)) (i := 5) (x := (1 - 0))
        generalize e_H1 : hs H a0 5 (1 - 0) = H1 at h_r0_1 ⊢
        replace h := h H1 e_H1.symm
        have row_H1 := (show rowM H1 a0 = _ from by rw [← e_H1, rowM_ne (by omega), hW.2.1])
        have mk_H1 := (show okM _ ∧ mkd H1 a0 from by rw [← e_H1]; exact ⟨hW.2.2.1, mkd_wr hW.2.2.2 (by omega) (by omega) (by omega)⟩)
        show AW l G mX8_setWake (d + 1) 0 0 Q 34 [vR a0, vI x1, vI x2, vI x3, vU] [vI 0] 0 0 H1
        refine a_if_ne dX8_setWake_34 (tgt := 39) rfl (fun c9 => absurd c9 (by decide)) (fun _ => ?_)
        refine a_iconst dX8_setWake_37 ⟨by decide, by decide⟩ ?_
        exact a_iret dX8_setWake_38 rfl (Nat.le_of_ble_eq_true rfl) (Nat.le_of_ble_eq_true rfl) h
      · replace h := h.2 (bi_1 c23)
        refine a_iconst dX8_setWake_26 ⟨by decide, by decide⟩ ?_
        refine a_goto dX8_setWake_27 (tgt := 31) rfl ?_
        refine a_callV dX8_setWake_31 cw_X8_setWake_31 (as := [vI 1]) rfl rfl (kMod_0 hW.1) (Nat.le_refl _) (Nat.le_of_ble_eq_true rfl) (nocov rfl) (Nat.le_of_ble_eq_true rfl) (Nat.le_of_ble_eq_true rfl) (CL.mono (c_isNumber hW.1 (by decide)) (fun r9 H9 h9 => ?_))
        rw [h9.1, h9.2]
        (try rw [hW.2.1])
        have h_r0_1 := Lay.wr hW.1 ok_Mod (nrf_fld 5 (kMod_0 hW.1) (by decide) (by decide)) (i := 5) (x := (1 - 1))
        generalize e_H1 : hs H a0 5 (1 - 1) = H1 at h_r0_1 ⊢
        replace h := h H1 e_H1.symm
        have row_H1 := (show rowM H1 a0 = _ from by rw [← e_H1, rowM_ne (by omega), hW.2.1])
        have mk_H1 := (show okM _ ∧ mkd H1 a0 from by rw [← e_H1]; exact ⟨hW.2.2.1, mkd_wr hW.2.2.2 (by omega) (by omega) (by omega)⟩)
        show AW l G mX8_setWake (d + 1) 0 0 Q 34 [vR a0, vI x1, vI x2, vI x3, vU] [vI 1] 0 0 H1
        refine a_if_ne dX8_setWake_34 (tgt := 39) rfl (fun _ => ?_) (fun c9 => absurd c9 (by decide))
        refine a_aload_n dX8_setWake_39 rfl rfl ?_
        refine a_iload_n dX8_setWake_40 rfl rfl ?_
        refine a_iload_n dX8_setWake_41 rfl rfl ?_
        obtain ⟨q42_0, h⟩ := h
        refine a_callV dX8_setWake_42 cw_X8_setWake_42 (as := [vI x1, vI x2]) rfl rfl (kMod_0 h_r0_1) (Nat.le_refl _) (Nat.le_of_ble_eq_true rfl) (nocov rfl) (Nat.le_of_ble_eq_true rfl) (Nat.le_of_ble_eq_true rfl) (CL.mono (c_wakeOf h_r0_1 q42_0) (fun r9 H9 h9 => ?_))
        rw [h9.1, h9.2]
        (try rw [row_H1])
        show AW l G mX8_setWake (d + 1) 0 0 Q 45 [vR a0, vI x1, vI x2, vI x3, vU] [vI (M (8 + 4 * x1 + x2))] 0 0 H1
        refine a_istore dX8_setWake_45 (Nat.le_of_ble_eq_true rfl) (ls' := [vR a0, vI x1, vI x2, vI x3, vI (M (8 + 4 * x1 + x2))]) rfl ?_
        refine a_aload_n dX8_setWake_47 rfl rfl ?_
        refine a_getR dX8_setWake_48 fw_RX8_9 rfl rfl (kMod_0 h_r0_1) (rMod_0_0 h_r0_1) ?_
        refine a_bipush dX8_setWake_51 (by decide) ?_
        refine a_iconst dX8_setWake_53 ⟨by decide, by decide⟩ ?_
        refine a_iload_n dX8_setWake_54 rfl rfl ?_
        obtain ⟨q55_0, h⟩ := h
        refine a_imul dX8_setWake_55 q55_0 ?_
        obtain ⟨q56_0, h⟩ := h
        refine a_iadd dX8_setWake_56 q56_0 ?_
        refine a_iload_n dX8_setWake_57 rfl rfl ?_
        obtain ⟨q58_0, h⟩ := h
        refine a_iadd dX8_setWake_58 q58_0 ?_
        refine a_iload_n dX8_setWake_59 rfl rfl ?_
        obtain ⟨q60_0, h⟩ := h
        refine b_iast dX8_setWake_60 (kMod_1 h_r0_1) (nMod_1 h_r0_1) q60_0 ?_
        have h_r0_2 := Lay.wr h_r0_1 ok_Mod (nrf_arr (kMod_1 h_r0_1) (by decide) (by decide)) (i := ((8 + (4 * x1)) + x2)) (x := x3)
        generalize e_H2 : hs H1 (a0 + 1) ((8 + (4 * x1)) + x2) x3 = H2 at h_r0_2 ⊢
        replace h := h H2 e_H2.symm
        obtain ⟨M2, e_M2⟩ : ∃ M2 : Row, M2 = upM M ((8 + (4 * x1)) + x2) x3 := ⟨_, rfl⟩
        replace h := h M2 e_M2
        have row_H2 : rowM H2 a0 = M2 := by rw [← e_H2, rowM_hs, row_H1, e_M2]
        refine a_aload_n dX8_setWake_61 rfl rfl ?_
        refine a_iconst dX8_setWake_62 ⟨by decide, by decide⟩ ?_
        refine a_putZ dX8_setWake_63 fp_RX8_63 rfl rfl (kMod_0 h_r0_2) (by decide) ?_
        have h_r0_3 := Lay.wr h_r0_2 ok_Mod (nrf_fld 13 (kMod_0 h_r0_2) (by decide) (by decide)) (i := 13) (x := 0)
        generalize e_H3 : hs H2 a0 13 0 = H3 at h_r0_3 ⊢
        replace h := h H3 e_H3.symm
        have row_H3 := (show rowM H3 a0 = _ from by rw [← e_H3, rowM_ne (by omega), row_H2])
        refine a_iload dX8_setWake_66 rfl ?_
        exact a_iret dX8_setWake_68 rfl (Nat.le_of_ble_eq_true rfl) (Nat.le_of_ble_eq_true rfl) h


theorem dX8_wake_0 : decode cX8_wake 0 = .ok (.aload_n 0, 1) := by decide +kernel
theorem dX8_wake_1 : decode cX8_wake 1 = .ok (.iload_n 1, 1) := by decide +kernel
theorem dX8_wake_2 : decode cX8_wake 2 = .ok (.invokestatic 201, 3) := by decide +kernel
theorem dX8_wake_5 : decode cX8_wake 5 = .ok (.ifCond .eq 14, 3) := by decide +kernel
theorem dX8_wake_8 : decode cX8_wake 8 = .ok (.iload_n 2, 1) := by decide +kernel
theorem dX8_wake_9 : decode cX8_wake 9 = .ok (.invokestatic 201, 3) := by decide +kernel
theorem dX8_wake_12 : decode cX8_wake 12 = .ok (.ifCond .eq 7, 3) := by decide +kernel
theorem dX8_wake_15 : decode cX8_wake 15 = .ok (.iconst 1, 1) := by decide +kernel
theorem dX8_wake_16 : decode cX8_wake 16 = .ok (.goto 4, 3) := by decide +kernel
theorem dX8_wake_19 : decode cX8_wake 19 = .ok (.iconst 0, 1) := by decide +kernel
theorem dX8_wake_20 : decode cX8_wake 20 = .ok (.invokevirtual 78, 3) := by decide +kernel
theorem dX8_wake_23 : decode cX8_wake 23 = .ok (.ifCond .ne 5, 3) := by decide +kernel
theorem dX8_wake_26 : decode cX8_wake 26 = .ok (.iconst 0, 1) := by decide +kernel
theorem dX8_wake_27 : decode cX8_wake 27 = .ok (.ireturn, 1) := by decide +kernel
theorem dX8_wake_28 : decode cX8_wake 28 = .ok (.aload_n 0, 1) := by decide +kernel
theorem dX8_wake_29 : decode cX8_wake 29 = .ok (.iload_n 1, 1) := by decide +kernel
theorem dX8_wake_30 : decode cX8_wake 30 = .ok (.iload_n 2, 1) := by decide +kernel
theorem dX8_wake_31 : decode cX8_wake 31 = .ok (.invokevirtual 204, 3) := by decide +kernel
theorem dX8_wake_34 : decode cX8_wake 34 = .ok (.ireturn, 1) := by decide +kernel
set_option maxRecDepth 20000 in
theorem s_X8_wake_0 {l : Launch} {G : GT} {d : Nat} {Q : AV → AH → Prop} {H : AH} {a0 x1 x2 : Int} {M : Row} (hW : MW H a0 M) (h : (¬ (0 ≤ x1 ∧ x1 ≤ 3) → ∀ H1 : AH, H1 = hs H a0 5 (1 - 0) → Q (vI 0) H1) ∧ (0 ≤ x1 ∧ x1 ≤ 3 → (¬ (0 ≤ x2 ∧ x2 ≤ 3) → ∀ H1 : AH, H1 = hs H a0 5 (1 - 0) → Q (vI 0) H1) ∧ (0 ≤ x2 ∧ x2 ≤ 3 → ∀ H1 : AH, H1 = hs H a0 5 (1 - 1) → (0 ≤ x1 ∧ x1 ≤ 3 ∧ 0 ≤ x2 ∧ x2 ≤ 3) ∧ Q (vI (M (8 + 4 * x1 + x2))) H1))) (hd : 1 ≤ d := by omega) : AW l G mX8_wake (d + 1) 0 0 Q 0 [vR a0, vI x1, vI x2] [] 0 0 H := by
  refine a_aload_n dX8_wake_0 rfl rfl ?_
  refine a_iload_n dX8_wake_1 rfl rfl ?_
  refine a_callS dX8_wake_2 cw_X8_wake_2 (as := [vI x1]) rfl rfl (Nat.le_refl _) (Nat.le_of_ble_eq_true rfl) (nocov rfl) (Nat.le_of_ble_eq_true rfl) (Nat.le_of_ble_eq_true rfl) (CL.mono (c_isClass  ) (fun r9 H9 h9 => ?_))
  rw [h9.1, h9.2]
  (try rw [hW.2.1])
  show AW l G mX8_wake (d + 1) 0 0 Q 5 [vR a0, vI x1, vI x2] [vI (bi (decide (0 ≤ x1 ∧ x1 ≤ 3))), vR a0] 0 0 H
  refine a_if_eq dX8_wake_5 (tgt := 19) rfl (fun c5 => ?_) (fun c5 => ?_)
  · replace h := h.1 (bi_0 c5)
    refine a_iconst dX8_wake_19 ⟨by decide, by decide⟩ ?_
    refine a_callV dX8_wake_20 cw_X8_wake_20 (as := [vI 0]) rfl rfl (kMod_0 hW.1) (Nat.le_refl _) (Nat.le_of_ble_eq_true rfl) (nocov rfl) (Nat.le_of_ble_eq_true rfl) (Nat.le_of_ble_eq_true rfl) (CL.mono (c_isNumber hW.1 (by decide)) (fun r9 H9 h9 => ?_))
    rw [h9.1, h9.2]
    (try rw [hW.2.1])
    have h_r0_1 := Lay.wr hW.1 ok_Mod (nrf_fld 5 (kMod_0 hW.1) (by decide) (by decide)) (i := 5) (x := (1 - 0))
    generalize e_H1 : hs H a0 5 (1 - 0) = H1 at h_r0_1 ⊢
    replace h := h H1 e_H1.symm
    have row_H1 := (show rowM H1 a0 = _ from by rw [← e_H1, rowM_ne (by omega), hW.2.1])
    have mk_H1 := (show okM _ ∧ mkd H1 a0 from by rw [← e_H1]; exact ⟨hW.2.2.1, mkd_wr hW.2.2.2 (by omega) (by omega) (by omega)⟩)
    show AW l G mX8_wake (d + 1) 0 0 Q 23 [vR a0, vI x1, vI x2] [vI 0] 0 0 H1
    refine a_if_ne dX8_wake_23 (tgt := 28) rfl (fun c9 => absurd c9 (by decide)) (fun _ => ?_)
    refine a_iconst dX8_wake_26 ⟨by decide, by decide⟩ ?_
    exact a_iret dX8_wake_27 rfl (Nat.le_of_ble_eq_true rfl) (Nat.le_of_ble_eq_true rfl) h
  · replace h := h.2 (bi_1 c5)
    refine a_iload_n dX8_wake_8 rfl rfl ?_
    refine a_callS dX8_wake_9 cw_X8_wake_9 (as := [vI x2]) rfl rfl (Nat.le_refl _) (Nat.le_of_ble_eq_true rfl) (nocov rfl) (Nat.le_of_ble_eq_true rfl) (Nat.le_of_ble_eq_true rfl) (CL.mono (c_isClass  ) (fun r9 H9 h9 => ?_))
    rw [h9.1, h9.2]
    (try rw [hW.2.1])
    show AW l G mX8_wake (d + 1) 0 0 Q 12 [vR a0, vI x1, vI x2] [vI (bi (decide (0 ≤ x2 ∧ x2 ≤ 3))), vR a0] 0 0 H
    refine a_if_eq dX8_wake_12 (tgt := 19) rfl (fun c12 => ?_) (fun c12 => ?_)
    · replace h := h.1 (bi_0 c12)
      refine a_iconst dX8_wake_19 ⟨by decide, by decide⟩ ?_
      refine a_callV dX8_wake_20 cw_X8_wake_20 (as := [vI 0]) rfl rfl (kMod_0 hW.1) (Nat.le_refl _) (Nat.le_of_ble_eq_true rfl) (nocov rfl) (Nat.le_of_ble_eq_true rfl) (Nat.le_of_ble_eq_true rfl) (CL.mono (c_isNumber hW.1 (by decide)) (fun r9 H9 h9 => ?_))
      rw [h9.1, h9.2]
      (try rw [hW.2.1])
      have h_r0_1 := Lay.wr hW.1 ok_Mod (nrf_fld 5 (kMod_0 hW.1) (by decide) (by decide)) (i := 5) (x := (1 - 0))
      generalize e_H1 : hs H a0 5 (1 - 0) = H1 at h_r0_1 ⊢
      replace h := h H1 e_H1.symm
      have row_H1 := (show rowM H1 a0 = _ from by rw [← e_H1, rowM_ne (by omega), hW.2.1])
      have mk_H1 := (show okM _ ∧ mkd H1 a0 from by rw [← e_H1]; exact ⟨hW.2.2.1, mkd_wr hW.2.2.2 (by omega) (by omega) (by omega)⟩)
      show AW l G mX8_wake (d + 1) 0 0 Q 23 [vR a0, vI x1, vI x2] [vI 0] 0 0 H1
      refine a_if_ne dX8_wake_23 (tgt := 28) rfl (fun c9 => absurd c9 (by decide)) (fun _ => ?_)
      refine a_iconst dX8_wake_26 ⟨by decide, by decide⟩ ?_
      exact a_iret dX8_wake_27 rfl (Nat.le_of_ble_eq_true rfl) (Nat.le_of_ble_eq_true rfl) h
    · replace h := h.2 (bi_1 c12)
      refine a_iconst dX8_wake_15 ⟨by decide, by decide⟩ ?_
      refine a_goto dX8_wake_16 (tgt := 20) rfl ?_
      refine a_callV dX8_wake_20 cw_X8_wake_20 (as := [vI 1]) rfl rfl (kMod_0 hW.1) (Nat.le_refl _) (Nat.le_of_ble_eq_true rfl) (nocov rfl) (Nat.le_of_ble_eq_true rfl) (Nat.le_of_ble_eq_true rfl) (CL.mono (c_isNumber hW.1 (by decide)) (fun r9 H9 h9 => ?_))
      rw [h9.1, h9.2]
      (try rw [hW.2.1])
      have h_r0_1 := Lay.wr hW.1 ok_Mod (nrf_fld 5 (kMod_0 hW.1) (by decide) (by decide)) (i := 5) (x := (1 - 1))
      generalize e_H1 : hs H a0 5 (1 - 1) = H1 at h_r0_1 ⊢
      replace h := h H1 e_H1.symm
      have row_H1 := (show rowM H1 a0 = _ from by rw [← e_H1, rowM_ne (by omega), hW.2.1])
      have mk_H1 := (show okM _ ∧ mkd H1 a0 from by rw [← e_H1]; exact ⟨hW.2.2.1, mkd_wr hW.2.2.2 (by omega) (by omega) (by omega)⟩)
      show AW l G mX8_wake (d + 1) 0 0 Q 23 [vR a0, vI x1, vI x2] [vI 1] 0 0 H1
      refine a_if_ne dX8_wake_23 (tgt := 28) rfl (fun _ => ?_) (fun c9 => absurd c9 (by decide))
      refine a_aload_n dX8_wake_28 rfl rfl ?_
      refine a_iload_n dX8_wake_29 rfl rfl ?_
      refine a_iload_n dX8_wake_30 rfl rfl ?_
      obtain ⟨q31_0, h⟩ := h
      refine a_callV dX8_wake_31 cw_X8_wake_31 (as := [vI x1, vI x2]) rfl rfl (kMod_0 h_r0_1) (Nat.le_refl _) (Nat.le_of_ble_eq_true rfl) (nocov rfl) (Nat.le_of_ble_eq_true rfl) (Nat.le_of_ble_eq_true rfl) (CL.mono (c_wakeOf h_r0_1 q31_0) (fun r9 H9 h9 => ?_))
      rw [h9.1, h9.2]
      (try rw [row_H1])
      show AW l G mX8_wake (d + 1) 0 0 Q 34 [vR a0, vI x1, vI x2] [vI (M (8 + 4 * x1 + x2))] 0 0 H1
      exact a_iret dX8_wake_34 rfl (Nat.le_of_ble_eq_true rfl) (Nat.le_of_ble_eq_true rfl) h


theorem dX8_separation_0 : decode cX8_separation 0 = .ok (.aload_n 0, 1) := by decide +kernel
theorem dX8_separation_1 : decode cX8_separation 1 = .ok (.iload_n 1, 1) := by decide +kernel
theorem dX8_separation_2 : decode cX8_separation 2 = .ok (.invokevirtual 71, 3) := by decide +kernel
theorem dX8_separation_5 : decode cX8_separation 5 = .ok (.ifCond .eq 11, 3) := by decide +kernel
theorem dX8_separation_8 : decode cX8_separation 8 = .ok (.aload_n 0, 1) := by decide +kernel
theorem dX8_separation_9 : decode cX8_separation 9 = .ok (.iload_n 2, 1) := by decide +kernel
theorem dX8_separation_10 : decode cX8_separation 10 = .ok (.invokevirtual 71, 3) := by decide +kernel
theorem dX8_separation_13 : decode cX8_separation 13 = .ok (.ifCond .ne 5, 3) := by decide +kernel
theorem dX8_separation_16 : decode cX8_separation 16 = .ok (.iconst 0, 1) := by decide +kernel
theorem dX8_separation_17 : decode cX8_separation 17 = .ok (.ireturn, 1) := by decide +kernel
theorem dX8_separation_18 : decode cX8_separation 18 = .ok (.aload_n 0, 1) := by decide +kernel
theorem dX8_separation_19 : decode cX8_separation 19 = .ok (.iload_n 1, 1) := by decide +kernel
theorem dX8_separation_20 : decode cX8_separation 20 = .ok (.iload_n 2, 1) := by decide +kernel
theorem dX8_separation_21 : decode cX8_separation 21 = .ok (.invokevirtual 207, 3) := by decide +kernel
theorem dX8_separation_24 : decode cX8_separation 24 = .ok (.ireturn, 1) := by decide +kernel
set_option maxRecDepth 20000 in
theorem s_X8_separation_0 {l : Launch} {G : GT} {d : Nat} {Q : AV → AH → Prop} {H : AH} {a0 x1 x2 : Int} {M : Row} (hW : MW H a0 M) (h : (0 ≤ M 6 ∧ M 6 ≤ 24) ∧ ∀ H1 : AH, H1 = hs H a0 5 (1 - bi (decide (0 ≤ x1 ∧ x1 < M 6))) → (¬ (0 ≤ x1 ∧ x1 < M 6) → Q (vI 0) H1) ∧ (0 ≤ x1 ∧ x1 < M 6 → ∀ H2 : AH, H2 = hs H1 a0 5 (1 - bi (decide (0 ≤ x2 ∧ x2 < M 6))) → (0 ≤ x2 ∧ x2 < M 6 → (0 ≤ x1 ∧ x1 < 24) ∧ (0 ≤ x2 ∧ x2 < 24) ∧ (0 ≤ ofM M x1 1 ∧ ofM M x1 1 ≤ 3) ∧ (0 ≤ ofM M x2 1 ∧ ofM M x2 1 ≤ 3) ∧ Q (vI (apartM M x1 x2)) H2) ∧ (¬ (0 ≤ x2 ∧ x2 < M 6) → Q (vI 0) H2))) (hd : 2 ≤ d := by omega) : AW l G mX8_separation (d + 1) 0 0 Q 0 [vR a0, vI x1, vI x2] [] 0 0 H := by
  refine a_aload_n dX8_separation_0 rfl rfl ?_
  refine a_iload_n dX8_separation_1 rfl rfl ?_
  obtain ⟨q2_0, h⟩ := h
  refine a_callV dX8_separation_2 cw_X8_separation_2 (as := [vI x1]) rfl rfl (kMod_0 hW.1) (Nat.le_refl _) (Nat.le_of_ble_eq_true rfl) (nocov rfl) (Nat.le_of_ble_eq_true rfl) (Nat.le_of_ble_eq_true rfl) (CL.mono (c_isFlight hW.1 (by rw [hW.2.1]; exact q2_0)) (fun r9 H9 h9 => ?_))
  rw [h9.1, h9.2]
  (try rw [hW.2.1])
  have h_r0_1 := Lay.wr hW.1 ok_Mod (nrf_fld 5 (kMod_0 hW.1) (by decide) (by decide)) (i := 5) (x := (1 - bi (decide (0 ≤ x1 ∧ x1 < M 6))))
  generalize e_H1 : hs H a0 5 (1 - bi (decide (0 ≤ x1 ∧ x1 < M 6))) = H1 at h_r0_1 ⊢
  replace h := h H1 e_H1.symm
  have row_H1 := (show rowM H1 a0 = _ from by rw [← e_H1, rowM_ne (by omega), hW.2.1])
  have mk_H1 := (show okM _ ∧ mkd H1 a0 from by rw [← e_H1]; exact ⟨hW.2.2.1, mkd_wr hW.2.2.2 (by omega) (by omega) (by omega)⟩)
  show AW l G mX8_separation (d + 1) 0 0 Q 5 [vR a0, vI x1, vI x2] [vI (bi (decide (0 ≤ x1 ∧ x1 < M 6)))] 0 0 H1
  refine a_if_eq dX8_separation_5 (tgt := 16) rfl (fun c5 => ?_) (fun c5 => ?_)
  · replace h := h.1 (bi_0 c5)
    refine a_iconst dX8_separation_16 ⟨by decide, by decide⟩ ?_
    exact a_iret dX8_separation_17 rfl (Nat.le_of_ble_eq_true rfl) (Nat.le_of_ble_eq_true rfl) h
  · replace h := h.2 (bi_1 c5)
    refine a_aload_n dX8_separation_8 rfl rfl ?_
    refine a_iload_n dX8_separation_9 rfl rfl ?_
    refine a_callV dX8_separation_10 cw_X8_separation_10 (as := [vI x2]) rfl rfl (kMod_0 h_r0_1) (Nat.le_refl _) (Nat.le_of_ble_eq_true rfl) (nocov rfl) (Nat.le_of_ble_eq_true rfl) (Nat.le_of_ble_eq_true rfl) (CL.mono (c_isFlight h_r0_1 (by rw [row_H1]; exact q2_0)) (fun r9 H9 h9 => ?_))
    rw [h9.1, h9.2]
    (try rw [row_H1])
    have h_r0_2 := Lay.wr h_r0_1 ok_Mod (nrf_fld 5 (kMod_0 h_r0_1) (by decide) (by decide)) (i := 5) (x := (1 - bi (decide (0 ≤ x2 ∧ x2 < M 6))))
    generalize e_H2 : hs H1 a0 5 (1 - bi (decide (0 ≤ x2 ∧ x2 < M 6))) = H2 at h_r0_2 ⊢
    replace h := h H2 e_H2.symm
    have row_H2 := (show rowM H2 a0 = _ from by rw [← e_H2, rowM_ne (by omega), row_H1])
    have mk_H2 := (show okM _ ∧ mkd H2 a0 from by rw [← e_H2]; exact ⟨mk_H1.1, mkd_wr mk_H1.2 (by omega) (by omega) (by omega)⟩)
    show AW l G mX8_separation (d + 1) 0 0 Q 13 [vR a0, vI x1, vI x2] [vI (bi (decide (0 ≤ x2 ∧ x2 < M 6)))] 0 0 H2
    refine a_if_ne dX8_separation_13 (tgt := 18) rfl (fun c13 => ?_) (fun c13 => ?_)
    · replace h := h.1 (bi_1 c13)
      refine a_aload_n dX8_separation_18 rfl rfl ?_
      refine a_iload_n dX8_separation_19 rfl rfl ?_
      refine a_iload_n dX8_separation_20 rfl rfl ?_
      obtain ⟨q21_0, h⟩ := h
      obtain ⟨q21_1, h⟩ := h
      obtain ⟨q21_2, h⟩ := h
      obtain ⟨q21_3, h⟩ := h
      refine a_callV dX8_separation_21 cw_X8_separation_21 (as := [vI x1, vI x2]) rfl rfl (kMod_0 h_r0_2) (Nat.le_refl _) (Nat.le_of_ble_eq_true rfl) (nocov rfl) (Nat.le_of_ble_eq_true rfl) (Nat.le_of_ble_eq_true rfl) (CL.mono (c_apart h_r0_2 q21_0 q21_1 (by rw [row_H2]; exact q21_2) (by rw [row_H2]; exact q21_3)) (fun r9 H9 h9 => ?_))
      rw [h9.1, h9.2]
      (try rw [row_H2])
      show AW l G mX8_separation (d + 1) 0 0 Q 24 [vR a0, vI x1, vI x2] [vI (apartM M x1 x2)] 0 0 H2
      exact a_iret dX8_separation_24 rfl (Nat.le_of_ble_eq_true rfl) (Nat.le_of_ble_eq_true rfl) h
    · replace h := h.2 (bi_0 c13)
      refine a_iconst dX8_separation_16 ⟨by decide, by decide⟩ ?_
      exact a_iret dX8_separation_17 rfl (Nat.le_of_ble_eq_true rfl) (Nat.le_of_ble_eq_true rfl) h


theorem dX8_nameByte_0 : decode cX8_nameByte 0 = .ok (.aload_n 0, 1) := by decide +kernel
theorem dX8_nameByte_1 : decode cX8_nameByte 1 = .ok (.iload_n 1, 1) := by decide +kernel
theorem dX8_nameByte_2 : decode cX8_nameByte 2 = .ok (.invokevirtual 71, 3) := by decide +kernel
theorem dX8_nameByte_5 : decode cX8_nameByte 5 = .ok (.ifCond .ne 5, 3) := by decide +kernel
theorem dX8_nameByte_8 : decode cX8_nameByte 8 = .ok (.iconst 0, 1) := by decide +kernel
theorem dX8_nameByte_9 : decode cX8_nameByte 9 = .ok (.ireturn, 1) := by decide +kernel
theorem dX8_nameByte_10 : decode cX8_nameByte 10 = .ok (.iload_n 2, 1) := by decide +kernel
theorem dX8_nameByte_11 : decode cX8_nameByte 11 = .ok (.iconst 0, 1) := by decide +kernel
theorem dX8_nameByte_12 : decode cX8_nameByte 12 = .ok (.iconst 5, 1) := by decide +kernel
theorem dX8_nameByte_13 : decode cX8_nameByte 13 = .ok (.invokestatic 67, 3) := by decide +kernel
theorem dX8_nameByte_16 : decode cX8_nameByte 16 = .ok (.ifCond .eq 15, 3) := by decide +kernel
theorem dX8_nameByte_19 : decode cX8_nameByte 19 = .ok (.aload_n 0, 1) := by decide +kernel
theorem dX8_nameByte_20 : decode cX8_nameByte 20 = .ok (.iload_n 1, 1) := by decide +kernel
theorem dX8_nameByte_21 : decode cX8_nameByte 21 = .ok (.bipush 10, 2) := by decide +kernel
theorem dX8_nameByte_23 : decode cX8_nameByte 23 = .ok (.iload_n 2, 1) := by decide +kernel
theorem dX8_nameByte_24 : decode cX8_nameByte 24 = .ok (.iadd, 1) := by decide +kernel
theorem dX8_nameByte_25 : decode cX8_nameByte 25 = .ok (.invokevirtual 75, 3) := by decide +kernel
theorem dX8_nameByte_28 : decode cX8_nameByte 28 = .ok (.ifCond .ne 5, 3) := by decide +kernel
theorem dX8_nameByte_31 : decode cX8_nameByte 31 = .ok (.iconst (-1), 1) := by decide +kernel
theorem dX8_nameByte_32 : decode cX8_nameByte 32 = .ok (.ireturn, 1) := by decide +kernel
theorem dX8_nameByte_33 : decode cX8_nameByte 33 = .ok (.aload_n 0, 1) := by decide +kernel
theorem dX8_nameByte_34 : decode cX8_nameByte 34 = .ok (.iload_n 1, 1) := by decide +kernel
theorem dX8_nameByte_35 : decode cX8_nameByte 35 = .ok (.bipush 10, 2) := by decide +kernel
theorem dX8_nameByte_37 : decode cX8_nameByte 37 = .ok (.iload_n 2, 1) := by decide +kernel
theorem dX8_nameByte_38 : decode cX8_nameByte 38 = .ok (.iadd, 1) := by decide +kernel
theorem dX8_nameByte_39 : decode cX8_nameByte 39 = .ok (.invokevirtual 75, 3) := by decide +kernel
theorem dX8_nameByte_42 : decode cX8_nameByte 42 = .ok (.ireturn, 1) := by decide +kernel
set_option maxRecDepth 20000 in
theorem s_X8_nameByte_0 {l : Launch} {G : GT} {d : Nat} {Q : AV → AH → Prop} {H : AH} {a0 x1 x2 : Int} {M : Row} (hW : MW H a0 M) (h : (0 ≤ M 6 ∧ M 6 ≤ 24) ∧ ∀ H1 : AH, H1 = hs H a0 5 (1 - bi (decide (0 ≤ x1 ∧ x1 < M 6))) → (0 ≤ x1 ∧ x1 < M 6 → (¬ (0 ≤ x2 ∧ x2 ≤ 5) → Q (vI (-1)) H1) ∧ (0 ≤ x2 ∧ x2 ≤ 5 → (-2147483648 ≤ 10 + x2 ∧ 10 + x2 ≤ 2147483647) ∧ (0 ≤ x1 ∧ x1 < 24 ∧ 0 ≤ (10 + x2) ∧ (10 + x2) < 16) ∧ (¬ (ofM M x1 (10 + x2)) = 0 → Q (vI (ofM M x1 (10 + x2))) H1) ∧ ((ofM M x1 (10 + x2)) = 0 → Q (vI (-1)) H1))) ∧ (¬ (0 ≤ x1 ∧ x1 < M 6) → Q (vI 0) H1)) (hd : 1 ≤ d := by omega) : AW l G mX8_nameByte (d + 1) 0 0 Q 0 [vR a0, vI x1, vI x2] [] 0 0 H := by
  refine a_aload_n dX8_nameByte_0 rfl rfl ?_
  refine a_iload_n dX8_nameByte_1 rfl rfl ?_
  obtain ⟨q2_0, h⟩ := h
  refine a_callV dX8_nameByte_2 cw_X8_nameByte_2 (as := [vI x1]) rfl rfl (kMod_0 hW.1) (Nat.le_refl _) (Nat.le_of_ble_eq_true rfl) (nocov rfl) (Nat.le_of_ble_eq_true rfl) (Nat.le_of_ble_eq_true rfl) (CL.mono (c_isFlight hW.1 (by rw [hW.2.1]; exact q2_0)) (fun r9 H9 h9 => ?_))
  rw [h9.1, h9.2]
  (try rw [hW.2.1])
  have h_r0_1 := Lay.wr hW.1 ok_Mod (nrf_fld 5 (kMod_0 hW.1) (by decide) (by decide)) (i := 5) (x := (1 - bi (decide (0 ≤ x1 ∧ x1 < M 6))))
  generalize e_H1 : hs H a0 5 (1 - bi (decide (0 ≤ x1 ∧ x1 < M 6))) = H1 at h_r0_1 ⊢
  replace h := h H1 e_H1.symm
  have row_H1 := (show rowM H1 a0 = _ from by rw [← e_H1, rowM_ne (by omega), hW.2.1])
  have mk_H1 := (show okM _ ∧ mkd H1 a0 from by rw [← e_H1]; exact ⟨hW.2.2.1, mkd_wr hW.2.2.2 (by omega) (by omega) (by omega)⟩)
  show AW l G mX8_nameByte (d + 1) 0 0 Q 5 [vR a0, vI x1, vI x2] [vI (bi (decide (0 ≤ x1 ∧ x1 < M 6)))] 0 0 H1
  refine a_if_ne dX8_nameByte_5 (tgt := 10) rfl (fun c5 => ?_) (fun c5 => ?_)
  · replace h := h.1 (bi_1 c5)
    refine a_iload_n dX8_nameByte_10 rfl rfl ?_
    refine a_iconst dX8_nameByte_11 ⟨by decide, by decide⟩ ?_
    refine a_iconst dX8_nameByte_12 ⟨by decide, by decide⟩ ?_
    refine a_callS dX8_nameByte_13 cw_X8_nameByte_13 (as := [vI x2, vI 0, vI 5]) rfl rfl (Nat.le_refl _) (Nat.le_of_ble_eq_true rfl) (nocov rfl) (Nat.le_of_ble_eq_true rfl) (Nat.le_of_ble_eq_true rfl) (CL.mono (c_in  ) (fun r9 H9 h9 => ?_))
    rw [h9.1, h9.2]
    (try rw [row_H1])
    show AW l G mX8_nameByte (d + 1) 0 0 Q 16 [vR a0, vI x1, vI x2] [vI (bi (decide (0 ≤ x2 ∧ x2 ≤ 5)))] 0 0 H1
    refine a_if_eq dX8_nameByte_16 (tgt := 31) rfl (fun c16 => ?_) (fun c16 => ?_)
    · replace h := h.1 (bi_0 c16)
      refine a_iconst dX8_nameByte_31 ⟨by decide, by decide⟩ ?_
      exact a_iret dX8_nameByte_32 rfl (Nat.le_of_ble_eq_true rfl) (Nat.le_of_ble_eq_true rfl) h
    · replace h := h.2 (bi_1 c16)
      refine a_aload_n dX8_nameByte_19 rfl rfl ?_
      refine a_iload_n dX8_nameByte_20 rfl rfl ?_
      refine a_bipush dX8_nameByte_21 (by decide) ?_
      refine a_iload_n dX8_nameByte_23 rfl rfl ?_
      obtain ⟨q24_0, h⟩ := h
      refine a_iadd dX8_nameByte_24 q24_0 ?_
      obtain ⟨q25_0, h⟩ := h
      refine a_callV dX8_nameByte_25 cw_X8_nameByte_25 (as := [vI x1, vI (10 + x2)]) rfl rfl (kMod_0 h_r0_1) (Nat.le_refl _) (Nat.le_of_ble_eq_true rfl) (nocov rfl) (Nat.le_of_ble_eq_true rfl) (Nat.le_of_ble_eq_true rfl) (CL.mono (c_of h_r0_1 q25_0) (fun r9 H9 h9 => ?_))
      rw [h9.1, h9.2]
      (try rw [row_H1])
      show AW l G mX8_nameByte (d + 1) 0 0 Q 28 [vR a0, vI x1, vI x2] [vI (ofM M x1 (10 + x2))] 0 0 H1
      refine a_if_ne dX8_nameByte_28 (tgt := 33) rfl (fun c28 => ?_) (fun c28 => ?_)
      · replace h := h.1 c28
        refine a_aload_n dX8_nameByte_33 rfl rfl ?_
        refine a_iload_n dX8_nameByte_34 rfl rfl ?_
        refine a_bipush dX8_nameByte_35 (by decide) ?_
        refine a_iload_n dX8_nameByte_37 rfl rfl ?_
        refine a_iadd dX8_nameByte_38 q24_0 ?_
        refine a_callV dX8_nameByte_39 cw_X8_nameByte_39 (as := [vI x1, vI (10 + x2)]) rfl rfl (kMod_0 h_r0_1) (Nat.le_refl _) (Nat.le_of_ble_eq_true rfl) (nocov rfl) (Nat.le_of_ble_eq_true rfl) (Nat.le_of_ble_eq_true rfl) (CL.mono (c_of h_r0_1 q25_0) (fun r9 H9 h9 => ?_))
        rw [h9.1, h9.2]
        (try rw [row_H1])
        show AW l G mX8_nameByte (d + 1) 0 0 Q 42 [vR a0, vI x1, vI x2] [vI (ofM M x1 (10 + x2))] 0 0 H1
        exact a_iret dX8_nameByte_42 rfl (Nat.le_of_ble_eq_true rfl) (Nat.le_of_ble_eq_true rfl) h
      · replace h := h.2 c28
        refine a_iconst dX8_nameByte_31 ⟨by decide, by decide⟩ ?_
        exact a_iret dX8_nameByte_32 rfl (Nat.le_of_ble_eq_true rfl) (Nat.le_of_ble_eq_true rfl) h
  · replace h := h.2 (bi_0 c5)
    refine a_iconst dX8_nameByte_8 ⟨by decide, by decide⟩ ?_
    exact a_iret dX8_nameByte_9 rfl (Nat.le_of_ble_eq_true rfl) (Nat.le_of_ble_eq_true rfl) h


