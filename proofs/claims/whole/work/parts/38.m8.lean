theorem dX8_copies_0 : decode cX8_copies 0 = .ok (.iconst 0, 1) := by decide +kernel
theorem dX8_copies_1 : decode cX8_copies 1 = .ok (.istore 4, 2) := by decide +kernel
theorem dX8_copies_3 : decode cX8_copies 3 = .ok (.iload 4, 2) := by decide +kernel
theorem dX8_copies_5 : decode cX8_copies 5 = .ok (.sipush 440, 3) := by decide +kernel
theorem dX8_copies_8 : decode cX8_copies 8 = .ok (.if_icmp .ge 29, 3) := by decide +kernel
theorem dX8_copies_11 : decode cX8_copies 11 = .ok (.aload_n 2, 1) := by decide +kernel
theorem dX8_copies_12 : decode cX8_copies 12 = .ok (.sipush 440, 3) := by decide +kernel
theorem dX8_copies_15 : decode cX8_copies 15 = .ok (.iload_n 3, 1) := by decide +kernel
theorem dX8_copies_16 : decode cX8_copies 16 = .ok (.imul, 1) := by decide +kernel
theorem dX8_copies_17 : decode cX8_copies 17 = .ok (.iload 4, 2) := by decide +kernel
theorem dX8_copies_19 : decode cX8_copies 19 = .ok (.iadd, 1) := by decide +kernel
theorem dX8_copies_20 : decode cX8_copies 20 = .ok (.aload_n 0, 1) := by decide +kernel
theorem dX8_copies_21 : decode cX8_copies 21 = .ok (.sipush 440, 3) := by decide +kernel
theorem dX8_copies_24 : decode cX8_copies 24 = .ok (.iload_n 1, 1) := by decide +kernel
theorem dX8_copies_25 : decode cX8_copies 25 = .ok (.imul, 1) := by decide +kernel
theorem dX8_copies_26 : decode cX8_copies 26 = .ok (.iload 4, 2) := by decide +kernel
theorem dX8_copies_28 : decode cX8_copies 28 = .ok (.iadd, 1) := by decide +kernel
theorem dX8_copies_29 : decode cX8_copies 29 = .ok (.iaload, 1) := by decide +kernel
theorem dX8_copies_30 : decode cX8_copies 30 = .ok (.iastore, 1) := by decide +kernel
theorem dX8_copies_31 : decode cX8_copies 31 = .ok (.iinc 4 1, 3) := by decide +kernel
theorem dX8_copies_34 : decode cX8_copies 34 = .ok (.goto (-31), 3) := by decide +kernel
theorem dX8_copies_37 : decode cX8_copies 37 = .ok (.return_, 1) := by decide +kernel
set_option maxRecDepth 20000 in
theorem s_X8_copies_0 {l : Launch} {G : GT} {d : Nat} {Q : AV → AH → Prop} {H : AH} {a0 a2 n0 n2 x1 x3 : Int} (h_r0 : Lay (LArr 10 n0) H a0) (h_r2 : Lay (LArr 10 n2) H a2) (h : AW l G mX8_copies d 0 0 Q 3 [vR a0, vI x1, vR a2, vI x3, vI 0] [] 0 0 H) : AW l G mX8_copies d 0 0 Q 0 [vR a0, vI x1, vR a2, vI x3, vU] [] 0 0 H := by
  refine a_iconst dX8_copies_0 ⟨by decide, by decide⟩ ?_
  refine a_istore dX8_copies_1 (Nat.le_of_ble_eq_true rfl) (ls' := [vR a0, vI x1, vR a2, vI x3, vI 0]) rfl ?_
  exact h

set_option maxRecDepth 20000 in
theorem s_X8_copies_3 {l : Launch} {G : GT} {d : Nat} {Q : AV → AH → Prop} {H : AH} {a0 a2 n0 n2 x1 x3 x4 : Int} (h_r0 : Lay (LArr 10 n0) H a0) (h_r2 : Lay (LArr 10 n2) H a2) (h : (440 ≤ x4 → Q vV H) ∧ (x4 < 440 → (-2147483648 ≤ 440 * x3 ∧ 440 * x3 ≤ 2147483647) ∧ (-2147483648 ≤ (440 * x3) + x4 ∧ (440 * x3) + x4 ≤ 2147483647) ∧ (-2147483648 ≤ 440 * x1 ∧ 440 * x1 ≤ 2147483647) ∧ (-2147483648 ≤ (440 * x1) + x4 ∧ (440 * x1) + x4 ≤ 2147483647) ∧ (0 ≤ ((440 * x1) + x4) ∧ ((440 * x1) + x4) < n0) ∧ (0 ≤ ((440 * x3) + x4) ∧ ((440 * x3) + x4) < n2) ∧ ∀ H1 : AH, H1 = hs H a2 ((440 * x3) + x4) (hg H a0 ((440 * x1) + x4)) → (-2147483648 ≤ x4 + 1 ∧ x4 + 1 ≤ 2147483647) ∧ AW l G mX8_copies d 0 0 Q 3 [vR a0, vI x1, vR a2, vI x3, vI (x4 + 1)] [] 0 0 H1)) : AW l G mX8_copies d 0 0 Q 3 [vR a0, vI x1, vR a2, vI x3, vI x4] [] 0 0 H := by
  refine a_iload dX8_copies_3 rfl ?_
  refine a_sipush dX8_copies_5 (by decide) ?_
  refine a_icmp_ge dX8_copies_8 (tgt := 37) rfl (fun c8 => ?_) (fun c8 => ?_)
  · replace h := h.1 c8
    exact a_vret dX8_copies_37 rfl (Nat.le_of_ble_eq_true rfl) (Nat.le_of_ble_eq_true rfl) h
  · replace h := h.2 c8
    refine a_aload_n dX8_copies_11 rfl rfl ?_
    refine a_sipush dX8_copies_12 (by decide) ?_
    refine a_iload_n dX8_copies_15 rfl rfl ?_
    obtain ⟨q16_0, h⟩ := h
    refine a_imul dX8_copies_16 q16_0 ?_
    refine a_iload dX8_copies_17 rfl ?_
    obtain ⟨q19_0, h⟩ := h
    refine a_iadd dX8_copies_19 q19_0 ?_
    refine a_aload_n dX8_copies_20 rfl rfl ?_
    refine a_sipush dX8_copies_21 (by decide) ?_
    refine a_iload_n dX8_copies_24 rfl rfl ?_
    obtain ⟨q25_0, h⟩ := h
    refine a_imul dX8_copies_25 q25_0 ?_
    refine a_iload dX8_copies_26 rfl ?_
    obtain ⟨q28_0, h⟩ := h
    refine a_iadd dX8_copies_28 q28_0 ?_
    obtain ⟨q29_0, h⟩ := h
    refine b_iald dX8_copies_29 (kArr_0 h_r0) (nArr_0 h_r0) q29_0 ?_
    obtain ⟨q30_0, h⟩ := h
    refine b_iast dX8_copies_30 (kArr_0 h_r2) (nArr_0 h_r2) q30_0 ?_
    have h_r0_1 := Lay.wr h_r0 ok_Arr (nrf_arr (kArr_0 h_r2) (by decide) (by decide)) (i := ((440 * x3) + x4)) (x := (hg H a0 ((440 * x1) + x4)))
    have h_r2_1 := Lay.wr h_r2 ok_Arr (nrf_arr (kArr_0 h_r2) (by decide) (by decide)) (i := ((440 * x3) + x4)) (x := (hg H a0 ((440 * x1) + x4)))
    generalize e_H1 : hs H a2 ((440 * x3) + x4) (hg H a0 ((440 * x1) + x4)) = H1 at h_r0_1 h_r2_1 ⊢
    replace h := h H1 e_H1.symm
    obtain ⟨q31_0, h⟩ := h
    refine a_iinc dX8_copies_31 rfl (Nat.le_of_ble_eq_true rfl) (by decide) q31_0 (ls' := [vR a0, vI x1, vR a2, vI x3, vI (x4 + 1)]) rfl ?_
    refine a_goto dX8_copies_34 (tgt := 3) rfl ?_
    exact h

theorem c_copies {l : Launch} {G : GT} {d : Nat} {H : AH} {p q n m i j : Int} (hA : Lay (LArr 10 n) H p) (hB : Lay (LArr 10 m) H q) (hne : p ≠ q) (hi : 0 ≤ i ∧ 440 * i + 440 ≤ n ∧ i ≤ 4) (hj : 0 ≤ j ∧ 440 * j + 440 ≤ m ∧ j ≤ 4) : CL l G mX8_copies d 0 0 [vR p, vI i, vR q, vI j] H (fun r H' => r = vV ∧ only H H' (fun b k => b = q ∧ 440 * j ≤ k ∧ k < 440 * j + 440) ∧ ∀ k, 0 ≤ k → k < 440 → hg H' q (440 * j + k) = hg H p (440 * i + k)) := by
  refine CL.of (by decide) rfl (Nat.le_of_ble_eq_true rfl) (s_X8_copies_0 hA hB ?_)
  have key : ∀ c : Nat, c ≤ 440 → ∀ H', only H H' (fun b k => b = q ∧ 440 * j ≤ k ∧ k < 440 * j + 440) → (∀ k : Int, 0 ≤ k → k < c → hg H' q (440 * j + k) = hg H p (440 * i + k)) → AW l G mX8_copies d 0 0 (fun r H' => r = vV ∧ only H H' (fun b k => b = q ∧ 440 * j ≤ k ∧ k < 440 * j + 440) ∧ ∀ k, 0 ≤ k → k < 440 → hg H' q (440 * j + k) = hg H p (440 * i + k)) 3 [vR p, vI i, vR q, vI j, vI c] [] 0 0 H' := by
    refine upN _ ?_ ?_
    · intro c hc ih H' ho hv
      have nq : ∀ b k, b = q ∧ 440 * j ≤ k ∧ k < 440 * j + 440 → nrf H b k := fun b k z => by rw [z.1]; exact nrf_arr (kArr_0 hB) (by decide) (by decide)
      have hA' := hA.only ok_Arr ho nq
      have hB' := hB.only ok_Arr ho nq
      refine s_X8_copies_3 hA' hB' ⟨fun z => absurd z (by omega), fun _ => ⟨by omega, by omega, by omega, by omega, by omega, by omega, fun H1 e1 => ⟨by omega, ih H1 ?_ ?_⟩⟩⟩
      · rw [e1]; exact ho.then ⟨rfl, by omega, by omega⟩
      · intro k k1 k2
        rw [e1]
        by_cases hk : k = c
        · rw [hk, hg_same, ho.2.2 p _ (fun z => hne z.1)]
        · rw [hg_ne _ (by omega)]; exact hv k k1 (by omega)
    · intro H' ho hv
      have nq : ∀ b k, b = q ∧ 440 * j ≤ k ∧ k < 440 * j + 440 → nrf H b k := fun b k z => by rw [z.1]; exact nrf_arr (kArr_0 hB) (by decide) (by decide)
      exact s_X8_copies_3 (hA.only ok_Arr ho nq) (hB.only ok_Arr ho nq) ⟨fun _ => ⟨rfl, ho, fun k k1 k2 => hv k k1 k2⟩, fun z => absurd z (by omega)⟩
  exact key 0 (Nat.zero_le _) H only.rf (fun k k1 k2 => by omega)

theorem dX8_leaves_0 : decode cX8_leaves 0 = .ok (.aload_n 0, 1) := by decide +kernel
theorem dX8_leaves_1 : decode cX8_leaves 1 = .ok (.getfield 9, 3) := by decide +kernel
theorem dX8_leaves_4 : decode cX8_leaves 4 = .ok (.iconst 0, 1) := by decide +kernel
theorem dX8_leaves_5 : decode cX8_leaves 5 = .ok (.aload_n 0, 1) := by decide +kernel
theorem dX8_leaves_6 : decode cX8_leaves 6 = .ok (.getfield 16, 3) := by decide +kernel
theorem dX8_leaves_9 : decode cX8_leaves 9 = .ok (.iconst 0, 1) := by decide +kernel
theorem dX8_leaves_10 : decode cX8_leaves 10 = .ok (.invokestatic 195, 3) := by decide +kernel
theorem dX8_leaves_13 : decode cX8_leaves 13 = .ok (.return_, 1) := by decide +kernel
set_option maxRecDepth 20000 in
theorem s_X8_leaves_0 {l : Launch} {G : GT} {d : Nat} {Q : AV → AH → Prop} {H : AH} {a0 : Int} (h_r0 : Lay LMod H a0) (h : CL l G mX8_copies d 0 0 [vR (a0 + 1), vI 0, vR (a0 + 3), vI 0] H (fun r9 H1 => Lay LMod H1 a0 ∧ r9 = vV ∧ Q vV H1)) : AW l G mX8_leaves (d + 1) 0 0 Q 0 [vR a0] [] 0 0 H := by
  refine a_aload_n dX8_leaves_0 rfl rfl ?_
  refine a_getR dX8_leaves_1 fw_RX8_9 rfl rfl (kMod_0 h_r0) (rMod_0_0 h_r0) ?_
  refine a_iconst dX8_leaves_4 ⟨by decide, by decide⟩ ?_
  refine a_aload_n dX8_leaves_5 rfl rfl ?_
  refine a_getR dX8_leaves_6 fw_RX8_16 rfl rfl (kMod_0 h_r0) (rMod_0_2 h_r0) ?_
  refine a_iconst dX8_leaves_9 ⟨by decide, by decide⟩ ?_
  refine a_callS dX8_leaves_10 cw_X8_leaves_10 (as := [vR (a0 + 1), vI 0, vR (a0 + 3), vI 0]) rfl rfl (Nat.le_refl _) (Nat.le_of_ble_eq_true rfl) (nocov rfl) (Nat.le_of_ble_eq_true rfl) (Nat.le_of_ble_eq_true rfl) (CL.mono h (fun r9 H1 h => ?_))
  obtain ⟨h_r0_1, e9, h⟩ := h
  rw [e9]
  show AW l G mX8_leaves (d + 1) 0 0 Q 13 [vR a0] [] 0 0 H1
  exact a_vret dX8_leaves_13 rfl (Nat.le_of_ble_eq_true rfl) (Nat.le_of_ble_eq_true rfl) h

def pAs (a : Int) : Int → Int → Prop := fun b _ => b = a + 3
/-- the row is put aside -/
def asd (H : AH) (a : Int) (M : Row) : Prop := ∀ k, 0 ≤ k → k < 440 → hg H (a + 3) k = M k
theorem c_leaves {l : Launch} {G : GT} {d : Nat} {H : AH} {a : Int} {M : Row} (hW : MW H a M) (hd : 2 ≤ d := by omega) : CL l G mX8_leaves d 0 0 [vR a] H (fun r H' => r = vV ∧ only H H' (pAs a) ∧ MW H' a M ∧ asd H' a M) := by
  obtain ⟨d, rfl⟩ : ∃ k, d = k + 1 := ⟨d - 1, by omega⟩
  refine CL.of (by decide) rfl (Nat.le_of_ble_eq_true rfl) (s_X8_leaves_0 hW.1 (CL.mono (c_copies (sA_Mod_1 hW.1) (sA_Mod_3 hW.1) (by omega) (by omega) (by omega)) ?_))
  rintro r H' ⟨rfl, ho, hv⟩
  have hn : ∀ b k, b = a + 3 ∧ 440 * (0 : Int) ≤ k ∧ k < 440 * 0 + 440 → nrf H b k := fun b k z => by rw [z.1]; exact nrf_arr (kMod_3 hW.1) (by decide) (by decide)
  have w := hW.only ho hn (fun i z => by omega) (fun b i z1 z2 z => by omega) (fun z => by omega)
  refine ⟨w.1, rfl, rfl, ho.mono (fun b k z => z.1), w, fun k k1 k2 => ?_⟩
  have := hv k k1 k2
  rw [show 440 * (0 : Int) + k = k by omega] at this
  rw [this]
  exact congrFun hW.2.1 k

theorem dX8_comesBack_0 : decode cX8_comesBack 0 = .ok (.aload_n 0, 1) := by decide +kernel
theorem dX8_comesBack_1 : decode cX8_comesBack 1 = .ok (.getfield 16, 3) := by decide +kernel
theorem dX8_comesBack_4 : decode cX8_comesBack 4 = .ok (.iconst 0, 1) := by decide +kernel
theorem dX8_comesBack_5 : decode cX8_comesBack 5 = .ok (.aload_n 0, 1) := by decide +kernel
theorem dX8_comesBack_6 : decode cX8_comesBack 6 = .ok (.getfield 9, 3) := by decide +kernel
theorem dX8_comesBack_9 : decode cX8_comesBack 9 = .ok (.iconst 0, 1) := by decide +kernel
theorem dX8_comesBack_10 : decode cX8_comesBack 10 = .ok (.invokestatic 195, 3) := by decide +kernel
theorem dX8_comesBack_13 : decode cX8_comesBack 13 = .ok (.aload_n 0, 1) := by decide +kernel
theorem dX8_comesBack_14 : decode cX8_comesBack 14 = .ok (.iconst 0, 1) := by decide +kernel
theorem dX8_comesBack_15 : decode cX8_comesBack 15 = .ok (.putfield 63, 3) := by decide +kernel
theorem dX8_comesBack_18 : decode cX8_comesBack 18 = .ok (.return_, 1) := by decide +kernel
set_option maxRecDepth 20000 in
theorem s_X8_comesBack_0 {l : Launch} {G : GT} {d : Nat} {Q : AV → AH → Prop} {H : AH} {a0 : Int} (h_r0 : Lay LMod H a0) (h : CL l G mX8_copies d 0 0 [vR (a0 + 3), vI 0, vR (a0 + 1), vI 0] H (fun r9 H1 => Lay LMod H1 a0 ∧ r9 = vV ∧ ∀ H2 : AH, H2 = hs H1 a0 13 0 → Q vV H2)) : AW l G mX8_comesBack (d + 1) 0 0 Q 0 [vR a0] [] 0 0 H := by
  refine a_aload_n dX8_comesBack_0 rfl rfl ?_
  refine a_getR dX8_comesBack_1 fw_RX8_16 rfl rfl (kMod_0 h_r0) (rMod_0_2 h_r0) ?_
  refine a_iconst dX8_comesBack_4 ⟨by decide, by decide⟩ ?_
  refine a_aload_n dX8_comesBack_5 rfl rfl ?_
  refine a_getR dX8_comesBack_6 fw_RX8_9 rfl rfl (kMod_0 h_r0) (rMod_0_0 h_r0) ?_
  refine a_iconst dX8_comesBack_9 ⟨by decide, by decide⟩ ?_
  refine a_callS dX8_comesBack_10 cw_X8_comesBack_10 (as := [vR (a0 + 3), vI 0, vR (a0 + 1), vI 0]) rfl rfl (Nat.le_refl _) (Nat.le_of_ble_eq_true rfl) (nocov rfl) (Nat.le_of_ble_eq_true rfl) (Nat.le_of_ble_eq_true rfl) (CL.mono h (fun r9 H1 h => ?_))
  obtain ⟨h_r0_1, e9, h⟩ := h
  rw [e9]
  show AW l G mX8_comesBack (d + 1) 0 0 Q 13 [vR a0] [] 0 0 H1
  refine a_aload_n dX8_comesBack_13 rfl rfl ?_
  refine a_iconst dX8_comesBack_14 ⟨by decide, by decide⟩ ?_
  refine a_putZ dX8_comesBack_15 fp_RX8_63 rfl rfl (kMod_0 h_r0_1) (by decide) ?_
  have h_r0_2 := Lay.wr h_r0_1 ok_Mod (nrf_fld 13 (kMod_0 h_r0_1) (by decide) (by decide)) (i := 13) (x := 0)
  generalize e_H2 : hs H1 a0 13 0 = H2 at h_r0_2 ⊢
  replace h := h H2 e_H2.symm
  exact a_vret dX8_comesBack_18 rfl (Nat.le_of_ble_eq_true rfl) (Nat.le_of_ble_eq_true rfl) h

theorem c_comesBack {l : Launch} {G : GT} {d : Nat} {H : AH} {a : Int} {M : Row} (hL : Lay LMod H a) (hs : asd H a M) (hM : okM M) (hd : 2 ≤ d := by omega) : CL l G mX8_comesBack d 0 0 [vR a] H (fun r H' => r = vV ∧ only H H' (pMt a) ∧ MW H' a M) := by
  obtain ⟨d, rfl⟩ : ∃ k, d = k + 1 := ⟨d - 1, by omega⟩
  refine CL.norm (Q := fun r H' => r = vV ∧ only H H' (pMt a) ∧ Lay LMod H' a ∧ (∀ k, 0 ≤ k → k < 440 → hg H' (a + 1) k = M k) ∧ hg H' a 13 = 0) (CL.of (by decide) rfl (Nat.le_of_ble_eq_true rfl) (s_X8_comesBack_0 hL (CL.mono (c_copies (sA_Mod_3 hL) (sA_Mod_1 hL) (by omega) (by omega) (by omega)) ?_))) ?_
  · rintro r H1 ⟨rfl, ho, hv⟩
    have hn : ∀ b k, b = a + 1 ∧ 440 * (0 : Int) ≤ k ∧ k < 440 * 0 + 440 → nrf H b k := fun b k z => by rw [z.1]; exact nrf_arr (kMod_1 hL) (by decide) (by decide)
    have hL1 := hL.only ok_Mod ho hn
    refine ⟨hL1, rfl, fun H2 e2 => ⟨rfl, ?_, ?_, fun k k1 k2 => ?_, by rw [e2, hg_same]⟩⟩
    · rw [e2]; exact (ho.mono (fun b k z => Or.inr z.1)).then (Or.inl (Or.inr ⟨rfl, Or.inl rfl⟩))
    · rw [e2]; exact hL1.wr ok_Mod (nrf_fld 13 (kMod_0 hL1) (by decide) (by decide))
    · have := hv k k1 k2
      rw [show 440 * (0 : Int) + k = k by omega] at this
      rw [e2, hg_ne _ (by omega), this]
      exact hs k k1 k2
  · rintro r H1 ⟨rfl, ho, hL1, hv, h13⟩
    obtain ⟨H2, hs2, ho2, hL2, hr2⟩ := row_norm hL1 hv
    refine ⟨H2, hs2, rfl, ho.trans (ho2.mono (fun b k z => Or.inr z)), hL2, hr2, hM, Or.inl ?_⟩
    rw [ho2.2.2 a 13 (by omega)]
    exact h13

theorem dX8_totalWith_0 : decode cX8_totalWith 0 = .ok (.aload_n 0, 1) := by decide +kernel
theorem dX8_totalWith_1 : decode cX8_totalWith 1 = .ok (.getfield 9, 3) := by decide +kernel
theorem dX8_totalWith_4 : decode cX8_totalWith 4 = .ok (.iconst 1, 1) := by decide +kernel
theorem dX8_totalWith_5 : decode cX8_totalWith 5 = .ok (.iaload, 1) := by decide +kernel
theorem dX8_totalWith_6 : decode cX8_totalWith 6 = .ok (.istore_n 2, 1) := by decide +kernel
theorem dX8_totalWith_7 : decode cX8_totalWith 7 = .ok (.aload_n 0, 1) := by decide +kernel
theorem dX8_totalWith_8 : decode cX8_totalWith 8 = .ok (.getfield 9, 3) := by decide +kernel
theorem dX8_totalWith_11 : decode cX8_totalWith 11 = .ok (.iconst 1, 1) := by decide +kernel
theorem dX8_totalWith_12 : decode cX8_totalWith 12 = .ok (.iload_n 1, 1) := by decide +kernel
theorem dX8_totalWith_13 : decode cX8_totalWith 13 = .ok (.iastore, 1) := by decide +kernel
theorem dX8_totalWith_14 : decode cX8_totalWith 14 = .ok (.aload_n 0, 1) := by decide +kernel
theorem dX8_totalWith_15 : decode cX8_totalWith 15 = .ok (.iconst 0, 1) := by decide +kernel
theorem dX8_totalWith_16 : decode cX8_totalWith 16 = .ok (.putfield 63, 3) := by decide +kernel
theorem dX8_totalWith_19 : decode cX8_totalWith 19 = .ok (.aload_n 0, 1) := by decide +kernel
theorem dX8_totalWith_20 : decode cX8_totalWith 20 = .ok (.invokevirtual 287, 3) := by decide +kernel
theorem dX8_totalWith_23 : decode cX8_totalWith 23 = .ok (.lstore_n 3, 1) := by decide +kernel
theorem dX8_totalWith_24 : decode cX8_totalWith 24 = .ok (.aload_n 0, 1) := by decide +kernel
theorem dX8_totalWith_25 : decode cX8_totalWith 25 = .ok (.getfield 9, 3) := by decide +kernel
theorem dX8_totalWith_28 : decode cX8_totalWith 28 = .ok (.iconst 1, 1) := by decide +kernel
theorem dX8_totalWith_29 : decode cX8_totalWith 29 = .ok (.iload_n 2, 1) := by decide +kernel
theorem dX8_totalWith_30 : decode cX8_totalWith 30 = .ok (.iastore, 1) := by decide +kernel
theorem dX8_totalWith_31 : decode cX8_totalWith 31 = .ok (.aload_n 0, 1) := by decide +kernel
theorem dX8_totalWith_32 : decode cX8_totalWith 32 = .ok (.iconst 0, 1) := by decide +kernel
theorem dX8_totalWith_33 : decode cX8_totalWith 33 = .ok (.putfield 63, 3) := by decide +kernel
theorem dX8_totalWith_36 : decode cX8_totalWith 36 = .ok (.lload_n 3, 1) := by decide +kernel
theorem dX8_totalWith_37 : decode cX8_totalWith 37 = .ok (.lreturn, 1) := by decide +kernel
set_option maxRecDepth 20000 in
theorem s_X8_totalWith_0 {l : Launch} {G : GT} {d : Nat} {Q : AV → AH → Prop} {H : AH} {a0 x1 : Int} {M : Row} (hW : MW H a0 M) (h : ∀ H1 : AH, H1 = hs H (a0 + 1) 1 x1 → ∀ M1 : Row, M1 = upM M 1 x1 → ∀ H2 : AH, H2 = hs H1 a0 13 0 → (okM M1 ∧ mkd H2 a0) ∧ ∀ H3 : AH, only H2 H3 (pMks a0) → MW H3 a0 M1 → ∀ H4 : AH, H4 = hs H3 (a0 + 1) 1 (M 1) → ∀ M4 : Row, M4 = upM M1 1 (M 1) → ∀ H5 : AH, H5 = hs H4 a0 13 0 → Q (vJ (totM M1)) H5) (hd : 17 ≤ d := by omega) : AW l G mX8_totalWith (d + 1) 0 0 Q 0 [vR a0, vI x1, vU, vU, vU] [] 0 0 H := by
  refine a_aload_n dX8_totalWith_0 rfl rfl ?_
  refine a_getR dX8_totalWith_1 fw_RX8_9 rfl rfl (kMod_0 hW.1) (rMod_0_0 hW.1) ?_
  refine a_iconst dX8_totalWith_4 ⟨by decide, by decide⟩ ?_
  refine b_ialdV dX8_totalWith_5 (kMod_1 hW.1) (nMod_1 hW.1) (⟨by decide, by decide⟩) (congrFun hW.2.1 _) ?_
  refine a_istore_n dX8_totalWith_6 rfl (Nat.le_of_ble_eq_true rfl) (ls' := [vR a0, vI x1, vI (M 1), vU, vU]) rfl ?_
  refine a_aload_n dX8_totalWith_7 rfl rfl ?_
  refine a_getR dX8_totalWith_8 fw_RX8_9 rfl rfl (kMod_0 hW.1) (rMod_0_0 hW.1) ?_
  refine a_iconst dX8_totalWith_11 ⟨by decide, by decide⟩ ?_
  refine a_iload_n dX8_totalWith_12 rfl rfl ?_
  refine b_iast dX8_totalWith_13 (kMod_1 hW.1) (nMod_1 hW.1) (⟨by decide, by decide⟩) ?_
  have h_r0_1 := Lay.wr hW.1 ok_Mod (nrf_arr (kMod_1 hW.1) (by decide) (by decide)) (i := 1) (x := x1)
  generalize e_H1 : hs H (a0 + 1) 1 x1 = H1 at h_r0_1 ⊢
  replace h := h H1 e_H1.symm
  obtain ⟨M1, e_M1⟩ : ∃ M1 : Row, M1 = upM M 1 x1 := ⟨_, rfl⟩
  replace h := h M1 e_M1
  have row_H1 : rowM H1 a0 = M1 := by rw [← e_H1, rowM_hs, hW.2.1, e_M1]
  refine a_aload_n dX8_totalWith_14 rfl rfl ?_
  refine a_iconst dX8_totalWith_15 ⟨by decide, by decide⟩ ?_
  refine a_putZ dX8_totalWith_16 fp_RX8_63 rfl rfl (kMod_0 h_r0_1) (by decide) ?_
  have h_r0_2 := Lay.wr h_r0_1 ok_Mod (nrf_fld 13 (kMod_0 h_r0_1) (by decide) (by decide)) (i := 13) (x := 0)
  generalize e_H2 : hs H1 a0 13 0 = H2 at h_r0_2 ⊢
  replace h := h H2 e_H2.symm
  have row_H2 := (show rowM H2 a0 = _ from by rw [← e_H2, rowM_ne (by omega), row_H1])
  refine a_aload_n dX8_totalWith_19 rfl rfl ?_
  obtain ⟨q20_0, h⟩ := h
  refine a_callV dX8_totalWith_20 cw_X8_totalWith_20 (as := []) rfl rfl (kMod_0 h_r0_2) (Nat.le_refl _) (Nat.le_of_ble_eq_true rfl) (nocov rfl) (Nat.le_of_ble_eq_true rfl) (Nat.le_of_ble_eq_true rfl) (CL.mono (c_total (show MW H2 a0 M1 from ⟨h_r0_2, row_H2, q20_0⟩) ) (fun r9 H3 h9 => ?_))
  obtain ⟨e9, o_H3, hW_H3⟩ := h9
  rw [e9]
  replace h := h H3 o_H3 hW_H3
  show AW l G mX8_totalWith (d + 1) 0 0 Q 23 [vR a0, vI x1, vI (M 1), vU, vU] [vJ (totM M1)] 0 0 H3
  refine a_lstore_n dX8_totalWith_23 rfl (Nat.le_of_ble_eq_true rfl) (ls' := [vR a0, vI x1, vI (M 1), vJ (totM M1), vU]) rfl ?_
  refine a_aload_n dX8_totalWith_24 rfl rfl ?_
  refine a_getR dX8_totalWith_25 fw_RX8_9 rfl rfl (kMod_0 hW_H3.1) (rMod_0_0 hW_H3.1) ?_
  refine a_iconst dX8_totalWith_28 ⟨by decide, by decide⟩ ?_
  refine a_iload_n dX8_totalWith_29 rfl rfl ?_
  refine b_iast dX8_totalWith_30 (kMod_1 hW_H3.1) (nMod_1 hW_H3.1) (⟨by decide, by decide⟩) ?_
  have h_r0_4 := Lay.wr hW_H3.1 ok_Mod (nrf_arr (kMod_1 hW_H3.1) (by decide) (by decide)) (i := 1) (x := (M 1))
  generalize e_H4 : hs H3 (a0 + 1) 1 (M 1) = H4 at h_r0_4 ⊢
  replace h := h H4 e_H4.symm
  obtain ⟨M4, e_M4⟩ : ∃ M4 : Row, M4 = upM M1 1 (M 1) := ⟨_, rfl⟩
  replace h := h M4 e_M4
  have row_H4 : rowM H4 a0 = M4 := by rw [← e_H4, rowM_hs, hW_H3.2.1, e_M4]
  refine a_aload_n dX8_totalWith_31 rfl rfl ?_
  refine a_iconst dX8_totalWith_32 ⟨by decide, by decide⟩ ?_
  refine a_putZ dX8_totalWith_33 fp_RX8_63 rfl rfl (kMod_0 h_r0_4) (by decide) ?_
  have h_r0_5 := Lay.wr h_r0_4 ok_Mod (nrf_fld 13 (kMod_0 h_r0_4) (by decide) (by decide)) (i := 13) (x := 0)
  generalize e_H5 : hs H4 a0 13 0 = H5 at h_r0_5 ⊢
  replace h := h H5 e_H5.symm
  have row_H5 := (show rowM H5 a0 = _ from by rw [← e_H5, rowM_ne (by omega), row_H4])
  refine a_lload_n dX8_totalWith_36 rfl rfl ?_
  exact a_lret dX8_totalWith_37 rfl (Nat.le_of_ble_eq_true rfl) (Nat.le_of_ble_eq_true rfl) h

theorem upM_back {M : Row} {k x : Int} : upM (upM M k x) k (M k) = M := by
  funext j
  unfold upM
  by_cases e : j = k
  · rw [if_pos e, e]
  · rw [if_neg e, if_neg e]
theorem upM_up {M : Row} {k x y : Int} : upM (upM M k x) k y = upM M k y := by
  funext j
  unfold upM
  by_cases e : j = k
  · rw [if_pos e, if_pos e]
  · rw [if_neg e, if_neg e, if_neg e]
theorem upM_self {M : Row} {k : Int} : upM M k (M k) = M := by
  funext j
  unfold upM
  by_cases e : j = k
  · rw [if_pos e, e]
  · rw [if_neg e]
theorem tot_in {M : Row} (hM : okM M) : 0 ≤ totM M ∧ totM M ≤ 120000000000 := by
  have hn := okM_n hM
  have := sm_in (f := fun k => cNow M k) (lo := 0) (hi := 5000000000) (n := (M 6).toNat) (fun k hk => cNow_in hM ⟨by omega, by omega⟩)
  unfold totM
  omega
theorem c_totalWith {l : Launch} {G : GT} {d : Nat} {H : AH} {a : Int} {M : Row} {x : Int} (hW : MW H a M) (hx : 0 ≤ x ∧ x ≤ 4) (hd : 18 ≤ d := by omega) : CL l G mX8_totalWith d 0 0 [vR a, vI x] H (fun r H' => r = vJ (totM (upM M 1 x)) ∧ only H H' (pMt a) ∧ MW H' a M) := by
  obtain ⟨d, rfl⟩ : ∃ k, d = k + 1 := ⟨d - 1, by omega⟩
  have hM := hW.2.2.1
  refine CL.of (by decide) rfl (Nat.le_of_ble_eq_true rfl) (s_X8_totalWith_0 hW fun H1 e1 M1 eM1 H2 e2 => ?_)
  have x2 := mx2 hW.1 hW.2.1 e1 e2
  rw [← eM1] at x2
  refine ⟨⟨by rw [eM1]; exact okM_shift hM hx, x2.mk⟩, fun H3 o3 w3 H4 e4 M4 eM4 H5 e5 => ?_⟩
  have x5 := mx2 w3.1 w3.2.1 e4 e5
  rw [eM1, upM_back] at x5
  exact ⟨by rw [eM1], (x2.1.trans (o3.mono pMks_mt)).trans x5.1, x5.mw hM⟩

theorem dX8_costWithShift_0 : decode cX8_costWithShift 0 = .ok (.aload_n 0, 1) := by decide +kernel
theorem dX8_costWithShift_1 : decode cX8_costWithShift 1 = .ok (.iload_n 1, 1) := by decide +kernel
theorem dX8_costWithShift_2 : decode cX8_costWithShift 2 = .ok (.iconst 0, 1) := by decide +kernel
theorem dX8_costWithShift_3 : decode cX8_costWithShift 3 = .ok (.iconst 4, 1) := by decide +kernel
theorem dX8_costWithShift_4 : decode cX8_costWithShift 4 = .ok (.invokestatic 67, 3) := by decide +kernel
theorem dX8_costWithShift_7 : decode cX8_costWithShift 7 = .ok (.invokevirtual 78, 3) := by decide +kernel
theorem dX8_costWithShift_10 : decode cX8_costWithShift 10 = .ok (.ifCond .ne 5, 3) := by decide +kernel
theorem dX8_costWithShift_13 : decode cX8_costWithShift 13 = .ok (.lconst 0, 1) := by decide +kernel
theorem dX8_costWithShift_14 : decode cX8_costWithShift 14 = .ok (.lreturn, 1) := by decide +kernel
theorem dX8_costWithShift_15 : decode cX8_costWithShift 15 = .ok (.aload_n 0, 1) := by decide +kernel
theorem dX8_costWithShift_16 : decode cX8_costWithShift 16 = .ok (.iload_n 1, 1) := by decide +kernel
theorem dX8_costWithShift_17 : decode cX8_costWithShift 17 = .ok (.invokevirtual 344, 3) := by decide +kernel
theorem dX8_costWithShift_20 : decode cX8_costWithShift 20 = .ok (.lreturn, 1) := by decide +kernel
set_option maxRecDepth 20000 in
theorem s_X8_costWithShift_0 {l : Launch} {G : GT} {d : Nat} {Q : AV → AH → Prop} {H : AH} {a0 x1 : Int} {M : Row} (hW : MW H a0 M) (h : ∀ H1 : AH, H1 = hs H a0 5 (1 - (bi (decide (0 ≤ x1 ∧ x1 ≤ 4)))) → (0 ≤ x1 ∧ x1 ≤ 4 → (0 ≤ x1 ∧ x1 ≤ 4) ∧ ∀ H2 : AH, only H1 H2 (pMt a0) → MW H2 a0 M → Q (vJ (totM (upM M 1 x1))) H2) ∧ (¬ (0 ≤ x1 ∧ x1 ≤ 4) → Q (vJ 0) H1)) (hd : 18 ≤ d := by omega) : AW l G mX8_costWithShift (d + 1) 0 0 Q 0 [vR a0, vI x1] [] 0 0 H := by
  refine a_aload_n dX8_costWithShift_0 rfl rfl ?_
  refine a_iload_n dX8_costWithShift_1 rfl rfl ?_
  refine a_iconst dX8_costWithShift_2 ⟨by decide, by decide⟩ ?_
  refine a_iconst dX8_costWithShift_3 ⟨by decide, by decide⟩ ?_
  refine a_callS dX8_costWithShift_4 cw_X8_costWithShift_4 (as := [vI x1, vI 0, vI 4]) rfl rfl (Nat.le_refl _) (Nat.le_of_ble_eq_true rfl) (nocov rfl) (Nat.le_of_ble_eq_true rfl) (Nat.le_of_ble_eq_true rfl) (CL.mono (c_in  ) (fun r9 H9 h9 => ?_))
  rw [h9.1, h9.2]
  (try rw [hW.2.1])
  show AW l G mX8_costWithShift (d + 1) 0 0 Q 7 [vR a0, vI x1] [vI (bi (decide (0 ≤ x1 ∧ x1 ≤ 4))), vR a0] 0 0 H
  refine a_callV dX8_costWithShift_7 cw_X8_costWithShift_7 (as := [vI (bi (decide (0 ≤ x1 ∧ x1 ≤ 4)))]) rfl rfl (kMod_0 hW.1) (Nat.le_refl _) (Nat.le_of_ble_eq_true rfl) (nocov rfl) (Nat.le_of_ble_eq_true rfl) (Nat.le_of_ble_eq_true rfl) (CL.mono (c_isNumber hW.1 (bi_01 _)) (fun r9 H9 h9 => ?_))
  rw [h9.1, h9.2]
  (try rw [hW.2.1])
  have h_r0_1 := Lay.wr hW.1 ok_Mod (nrf_fld 5 (kMod_0 hW.1) (by decide) (by decide)) (i := 5) (x := (1 - (bi (decide (0 ≤ x1 ∧ x1 ≤ 4)))))
  generalize e_H1 : hs H a0 5 (1 - (bi (decide (0 ≤ x1 ∧ x1 ≤ 4)))) = H1 at h_r0_1 ⊢
  replace h := h H1 e_H1.symm
  have row_H1 := (show rowM H1 a0 = _ from by rw [← e_H1, rowM_ne (by omega), hW.2.1])
  have mk_H1 := (show okM _ ∧ mkd H1 a0 from by rw [← e_H1]; exact ⟨hW.2.2.1, mkd_wr hW.2.2.2 (by omega) (by omega) (by omega)⟩)
  show AW l G mX8_costWithShift (d + 1) 0 0 Q 10 [vR a0, vI x1] [vI (bi (decide (0 ≤ x1 ∧ x1 ≤ 4)))] 0 0 H1
  refine a_if_ne dX8_costWithShift_10 (tgt := 15) rfl (fun c10 => ?_) (fun c10 => ?_)
  · replace h := h.1 (bi_1 c10)
    refine a_aload_n dX8_costWithShift_15 rfl rfl ?_
    refine a_iload_n dX8_costWithShift_16 rfl rfl ?_
    obtain ⟨q17_0, h⟩ := h
    refine a_callV dX8_costWithShift_17 cw_X8_costWithShift_17 (as := [vI x1]) rfl rfl (kMod_0 h_r0_1) (Nat.le_refl _) (Nat.le_of_ble_eq_true rfl) (nocov rfl) (Nat.le_of_ble_eq_true rfl) (Nat.le_of_ble_eq_true rfl) (CL.mono (c_totalWith (show MW H1 a0 M from ⟨h_r0_1, row_H1, mk_H1⟩) q17_0) (fun r9 H2 h9 => ?_))
    obtain ⟨e9, o_H2, hX_H2⟩ := h9
    rw [e9]
    replace h := h H2 o_H2 hX_H2
    show AW l G mX8_costWithShift (d + 1) 0 0 Q 20 [vR a0, vI x1] [vJ (totM (upM M 1 x1))] 0 0 H2
    exact a_lret dX8_costWithShift_20 rfl (Nat.le_of_ble_eq_true rfl) (Nat.le_of_ble_eq_true rfl) h
  · replace h := h.2 (bi_0 c10)
    refine a_lconst dX8_costWithShift_13 ?_
    show AW l G mX8_costWithShift (d + 1) 0 0 Q 14 [vR a0, vI x1] [vJ 0] 0 0 H1
    exact a_lret dX8_costWithShift_14 rfl (Nat.le_of_ble_eq_true rfl) (Nat.le_of_ble_eq_true rfl) h

noncomputable def vCWS (M : Row) (x : Int) : Int := if 0 ≤ x ∧ x ≤ 4 then totM (upM M 1 x) else 0
theorem c_costWithShift {l : Launch} {G : GT} {d : Nat} {H : AH} {a : Int} {M : Row} {x : Int} (hW : MW H a M) (hd : 19 ≤ d := by omega) : CL l G mX8_costWithShift d 0 0 [vR a, vI x] H (mutP a M (vJ (vCWS M x)) (1 - bi (decide (0 ≤ x ∧ x ≤ 4))) H) := by
  obtain ⟨d, rfl⟩ : ∃ k, d = k + 1 := ⟨d - 1, by omega⟩
  exact CL.of (by decide) rfl (Nat.le_of_ble_eq_true rfl) (s_X8_costWithShift_0 hW fun H1 e1 => ⟨fun c => ⟨c, fun H2 o2 w2 => ⟨by rw [vCWS, if_pos c], pmx (pb_pm (pb1 hW e1)) o2 w2⟩⟩, fun c => ⟨by rw [vCWS, if_neg c], pb_pm (pb1 hW e1)⟩⟩)

theorem dX8_neededShift_0 : decode cX8_neededShift 0 = .ok (.aload_n 0, 1) := by decide +kernel
theorem dX8_neededShift_1 : decode cX8_neededShift 1 = .ok (.iconst 0, 1) := by decide +kernel
theorem dX8_neededShift_2 : decode cX8_neededShift 2 = .ok (.putfield 55, 3) := by decide +kernel
theorem dX8_neededShift_5 : decode cX8_neededShift 5 = .ok (.aload_n 0, 1) := by decide +kernel
theorem dX8_neededShift_6 : decode cX8_neededShift 6 = .ok (.iconst 4, 1) := by decide +kernel
theorem dX8_neededShift_7 : decode cX8_neededShift 7 = .ok (.invokevirtual 344, 3) := by decide +kernel
theorem dX8_neededShift_10 : decode cX8_neededShift 10 = .ok (.lstore_n 1, 1) := by decide +kernel
theorem dX8_neededShift_11 : decode cX8_neededShift 11 = .ok (.iconst 0, 1) := by decide +kernel
theorem dX8_neededShift_12 : decode cX8_neededShift 12 = .ok (.istore_n 3, 1) := by decide +kernel
theorem dX8_neededShift_13 : decode cX8_neededShift 13 = .ok (.aload_n 0, 1) := by decide +kernel
theorem dX8_neededShift_14 : decode cX8_neededShift 14 = .ok (.iload_n 3, 1) := by decide +kernel
theorem dX8_neededShift_15 : decode cX8_neededShift 15 = .ok (.invokevirtual 344, 3) := by decide +kernel
theorem dX8_neededShift_18 : decode cX8_neededShift 18 = .ok (.lload_n 1, 1) := by decide +kernel
theorem dX8_neededShift_19 : decode cX8_neededShift 19 = .ok (.lcmp, 1) := by decide +kernel
theorem dX8_neededShift_20 : decode cX8_neededShift 20 = .ok (.ifCond .le 9, 3) := by decide +kernel
theorem dX8_neededShift_23 : decode cX8_neededShift 23 = .ok (.iinc 3 1, 3) := by decide +kernel
theorem dX8_neededShift_26 : decode cX8_neededShift 26 = .ok (.goto (-13), 3) := by decide +kernel
theorem dX8_neededShift_29 : decode cX8_neededShift 29 = .ok (.iload_n 3, 1) := by decide +kernel
theorem dX8_neededShift_30 : decode cX8_neededShift 30 = .ok (.ireturn, 1) := by decide +kernel
set_option maxRecDepth 20000 in
theorem s_X8_neededShift_0 {l : Launch} {G : GT} {d : Nat} {Q : AV → AH → Prop} {H : AH} {a0 : Int} {M : Row} (hW : MW H a0 M) (h : ∀ H1 : AH, H1 = hs H a0 5 0 → ∀ H2 : AH, only H1 H2 (pMt a0) → MW H2 a0 M → AW l G mX8_neededShift (d + 1) 0 0 Q 13 [vR a0, vJ (totM (upM M 1 4)), vU, vI 0] [] 0 0 H2) (hd : 18 ≤ d := by omega) : AW l G mX8_neededShift (d + 1) 0 0 Q 0 [vR a0, vU, vU, vU] [] 0 0 H := by
  refine a_aload_n dX8_neededShift_0 rfl rfl ?_
  refine a_iconst dX8_neededShift_1 ⟨by decide, by decide⟩ ?_
  refine a_putI dX8_neededShift_2 fp_RX8_55 rfl rfl (kMod_0 hW.1) ?_
  have h_r0_1 := Lay.wr hW.1 ok_Mod (nrf_fld 5 (kMod_0 hW.1) (by decide) (by decide)) (i := 5) (x := 0)
  generalize e_H1 : hs H a0 5 0 = H1 at h_r0_1 ⊢
  replace h := h H1 e_H1.symm
  have row_H1 := (show rowM H1 a0 = _ from by rw [← e_H1, rowM_ne (by omega), hW.2.1])
  have mk_H1 := (show okM _ ∧ mkd H1 a0 from by rw [← e_H1]; exact ⟨hW.2.2.1, mkd_wr hW.2.2.2 (by omega) (by omega) (by omega)⟩)
  refine a_aload_n dX8_neededShift_5 rfl rfl ?_
  refine a_iconst dX8_neededShift_6 ⟨by decide, by decide⟩ ?_
  refine a_callV dX8_neededShift_7 cw_X8_neededShift_7 (as := [vI 4]) rfl rfl (kMod_0 h_r0_1) (Nat.le_refl _) (Nat.le_of_ble_eq_true rfl) (nocov rfl) (Nat.le_of_ble_eq_true rfl) (Nat.le_of_ble_eq_true rfl) (CL.mono (c_totalWith (show MW H1 a0 M from ⟨h_r0_1, row_H1, mk_H1⟩) (⟨by decide, by decide⟩)) (fun r9 H2 h9 => ?_))
  obtain ⟨e9, o_H2, hX_H2⟩ := h9
  rw [e9]
  replace h := h H2 o_H2 hX_H2
  show AW l G mX8_neededShift (d + 1) 0 0 Q 10 [vR a0, vU, vU, vU] [vJ (totM (upM M 1 4))] 0 0 H2
  refine a_lstore_n dX8_neededShift_10 rfl (Nat.le_of_ble_eq_true rfl) (ls' := [vR a0, vJ (totM (upM M 1 4)), vU, vU]) rfl ?_
  refine a_iconst dX8_neededShift_11 ⟨by decide, by decide⟩ ?_
  refine a_istore_n dX8_neededShift_12 rfl (Nat.le_of_ble_eq_true rfl) (ls' := [vR a0, vJ (totM (upM M 1 4)), vU, vI 0]) rfl ?_
  exact h

set_option maxRecDepth 20000 in
theorem s_X8_neededShift_13 {l : Launch} {G : GT} {d : Nat} {Q : AV → AH → Prop} {H : AH} {a0 x1 x3 : Int} {M : Row} (hW : MW H a0 M) (h : (0 ≤ x3 ∧ x3 ≤ 4) ∧ ∀ H1 : AH, only H H1 (pMt a0) → MW H1 a0 M → ((totM (upM M 1 x3)) ≤ x1 → Q (vI x3) H1) ∧ (x1 < (totM (upM M 1 x3)) → (-2147483648 ≤ x3 + 1 ∧ x3 + 1 ≤ 2147483647) ∧ AW l G mX8_neededShift (d + 1) 0 0 Q 13 [vR a0, vJ x1, vU, vI (x3 + 1)] [] 0 0 H1)) (hd : 18 ≤ d := by omega) : AW l G mX8_neededShift (d + 1) 0 0 Q 13 [vR a0, vJ x1, vU, vI x3] [] 0 0 H := by
  refine a_aload_n dX8_neededShift_13 rfl rfl ?_
  refine a_iload_n dX8_neededShift_14 rfl rfl ?_
  obtain ⟨q15_0, h⟩ := h
  refine a_callV dX8_neededShift_15 cw_X8_neededShift_15 (as := [vI x3]) rfl rfl (kMod_0 hW.1) (Nat.le_refl _) (Nat.le_of_ble_eq_true rfl) (nocov rfl) (Nat.le_of_ble_eq_true rfl) (Nat.le_of_ble_eq_true rfl) (CL.mono (c_totalWith (show MW H a0 M from ⟨hW.1, hW.2.1, hW.2.2⟩) q15_0) (fun r9 H1 h9 => ?_))
  obtain ⟨e9, o_H1, hX_H1⟩ := h9
  rw [e9]
  replace h := h H1 o_H1 hX_H1
  show AW l G mX8_neededShift (d + 1) 0 0 Q 18 [vR a0, vJ x1, vU, vI x3] [vJ (totM (upM M 1 x3))] 0 0 H1
  refine a_lload_n dX8_neededShift_18 rfl rfl ?_
  refine a_lcmp_le dX8_neededShift_19 dX8_neededShift_20 (tgt := 29) rfl (fun c19 => ?_) (fun c19 => ?_)
  · replace h := h.1 c19
    refine a_iload_n dX8_neededShift_29 rfl rfl ?_
    exact a_iret dX8_neededShift_30 rfl (Nat.le_of_ble_eq_true rfl) (Nat.le_of_ble_eq_true rfl) h
  · replace h := h.2 c19
    obtain ⟨q23_0, h⟩ := h
    refine a_iinc dX8_neededShift_23 rfl (Nat.le_of_ble_eq_true rfl) (by decide) q23_0 (ls' := [vR a0, vJ x1, vU, vI (x3 + 1)]) rfl ?_
    refine a_goto dX8_neededShift_26 (tgt := 13) rfl ?_
    exact h

def nsP (M : Row) (s : Nat) : Prop := totM (upM M 1 s) ≤ totM (upM M 1 4)
noncomputable def vNeed (M : Row) : Int := fndP (nsP M) 5
theorem c_neededShift {l : Launch} {G : GT} {d : Nat} {H : AH} {a : Int} {M : Row} (hW : MW H a M) (hd : 19 ≤ d := by omega) : CL l G mX8_neededShift d 0 0 [vR a] H (mutP a M (vI (vNeed M)) 0 H) := by
  obtain ⟨d, rfl⟩ : ∃ k, d = k + 1 := ⟨d - 1, by omega⟩
  refine CL.of (by decide) rfl (Nat.le_of_ble_eq_true rfl) (s_X8_neededShift_0 hW fun H1 e1 H2 o2 w2 => ?_)
  have key : ∀ j, j ≤ 4 → ∀ H', pmW a M 0 H H' → (∀ k, k < j → ¬ nsP M k) → AW l G mX8_neededShift (d + 1) 0 0 (mutP a M (vI (vNeed M)) 0 H) 13 [vR a, vJ (totM (upM M 1 4)), vU, vI j] [] 0 0 H' := by
    refine upN _ ?_ ?_
    · intro j hj ih H' hb hno
      refine s_X8_neededShift_13 hb.2.2 ⟨by omega, fun H3 o3 w3 => ⟨fun c => ⟨?_, pmx hb o3 w3⟩, fun c => ⟨by omega, ih H3 (pmx hb o3 w3) (fun k hk q => ?_)⟩⟩⟩
      · rw [vNeed, fndP_hit hno c (by omega)]
      · by_cases hkj : k = j
        · subst hkj; unfold nsP at q; omega
        · exact hno k (by omega) q
    · intro H' hb hno
      refine s_X8_neededShift_13 hb.2.2 ⟨by omega, fun H3 o3 w3 => ⟨fun c => ⟨?_, pmx hb o3 w3⟩, fun c => ?_⟩⟩
      · rw [vNeed, fndP_hit hno (Int.le_refl _) (by omega)]
      · exact absurd (show totM (upM M 1 4) < totM (upM M 1 4) from c) (by omega)
  exact key 0 (Nat.zero_le _) H2 (pmx (pb_pm (pb1 hW e1)) o2 w2) (fun k hk => by omega)

theorem dX8_totalIf_0 : decode cX8_totalIf 0 = .ok (.aload_n 0, 1) := by decide +kernel
theorem dX8_totalIf_1 : decode cX8_totalIf 1 = .ok (.iload_n 1, 1) := by decide +kernel
theorem dX8_totalIf_2 : decode cX8_totalIf 2 = .ok (.bipush 6, 2) := by decide +kernel
theorem dX8_totalIf_4 : decode cX8_totalIf 4 = .ok (.invokevirtual 75, 3) := by decide +kernel
theorem dX8_totalIf_7 : decode cX8_totalIf 7 = .ok (.istore_n 3, 1) := by decide +kernel
theorem dX8_totalIf_8 : decode cX8_totalIf 8 = .ok (.aload_n 0, 1) := by decide +kernel
theorem dX8_totalIf_9 : decode cX8_totalIf 9 = .ok (.iload_n 1, 1) := by decide +kernel
theorem dX8_totalIf_10 : decode cX8_totalIf 10 = .ok (.bipush 6, 2) := by decide +kernel
theorem dX8_totalIf_12 : decode cX8_totalIf 12 = .ok (.iload_n 2, 1) := by decide +kernel
theorem dX8_totalIf_13 : decode cX8_totalIf 13 = .ok (.invokevirtual 315, 3) := by decide +kernel
theorem dX8_totalIf_16 : decode cX8_totalIf 16 = .ok (.aload_n 0, 1) := by decide +kernel
theorem dX8_totalIf_17 : decode cX8_totalIf 17 = .ok (.invokevirtual 287, 3) := by decide +kernel
theorem dX8_totalIf_20 : decode cX8_totalIf 20 = .ok (.lstore 4, 2) := by decide +kernel
theorem dX8_totalIf_22 : decode cX8_totalIf 22 = .ok (.aload_n 0, 1) := by decide +kernel
theorem dX8_totalIf_23 : decode cX8_totalIf 23 = .ok (.iload_n 1, 1) := by decide +kernel
theorem dX8_totalIf_24 : decode cX8_totalIf 24 = .ok (.bipush 6, 2) := by decide +kernel
theorem dX8_totalIf_26 : decode cX8_totalIf 26 = .ok (.iload_n 3, 1) := by decide +kernel
theorem dX8_totalIf_27 : decode cX8_totalIf 27 = .ok (.invokevirtual 315, 3) := by decide +kernel
theorem dX8_totalIf_30 : decode cX8_totalIf 30 = .ok (.lload 4, 2) := by decide +kernel
theorem dX8_totalIf_32 : decode cX8_totalIf 32 = .ok (.lreturn, 1) := by decide +kernel
set_option maxRecDepth 20000 in
theorem s_X8_totalIf_0 {l : Launch} {G : GT} {d : Nat} {Q : AV → AH → Prop} {H : AH} {a0 x1 x2 : Int} {M : Row} (hW : MW H a0 M) (h : (0 ≤ x1 ∧ x1 < 24) ∧ ∀ H1 : AH, ∀ M1 : Row, M1 = upM M (56 + 16 * x1 + 6) x2 → MX H H1 a0 M1 → (okM M1 ∧ mkd H1 a0) ∧ ∀ H2 : AH, only H1 H2 (pMks a0) → MW H2 a0 M1 → ∀ H3 : AH, ∀ M3 : Row, M3 = upM M1 (56 + 16 * x1 + 6) (ofM M x1 6) → MX H2 H3 a0 M3 → Q (vJ (totM M1)) H3) (hd : 17 ≤ d := by omega) : AW l G mX8_totalIf (d + 1) 0 0 Q 0 [vR a0, vI x1, vI x2, vU, vU, vU] [] 0 0 H := by
  refine a_aload_n dX8_totalIf_0 rfl rfl ?_
  refine a_iload_n dX8_totalIf_1 rfl rfl ?_
  refine a_bipush dX8_totalIf_2 (by decide) ?_
  obtain ⟨q4_0, h⟩ := h
  refine a_callV dX8_totalIf_4 cw_X8_totalIf_4 (as := [vI x1, vI 6]) rfl rfl (kMod_0 hW.1) (Nat.le_refl _) (Nat.le_of_ble_eq_true rfl) (nocov rfl) (Nat.le_of_ble_eq_true rfl) (Nat.le_of_ble_eq_true rfl) (CL.mono (c_of hW.1 ⟨q4_0.1, q4_0.2, by decide, by decide⟩) (fun r9 H9 h9 => ?_))
  rw [h9.1, h9.2]
  (try rw [hW.2.1])
  show AW l G mX8_totalIf (d + 1) 0 0 Q 7 [vR a0, vI x1, vI x2, vU, vU, vU] [vI (ofM M x1 6)] 0 0 H
  refine a_istore_n dX8_totalIf_7 rfl (Nat.le_of_ble_eq_true rfl) (ls' := [vR a0, vI x1, vI x2, vI (ofM M x1 6), vU, vU]) rfl ?_
  refine a_aload_n dX8_totalIf_8 rfl rfl ?_
  refine a_iload_n dX8_totalIf_9 rfl rfl ?_
  refine a_bipush dX8_totalIf_10 (by decide) ?_
  refine a_iload_n dX8_totalIf_12 rfl rfl ?_
  refine a_callV dX8_totalIf_13 cw_X8_totalIf_13 (as := [vI x1, vI 6, vI x2]) rfl rfl (kMod_0 hW.1) (Nat.le_refl _) (Nat.le_of_ble_eq_true rfl) (nocov rfl) (Nat.le_of_ble_eq_true rfl) (Nat.le_of_ble_eq_true rfl) (CL.mono (c_setsX hW.1 hW.2.1 ⟨q4_0.1, q4_0.2, by decide, by decide⟩) (fun r9 H1 h9 => ?_))
  obtain ⟨e9, hX_H1⟩ := h9
  rw [e9]
  obtain ⟨M1, e_M1⟩ : ∃ M1 : Row, M1 = upM M (56 + 16 * x1 + 6) x2 := ⟨_, rfl⟩
  rw [← e_M1] at hX_H1
  replace h := h H1 M1 e_M1 hX_H1
  show AW l G mX8_totalIf (d + 1) 0 0 Q 16 [vR a0, vI x1, vI x2, vI (ofM M x1 6), vU, vU] [] 0 0 H1
  refine a_aload_n dX8_totalIf_16 rfl rfl ?_
  obtain ⟨q17_0, h⟩ := h
  refine a_callV dX8_totalIf_17 cw_X8_totalIf_17 (as := []) rfl rfl (kMod_0 hX_H1.2.1) (Nat.le_refl _) (Nat.le_of_ble_eq_true rfl) (nocov rfl) (Nat.le_of_ble_eq_true rfl) (Nat.le_of_ble_eq_true rfl) (CL.mono (c_total (show MW H1 a0 M1 from ⟨hX_H1.2.1, hX_H1.2.2.1, q17_0⟩) ) (fun r9 H2 h9 => ?_))
  obtain ⟨e9, o_H2, hW_H2⟩ := h9
  rw [e9]
  replace h := h H2 o_H2 hW_H2
  show AW l G mX8_totalIf (d + 1) 0 0 Q 20 [vR a0, vI x1, vI x2, vI (ofM M x1 6), vU, vU] [vJ (totM M1)] 0 0 H2
  refine a_lstore dX8_totalIf_20 (Nat.le_of_ble_eq_true rfl) (ls' := [vR a0, vI x1, vI x2, vI (ofM M x1 6), vJ (totM M1), vU]) rfl ?_
  refine a_aload_n dX8_totalIf_22 rfl rfl ?_
  refine a_iload_n dX8_totalIf_23 rfl rfl ?_
  refine a_bipush dX8_totalIf_24 (by decide) ?_
  refine a_iload_n dX8_totalIf_26 rfl rfl ?_
  refine a_callV dX8_totalIf_27 cw_X8_totalIf_27 (as := [vI x1, vI 6, vI (ofM M x1 6)]) rfl rfl (kMod_0 hW_H2.1) (Nat.le_refl _) (Nat.le_of_ble_eq_true rfl) (nocov rfl) (Nat.le_of_ble_eq_true rfl) (Nat.le_of_ble_eq_true rfl) (CL.mono (c_setsX hW_H2.1 hW_H2.2.1 ⟨q4_0.1, q4_0.2, by decide, by decide⟩) (fun r9 H3 h9 => ?_))
  obtain ⟨e9, hX_H3⟩ := h9
  rw [e9]
  obtain ⟨M3, e_M3⟩ : ∃ M3 : Row, M3 = upM M1 (56 + 16 * x1 + 6) (ofM M x1 6) := ⟨_, rfl⟩
  rw [← e_M3] at hX_H3
  replace h := h H3 M3 e_M3 hX_H3
  show AW l G mX8_totalIf (d + 1) 0 0 Q 30 [vR a0, vI x1, vI x2, vI (ofM M x1 6), vJ (totM M1), vU] [] 0 0 H3
  refine a_lload dX8_totalIf_30 rfl ?_
  exact a_lret dX8_totalIf_32 rfl (Nat.le_of_ble_eq_true rfl) (Nat.le_of_ble_eq_true rfl) h

theorem asg_back {M : Row} {f r : Int} : upM (asgM M f r) (56 + 16 * f + 6) (ofM M f 6) = M := upM_back
theorem c_totalIf {l : Launch} {G : GT} {d : Nat} {H : AH} {a : Int} {M : Row} {f r : Int} (hW : MW H a M) (h : okAs M f r) (hd : 18 ≤ d := by omega) : CL l G mX8_totalIf d 0 0 [vR a, vI f, vI r] H (fun v H' => v = vJ (totM (asgM M f r)) ∧ only H H' (pMt a) ∧ MW H' a M) := by
  obtain ⟨d, rfl⟩ : ∃ k, d = k + 1 := ⟨d - 1, by omega⟩
  have hM := hW.2.2.1
  have hn := okM_n hM
  have hf := h.1.1
  refine CL.of (by decide) rfl (Nat.le_of_ble_eq_true rfl) (s_X8_totalIf_0 hW ⟨by omega, fun H1 M1 e1 x1 => ⟨⟨by rw [e1]; exact okM_asg hM h, x1.mk⟩, fun H2 o2 w2 H3 M3 e3 x3 => ?_⟩⟩)
  have e1' : M1 = asgM M f r := e1
  rw [e3, e1', asg_back] at x3
  exact ⟨by rw [e1'], (x1.1.trans (o2.mono pMks_mt)).trans x3.1, x3.mw hM⟩

theorem dX8_costIfAssigned_0 : decode cX8_costIfAssigned 0 = .ok (.aload_n 0, 1) := by decide +kernel
theorem dX8_costIfAssigned_1 : decode cX8_costIfAssigned 1 = .ok (.iload_n 1, 1) := by decide +kernel
theorem dX8_costIfAssigned_2 : decode cX8_costIfAssigned 2 = .ok (.invokevirtual 71, 3) := by decide +kernel
theorem dX8_costIfAssigned_5 : decode cX8_costIfAssigned 5 = .ok (.ifCond .eq 11, 3) := by decide +kernel
theorem dX8_costIfAssigned_8 : decode cX8_costIfAssigned 8 = .ok (.aload_n 0, 1) := by decide +kernel
theorem dX8_costIfAssigned_9 : decode cX8_costIfAssigned 9 = .ok (.iload_n 2, 1) := by decide +kernel
theorem dX8_costIfAssigned_10 : decode cX8_costIfAssigned 10 = .ok (.invokevirtual 276, 3) := by decide +kernel
theorem dX8_costIfAssigned_13 : decode cX8_costIfAssigned 13 = .ok (.ifCond .ne 5, 3) := by decide +kernel
theorem dX8_costIfAssigned_16 : decode cX8_costIfAssigned 16 = .ok (.lconst 0, 1) := by decide +kernel
theorem dX8_costIfAssigned_17 : decode cX8_costIfAssigned 17 = .ok (.lreturn, 1) := by decide +kernel
theorem dX8_costIfAssigned_18 : decode cX8_costIfAssigned 18 = .ok (.aload_n 0, 1) := by decide +kernel
theorem dX8_costIfAssigned_19 : decode cX8_costIfAssigned 19 = .ok (.iload_n 1, 1) := by decide +kernel
theorem dX8_costIfAssigned_20 : decode cX8_costIfAssigned 20 = .ok (.iload_n 2, 1) := by decide +kernel
theorem dX8_costIfAssigned_21 : decode cX8_costIfAssigned 21 = .ok (.invokevirtual 335, 3) := by decide +kernel
theorem dX8_costIfAssigned_24 : decode cX8_costIfAssigned 24 = .ok (.istore_n 3, 1) := by decide +kernel
theorem dX8_costIfAssigned_25 : decode cX8_costIfAssigned 25 = .ok (.iload_n 3, 1) := by decide +kernel
theorem dX8_costIfAssigned_26 : decode cX8_costIfAssigned 26 = .ok (.ifCond .eq 8, 3) := by decide +kernel
theorem dX8_costIfAssigned_29 : decode cX8_costIfAssigned 29 = .ok (.iload_n 3, 1) := by decide +kernel
theorem dX8_costIfAssigned_30 : decode cX8_costIfAssigned 30 = .ok (.i2l, 1) := by decide +kernel
theorem dX8_costIfAssigned_31 : decode cX8_costIfAssigned 31 = .ok (.goto 9, 3) := by decide +kernel
theorem dX8_costIfAssigned_34 : decode cX8_costIfAssigned 34 = .ok (.aload_n 0, 1) := by decide +kernel
theorem dX8_costIfAssigned_35 : decode cX8_costIfAssigned 35 = .ok (.iload_n 1, 1) := by decide +kernel
theorem dX8_costIfAssigned_36 : decode cX8_costIfAssigned 36 = .ok (.iload_n 2, 1) := by decide +kernel
theorem dX8_costIfAssigned_37 : decode cX8_costIfAssigned 37 = .ok (.invokevirtual 347, 3) := by decide +kernel
theorem dX8_costIfAssigned_40 : decode cX8_costIfAssigned 40 = .ok (.lreturn, 1) := by decide +kernel
set_option maxRecDepth 20000 in
theorem s_X8_costIfAssigned_0 {l : Launch} {G : GT} {d : Nat} {Q : AV → AH → Prop} {H : AH} {a0 x1 x2 : Int} {M : Row} (hW : MW H a0 M) (h : (0 ≤ M 6 ∧ M 6 ≤ 24) ∧ ∀ H1 : AH, H1 = hs H a0 5 (1 - bi (decide (0 ≤ x1 ∧ x1 < M 6))) → (¬ (0 ≤ x1 ∧ x1 < M 6) → Q (vJ 0) H1) ∧ (0 ≤ x1 ∧ x1 < M 6 → (0 ≤ M 5 ∧ M 5 ≤ 3) ∧ ∀ H2 : AH, H2 = hs H1 a0 5 (1 - bi (decide (0 ≤ x2 ∧ x2 < M 5))) → (0 ≤ x2 ∧ x2 < M 5 → (0 ≤ x1 ∧ x1 < 24) ∧ (0 ≤ x2 ∧ x2 < 3) ∧ ((refuM M x1 x2) = 0 → (okAs M x1 x2) ∧ ∀ H3 : AH, only H2 H3 (pMt a0) → MW H3 a0 M → Q (vJ (totM (asgM M x1 x2))) H3) ∧ (¬ (refuM M x1 x2) = 0 → Q (vJ (refuM M x1 x2)) H2)) ∧ (¬ (0 ≤ x2 ∧ x2 < M 5) → Q (vJ 0) H2))) (hd : 18 ≤ d := by omega) : AW l G mX8_costIfAssigned (d + 1) 0 0 Q 0 [vR a0, vI x1, vI x2, vU] [] 0 0 H := by
  refine a_aload_n dX8_costIfAssigned_0 rfl rfl ?_
  refine a_iload_n dX8_costIfAssigned_1 rfl rfl ?_
  obtain ⟨q2_0, h⟩ := h
  refine a_callV dX8_costIfAssigned_2 cw_X8_costIfAssigned_2 (as := [vI x1]) rfl rfl (kMod_0 hW.1) (Nat.le_refl _) (Nat.le_of_ble_eq_true rfl) (nocov rfl) (Nat.le_of_ble_eq_true rfl) (Nat.le_of_ble_eq_true rfl) (CL.mono (c_isFlight hW.1 (by rw [hW.2.1]; exact q2_0)) (fun r9 H9 h9 => ?_))
  rw [h9.1, h9.2]
  (try rw [hW.2.1])
  have h_r0_1 := Lay.wr hW.1 ok_Mod (nrf_fld 5 (kMod_0 hW.1) (by decide) (by decide)) (i := 5) (x := (1 - bi (decide (0 ≤ x1 ∧ x1 < M 6))))
  generalize e_H1 : hs H a0 5 (1 - bi (decide (0 ≤ x1 ∧ x1 < M 6))) = H1 at h_r0_1 ⊢
  replace h := h H1 e_H1.symm
  have row_H1 := (show rowM H1 a0 = _ from by rw [← e_H1, rowM_ne (by omega), hW.2.1])
  have mk_H1 := (show okM _ ∧ mkd H1 a0 from by rw [← e_H1]; exact ⟨hW.2.2.1, mkd_wr hW.2.2.2 (by omega) (by omega) (by omega)⟩)
  show AW l G mX8_costIfAssigned (d + 1) 0 0 Q 5 [vR a0, vI x1, vI x2, vU] [vI (bi (decide (0 ≤ x1 ∧ x1 < M 6)))] 0 0 H1
  refine a_if_eq dX8_costIfAssigned_5 (tgt := 16) rfl (fun c5 => ?_) (fun c5 => ?_)
  · replace h := h.1 (bi_0 c5)
    refine a_lconst dX8_costIfAssigned_16 ?_
    show AW l G mX8_costIfAssigned (d + 1) 0 0 Q 17 [vR a0, vI x1, vI x2, vU] [vJ 0] 0 0 H1
    exact a_lret dX8_costIfAssigned_17 rfl (Nat.le_of_ble_eq_true rfl) (Nat.le_of_ble_eq_true rfl) h
  · replace h := h.2 (bi_1 c5)
    refine a_aload_n dX8_costIfAssigned_8 rfl rfl ?_
    refine a_iload_n dX8_costIfAssigned_9 rfl rfl ?_
    obtain ⟨q10_0, h⟩ := h
    refine a_callV dX8_costIfAssigned_10 cw_X8_costIfAssigned_10 (as := [vI x2]) rfl rfl (kMod_0 h_r0_1) (Nat.le_refl _) (Nat.le_of_ble_eq_true rfl) (nocov rfl) (Nat.le_of_ble_eq_true rfl) (Nat.le_of_ble_eq_true rfl) (CL.mono (c_isRunway h_r0_1 (by rw [row_H1]; exact q10_0)) (fun r9 H9 h9 => ?_))
    rw [h9.1, h9.2]
    (try rw [row_H1])
    have h_r0_2 := Lay.wr h_r0_1 ok_Mod (nrf_fld 5 (kMod_0 h_r0_1) (by decide) (by decide)) (i := 5) (x := (1 - bi (decide (0 ≤ x2 ∧ x2 < M 5))))
    generalize e_H2 : hs H1 a0 5 (1 - bi (decide (0 ≤ x2 ∧ x2 < M 5))) = H2 at h_r0_2 ⊢
    replace h := h H2 e_H2.symm
    have row_H2 := (show rowM H2 a0 = _ from by rw [← e_H2, rowM_ne (by omega), row_H1])
    have mk_H2 := (show okM _ ∧ mkd H2 a0 from by rw [← e_H2]; exact ⟨mk_H1.1, mkd_wr mk_H1.2 (by omega) (by omega) (by omega)⟩)
    show AW l G mX8_costIfAssigned (d + 1) 0 0 Q 13 [vR a0, vI x1, vI x2, vU] [vI (bi (decide (0 ≤ x2 ∧ x2 < M 5)))] 0 0 H2
    refine a_if_ne dX8_costIfAssigned_13 (tgt := 18) rfl (fun c13 => ?_) (fun c13 => ?_)
    · replace h := h.1 (bi_1 c13)
      refine a_aload_n dX8_costIfAssigned_18 rfl rfl ?_
      refine a_iload_n dX8_costIfAssigned_19 rfl rfl ?_
      refine a_iload_n dX8_costIfAssigned_20 rfl rfl ?_
      obtain ⟨q21_0, h⟩ := h
      obtain ⟨q21_1, h⟩ := h
      refine a_callV dX8_costIfAssigned_21 cw_X8_costIfAssigned_21 (as := [vI x1, vI x2]) rfl rfl (kMod_0 h_r0_2) (Nat.le_refl _) (Nat.le_of_ble_eq_true rfl) (nocov rfl) (Nat.le_of_ble_eq_true rfl) (Nat.le_of_ble_eq_true rfl) (CL.mono (c_refusal h_r0_2 q21_0 q21_1) (fun r9 H9 h9 => ?_))
      rw [h9.1, h9.2]
      (try rw [row_H2])
      show AW l G mX8_costIfAssigned (d + 1) 0 0 Q 24 [vR a0, vI x1, vI x2, vU] [vI (refuM M x1 x2)] 0 0 H2
      refine a_istore_n dX8_costIfAssigned_24 rfl (Nat.le_of_ble_eq_true rfl) (ls' := [vR a0, vI x1, vI x2, vI (refuM M x1 x2)]) rfl ?_
      refine a_iload_n dX8_costIfAssigned_25 rfl rfl ?_
      refine a_if_eq dX8_costIfAssigned_26 (tgt := 34) rfl (fun c26 => ?_) (fun c26 => ?_)
      · replace h := h.1 c26
        refine a_aload_n dX8_costIfAssigned_34 rfl rfl ?_
        refine a_iload_n dX8_costIfAssigned_35 rfl rfl ?_
        refine a_iload_n dX8_costIfAssigned_36 rfl rfl ?_
        obtain ⟨q37_0, h⟩ := h
        refine a_callV dX8_costIfAssigned_37 cw_X8_costIfAssigned_37 (as := [vI x1, vI x2]) rfl rfl (kMod_0 h_r0_2) (Nat.le_refl _) (Nat.le_of_ble_eq_true rfl) (nocov rfl) (Nat.le_of_ble_eq_true rfl) (Nat.le_of_ble_eq_true rfl) (CL.mono (c_totalIf (show MW H2 a0 M from ⟨h_r0_2, row_H2, mk_H2⟩) q37_0) (fun r9 H3 h9 => ?_))
        obtain ⟨e9, o_H3, hX_H3⟩ := h9
        rw [e9]
        replace h := h H3 o_H3 hX_H3
        show AW l G mX8_costIfAssigned (d + 1) 0 0 Q 40 [vR a0, vI x1, vI x2, vI (refuM M x1 x2)] [vJ (totM (asgM M x1 x2))] 0 0 H3
        exact a_lret dX8_costIfAssigned_40 rfl (Nat.le_of_ble_eq_true rfl) (Nat.le_of_ble_eq_true rfl) h
      · replace h := h.2 c26
        refine a_iload_n dX8_costIfAssigned_29 rfl rfl ?_
        refine a_i2l dX8_costIfAssigned_30 ?_
        refine a_goto dX8_costIfAssigned_31 (tgt := 40) rfl ?_
        exact a_lret dX8_costIfAssigned_40 rfl (Nat.le_of_ble_eq_true rfl) (Nat.le_of_ble_eq_true rfl) h
    · replace h := h.2 (bi_0 c13)
      refine a_lconst dX8_costIfAssigned_16 ?_
      show AW l G mX8_costIfAssigned (d + 1) 0 0 Q 17 [vR a0, vI x1, vI x2, vU] [vJ 0] 0 0 H2
      exact a_lret dX8_costIfAssigned_17 rfl (Nat.le_of_ble_eq_true rfl) (Nat.le_of_ble_eq_true rfl) h

noncomputable def vCIA (M : Row) (f r : Int) : Int := if fl M f ∧ rl M r then (if refuM M f r = 0 then totM (asgM M f r) else refuM M f r) else 0
theorem c_costIfAssigned {l : Launch} {G : GT} {d : Nat} {H : AH} {a : Int} {M : Row} {f r : Int} (hW : MW H a M) (hd : 19 ≤ d := by omega) : CL l G mX8_costIfAssigned d 0 0 [vR a, vI f, vI r] H (mutP a M (vJ (vCIA M f r)) (1 - bi (decide (fl M f ∧ rl M r))) H) := by
  obtain ⟨d, rfl⟩ : ∃ k, d = k + 1 := ⟨d - 1, by omega⟩
  have hM := hW.2.2.1
  have hn := okM_n hM
  have hn5 := okM_5 hM
  refine CL.of (by decide) rfl (Nat.le_of_ble_eq_true rfl) (s_X8_costIfAssigned_0 hW ⟨by omega, fun H1 e1 => ⟨fun c => ?_, fun c => ⟨by omega, fun H2 e2 => ⟨fun c2 => ⟨by omega, by omega, fun c3 => ⟨⟨⟨c, c2⟩, c3⟩, fun H3 o3 w3 => ?_⟩, fun c3 => ?_⟩, fun c2 => ?_⟩⟩⟩⟩)
  · rw [vCIA, if_neg (fun q => c q.1), bi_f (fun q => c q.1)]
    rw [bi_f c] at e1
    exact ⟨rfl, pb_pm (pb1 hW e1)⟩
  · rw [vCIA, if_pos ⟨c, c2⟩, if_pos c3, bi_t ⟨c, c2⟩]
    rw [bi_t c2] at e2
    exact ⟨rfl, pmx (pb_pm (pbt (pb1 hW e1) e2)) o3 w3⟩
  · rw [vCIA, if_pos ⟨c, c2⟩, if_neg c3, bi_t ⟨c, c2⟩]
    rw [bi_t c2] at e2
    exact ⟨rfl, pb_pm (pbt (pb1 hW e1) e2)⟩
  · rw [vCIA, if_neg (fun q => c2 q.2), bi_f (fun q => c2 q.2)]
    rw [bi_f c2] at e2
    exact ⟨rfl, pb_pm (pbt (pb1 hW e1) e2)⟩

theorem dX8_bestRunway_0 : decode cX8_bestRunway 0 = .ok (.aload_n 0, 1) := by decide +kernel
theorem dX8_bestRunway_1 : decode cX8_bestRunway 1 = .ok (.iload_n 1, 1) := by decide +kernel
theorem dX8_bestRunway_2 : decode cX8_bestRunway 2 = .ok (.invokevirtual 71, 3) := by decide +kernel
theorem dX8_bestRunway_5 : decode cX8_bestRunway 5 = .ok (.ifCond .ne 5, 3) := by decide +kernel
theorem dX8_bestRunway_8 : decode cX8_bestRunway 8 = .ok (.iconst 0, 1) := by decide +kernel
theorem dX8_bestRunway_9 : decode cX8_bestRunway 9 = .ok (.ireturn, 1) := by decide +kernel
theorem dX8_bestRunway_10 : decode cX8_bestRunway 10 = .ok (.aload_n 0, 1) := by decide +kernel
theorem dX8_bestRunway_11 : decode cX8_bestRunway 11 = .ok (.iload_n 1, 1) := by decide +kernel
theorem dX8_bestRunway_12 : decode cX8_bestRunway 12 = .ok (.invokevirtual 264, 3) := by decide +kernel
theorem dX8_bestRunway_15 : decode cX8_bestRunway 15 = .ok (.ifCond .ne 6, 3) := by decide +kernel
theorem dX8_bestRunway_18 : decode cX8_bestRunway 18 = .ok (.bipush (-3), 2) := by decide +kernel
theorem dX8_bestRunway_20 : decode cX8_bestRunway 20 = .ok (.ireturn, 1) := by decide +kernel
theorem dX8_bestRunway_21 : decode cX8_bestRunway 21 = .ok (.iconst (-1), 1) := by decide +kernel
theorem dX8_bestRunway_22 : decode cX8_bestRunway 22 = .ok (.istore_n 2, 1) := by decide +kernel
theorem dX8_bestRunway_23 : decode cX8_bestRunway 23 = .ok (.lconst 0, 1) := by decide +kernel
theorem dX8_bestRunway_24 : decode cX8_bestRunway 24 = .ok (.lstore_n 3, 1) := by decide +kernel
theorem dX8_bestRunway_25 : decode cX8_bestRunway 25 = .ok (.iconst 0, 1) := by decide +kernel
theorem dX8_bestRunway_26 : decode cX8_bestRunway 26 = .ok (.istore 5, 2) := by decide +kernel
theorem dX8_bestRunway_28 : decode cX8_bestRunway 28 = .ok (.iload 5, 2) := by decide +kernel
theorem dX8_bestRunway_30 : decode cX8_bestRunway 30 = .ok (.aload_n 0, 1) := by decide +kernel
theorem dX8_bestRunway_31 : decode cX8_bestRunway 31 = .ok (.getfield 9, 3) := by decide +kernel
theorem dX8_bestRunway_34 : decode cX8_bestRunway 34 = .ok (.iconst 5, 1) := by decide +kernel
theorem dX8_bestRunway_35 : decode cX8_bestRunway 35 = .ok (.iaload, 1) := by decide +kernel
theorem dX8_bestRunway_36 : decode cX8_bestRunway 36 = .ok (.if_icmp .ge 49, 3) := by decide +kernel
theorem dX8_bestRunway_39 : decode cX8_bestRunway 39 = .ok (.aload_n 0, 1) := by decide +kernel
theorem dX8_bestRunway_40 : decode cX8_bestRunway 40 = .ok (.iload_n 1, 1) := by decide +kernel
theorem dX8_bestRunway_41 : decode cX8_bestRunway 41 = .ok (.iload 5, 2) := by decide +kernel
theorem dX8_bestRunway_43 : decode cX8_bestRunway 43 = .ok (.invokevirtual 332, 3) := by decide +kernel
theorem dX8_bestRunway_46 : decode cX8_bestRunway 46 = .ok (.ifCond .ne 6, 3) := by decide +kernel
theorem dX8_bestRunway_49 : decode cX8_bestRunway 49 = .ok (.goto 30, 3) := by decide +kernel
theorem dX8_bestRunway_52 : decode cX8_bestRunway 52 = .ok (.aload_n 0, 1) := by decide +kernel
theorem dX8_bestRunway_53 : decode cX8_bestRunway 53 = .ok (.iload_n 1, 1) := by decide +kernel
theorem dX8_bestRunway_54 : decode cX8_bestRunway 54 = .ok (.iload 5, 2) := by decide +kernel
theorem dX8_bestRunway_56 : decode cX8_bestRunway 56 = .ok (.invokevirtual 347, 3) := by decide +kernel
theorem dX8_bestRunway_59 : decode cX8_bestRunway 59 = .ok (.lstore 6, 2) := by decide +kernel
theorem dX8_bestRunway_61 : decode cX8_bestRunway 61 = .ok (.iload_n 2, 1) := by decide +kernel
theorem dX8_bestRunway_62 : decode cX8_bestRunway 62 = .ok (.iconst (-1), 1) := by decide +kernel
theorem dX8_bestRunway_63 : decode cX8_bestRunway 63 = .ok (.if_icmp .eq 10, 3) := by decide +kernel
theorem dX8_bestRunway_66 : decode cX8_bestRunway 66 = .ok (.lload 6, 2) := by decide +kernel
theorem dX8_bestRunway_68 : decode cX8_bestRunway 68 = .ok (.lload_n 3, 1) := by decide +kernel
theorem dX8_bestRunway_69 : decode cX8_bestRunway 69 = .ok (.lcmp, 1) := by decide +kernel
theorem dX8_bestRunway_70 : decode cX8_bestRunway 70 = .ok (.ifCond .ge 9, 3) := by decide +kernel
theorem dX8_bestRunway_73 : decode cX8_bestRunway 73 = .ok (.iload 5, 2) := by decide +kernel
theorem dX8_bestRunway_75 : decode cX8_bestRunway 75 = .ok (.istore_n 2, 1) := by decide +kernel
theorem dX8_bestRunway_76 : decode cX8_bestRunway 76 = .ok (.lload 6, 2) := by decide +kernel
theorem dX8_bestRunway_78 : decode cX8_bestRunway 78 = .ok (.lstore_n 3, 1) := by decide +kernel
theorem dX8_bestRunway_79 : decode cX8_bestRunway 79 = .ok (.iinc 5 1, 3) := by decide +kernel
theorem dX8_bestRunway_82 : decode cX8_bestRunway 82 = .ok (.goto (-54), 3) := by decide +kernel
theorem dX8_bestRunway_85 : decode cX8_bestRunway 85 = .ok (.iload_n 2, 1) := by decide +kernel
theorem dX8_bestRunway_86 : decode cX8_bestRunway 86 = .ok (.ireturn, 1) := by decide +kernel
set_option maxRecDepth 20000 in
theorem s_X8_bestRunway_0 {l : Launch} {G : GT} {d : Nat} {Q : AV → AH → Prop} {H : AH} {a0 x1 : Int} {M : Row} (hW : MW H a0 M) (h : (0 ≤ M 6 ∧ M 6 ≤ 24) ∧ ∀ H1 : AH, H1 = hs H a0 5 (1 - bi (decide (0 ≤ x1 ∧ x1 < M 6))) → (0 ≤ x1 ∧ x1 < M 6 → (0 ≤ x1 ∧ x1 < 24) ∧ (ofM M x1 7 = 0 → AW l G mX8_bestRunway (d + 1) 0 0 Q 28 [vR a0, vI x1, vI (-1), vJ 0, vU, vI 0, vU, vU] [] 0 0 H1) ∧ (¬ (ofM M x1 7 = 0) → Q (vI (-3)) H1)) ∧ (¬ (0 ≤ x1 ∧ x1 < M 6) → Q (vI 0) H1)) (hd : 18 ≤ d := by omega) : AW l G mX8_bestRunway (d + 1) 0 0 Q 0 [vR a0, vI x1, vU, vU, vU, vU, vU, vU] [] 0 0 H := by
  refine a_aload_n dX8_bestRunway_0 rfl rfl ?_
  refine a_iload_n dX8_bestRunway_1 rfl rfl ?_
  obtain ⟨q2_0, h⟩ := h
  refine a_callV dX8_bestRunway_2 cw_X8_bestRunway_2 (as := [vI x1]) rfl rfl (kMod_0 hW.1) (Nat.le_refl _) (Nat.le_of_ble_eq_true rfl) (nocov rfl) (Nat.le_of_ble_eq_true rfl) (Nat.le_of_ble_eq_true rfl) (CL.mono (c_isFlight hW.1 (by rw [hW.2.1]; exact q2_0)) (fun r9 H9 h9 => ?_))
  rw [h9.1, h9.2]
  (try rw [hW.2.1])
  have h_r0_1 := Lay.wr hW.1 ok_Mod (nrf_fld 5 (kMod_0 hW.1) (by decide) (by decide)) (i := 5) (x := (1 - bi (decide (0 ≤ x1 ∧ x1 < M 6))))
  generalize e_H1 : hs H a0 5 (1 - bi (decide (0 ≤ x1 ∧ x1 < M 6))) = H1 at h_r0_1 ⊢
  replace h := h H1 e_H1.symm
  have row_H1 := (show rowM H1 a0 = _ from by rw [← e_H1, rowM_ne (by omega), hW.2.1])
  have mk_H1 := (show okM _ ∧ mkd H1 a0 from by rw [← e_H1]; exact ⟨hW.2.2.1, mkd_wr hW.2.2.2 (by omega) (by omega) (by omega)⟩)
  show AW l G mX8_bestRunway (d + 1) 0 0 Q 5 [vR a0, vI x1, vU, vU, vU, vU, vU, vU] [vI (bi (decide (0 ≤ x1 ∧ x1 < M 6)))] 0 0 H1
  refine a_if_ne dX8_bestRunway_5 (tgt := 10) rfl (fun c5 => ?_) (fun c5 => ?_)
  · replace h := h.1 (bi_1 c5)
    refine a_aload_n dX8_bestRunway_10 rfl rfl ?_
    refine a_iload_n dX8_bestRunway_11 rfl rfl ?_
    obtain ⟨q12_0, h⟩ := h
    refine a_callV dX8_bestRunway_12 cw_X8_bestRunway_12 (as := [vI x1]) rfl rfl (kMod_0 h_r0_1) (Nat.le_refl _) (Nat.le_of_ble_eq_true rfl) (nocov rfl) (Nat.le_of_ble_eq_true rfl) (Nat.le_of_ble_eq_true rfl) (CL.mono (c_isPlanned h_r0_1 q12_0) (fun r9 H9 h9 => ?_))
    rw [h9.1, h9.2]
    (try rw [row_H1])
    show AW l G mX8_bestRunway (d + 1) 0 0 Q 15 [vR a0, vI x1, vU, vU, vU, vU, vU, vU] [vI (bi (decide (ofM M x1 7 = 0)))] 0 0 H1
    refine a_if_ne dX8_bestRunway_15 (tgt := 21) rfl (fun c15 => ?_) (fun c15 => ?_)
    · replace h := h.1 (bi_1 c15)
      refine a_iconst dX8_bestRunway_21 ⟨by decide, by decide⟩ ?_
      refine a_istore_n dX8_bestRunway_22 rfl (Nat.le_of_ble_eq_true rfl) (ls' := [vR a0, vI x1, vI (-1), vU, vU, vU, vU, vU]) rfl ?_
      refine a_lconst dX8_bestRunway_23 ?_
      show AW l G mX8_bestRunway (d + 1) 0 0 Q 24 [vR a0, vI x1, vI (-1), vU, vU, vU, vU, vU] [vJ 0] 0 0 H1
      refine a_lstore_n dX8_bestRunway_24 rfl (Nat.le_of_ble_eq_true rfl) (ls' := [vR a0, vI x1, vI (-1), vJ 0, vU, vU, vU, vU]) rfl ?_
      refine a_iconst dX8_bestRunway_25 ⟨by decide, by decide⟩ ?_
      refine a_istore dX8_bestRunway_26 (Nat.le_of_ble_eq_true rfl) (ls' := [vR a0, vI x1, vI (-1), vJ 0, vU, vI 0, vU, vU]) rfl ?_
      exact h
    · replace h := h.2 (bi_0 c15)
      refine a_bipush dX8_bestRunway_18 (by decide) ?_
      exact a_iret dX8_bestRunway_20 rfl (Nat.le_of_ble_eq_true rfl) (Nat.le_of_ble_eq_true rfl) h
  · replace h := h.2 (bi_0 c5)
    refine a_iconst dX8_bestRunway_8 ⟨by decide, by decide⟩ ?_
    exact a_iret dX8_bestRunway_9 rfl (Nat.le_of_ble_eq_true rfl) (Nat.le_of_ble_eq_true rfl) h

set_option maxRecDepth 20000 in
theorem s_X8_bestRunway_28 {l : Launch} {G : GT} {d : Nat} {Q : AV → AH → Prop} {H : AH} {a0 x1 x2 x3 x5 : Int} {M : Row} (hW : MW H a0 M) (h : ((M 5) ≤ x5 → Q (vI x2) H) ∧ (x5 < (M 5) → (0 ≤ x1 ∧ x1 < 24) ∧ (0 ≤ x5 ∧ x5 < 3) ∧ (shr (ofM M x1 5) x5 % 2 = 1 → (okAs M x1 x5) ∧ ∀ H1 : AH, only H H1 (pMt a0) → MW H1 a0 M → (x2 = (-1) → (-2147483648 ≤ x5 + 1 ∧ x5 + 1 ≤ 2147483647) ∧ AW l G mX8_bestRunway (d + 1) 0 0 Q 28 [vR a0, vI x1, vI x5, vJ (totM (asgM M x1 x5)), vU, vI (x5 + 1), vU, vU] [] 0 0 H1) ∧ (¬ x2 = (-1) → (x3 ≤ (totM (asgM M x1 x5)) → (-2147483648 ≤ x5 + 1 ∧ x5 + 1 ≤ 2147483647) ∧ AW l G mX8_bestRunway (d + 1) 0 0 Q 28 [vR a0, vI x1, vI x2, vJ x3, vU, vI (x5 + 1), vU, vU] [] 0 0 H1) ∧ ((totM (asgM M x1 x5)) < x3 → (-2147483648 ≤ x5 + 1 ∧ x5 + 1 ≤ 2147483647) ∧ AW l G mX8_bestRunway (d + 1) 0 0 Q 28 [vR a0, vI x1, vI x5, vJ (totM (asgM M x1 x5)), vU, vI (x5 + 1), vU, vU] [] 0 0 H1))) ∧ (¬ (shr (ofM M x1 5) x5 % 2 = 1) → (-2147483648 ≤ x5 + 1 ∧ x5 + 1 ≤ 2147483647) ∧ AW l G mX8_bestRunway (d + 1) 0 0 Q 28 [vR a0, vI x1, vI x2, vJ x3, vU, vI (x5 + 1), vU, vU] [] 0 0 H))) (hd : 18 ≤ d := by omega) : AW l G mX8_bestRunway (d + 1) 0 0 Q 28 [vR a0, vI x1, vI x2, vJ x3, vU, vI x5, vU, vU] [] 0 0 H := by
  refine a_iload dX8_bestRunway_28 rfl ?_
  refine a_aload_n dX8_bestRunway_30 rfl rfl ?_
  refine a_getR dX8_bestRunway_31 fw_RX8_9 rfl rfl (kMod_0 hW.1) (rMod_0_0 hW.1) ?_
  refine a_iconst dX8_bestRunway_34 ⟨by decide, by decide⟩ ?_
  refine b_ialdV dX8_bestRunway_35 (kMod_1 hW.1) (nMod_1 hW.1) (⟨by decide, by decide⟩) (congrFun hW.2.1 _) ?_
  refine a_icmp_ge dX8_bestRunway_36 (tgt := 85) rfl (fun c36 => ?_) (fun c36 => ?_)
  · replace h := h.1 c36
    refine a_iload_n dX8_bestRunway_85 rfl rfl ?_
    exact a_iret dX8_bestRunway_86 rfl (Nat.le_of_ble_eq_true rfl) (Nat.le_of_ble_eq_true rfl) h
  · replace h := h.2 c36
    refine a_aload_n dX8_bestRunway_39 rfl rfl ?_
    refine a_iload_n dX8_bestRunway_40 rfl rfl ?_
    refine a_iload dX8_bestRunway_41 rfl ?_
    obtain ⟨q43_0, h⟩ := h
    obtain ⟨q43_1, h⟩ := h
    refine a_callV dX8_bestRunway_43 cw_X8_bestRunway_43 (as := [vI x1, vI x5]) rfl rfl (kMod_0 hW.1) (Nat.le_refl _) (Nat.le_of_ble_eq_true rfl) (nocov rfl) (Nat.le_of_ble_eq_true rfl) (Nat.le_of_ble_eq_true rfl) (CL.mono (c_mayUse hW.1 q43_0 q43_1) (fun r9 H9 h9 => ?_))
    rw [h9.1, h9.2]
    (try rw [hW.2.1])
    show AW l G mX8_bestRunway (d + 1) 0 0 Q 46 [vR a0, vI x1, vI x2, vJ x3, vU, vI x5, vU, vU] [vI (bi (decide (shr (ofM M x1 5) x5 % 2 = 1)))] 0 0 H
    refine a_if_ne dX8_bestRunway_46 (tgt := 52) rfl (fun c46 => ?_) (fun c46 => ?_)
    · replace h := h.1 (bi_1 c46)
      refine a_aload_n dX8_bestRunway_52 rfl rfl ?_
      refine a_iload_n dX8_bestRunway_53 rfl rfl ?_
      refine a_iload dX8_bestRunway_54 rfl ?_
      obtain ⟨q56_0, h⟩ := h
      refine a_callV dX8_bestRunway_56 cw_X8_bestRunway_56 (as := [vI x1, vI x5]) rfl rfl (kMod_0 hW.1) (Nat.le_refl _) (Nat.le_of_ble_eq_true rfl) (nocov rfl) (Nat.le_of_ble_eq_true rfl) (Nat.le_of_ble_eq_true rfl) (CL.mono (c_totalIf (show MW H a0 M from ⟨hW.1, hW.2.1, hW.2.2⟩) q56_0) (fun r9 H1 h9 => ?_))
      obtain ⟨e9, o_H1, hX_H1⟩ := h9
      rw [e9]
      replace h := h H1 o_H1 hX_H1
      show AW l G mX8_bestRunway (d + 1) 0 0 Q 59 [vR a0, vI x1, vI x2, vJ x3, vU, vI x5, vU, vU] [vJ (totM (asgM M x1 x5))] 0 0 H1
      refine a_lstore dX8_bestRunway_59 (Nat.le_of_ble_eq_true rfl) (ls' := [vR a0, vI x1, vI x2, vJ x3, vU, vI x5, vJ (totM (asgM M x1 x5)), vU]) rfl ?_
      refine a_iload_n dX8_bestRunway_61 rfl rfl ?_
      refine a_iconst dX8_bestRunway_62 ⟨by decide, by decide⟩ ?_
      refine a_icmp_eq dX8_bestRunway_63 (tgt := 73) rfl (fun c63 => ?_) (fun c63 => ?_)
      · replace h := h.1 c63
        refine a_iload dX8_bestRunway_73 rfl ?_
        refine a_istore_n dX8_bestRunway_75 rfl (Nat.le_of_ble_eq_true rfl) (ls' := [vR a0, vI x1, vI x5, vJ x3, vU, vI x5, vJ (totM (asgM M x1 x5)), vU]) rfl ?_
        refine a_lload dX8_bestRunway_76 rfl ?_
        refine a_lstore_n dX8_bestRunway_78 rfl (Nat.le_of_ble_eq_true rfl) (ls' := [vR a0, vI x1, vI x5, vJ (totM (asgM M x1 x5)), vU, vI x5, vJ (totM (asgM M x1 x5)), vU]) rfl ?_
        obtain ⟨q79_0, h⟩ := h
        refine a_iinc dX8_bestRunway_79 rfl (Nat.le_of_ble_eq_true rfl) (by decide) q79_0 (ls' := [vR a0, vI x1, vI x5, vJ (totM (asgM M x1 x5)), vU, vI (x5 + 1), vJ (totM (asgM M x1 x5)), vU]) rfl ?_
        refine a_goto dX8_bestRunway_82 (tgt := 28) rfl ?_
        exact a_weak (wk_e (wk_e (wk_e (wk_e (wk_u (wk_e (wk_u (wk_u wk_n)))))))) h
      · replace h := h.2 c63
        refine a_lload dX8_bestRunway_66 rfl ?_
        refine a_lload_n dX8_bestRunway_68 rfl rfl ?_
        refine a_lcmp_ge dX8_bestRunway_69 dX8_bestRunway_70 (tgt := 79) rfl (fun c69 => ?_) (fun c69 => ?_)
        · replace h := h.1 c69
          obtain ⟨q79_0, h⟩ := h
          refine a_iinc dX8_bestRunway_79 rfl (Nat.le_of_ble_eq_true rfl) (by decide) q79_0 (ls' := [vR a0, vI x1, vI x2, vJ x3, vU, vI (x5 + 1), vJ (totM (asgM M x1 x5)), vU]) rfl ?_
          refine a_goto dX8_bestRunway_82 (tgt := 28) rfl ?_
          exact a_weak (wk_e (wk_e (wk_e (wk_e (wk_u (wk_e (wk_u (wk_u wk_n)))))))) h
        · replace h := h.2 c69
          refine a_iload dX8_bestRunway_73 rfl ?_
          refine a_istore_n dX8_bestRunway_75 rfl (Nat.le_of_ble_eq_true rfl) (ls' := [vR a0, vI x1, vI x5, vJ x3, vU, vI x5, vJ (totM (asgM M x1 x5)), vU]) rfl ?_
          refine a_lload dX8_bestRunway_76 rfl ?_
          refine a_lstore_n dX8_bestRunway_78 rfl (Nat.le_of_ble_eq_true rfl) (ls' := [vR a0, vI x1, vI x5, vJ (totM (asgM M x1 x5)), vU, vI x5, vJ (totM (asgM M x1 x5)), vU]) rfl ?_
          obtain ⟨q79_0, h⟩ := h
          refine a_iinc dX8_bestRunway_79 rfl (Nat.le_of_ble_eq_true rfl) (by decide) q79_0 (ls' := [vR a0, vI x1, vI x5, vJ (totM (asgM M x1 x5)), vU, vI (x5 + 1), vJ (totM (asgM M x1 x5)), vU]) rfl ?_
          refine a_goto dX8_bestRunway_82 (tgt := 28) rfl ?_
          exact a_weak (wk_e (wk_e (wk_e (wk_e (wk_u (wk_e (wk_u (wk_u wk_n)))))))) h
    · replace h := h.2 (bi_0 c46)
      refine a_goto dX8_bestRunway_49 (tgt := 79) rfl ?_
      obtain ⟨q79_0, h⟩ := h
      refine a_iinc dX8_bestRunway_79 rfl (Nat.le_of_ble_eq_true rfl) (by decide) q79_0 (ls' := [vR a0, vI x1, vI x2, vJ x3, vU, vI (x5 + 1), vU, vU]) rfl ?_
      refine a_goto dX8_bestRunway_82 (tgt := 28) rfl ?_
      exact h

noncomputable def brS (M : Row) (f : Int) : Nat → Int × Int
  | 0 => (-1, 0)
  | n + 1 => if shr (ofM M f 5) n % 2 = 1 ∧ ((brS M f n).1 = -1 ∨ totM (asgM M f n) < (brS M f n).2) then (n, totM (asgM M f n)) else brS M f n
noncomputable def vBest (M : Row) (f : Int) : Int := if fl M f then (if ofM M f 7 = 0 then (brS M f (M 5).toNat).1 else -3) else 0
theorem refu_of {M : Row} {f r : Int} (h7 : ofM M f 7 = 0) (h5 : shr (ofM M f 5) r % 2 = 1) : refuM M f r = 0 := by rw [refuM, if_pos h7, if_pos h5]
theorem c_bestRunway {l : Launch} {G : GT} {d : Nat} {H : AH} {a : Int} {M : Row} {f : Int} (hW : MW H a M) (hd : 19 ≤ d := by omega) : CL l G mX8_bestRunway d 0 0 [vR a, vI f] H (mutP a M (vI (vBest M f)) (1 - bi (decide (fl M f))) H) := by
  obtain ⟨d, rfl⟩ : ∃ k, d = k + 1 := ⟨d - 1, by omega⟩
  have hM := hW.2.2.1
  have hn := okM_n hM
  have hn5 := okM_5 hM
  refine CL.of (by decide) rfl (Nat.le_of_ble_eq_true rfl) (s_X8_bestRunway_0 hW ⟨by omega, fun H1 e1 => ⟨fun c => ⟨by omega, fun c2 => ?_, fun c2 => ⟨by rw [vBest, if_pos c, if_neg c2], pb_pm (pb1 hW e1)⟩⟩, fun c => ⟨by rw [vBest, if_neg c], pb_pm (pb1 hW e1)⟩⟩⟩)
  have key : ∀ j, j ≤ (M 5).toNat → ∀ H', pmW a M (1 - bi (decide (fl M f))) H H' → AW l G mX8_bestRunway (d + 1) 0 0 (mutP a M (vI (vBest M f)) (1 - bi (decide (fl M f))) H) 28 [vR a, vI f, vI (brS M f j).1, vJ (brS M f j).2, vU, vI j, vU, vU] [] 0 0 H' := by
    refine upN _ ?_ ?_
    · intro j hj ih H' hb
      have go : ∀ p : Int × Int, brS M f (j + 1) = p → ∀ H', pmW a M (1 - bi (decide (fl M f))) H H' → AW l G mX8_bestRunway (d + 1) 0 0 (mutP a M (vI (vBest M f)) (1 - bi (decide (fl M f))) H) 28 [vR a, vI f, vI p.1, vJ p.2, vU, vI (j + 1), vU, vU] [] 0 0 H' := fun p hp H' hb => by rw [← hp]; exact ih H' hb
      refine s_X8_bestRunway_28 hb.2.2 ⟨fun q => absurd q (by omega), fun _ => ⟨by omega, by omega, fun q => ⟨⟨⟨c, by omega, by omega⟩, refu_of c2 q⟩, fun H2 o2 w2 => ⟨fun q2 => ⟨by omega, go (j, totM (asgM M f j)) ?_ H2 (pmx hb o2 w2)⟩, fun q2 => ⟨fun q3 => ⟨by omega, go (brS M f j) ?_ H2 (pmx hb o2 w2)⟩, fun q3 => ⟨by omega, go (j, totM (asgM M f j)) ?_ H2 (pmx hb o2 w2)⟩⟩⟩⟩, fun q => ⟨by omega, go (brS M f j) ?_ H' hb⟩⟩⟩
      · rw [brS, if_pos ⟨q, Or.inl q2⟩]
      · rw [brS, if_neg (fun z => by rcases z.2 with z | z; exact q2 z; omega)]
      · rw [brS, if_pos ⟨q, Or.inr q3⟩]
      · rw [brS, if_neg (fun z => q z.1)]
    · intro H' hb
      exact s_X8_bestRunway_28 hb.2.2 ⟨fun _ => ⟨by rw [vBest, if_pos c, if_pos c2], hb⟩, fun q => absurd q (by omega)⟩
  exact key 0 (Nat.zero_le _) H1 (pb_pm (pb1 hW e1))

theorem dX8_isBetter_0 : decode cX8_isBetter 0 = .ok (.aload_n 0, 1) := by decide +kernel
theorem dX8_isBetter_1 : decode cX8_isBetter 1 = .ok (.invokevirtual 287, 3) := by decide +kernel
theorem dX8_isBetter_4 : decode cX8_isBetter 4 = .ok (.lstore_n 1, 1) := by decide +kernel
theorem dX8_isBetter_5 : decode cX8_isBetter 5 = .ok (.iconst (-1), 1) := by decide +kernel
theorem dX8_isBetter_6 : decode cX8_isBetter 6 = .ok (.istore_n 3, 1) := by decide +kernel
theorem dX8_isBetter_7 : decode cX8_isBetter 7 = .ok (.iconst (-1), 1) := by decide +kernel
theorem dX8_isBetter_8 : decode cX8_isBetter 8 = .ok (.istore 4, 2) := by decide +kernel
theorem dX8_isBetter_10 : decode cX8_isBetter 10 = .ok (.iconst 0, 1) := by decide +kernel
theorem dX8_isBetter_11 : decode cX8_isBetter 11 = .ok (.istore 5, 2) := by decide +kernel
theorem dX8_isBetter_13 : decode cX8_isBetter 13 = .ok (.iload 5, 2) := by decide +kernel
theorem dX8_isBetter_15 : decode cX8_isBetter 15 = .ok (.aload_n 0, 1) := by decide +kernel
theorem dX8_isBetter_16 : decode cX8_isBetter 16 = .ok (.getfield 9, 3) := by decide +kernel
theorem dX8_isBetter_19 : decode cX8_isBetter 19 = .ok (.bipush 6, 2) := by decide +kernel
theorem dX8_isBetter_21 : decode cX8_isBetter 21 = .ok (.iaload, 1) := by decide +kernel
theorem dX8_isBetter_22 : decode cX8_isBetter 22 = .ok (.if_icmp .ge 82, 3) := by decide +kernel
theorem dX8_isBetter_25 : decode cX8_isBetter 25 = .ok (.iconst 0, 1) := by decide +kernel
theorem dX8_isBetter_26 : decode cX8_isBetter 26 = .ok (.istore 6, 2) := by decide +kernel
theorem dX8_isBetter_28 : decode cX8_isBetter 28 = .ok (.aload_n 0, 1) := by decide +kernel
theorem dX8_isBetter_29 : decode cX8_isBetter 29 = .ok (.iload 5, 2) := by decide +kernel
theorem dX8_isBetter_31 : decode cX8_isBetter 31 = .ok (.invokevirtual 264, 3) := by decide +kernel
theorem dX8_isBetter_34 : decode cX8_isBetter 34 = .ok (.ifCond .eq 64, 3) := by decide +kernel
theorem dX8_isBetter_37 : decode cX8_isBetter 37 = .ok (.iload 6, 2) := by decide +kernel
theorem dX8_isBetter_39 : decode cX8_isBetter 39 = .ok (.aload_n 0, 1) := by decide +kernel
theorem dX8_isBetter_40 : decode cX8_isBetter 40 = .ok (.getfield 9, 3) := by decide +kernel
theorem dX8_isBetter_43 : decode cX8_isBetter 43 = .ok (.iconst 5, 1) := by decide +kernel
theorem dX8_isBetter_44 : decode cX8_isBetter 44 = .ok (.iaload, 1) := by decide +kernel
theorem dX8_isBetter_45 : decode cX8_isBetter 45 = .ok (.if_icmp .ge 53, 3) := by decide +kernel
theorem dX8_isBetter_48 : decode cX8_isBetter 48 = .ok (.aload_n 0, 1) := by decide +kernel
theorem dX8_isBetter_49 : decode cX8_isBetter 49 = .ok (.iload 5, 2) := by decide +kernel
theorem dX8_isBetter_51 : decode cX8_isBetter 51 = .ok (.iload 6, 2) := by decide +kernel
theorem dX8_isBetter_53 : decode cX8_isBetter 53 = .ok (.invokevirtual 332, 3) := by decide +kernel
theorem dX8_isBetter_56 : decode cX8_isBetter 56 = .ok (.ifCond .eq 14, 3) := by decide +kernel
theorem dX8_isBetter_59 : decode cX8_isBetter 59 = .ok (.aload_n 0, 1) := by decide +kernel
theorem dX8_isBetter_60 : decode cX8_isBetter 60 = .ok (.iload 5, 2) := by decide +kernel
theorem dX8_isBetter_62 : decode cX8_isBetter 62 = .ok (.iload 6, 2) := by decide +kernel
theorem dX8_isBetter_64 : decode cX8_isBetter 64 = .ok (.invokevirtual 347, 3) := by decide +kernel
theorem dX8_isBetter_67 : decode cX8_isBetter 67 = .ok (.goto 6, 3) := by decide +kernel
theorem dX8_isBetter_70 : decode cX8_isBetter 70 = .ok (.ldc2_w 252, 3) := by decide +kernel
theorem dX8_isBetter_73 : decode cX8_isBetter 73 = .ok (.lstore 7, 2) := by decide +kernel
theorem dX8_isBetter_75 : decode cX8_isBetter 75 = .ok (.lload 7, 2) := by decide +kernel
theorem dX8_isBetter_77 : decode cX8_isBetter 77 = .ok (.lload_n 1, 1) := by decide +kernel
theorem dX8_isBetter_78 : decode cX8_isBetter 78 = .ok (.lcmp, 1) := by decide +kernel
theorem dX8_isBetter_79 : decode cX8_isBetter 79 = .ok (.ifCond .ge 13, 3) := by decide +kernel
theorem dX8_isBetter_82 : decode cX8_isBetter 82 = .ok (.iload 5, 2) := by decide +kernel
theorem dX8_isBetter_84 : decode cX8_isBetter 84 = .ok (.istore_n 3, 1) := by decide +kernel
theorem dX8_isBetter_85 : decode cX8_isBetter 85 = .ok (.iload 6, 2) := by decide +kernel
theorem dX8_isBetter_87 : decode cX8_isBetter 87 = .ok (.istore 4, 2) := by decide +kernel
theorem dX8_isBetter_89 : decode cX8_isBetter 89 = .ok (.lload 7, 2) := by decide +kernel
theorem dX8_isBetter_91 : decode cX8_isBetter 91 = .ok (.lstore_n 1, 1) := by decide +kernel
theorem dX8_isBetter_92 : decode cX8_isBetter 92 = .ok (.iinc 6 1, 3) := by decide +kernel
theorem dX8_isBetter_95 : decode cX8_isBetter 95 = .ok (.goto (-67), 3) := by decide +kernel
theorem dX8_isBetter_98 : decode cX8_isBetter 98 = .ok (.iinc 5 1, 3) := by decide +kernel
theorem dX8_isBetter_101 : decode cX8_isBetter 101 = .ok (.goto (-88), 3) := by decide +kernel
theorem dX8_isBetter_104 : decode cX8_isBetter 104 = .ok (.iload_n 3, 1) := by decide +kernel
theorem dX8_isBetter_105 : decode cX8_isBetter 105 = .ok (.iconst (-1), 1) := by decide +kernel
theorem dX8_isBetter_106 : decode cX8_isBetter 106 = .ok (.if_icmp .eq 12, 3) := by decide +kernel
theorem dX8_isBetter_109 : decode cX8_isBetter 109 = .ok (.aload_n 0, 1) := by decide +kernel
theorem dX8_isBetter_110 : decode cX8_isBetter 110 = .ok (.iload_n 3, 1) := by decide +kernel
theorem dX8_isBetter_111 : decode cX8_isBetter 111 = .ok (.bipush 6, 2) := by decide +kernel
theorem dX8_isBetter_113 : decode cX8_isBetter 113 = .ok (.iload 4, 2) := by decide +kernel
theorem dX8_isBetter_115 : decode cX8_isBetter 115 = .ok (.invokevirtual 315, 3) := by decide +kernel
theorem dX8_isBetter_118 : decode cX8_isBetter 118 = .ok (.iload_n 3, 1) := by decide +kernel
theorem dX8_isBetter_119 : decode cX8_isBetter 119 = .ok (.iconst (-1), 1) := by decide +kernel
theorem dX8_isBetter_120 : decode cX8_isBetter 120 = .ok (.if_icmp .eq 7, 3) := by decide +kernel
theorem dX8_isBetter_123 : decode cX8_isBetter 123 = .ok (.iconst 1, 1) := by decide +kernel
theorem dX8_isBetter_124 : decode cX8_isBetter 124 = .ok (.goto 4, 3) := by decide +kernel
theorem dX8_isBetter_127 : decode cX8_isBetter 127 = .ok (.iconst 0, 1) := by decide +kernel
theorem dX8_isBetter_128 : decode cX8_isBetter 128 = .ok (.ireturn, 1) := by decide +kernel
set_option maxRecDepth 20000 in
theorem s_X8_isBetter_0 {l : Launch} {G : GT} {d : Nat} {Q : AV → AH → Prop} {H : AH} {a0 : Int} {M : Row} (hW : MW H a0 M) (h : ∀ H1 : AH, only H H1 (pMks a0) → MW H1 a0 M → AW l G mX8_isBetter (d + 1) 0 0 Q 13 [vR a0, vJ (totM M), vU, vI (-1), vI (-1), vI 0, vU, vU, vU] [] 0 0 H1) (hd : 18 ≤ d := by omega) : AW l G mX8_isBetter (d + 1) 0 0 Q 0 [vR a0, vU, vU, vU, vU, vU, vU, vU, vU] [] 0 0 H := by
  refine a_aload_n dX8_isBetter_0 rfl rfl ?_
  refine a_callV dX8_isBetter_1 cw_X8_isBetter_1 (as := []) rfl rfl (kMod_0 hW.1) (Nat.le_refl _) (Nat.le_of_ble_eq_true rfl) (nocov rfl) (Nat.le_of_ble_eq_true rfl) (Nat.le_of_ble_eq_true rfl) (CL.mono (c_total (show MW H a0 M from ⟨hW.1, hW.2.1, hW.2.2⟩) ) (fun r9 H1 h9 => ?_))
  obtain ⟨e9, o_H1, hW_H1⟩ := h9
  rw [e9]
  replace h := h H1 o_H1 hW_H1
  show AW l G mX8_isBetter (d + 1) 0 0 Q 4 [vR a0, vU, vU, vU, vU, vU, vU, vU, vU] [vJ (totM M)] 0 0 H1
  refine a_lstore_n dX8_isBetter_4 rfl (Nat.le_of_ble_eq_true rfl) (ls' := [vR a0, vJ (totM M), vU, vU, vU, vU, vU, vU, vU]) rfl ?_
  refine a_iconst dX8_isBetter_5 ⟨by decide, by decide⟩ ?_
  refine a_istore_n dX8_isBetter_6 rfl (Nat.le_of_ble_eq_true rfl) (ls' := [vR a0, vJ (totM M), vU, vI (-1), vU, vU, vU, vU, vU]) rfl ?_
  refine a_iconst dX8_isBetter_7 ⟨by decide, by decide⟩ ?_
  refine a_istore dX8_isBetter_8 (Nat.le_of_ble_eq_true rfl) (ls' := [vR a0, vJ (totM M), vU, vI (-1), vI (-1), vU, vU, vU, vU]) rfl ?_
  refine a_iconst dX8_isBetter_10 ⟨by decide, by decide⟩ ?_
  refine a_istore dX8_isBetter_11 (Nat.le_of_ble_eq_true rfl) (ls' := [vR a0, vJ (totM M), vU, vI (-1), vI (-1), vI 0, vU, vU, vU]) rfl ?_
  exact h

set_option maxRecDepth 20000 in
theorem s_X8_isBetter_13 {l : Launch} {G : GT} {d : Nat} {Q : AV → AH → Prop} {H : AH} {a0 x1 x3 x4 x5 : Int} {M : Row} (hW : MW H a0 M) (h : ((M 6) ≤ x5 → (x3 = (-1) → (x3 = (-1) → Q (vI 0) H) ∧ (¬ x3 = (-1) → Q (vI 1) H)) ∧ (¬ x3 = (-1) → (0 ≤ x3 ∧ x3 < 24) ∧ ∀ H1 : AH, ∀ M1 : Row, M1 = upM M (56 + 16 * x3 + 6) x4 → MX H H1 a0 M1 → (x3 = (-1) → Q (vI 0) H1) ∧ (¬ x3 = (-1) → Q (vI 1) H1))) ∧ (x5 < (M 6) → AW l G mX8_isBetter (d + 1) 0 0 Q 28 [vR a0, vJ x1, vU, vI x3, vI x4, vI x5, vI 0, vU, vU] [] 0 0 H)) (hd : 18 ≤ d := by omega) : AW l G mX8_isBetter (d + 1) 0 0 Q 13 [vR a0, vJ x1, vU, vI x3, vI x4, vI x5, vU, vU, vU] [] 0 0 H := by
  refine a_iload dX8_isBetter_13 rfl ?_
  refine a_aload_n dX8_isBetter_15 rfl rfl ?_
  refine a_getR dX8_isBetter_16 fw_RX8_9 rfl rfl (kMod_0 hW.1) (rMod_0_0 hW.1) ?_
  refine a_bipush dX8_isBetter_19 (by decide) ?_
  refine b_ialdV dX8_isBetter_21 (kMod_1 hW.1) (nMod_1 hW.1) (⟨by decide, by decide⟩) (congrFun hW.2.1 _) ?_
  refine a_icmp_ge dX8_isBetter_22 (tgt := 104) rfl (fun c22 => ?_) (fun c22 => ?_)
  · replace h := h.1 c22
    refine a_iload_n dX8_isBetter_104 rfl rfl ?_
    refine a_iconst dX8_isBetter_105 ⟨by decide, by decide⟩ ?_
    refine a_icmp_eq dX8_isBetter_106 (tgt := 118) rfl (fun c106 => ?_) (fun c106 => ?_)
    · replace h := h.1 c106
      refine a_iload_n dX8_isBetter_118 rfl rfl ?_
      refine a_iconst dX8_isBetter_119 ⟨by decide, by decide⟩ ?_
      refine a_icmp_eq dX8_isBetter_120 (tgt := 127) rfl (fun c120 => ?_) (fun c120 => ?_)
      · replace h := h.1 c120
        refine a_iconst dX8_isBetter_127 ⟨by decide, by decide⟩ ?_
        exact a_zret dX8_isBetter_128 rfl (by decide) (Nat.le_of_ble_eq_true rfl) (Nat.le_of_ble_eq_true rfl) h
      · replace h := h.2 c120
        refine a_iconst dX8_isBetter_123 ⟨by decide, by decide⟩ ?_
        refine a_goto dX8_isBetter_124 (tgt := 128) rfl ?_
        exact a_zret dX8_isBetter_128 rfl (by decide) (Nat.le_of_ble_eq_true rfl) (Nat.le_of_ble_eq_true rfl) h
    · replace h := h.2 c106
      refine a_aload_n dX8_isBetter_109 rfl rfl ?_
      refine a_iload_n dX8_isBetter_110 rfl rfl ?_
      refine a_bipush dX8_isBetter_111 (by decide) ?_
      refine a_iload dX8_isBetter_113 rfl ?_
      obtain ⟨q115_0, h⟩ := h
      refine a_callV dX8_isBetter_115 cw_X8_isBetter_115 (as := [vI x3, vI 6, vI x4]) rfl rfl (kMod_0 hW.1) (Nat.le_refl _) (Nat.le_of_ble_eq_true rfl) (nocov rfl) (Nat.le_of_ble_eq_true rfl) (Nat.le_of_ble_eq_true rfl) (CL.mono (c_setsX hW.1 hW.2.1 ⟨q115_0.1, q115_0.2, by decide, by decide⟩) (fun r9 H1 h9 => ?_))
      obtain ⟨e9, hX_H1⟩ := h9
      rw [e9]
      obtain ⟨M1, e_M1⟩ : ∃ M1 : Row, M1 = upM M (56 + 16 * x3 + 6) x4 := ⟨_, rfl⟩
      rw [← e_M1] at hX_H1
      replace h := h H1 M1 e_M1 hX_H1
      show AW l G mX8_isBetter (d + 1) 0 0 Q 118 [vR a0, vJ x1, vU, vI x3, vI x4, vI x5, vU, vU, vU] [] 0 0 H1
      refine a_iload_n dX8_isBetter_118 rfl rfl ?_
      refine a_iconst dX8_isBetter_119 ⟨by decide, by decide⟩ ?_
      refine a_icmp_eq dX8_isBetter_120 (tgt := 127) rfl (fun c120 => ?_) (fun c120 => ?_)
      · replace h := h.1 c120
        refine a_iconst dX8_isBetter_127 ⟨by decide, by decide⟩ ?_
        exact a_zret dX8_isBetter_128 rfl (by decide) (Nat.le_of_ble_eq_true rfl) (Nat.le_of_ble_eq_true rfl) h
      · replace h := h.2 c120
        refine a_iconst dX8_isBetter_123 ⟨by decide, by decide⟩ ?_
        refine a_goto dX8_isBetter_124 (tgt := 128) rfl ?_
        exact a_zret dX8_isBetter_128 rfl (by decide) (Nat.le_of_ble_eq_true rfl) (Nat.le_of_ble_eq_true rfl) h
  · replace h := h.2 c22
    refine a_iconst dX8_isBetter_25 ⟨by decide, by decide⟩ ?_
    refine a_istore dX8_isBetter_26 (Nat.le_of_ble_eq_true rfl) (ls' := [vR a0, vJ x1, vU, vI x3, vI x4, vI x5, vI 0, vU, vU]) rfl ?_
    exact h

set_option maxRecDepth 20000 in
theorem s_X8_isBetter_28 {l : Launch} {G : GT} {d : Nat} {Q : AV → AH → Prop} {H : AH} {a0 x1 x3 x4 x5 x6 : Int} {M : Row} (hW : MW H a0 M) (h : (0 ≤ x5 ∧ x5 < 24) ∧ (¬ (ofM M x5 7 = 0) → (-2147483648 ≤ x5 + 1 ∧ x5 + 1 ≤ 2147483647) ∧ AW l G mX8_isBetter (d + 1) 0 0 Q 13 [vR a0, vJ x1, vU, vI x3, vI x4, vI (x5 + 1), vU, vU, vU] [] 0 0 H) ∧ (ofM M x5 7 = 0 → ((M 5) ≤ x6 → (-2147483648 ≤ x5 + 1 ∧ x5 + 1 ≤ 2147483647) ∧ AW l G mX8_isBetter (d + 1) 0 0 Q 13 [vR a0, vJ x1, vU, vI x3, vI x4, vI (x5 + 1), vU, vU, vU] [] 0 0 H) ∧ (x6 < (M 5) → (0 ≤ x6 ∧ x6 < 3) ∧ (¬ (shr (ofM M x5 5) x6 % 2 = 1) → (x1 ≤ 9223372036854775807 → (-2147483648 ≤ x6 + 1 ∧ x6 + 1 ≤ 2147483647) ∧ AW l G mX8_isBetter (d + 1) 0 0 Q 28 [vR a0, vJ x1, vU, vI x3, vI x4, vI x5, vI (x6 + 1), vU, vU] [] 0 0 H) ∧ (9223372036854775807 < x1 → (-2147483648 ≤ x6 + 1 ∧ x6 + 1 ≤ 2147483647) ∧ AW l G mX8_isBetter (d + 1) 0 0 Q 28 [vR a0, vJ 9223372036854775807, vU, vI x5, vI x6, vI x5, vI (x6 + 1), vU, vU] [] 0 0 H)) ∧ (shr (ofM M x5 5) x6 % 2 = 1 → (okAs M x5 x6) ∧ ∀ H1 : AH, only H H1 (pMt a0) → MW H1 a0 M → (x1 ≤ (totM (asgM M x5 x6)) → (-2147483648 ≤ x6 + 1 ∧ x6 + 1 ≤ 2147483647) ∧ AW l G mX8_isBetter (d + 1) 0 0 Q 28 [vR a0, vJ x1, vU, vI x3, vI x4, vI x5, vI (x6 + 1), vU, vU] [] 0 0 H1) ∧ ((totM (asgM M x5 x6)) < x1 → (-2147483648 ≤ x6 + 1 ∧ x6 + 1 ≤ 2147483647) ∧ AW l G mX8_isBetter (d + 1) 0 0 Q 28 [vR a0, vJ (totM (asgM M x5 x6)), vU, vI x5, vI x6, vI x5, vI (x6 + 1), vU, vU] [] 0 0 H1))))) (hd : 18 ≤ d := by omega) : AW l G mX8_isBetter (d + 1) 0 0 Q 28 [vR a0, vJ x1, vU, vI x3, vI x4, vI x5, vI x6, vU, vU] [] 0 0 H := by
  refine a_aload_n dX8_isBetter_28 rfl rfl ?_
  refine a_iload dX8_isBetter_29 rfl ?_
  obtain ⟨q31_0, h⟩ := h
  refine a_callV dX8_isBetter_31 cw_X8_isBetter_31 (as := [vI x5]) rfl rfl (kMod_0 hW.1) (Nat.le_refl _) (Nat.le_of_ble_eq_true rfl) (nocov rfl) (Nat.le_of_ble_eq_true rfl) (Nat.le_of_ble_eq_true rfl) (CL.mono (c_isPlanned hW.1 q31_0) (fun r9 H9 h9 => ?_))
  rw [h9.1, h9.2]
  (try rw [hW.2.1])
  show AW l G mX8_isBetter (d + 1) 0 0 Q 34 [vR a0, vJ x1, vU, vI x3, vI x4, vI x5, vI x6, vU, vU] [vI (bi (decide (ofM M x5 7 = 0)))] 0 0 H
  refine a_if_eq dX8_isBetter_34 (tgt := 98) rfl (fun c34 => ?_) (fun c34 => ?_)
  · replace h := h.1 (bi_0 c34)
    obtain ⟨q98_0, h⟩ := h
    refine a_iinc dX8_isBetter_98 rfl (Nat.le_of_ble_eq_true rfl) (by decide) q98_0 (ls' := [vR a0, vJ x1, vU, vI x3, vI x4, vI (x5 + 1), vI x6, vU, vU]) rfl ?_
    refine a_goto dX8_isBetter_101 (tgt := 13) rfl ?_
    exact a_weak (wk_e (wk_e (wk_u (wk_e (wk_e (wk_e (wk_u (wk_u (wk_u wk_n))))))))) h
  · replace h := h.2 (bi_1 c34)
    refine a_iload dX8_isBetter_37 rfl ?_
    refine a_aload_n dX8_isBetter_39 rfl rfl ?_
    refine a_getR dX8_isBetter_40 fw_RX8_9 rfl rfl (kMod_0 hW.1) (rMod_0_0 hW.1) ?_
    refine a_iconst dX8_isBetter_43 ⟨by decide, by decide⟩ ?_
    refine b_ialdV dX8_isBetter_44 (kMod_1 hW.1) (nMod_1 hW.1) (⟨by decide, by decide⟩) (congrFun hW.2.1 _) ?_
    refine a_icmp_ge dX8_isBetter_45 (tgt := 98) rfl (fun c45 => ?_) (fun c45 => ?_)
    · replace h := h.1 c45
      obtain ⟨q98_0, h⟩ := h
      refine a_iinc dX8_isBetter_98 rfl (Nat.le_of_ble_eq_true rfl) (by decide) q98_0 (ls' := [vR a0, vJ x1, vU, vI x3, vI x4, vI (x5 + 1), vI x6, vU, vU]) rfl ?_
      refine a_goto dX8_isBetter_101 (tgt := 13) rfl ?_
      exact a_weak (wk_e (wk_e (wk_u (wk_e (wk_e (wk_e (wk_u (wk_u (wk_u wk_n))))))))) h
    · replace h := h.2 c45
      refine a_aload_n dX8_isBetter_48 rfl rfl ?_
      refine a_iload dX8_isBetter_49 rfl ?_
      refine a_iload dX8_isBetter_51 rfl ?_
      obtain ⟨q53_1, h⟩ := h
      refine a_callV dX8_isBetter_53 cw_X8_isBetter_53 (as := [vI x5, vI x6]) rfl rfl (kMod_0 hW.1) (Nat.le_refl _) (Nat.le_of_ble_eq_true rfl) (nocov rfl) (Nat.le_of_ble_eq_true rfl) (Nat.le_of_ble_eq_true rfl) (CL.mono (c_mayUse hW.1 q31_0 q53_1) (fun r9 H9 h9 => ?_))
      rw [h9.1, h9.2]
      (try rw [hW.2.1])
      show AW l G mX8_isBetter (d + 1) 0 0 Q 56 [vR a0, vJ x1, vU, vI x3, vI x4, vI x5, vI x6, vU, vU] [vI (bi (decide (shr (ofM M x5 5) x6 % 2 = 1)))] 0 0 H
      refine a_if_eq dX8_isBetter_56 (tgt := 70) rfl (fun c56 => ?_) (fun c56 => ?_)
      · replace h := h.1 (bi_0 c56)
        refine a_ldc2 dX8_isBetter_70 (w_1524) ?_
        show AW l G mX8_isBetter (d + 1) 0 0 Q 73 [vR a0, vJ x1, vU, vI x3, vI x4, vI x5, vI x6, vU, vU] [vJ 9223372036854775807] 0 0 H
        refine a_lstore dX8_isBetter_73 (Nat.le_of_ble_eq_true rfl) (ls' := [vR a0, vJ x1, vU, vI x3, vI x4, vI x5, vI x6, vJ 9223372036854775807, vU]) rfl ?_
        refine a_lload dX8_isBetter_75 rfl ?_
        refine a_lload_n dX8_isBetter_77 rfl rfl ?_
        refine a_lcmp_ge dX8_isBetter_78 dX8_isBetter_79 (tgt := 92) rfl (fun c78 => ?_) (fun c78 => ?_)
        · replace h := h.1 c78
          obtain ⟨q92_0, h⟩ := h
          refine a_iinc dX8_isBetter_92 rfl (Nat.le_of_ble_eq_true rfl) (by decide) q92_0 (ls' := [vR a0, vJ x1, vU, vI x3, vI x4, vI x5, vI (x6 + 1), vJ 9223372036854775807, vU]) rfl ?_
          refine a_goto dX8_isBetter_95 (tgt := 28) rfl ?_
          exact a_weak (wk_e (wk_e (wk_u (wk_e (wk_e (wk_e (wk_e (wk_u (wk_u wk_n))))))))) h
        · replace h := h.2 c78
          refine a_iload dX8_isBetter_82 rfl ?_
          refine a_istore_n dX8_isBetter_84 rfl (Nat.le_of_ble_eq_true rfl) (ls' := [vR a0, vJ x1, vU, vI x5, vI x4, vI x5, vI x6, vJ 9223372036854775807, vU]) rfl ?_
          refine a_iload dX8_isBetter_85 rfl ?_
          refine a_istore dX8_isBetter_87 (Nat.le_of_ble_eq_true rfl) (ls' := [vR a0, vJ x1, vU, vI x5, vI x6, vI x5, vI x6, vJ 9223372036854775807, vU]) rfl ?_
          refine a_lload dX8_isBetter_89 rfl ?_
          refine a_lstore_n dX8_isBetter_91 rfl (Nat.le_of_ble_eq_true rfl) (ls' := [vR a0, vJ 9223372036854775807, vU, vI x5, vI x6, vI x5, vI x6, vJ 9223372036854775807, vU]) rfl ?_
          obtain ⟨q92_0, h⟩ := h
          refine a_iinc dX8_isBetter_92 rfl (Nat.le_of_ble_eq_true rfl) (by decide) q92_0 (ls' := [vR a0, vJ 9223372036854775807, vU, vI x5, vI x6, vI x5, vI (x6 + 1), vJ 9223372036854775807, vU]) rfl ?_
          refine a_goto dX8_isBetter_95 (tgt := 28) rfl ?_
          exact a_weak (wk_e (wk_e (wk_u (wk_e (wk_e (wk_e (wk_e (wk_u (wk_u wk_n))))))))) h
      · replace h := h.2 (bi_1 c56)
        refine a_aload_n dX8_isBetter_59 rfl rfl ?_
        refine a_iload dX8_isBetter_60 rfl ?_
        refine a_iload dX8_isBetter_62 rfl ?_
        obtain ⟨q64_0, h⟩ := h
        refine a_callV dX8_isBetter_64 cw_X8_isBetter_64 (as := [vI x5, vI x6]) rfl rfl (kMod_0 hW.1) (Nat.le_refl _) (Nat.le_of_ble_eq_true rfl) (nocov rfl) (Nat.le_of_ble_eq_true rfl) (Nat.le_of_ble_eq_true rfl) (CL.mono (c_totalIf (show MW H a0 M from ⟨hW.1, hW.2.1, hW.2.2⟩) q64_0) (fun r9 H1 h9 => ?_))
        obtain ⟨e9, o_H1, hX_H1⟩ := h9
        rw [e9]
        replace h := h H1 o_H1 hX_H1
        show AW l G mX8_isBetter (d + 1) 0 0 Q 67 [vR a0, vJ x1, vU, vI x3, vI x4, vI x5, vI x6, vU, vU] [vJ (totM (asgM M x5 x6))] 0 0 H1
        refine a_goto dX8_isBetter_67 (tgt := 73) rfl ?_
        refine a_lstore dX8_isBetter_73 (Nat.le_of_ble_eq_true rfl) (ls' := [vR a0, vJ x1, vU, vI x3, vI x4, vI x5, vI x6, vJ (totM (asgM M x5 x6)), vU]) rfl ?_
        refine a_lload dX8_isBetter_75 rfl ?_
        refine a_lload_n dX8_isBetter_77 rfl rfl ?_
        refine a_lcmp_ge dX8_isBetter_78 dX8_isBetter_79 (tgt := 92) rfl (fun c78 => ?_) (fun c78 => ?_)
        · replace h := h.1 c78
          obtain ⟨q92_0, h⟩ := h
          refine a_iinc dX8_isBetter_92 rfl (Nat.le_of_ble_eq_true rfl) (by decide) q92_0 (ls' := [vR a0, vJ x1, vU, vI x3, vI x4, vI x5, vI (x6 + 1), vJ (totM (asgM M x5 x6)), vU]) rfl ?_
          refine a_goto dX8_isBetter_95 (tgt := 28) rfl ?_
          exact a_weak (wk_e (wk_e (wk_u (wk_e (wk_e (wk_e (wk_e (wk_u (wk_u wk_n))))))))) h
        · replace h := h.2 c78
          refine a_iload dX8_isBetter_82 rfl ?_
          refine a_istore_n dX8_isBetter_84 rfl (Nat.le_of_ble_eq_true rfl) (ls' := [vR a0, vJ x1, vU, vI x5, vI x4, vI x5, vI x6, vJ (totM (asgM M x5 x6)), vU]) rfl ?_
          refine a_iload dX8_isBetter_85 rfl ?_
          refine a_istore dX8_isBetter_87 (Nat.le_of_ble_eq_true rfl) (ls' := [vR a0, vJ x1, vU, vI x5, vI x6, vI x5, vI x6, vJ (totM (asgM M x5 x6)), vU]) rfl ?_
          refine a_lload dX8_isBetter_89 rfl ?_
          refine a_lstore_n dX8_isBetter_91 rfl (Nat.le_of_ble_eq_true rfl) (ls' := [vR a0, vJ (totM (asgM M x5 x6)), vU, vI x5, vI x6, vI x5, vI x6, vJ (totM (asgM M x5 x6)), vU]) rfl ?_
          obtain ⟨q92_0, h⟩ := h
          refine a_iinc dX8_isBetter_92 rfl (Nat.le_of_ble_eq_true rfl) (by decide) q92_0 (ls' := [vR a0, vJ (totM (asgM M x5 x6)), vU, vI x5, vI x6, vI x5, vI (x6 + 1), vJ (totM (asgM M x5 x6)), vU]) rfl ?_
          refine a_goto dX8_isBetter_95 (tgt := 28) rfl ?_
          exact a_weak (wk_e (wk_e (wk_u (wk_e (wk_e (wk_e (wk_e (wk_u (wk_u wk_n))))))))) h

abbrev B3 : Type := Int × Int × Int
abbrev bt1c (M : Row) (s : B3) (f r : Int) : Prop := (ofM M f 7 = 0 ∧ shr (ofM M f 5) r % 2 = 1) ∧ totM (asgM M f r) < s.1
noncomputable def bt1 (M : Row) (s : B3) (f r : Int) : B3 := if bt1c M s f r then (totM (asgM M f r), f, r) else s
noncomputable def btR (M : Row) (f : Int) (s : B3) : Nat → B3
  | 0 => s
  | n + 1 => bt1 M (btR M f s n) f n
noncomputable def btF (M : Row) : Nat → B3
  | 0 => (totM M, -1, -1)
  | n + 1 => btR M n (btF M n) (M 5).toNat
noncomputable def btE (M : Row) : B3 := btF M (M 6).toNat
abbrev btr (M : Row) : Prop := ¬ (btE M).2.1 = -1
noncomputable def betM (M : Row) : Row := if btr M then asgM M (btE M).2.1 (btE M).2.2 else M
def bti (M : Row) (s : B3) : Prop := (0 ≤ s.1 ∧ s.1 ≤ totM M) ∧ (s.2.1 = -1 ∨ okAs M s.2.1 s.2.2)
theorem bt1_i {M : Row} (hM : okM M) {s : B3} {f r : Int} (hf : fl M f) (hr : rl M r) (h : bti M s) : bti M (bt1 M s f r) := by
  unfold bt1
  split
  · rename_i c
    have ok : okAs M f r := ⟨⟨hf, hr⟩, refu_of c.1.1 c.1.2⟩
    have t := tot_in (okM_asg hM ok)
    have c2 := c.2
    have h1 := h.1
    exact ⟨⟨t.1, by show totM (asgM M f r) ≤ totM M; omega⟩, Or.inr ok⟩
  · exact h
theorem btR_i {M : Row} (hM : okM M) {s : B3} {f : Int} (hf : fl M f) (h : bti M s) : ∀ n : Nat, (n : Int) ≤ M 5 → bti M (btR M f s n)
  | 0, _ => h
  | n + 1, hn => bt1_i hM hf ⟨by omega, by omega⟩ (btR_i hM hf h n (by omega))
theorem btF_i {M : Row} (hM : okM M) : ∀ n : Nat, (n : Int) ≤ M 6 → bti M (btF M n)
  | 0, _ => ⟨⟨(tot_in hM).1, Int.le_refl _⟩, Or.inl rfl⟩
  | n + 1, hn => btR_i hM ⟨by omega, by omega⟩ (btF_i hM n (by omega)) _ (by have := okM_5 hM; omega)
theorem btR_np {M : Row} {s : B3} {f : Int} (h : ¬ ofM M f 7 = 0) : ∀ n : Nat, btR M f s n = s
  | 0 => rfl
  | n + 1 => by
    show bt1 M (btR M f s n) f n = s
    rw [btR_np h n, bt1, if_neg (fun z => h z.1.1)]
theorem bet_ok {M : Row} (hM : okM M) (h : btr M) : okAs M (btE M).2.1 (btE M).2.2 := by
  have hn := okM_n hM
  rcases (btF_i hM (M 6).toNat (by omega)).2 with q | q
  · exact absurd q h
  · exact q
theorem okM_bet {M : Row} (hM : okM M) : okM (betM M) := by
  unfold betM
  split
  · exact okM_asg hM (bet_ok hM (by assumption))
  · exact hM
theorem c_isBetter {l : Launch} {G : GT} {d : Nat} {H : AH} {a : Int} {M : Row} (hW : MW H a M) (hd : 19 ≤ d := by omega) : CL l G mX8_isBetter d 0 0 [vR a] H (fun v H' => v = vI (bi (decide (btr M))) ∧ only H H' (pMt a) ∧ MW H' a (betM M)) := by
  obtain ⟨d, rfl⟩ : ∃ k, d = k + 1 := ⟨d - 1, by omega⟩
  have hM := hW.2.2.1
  have hn := okM_n hM
  have hn5 := okM_5 hM
  have ht := tot_in hM
  refine CL.of (by decide) rfl (Nat.le_of_ble_eq_true rfl) (s_X8_isBetter_0 hW fun H1 o1 w1 => ?_)
  have key : ∀ j, j ≤ (M 6).toNat → ∀ H', only H H' (pMt a) → MW H' a M → AW l G mX8_isBetter (d + 1) 0 0 (fun v H' => v = vI (bi (decide (btr M))) ∧ only H H' (pMt a) ∧ MW H' a (betM M)) 13 [vR a, vJ (btF M j).1, vU, vI (btF M j).2.1, vI (btF M j).2.2, vI j, vU, vU, vU] [] 0 0 H' := by
    refine upN _ ?_ ?_
    · intro j hj ih H' ho hW'
      have hjf : fl M j := ⟨by omega, by omega⟩
      have hi := btF_i hM j (by omega)
      refine s_X8_isBetter_13 hW' ⟨fun q => absurd q (by omega), fun _ => ?_⟩
      have go : ∀ s : B3, btF M (j + 1) = s → ∀ H', only H H' (pMt a) → MW H' a M → AW l G mX8_isBetter (d + 1) 0 0 (fun v H' => v = vI (bi (decide (btr M))) ∧ only H H' (pMt a) ∧ MW H' a (betM M)) 13 [vR a, vJ s.1, vU, vI s.2.1, vI s.2.2, vI (j + 1), vU, vU, vU] [] 0 0 H' := fun s hs H' o w => by rw [← hs]; exact ih H' o w
      have key2 : ∀ k, k ≤ (M 5).toNat → ∀ H', only H H' (pMt a) → MW H' a M → AW l G mX8_isBetter (d + 1) 0 0 (fun v H' => v = vI (bi (decide (btr M))) ∧ only H H' (pMt a) ∧ MW H' a (betM M)) 28 [vR a, vJ (btR M j (btF M j) k).1, vU, vI (btR M j (btF M j) k).2.1, vI (btR M j (btF M j) k).2.2, vI j, vI k, vU, vU] [] 0 0 H' := by
        refine upN _ ?_ ?_
        · intro k hk ih2 H' ho hW'
          have go2 : ∀ s : B3, btR M j (btF M j) (k + 1) = s → ∀ H', only H H' (pMt a) → MW H' a M → AW l G mX8_isBetter (d + 1) 0 0 (fun v H' => v = vI (bi (decide (btr M))) ∧ only H H' (pMt a) ∧ MW H' a (betM M)) 28 [vR a, vJ s.1, vU, vI s.2.1, vI s.2.2, vI j, vI (k + 1), vU, vU] [] 0 0 H' := fun s hs H' o w => by rw [← hs]; exact ih2 H' o w
          have hi2 := btR_i hM hjf hi k (by omega)
          have hi3 := hi2.1
          refine s_X8_isBetter_28 hW' ⟨by omega, fun q => ⟨by omega, go _ ?_ H' ho hW'⟩, fun q => ⟨fun q2 => absurd q2 (by omega), fun _ => ⟨by omega, fun q3 => ⟨fun _ => ⟨by omega, go2 _ ?_ H' ho hW'⟩, fun q4 => absurd q4 (by omega)⟩, fun q3 => ⟨⟨⟨hjf, by omega, by omega⟩, refu_of q q3⟩, fun H2 o2 w2 => ⟨fun q4 => ⟨by omega, go2 _ ?_ H2 (ho.trans o2) w2⟩, fun q4 => ⟨by omega, go2 (totM (asgM M j k), j, k) ?_ H2 (ho.trans o2) w2⟩⟩⟩⟩⟩⟩
          · show btR M j (btF M j) (M 5).toNat = btR M j (btF M j) k
            rw [btR_np q, btR_np q]
          · show bt1 M (btR M j (btF M j) k) j k = _
            rw [bt1, if_neg (fun z => q3 z.1.2)]
          · show bt1 M (btR M j (btF M j) k) j k = _
            rw [bt1, if_neg (fun z => by have := z.2; omega)]
          · show bt1 M (btR M j (btF M j) k) j k = _
            rw [bt1, if_pos ⟨⟨q, q3⟩, q4⟩]
        · intro H' ho hW'
          refine s_X8_isBetter_28 hW' ⟨by omega, fun q => ⟨by omega, go _ rfl H' ho hW'⟩, fun q => ⟨fun q2 => ⟨by omega, go _ rfl H' ho hW'⟩, fun q2 => absurd q2 (by omega)⟩⟩
      exact key2 0 (Nat.zero_le _) H' ho hW'
    · intro H' ho hW'
      refine s_X8_isBetter_13 hW' ⟨fun _ => ⟨fun q => ⟨fun _ => ?_, fun q2 => absurd q q2⟩, fun q => ?_⟩, fun q => absurd q (by omega)⟩
      · have nb : ¬ btr M := fun z => z q
        rw [bi_f nb, betM, if_neg nb]
        exact ⟨rfl, ho, hW'⟩
      · have nb : btr M := q
        have ok := bet_ok hM nb
        have okf := ok.1.1
        refine ⟨by show 0 ≤ (btE M).2.1 ∧ (btE M).2.1 < 24; omega, fun H2 M2 e2 x2 => ⟨fun q2 => absurd q2 q, fun _ => ?_⟩⟩
        rw [bi_t nb, betM, if_pos nb]
        have e2' : M2 = asgM M (btE M).2.1 (btE M).2.2 := e2
        rw [e2'] at x2
        exact ⟨rfl, ho.trans x2.1, x2.mw (okM_asg hM ok)⟩
  exact key 0 (Nat.zero_le _) H1 (o1.mono pMks_mt) w1

theorem dX8_balance_0 : decode cX8_balance 0 = .ok (.aload_n 0, 1) := by decide +kernel
theorem dX8_balance_1 : decode cX8_balance 1 = .ok (.iconst 0, 1) := by decide +kernel
theorem dX8_balance_2 : decode cX8_balance 2 = .ok (.putfield 55, 3) := by decide +kernel
theorem dX8_balance_5 : decode cX8_balance 5 = .ok (.iconst 0, 1) := by decide +kernel
theorem dX8_balance_6 : decode cX8_balance 6 = .ok (.istore_n 1, 1) := by decide +kernel
theorem dX8_balance_7 : decode cX8_balance 7 = .ok (.iload_n 1, 1) := by decide +kernel
theorem dX8_balance_8 : decode cX8_balance 8 = .ok (.bipush 10, 2) := by decide +kernel
theorem dX8_balance_10 : decode cX8_balance 10 = .ok (.if_icmp .ge 16, 3) := by decide +kernel
theorem dX8_balance_13 : decode cX8_balance 13 = .ok (.aload_n 0, 1) := by decide +kernel
theorem dX8_balance_14 : decode cX8_balance 14 = .ok (.invokevirtual 350, 3) := by decide +kernel
theorem dX8_balance_17 : decode cX8_balance 17 = .ok (.ifCond .eq 9, 3) := by decide +kernel
theorem dX8_balance_20 : decode cX8_balance 20 = .ok (.iinc 1 1, 3) := by decide +kernel
theorem dX8_balance_23 : decode cX8_balance 23 = .ok (.goto (-16), 3) := by decide +kernel
theorem dX8_balance_26 : decode cX8_balance 26 = .ok (.iload_n 1, 1) := by decide +kernel
theorem dX8_balance_27 : decode cX8_balance 27 = .ok (.ireturn, 1) := by decide +kernel
set_option maxRecDepth 20000 in
theorem s_X8_balance_0 {l : Launch} {G : GT} {d : Nat} {Q : AV → AH → Prop} {H : AH} {a0 : Int} {M : Row} (hW : MW H a0 M) (h : ∀ H1 : AH, H1 = hs H a0 5 0 → AW l G mX8_balance (d + 1) 0 0 Q 7 [vR a0, vI 0] [] 0 0 H1) (hd : 19 ≤ d := by omega) : AW l G mX8_balance (d + 1) 0 0 Q 0 [vR a0, vU] [] 0 0 H := by
  refine a_aload_n dX8_balance_0 rfl rfl ?_
  refine a_iconst dX8_balance_1 ⟨by decide, by decide⟩ ?_
  refine a_putI dX8_balance_2 fp_RX8_55 rfl rfl (kMod_0 hW.1) ?_
  have h_r0_1 := Lay.wr hW.1 ok_Mod (nrf_fld 5 (kMod_0 hW.1) (by decide) (by decide)) (i := 5) (x := 0)
  generalize e_H1 : hs H a0 5 0 = H1 at h_r0_1 ⊢
  replace h := h H1 e_H1.symm
  have row_H1 := (show rowM H1 a0 = _ from by rw [← e_H1, rowM_ne (by omega), hW.2.1])
  have mk_H1 := (show okM _ ∧ mkd H1 a0 from by rw [← e_H1]; exact ⟨hW.2.2.1, mkd_wr hW.2.2.2 (by omega) (by omega) (by omega)⟩)
  refine a_iconst dX8_balance_5 ⟨by decide, by decide⟩ ?_
  refine a_istore_n dX8_balance_6 rfl (Nat.le_of_ble_eq_true rfl) (ls' := [vR a0, vI 0]) rfl ?_
  exact h

set_option maxRecDepth 20000 in
theorem s_X8_balance_7 {l : Launch} {G : GT} {d : Nat} {Q : AV → AH → Prop} {H : AH} {a0 x1 : Int} {M : Row} (hW : MW H a0 M) (h : (10 ≤ x1 → Q (vI x1) H) ∧ (x1 < 10 → ∀ H1 : AH, ∀ M1 : Row, M1 = (betM M) → only H H1 (pMt a0) → MW H1 a0 M1 → (¬ (btr M) → Q (vI x1) H1) ∧ (btr M → (-2147483648 ≤ x1 + 1 ∧ x1 + 1 ≤ 2147483647) ∧ AW l G mX8_balance (d + 1) 0 0 Q 7 [vR a0, vI (x1 + 1)] [] 0 0 H1))) (hd : 19 ≤ d := by omega) : AW l G mX8_balance (d + 1) 0 0 Q 7 [vR a0, vI x1] [] 0 0 H := by
  refine a_iload_n dX8_balance_7 rfl rfl ?_
  refine a_bipush dX8_balance_8 (by decide) ?_
  refine a_icmp_ge dX8_balance_10 (tgt := 26) rfl (fun c10 => ?_) (fun c10 => ?_)
  · replace h := h.1 c10
    refine a_iload_n dX8_balance_26 rfl rfl ?_
    exact a_iret dX8_balance_27 rfl (Nat.le_of_ble_eq_true rfl) (Nat.le_of_ble_eq_true rfl) h
  · replace h := h.2 c10
    refine a_aload_n dX8_balance_13 rfl rfl ?_
    refine a_callV dX8_balance_14 cw_X8_balance_14 (as := []) rfl rfl (kMod_0 hW.1) (Nat.le_refl _) (Nat.le_of_ble_eq_true rfl) (nocov rfl) (Nat.le_of_ble_eq_true rfl) (Nat.le_of_ble_eq_true rfl) (CL.mono (c_isBetter (show MW H a0 M from ⟨hW.1, hW.2.1, hW.2.2⟩) ) (fun r9 H1 h9 => ?_))
    obtain ⟨e9, o_H1, hX_H1⟩ := h9
    rw [e9]
    obtain ⟨M1, e_M1⟩ : ∃ M1 : Row, M1 = (betM M) := ⟨_, rfl⟩
    rw [← e_M1] at hX_H1
    replace h := h H1 M1 e_M1 o_H1 hX_H1
    show AW l G mX8_balance (d + 1) 0 0 Q 17 [vR a0, vI x1] [vI (bi (decide (btr M)))] 0 0 H1
    refine a_if_eq dX8_balance_17 (tgt := 26) rfl (fun c17 => ?_) (fun c17 => ?_)
    · replace h := h.1 (bi_0 c17)
      refine a_iload_n dX8_balance_26 rfl rfl ?_
      exact a_iret dX8_balance_27 rfl (Nat.le_of_ble_eq_true rfl) (Nat.le_of_ble_eq_true rfl) h
    · replace h := h.2 (bi_1 c17)
      obtain ⟨q20_0, h⟩ := h
      refine a_iinc dX8_balance_20 rfl (Nat.le_of_ble_eq_true rfl) (by decide) q20_0 (ls' := [vR a0, vI (x1 + 1)]) rfl ?_
      refine a_goto dX8_balance_23 (tgt := 7) rfl ?_
      exact h

noncomputable def balS : Nat → Row → Int × Row
  | 0, M => (0, M)
  | n + 1, M => if btr M then ((balS n (betM M)).1 + 1, (balS n (betM M)).2) else (0, M)
theorem c_balance {l : Launch} {G : GT} {d : Nat} {H : AH} {a : Int} {M : Row} (hW : MW H a M) (hd : 20 ≤ d := by omega) : CL l G mX8_balance d 0 0 [vR a] H (mutP a (balS 10 M).2 (vI (balS 10 M).1) 0 H) := by
  obtain ⟨d, rfl⟩ : ∃ k, d = k + 1 := ⟨d - 1, by omega⟩
  refine CL.of (by decide) rfl (Nat.le_of_ble_eq_true rfl) (s_X8_balance_0 hW fun H1 e1 => ?_)
  have key : ∀ (n : Nat) (Mc : Row) (H' : AH), n ≤ 10 → pmW a Mc 0 H H' → (balS 10 M).1 = (10 - n) + (balS n Mc).1 → (balS 10 M).2 = (balS n Mc).2 → AW l G mX8_balance (d + 1) 0 0 (mutP a (balS 10 M).2 (vI (balS 10 M).1) 0 H) 7 [vR a, vI (10 - n)] [] 0 0 H' := by
    intro n
    induction n with
    | zero =>
      intro Mc H' hn hb e1 e2
      refine s_X8_balance_7 hb.2.2 ⟨fun _ => ?_, fun c => absurd c (by omega)⟩
      rw [e1, e2]
      have z : (balS 0 Mc).1 = 0 := rfl
      exact ⟨by rw [z, Int.add_zero], hb⟩
    | succ n ih =>
      intro Mc H' hn hb e1 e2
      refine s_X8_balance_7 hb.2.2 ⟨fun c => absurd c (by omega), fun _ H2 M2 eM o2 w2 => ⟨fun c => ?_, fun c => ⟨by omega, ?_⟩⟩⟩
      · have eb : balS (n + 1) Mc = if btr Mc then ((balS n (betM Mc)).1 + 1, (balS n (betM Mc)).2) else (0, Mc) := rfl
        rw [eb, if_neg c] at e1 e2
        rw [betM, if_neg c] at eM
        rw [e1, e2]
        rw [eM] at w2
        exact ⟨by simp, pmx hb o2 w2⟩
      · have eb : balS (n + 1) Mc = if btr Mc then ((balS n (betM Mc)).1 + 1, (balS n (betM Mc)).2) else (0, Mc) := rfl
        rw [eb, if_pos c] at e1 e2
        rw [eM] at w2
        have := ih (betM Mc) H2 (by omega) (pmx hb o2 w2) (by simp only [] at e1; omega) e2
        rw [show (10 : Int) - ((n + 1 : Nat) : Int) + 1 = 10 - n by omega]
        exact this
  exact key 10 M H1 (Nat.le_refl _) (pb_pm (pb1 hW e1)) (by simp) rfl

theorem dX8_aroundCost_0 : decode cX8_aroundCost 0 = .ok (.aload_n 0, 1) := by decide +kernel
theorem dX8_aroundCost_1 : decode cX8_aroundCost 1 = .ok (.iload_n 1, 1) := by decide +kernel
theorem dX8_aroundCost_2 : decode cX8_aroundCost 2 = .ok (.invokevirtual 71, 3) := by decide +kernel
theorem dX8_aroundCost_5 : decode cX8_aroundCost 5 = .ok (.ifCond .ne 5, 3) := by decide +kernel
theorem dX8_aroundCost_8 : decode cX8_aroundCost 8 = .ok (.lconst 0, 1) := by decide +kernel
theorem dX8_aroundCost_9 : decode cX8_aroundCost 9 = .ok (.lreturn, 1) := by decide +kernel
theorem dX8_aroundCost_10 : decode cX8_aroundCost 10 = .ok (.aload_n 0, 1) := by decide +kernel
theorem dX8_aroundCost_11 : decode cX8_aroundCost 11 = .ok (.iload_n 1, 1) := by decide +kernel
theorem dX8_aroundCost_12 : decode cX8_aroundCost 12 = .ok (.invokevirtual 338, 3) := by decide +kernel
theorem dX8_aroundCost_15 : decode cX8_aroundCost 15 = .ok (.istore_n 2, 1) := by decide +kernel
theorem dX8_aroundCost_16 : decode cX8_aroundCost 16 = .ok (.iload_n 2, 1) := by decide +kernel
theorem dX8_aroundCost_17 : decode cX8_aroundCost 17 = .ok (.ifCond .eq 6, 3) := by decide +kernel
theorem dX8_aroundCost_20 : decode cX8_aroundCost 20 = .ok (.iload_n 2, 1) := by decide +kernel
theorem dX8_aroundCost_21 : decode cX8_aroundCost 21 = .ok (.i2l, 1) := by decide +kernel
theorem dX8_aroundCost_22 : decode cX8_aroundCost 22 = .ok (.lreturn, 1) := by decide +kernel
theorem dX8_aroundCost_23 : decode cX8_aroundCost 23 = .ok (.aload_n 0, 1) := by decide +kernel
theorem dX8_aroundCost_24 : decode cX8_aroundCost 24 = .ok (.invokevirtual 287, 3) := by decide +kernel
theorem dX8_aroundCost_27 : decode cX8_aroundCost 27 = .ok (.lstore_n 3, 1) := by decide +kernel
theorem dX8_aroundCost_28 : decode cX8_aroundCost 28 = .ok (.aload_n 0, 1) := by decide +kernel
theorem dX8_aroundCost_29 : decode cX8_aroundCost 29 = .ok (.invokevirtual 353, 3) := by decide +kernel
theorem dX8_aroundCost_32 : decode cX8_aroundCost 32 = .ok (.aload_n 0, 1) := by decide +kernel
theorem dX8_aroundCost_33 : decode cX8_aroundCost 33 = .ok (.iload_n 1, 1) := by decide +kernel
theorem dX8_aroundCost_34 : decode cX8_aroundCost 34 = .ok (.invokevirtual 341, 3) := by decide +kernel
theorem dX8_aroundCost_37 : decode cX8_aroundCost 37 = .ok (.aload_n 0, 1) := by decide +kernel
theorem dX8_aroundCost_38 : decode cX8_aroundCost 38 = .ok (.invokevirtual 287, 3) := by decide +kernel
theorem dX8_aroundCost_41 : decode cX8_aroundCost 41 = .ok (.lstore 5, 2) := by decide +kernel
theorem dX8_aroundCost_43 : decode cX8_aroundCost 43 = .ok (.aload_n 0, 1) := by decide +kernel
theorem dX8_aroundCost_44 : decode cX8_aroundCost 44 = .ok (.invokevirtual 356, 3) := by decide +kernel
theorem dX8_aroundCost_47 : decode cX8_aroundCost 47 = .ok (.lload 5, 2) := by decide +kernel
theorem dX8_aroundCost_49 : decode cX8_aroundCost 49 = .ok (.lload_n 3, 1) := by decide +kernel
theorem dX8_aroundCost_50 : decode cX8_aroundCost 50 = .ok (.lsub, 1) := by decide +kernel
theorem dX8_aroundCost_51 : decode cX8_aroundCost 51 = .ok (.lreturn, 1) := by decide +kernel
set_option maxRecDepth 20000 in
theorem s_X8_aroundCost_0 {l : Launch} {G : GT} {d : Nat} {Q : AV → AH → Prop} {H : AH} {a0 x1 : Int} {M : Row} (hW : MW H a0 M) (h : (0 ≤ M 6 ∧ M 6 ≤ 24) ∧ ∀ H1 : AH, H1 = hs H a0 5 (1 - bi (decide (0 ≤ x1 ∧ x1 < M 6))) → (0 ≤ x1 ∧ x1 < M 6 → (0 ≤ x1 ∧ x1 < 24) ∧ ((noarM M x1) = 0 → ∀ H2 : AH, only H1 H2 (pMks a0) → MW H2 a0 M → ∀ H3 : AH, only H2 H3 (pAs a0) → MW H3 a0 M → asd H3 a0 M → (fl M x1) ∧ (0 ≤ ofM M x1 9 ∧ ofM M x1 9 ≤ 1000000000) ∧ ∀ H4 : AH, ∀ M4 : Row, M4 = arM M x1 → only H3 H4 (pMt a0) → MW H4 a0 M4 → ∀ H5 : AH, only H4 H5 (pMks a0) → MW H5 a0 M4 → ∃ M6 : Row, asd H5 a0 M6 ∧ okM M6 ∧ ∀ H6 : AH, only H5 H6 (pMt a0) → MW H6 a0 M6 → (-9223372036854775808 ≤ (totM M4) - (totM M) ∧ (totM M4) - (totM M) ≤ 9223372036854775807) ∧ Q (vJ ((totM M4) - (totM M))) H6) ∧ (¬ (noarM M x1) = 0 → Q (vJ (noarM M x1)) H1)) ∧ (¬ (0 ≤ x1 ∧ x1 < M 6) → Q (vJ 0) H1)) (hd : 17 ≤ d := by omega) : AW l G mX8_aroundCost (d + 1) 0 0 Q 0 [vR a0, vI x1, vU, vU, vU, vU, vU] [] 0 0 H := by
  refine a_aload_n dX8_aroundCost_0 rfl rfl ?_
  refine a_iload_n dX8_aroundCost_1 rfl rfl ?_
  obtain ⟨q2_0, h⟩ := h
  refine a_callV dX8_aroundCost_2 cw_X8_aroundCost_2 (as := [vI x1]) rfl rfl (kMod_0 hW.1) (Nat.le_refl _) (Nat.le_of_ble_eq_true rfl) (nocov rfl) (Nat.le_of_ble_eq_true rfl) (Nat.le_of_ble_eq_true rfl) (CL.mono (c_isFlight hW.1 (by rw [hW.2.1]; exact q2_0)) (fun r9 H9 h9 => ?_))
  rw [h9.1, h9.2]
  (try rw [hW.2.1])
  have h_r0_1 := Lay.wr hW.1 ok_Mod (nrf_fld 5 (kMod_0 hW.1) (by decide) (by decide)) (i := 5) (x := (1 - bi (decide (0 ≤ x1 ∧ x1 < M 6))))
  generalize e_H1 : hs H a0 5 (1 - bi (decide (0 ≤ x1 ∧ x1 < M 6))) = H1 at h_r0_1 ⊢
  replace h := h H1 e_H1.symm
  have row_H1 := (show rowM H1 a0 = _ from by rw [← e_H1, rowM_ne (by omega), hW.2.1])
  have mk_H1 := (show okM _ ∧ mkd H1 a0 from by rw [← e_H1]; exact ⟨hW.2.2.1, mkd_wr hW.2.2.2 (by omega) (by omega) (by omega)⟩)
  show AW l G mX8_aroundCost (d + 1) 0 0 Q 5 [vR a0, vI x1, vU, vU, vU, vU, vU] [vI (bi (decide (0 ≤ x1 ∧ x1 < M 6)))] 0 0 H1
  refine a_if_ne dX8_aroundCost_5 (tgt := 10) rfl (fun c5 => ?_) (fun c5 => ?_)
  · replace h := h.1 (bi_1 c5)
    refine a_aload_n dX8_aroundCost_10 rfl rfl ?_
    refine a_iload_n dX8_aroundCost_11 rfl rfl ?_
    obtain ⟨q12_0, h⟩ := h
    refine a_callV dX8_aroundCost_12 cw_X8_aroundCost_12 (as := [vI x1]) rfl rfl (kMod_0 h_r0_1) (Nat.le_refl _) (Nat.le_of_ble_eq_true rfl) (nocov rfl) (Nat.le_of_ble_eq_true rfl) (Nat.le_of_ble_eq_true rfl) (CL.mono (c_noAround h_r0_1 q12_0) (fun r9 H9 h9 => ?_))
    rw [h9.1, h9.2]
    (try rw [row_H1])
    show AW l G mX8_aroundCost (d + 1) 0 0 Q 15 [vR a0, vI x1, vU, vU, vU, vU, vU] [vI (noarM M x1)] 0 0 H1
    refine a_istore_n dX8_aroundCost_15 rfl (Nat.le_of_ble_eq_true rfl) (ls' := [vR a0, vI x1, vI (noarM M x1), vU, vU, vU, vU]) rfl ?_
    refine a_iload_n dX8_aroundCost_16 rfl rfl ?_
    refine a_if_eq dX8_aroundCost_17 (tgt := 23) rfl (fun c17 => ?_) (fun c17 => ?_)
    · replace h := h.1 c17
      refine a_aload_n dX8_aroundCost_23 rfl rfl ?_
      refine a_callV dX8_aroundCost_24 cw_X8_aroundCost_24 (as := []) rfl rfl (kMod_0 h_r0_1) (Nat.le_refl _) (Nat.le_of_ble_eq_true rfl) (nocov rfl) (Nat.le_of_ble_eq_true rfl) (Nat.le_of_ble_eq_true rfl) (CL.mono (c_total (show MW H1 a0 M from ⟨h_r0_1, row_H1, mk_H1⟩) ) (fun r9 H2 h9 => ?_))
      obtain ⟨e9, o_H2, hW_H2⟩ := h9
      rw [e9]
      replace h := h H2 o_H2 hW_H2
      show AW l G mX8_aroundCost (d + 1) 0 0 Q 27 [vR a0, vI x1, vI (noarM M x1), vU, vU, vU, vU] [vJ (totM M)] 0 0 H2
      refine a_lstore_n dX8_aroundCost_27 rfl (Nat.le_of_ble_eq_true rfl) (ls' := [vR a0, vI x1, vI (noarM M x1), vJ (totM M), vU, vU, vU]) rfl ?_
      refine a_aload_n dX8_aroundCost_28 rfl rfl ?_
      refine a_callV dX8_aroundCost_29 cw_X8_aroundCost_29 (as := []) rfl rfl (kMod_0 hW_H2.1) (Nat.le_refl _) (Nat.le_of_ble_eq_true rfl) (nocov rfl) (Nat.le_of_ble_eq_true rfl) (Nat.le_of_ble_eq_true rfl) (CL.mono (c_leaves (show MW H2 a0 M from ⟨hW_H2.1, hW_H2.2.1, hW_H2.2.2⟩) ) (fun r9 H3 h9 => ?_))
      obtain ⟨e9, o_H3, hW_H3, hX_H3⟩ := h9
      rw [e9]
      replace h := h H3 o_H3 hW_H3 hX_H3
      show AW l G mX8_aroundCost (d + 1) 0 0 Q 32 [vR a0, vI x1, vI (noarM M x1), vJ (totM M), vU, vU, vU] [] 0 0 H3
      refine a_aload_n dX8_aroundCost_32 rfl rfl ?_
      refine a_iload_n dX8_aroundCost_33 rfl rfl ?_
      obtain ⟨q34_0, h⟩ := h
      obtain ⟨q34_1, h⟩ := h
      refine a_callV dX8_aroundCost_34 cw_X8_aroundCost_34 (as := [vI x1]) rfl rfl (kMod_0 hW_H3.1) (Nat.le_refl _) (Nat.le_of_ble_eq_true rfl) (nocov rfl) (Nat.le_of_ble_eq_true rfl) (Nat.le_of_ble_eq_true rfl) (CL.mono (c_goesAround (show MW H3 a0 M from ⟨hW_H3.1, hW_H3.2.1, hW_H3.2.2⟩) q34_0 q34_1) (fun r9 H4 h9 => ?_))
      obtain ⟨e9, o_H4, hX_H4⟩ := h9
      rw [e9]
      obtain ⟨M4, e_M4⟩ : ∃ M4 : Row, M4 = arM M x1 := ⟨_, rfl⟩
      rw [← e_M4] at hX_H4
      replace h := h H4 M4 e_M4 o_H4 hX_H4
      show AW l G mX8_aroundCost (d + 1) 0 0 Q 37 [vR a0, vI x1, vI (noarM M x1), vJ (totM M), vU, vU, vU] [] 0 0 H4
      refine a_aload_n dX8_aroundCost_37 rfl rfl ?_
      refine a_callV dX8_aroundCost_38 cw_X8_aroundCost_38 (as := []) rfl rfl (kMod_0 hX_H4.1) (Nat.le_refl _) (Nat.le_of_ble_eq_true rfl) (nocov rfl) (Nat.le_of_ble_eq_true rfl) (Nat.le_of_ble_eq_true rfl) (CL.mono (c_total (show MW H4 a0 M4 from ⟨hX_H4.1, hX_H4.2.1, hX_H4.2.2⟩) ) (fun r9 H5 h9 => ?_))
      obtain ⟨e9, o_H5, hW_H5⟩ := h9
      rw [e9]
      replace h := h H5 o_H5 hW_H5
      show AW l G mX8_aroundCost (d + 1) 0 0 Q 41 [vR a0, vI x1, vI (noarM M x1), vJ (totM M), vU, vU, vU] [vJ (totM M4)] 0 0 H5
      refine a_lstore dX8_aroundCost_41 (Nat.le_of_ble_eq_true rfl) (ls' := [vR a0, vI x1, vI (noarM M x1), vJ (totM M), vU, vJ (totM M4), vU]) rfl ?_
      refine a_aload_n dX8_aroundCost_43 rfl rfl ?_
      obtain ⟨M6, q9a_H6, q9b_H6, h⟩ := h
      refine a_callV dX8_aroundCost_44 cw_X8_aroundCost_44 (as := []) rfl rfl (kMod_0 hW_H5.1) (Nat.le_refl _) (Nat.le_of_ble_eq_true rfl) (nocov rfl) (Nat.le_of_ble_eq_true rfl) (Nat.le_of_ble_eq_true rfl) (CL.mono (c_comesBack hW_H5.1 q9a_H6 q9b_H6) (fun r9 H6 h9 => ?_))
      obtain ⟨e9, o_H6, hX_H6⟩ := h9
      rw [e9]
      replace h := h H6 o_H6 hX_H6
      show AW l G mX8_aroundCost (d + 1) 0 0 Q 47 [vR a0, vI x1, vI (noarM M x1), vJ (totM M), vU, vJ (totM M4), vU] [] 0 0 H6
      refine a_lload dX8_aroundCost_47 rfl ?_
      refine a_lload_n dX8_aroundCost_49 rfl rfl ?_
      obtain ⟨q50_0, h⟩ := h
      refine a_lsub dX8_aroundCost_50 q50_0 ?_
      exact a_lret dX8_aroundCost_51 rfl (Nat.le_of_ble_eq_true rfl) (Nat.le_of_ble_eq_true rfl) h
    · replace h := h.2 c17
      refine a_iload_n dX8_aroundCost_20 rfl rfl ?_
      refine a_i2l dX8_aroundCost_21 ?_
      exact a_lret dX8_aroundCost_22 rfl (Nat.le_of_ble_eq_true rfl) (Nat.le_of_ble_eq_true rfl) h
  · replace h := h.2 (bi_0 c5)
    refine a_lconst dX8_aroundCost_8 ?_
    show AW l G mX8_aroundCost (d + 1) 0 0 Q 9 [vR a0, vI x1, vU, vU, vU, vU, vU] [vJ 0] 0 0 H1
    exact a_lret dX8_aroundCost_9 rfl (Nat.le_of_ble_eq_true rfl) (Nat.le_of_ble_eq_true rfl) h

theorem pma {H H1 H2 : AH} {a th : Int} {M M2 : Row} (h : pmW a M th H H1) (o : only H1 H2 (pAs a)) (w : MW H2 a M2) : pmW a M2 th H H2 :=
  ⟨(o.2.2 a 5 (by intro q; have : a = a + 3 := q; omega)).trans h.1, h.2.1.trans (o.mono (fun b i q => Or.inl (Or.inr (Or.inr (Or.inl q))))), w⟩
theorem asd.only {H H' : AH} {a : Int} {M : Row} (h : asd H a M) (o : only H H' (pMt a)) : asd H' a M := fun k k1 k2 => by
  rw [o.2.2 (a + 3) k (by rintro ((⟨q1, q2⟩ | ⟨q1, q2⟩) | q) <;> omega)]
  exact h k k1 k2
noncomputable def vARC (M : Row) (f : Int) : Int := if fl M f then (if noarM M f = 0 then totM (arM M f) - totM M else noarM M f) else 0
theorem c_aroundCost {l : Launch} {G : GT} {d : Nat} {H : AH} {a : Int} {M : Row} {f : Int} (hW : MW H a M) (hB : arB M 1000000000) (hd : 18 ≤ d := by omega) : CL l G mX8_aroundCost d 0 0 [vR a, vI f] H (mutP a M (vJ (vARC M f)) (1 - bi (decide (fl M f))) H) := by
  obtain ⟨d, rfl⟩ : ∃ k, d = k + 1 := ⟨d - 1, by omega⟩
  have hM := hW.2.2.1
  have hn := okM_n hM
  refine CL.of (by decide) rfl (Nat.le_of_ble_eq_true rfl) (s_X8_aroundCost_0 hW ⟨by omega, fun H1 e1 => ⟨fun c => ⟨by omega, fun c2 H2 o2 w2 H3 o3 w3 s3 => ⟨c, hB f c, fun H4 M4 e4 o4 w4 H5 o5 w5 => ⟨M, (s3.only o4).only (o5.mono pMks_mt), hM, fun H6 o6 w6 => ?_⟩⟩, fun c2 => ⟨by rw [vARC, if_pos c, if_neg c2], pb_pm (pb1 hW e1)⟩⟩, fun c => ⟨by rw [vARC, if_neg c], pb_pm (pb1 hW e1)⟩⟩⟩)
  have t1 := tot_in hM
  have t2 := tot_in (okM_ar hM c)
  rw [e4, vARC, if_pos c, if_pos c2]
  refine ⟨by omega, rfl, ?_⟩
  exact pmx (pmx (pmx (pma (pb_pm (pbq (pb1 hW e1) o2 w2)) o3 w3) o4 w4) (o5.mono pMks_mt) w5) o6 w6

theorem dX8_latestStart_0 : decode cX8_latestStart 0 = .ok (.aload_n 0, 1) := by decide +kernel
theorem dX8_latestStart_1 : decode cX8_latestStart 1 = .ok (.iload_n 1, 1) := by decide +kernel
theorem dX8_latestStart_2 : decode cX8_latestStart 2 = .ok (.invokevirtual 71, 3) := by decide +kernel
theorem dX8_latestStart_5 : decode cX8_latestStart 5 = .ok (.ifCond .ne 5, 3) := by decide +kernel
theorem dX8_latestStart_8 : decode cX8_latestStart 8 = .ok (.iconst 0, 1) := by decide +kernel
theorem dX8_latestStart_9 : decode cX8_latestStart 9 = .ok (.ireturn, 1) := by decide +kernel
theorem dX8_latestStart_10 : decode cX8_latestStart 10 = .ok (.aload_n 0, 1) := by decide +kernel
theorem dX8_latestStart_11 : decode cX8_latestStart 11 = .ok (.iload_n 1, 1) := by decide +kernel
theorem dX8_latestStart_12 : decode cX8_latestStart 12 = .ok (.invokevirtual 264, 3) := by decide +kernel
theorem dX8_latestStart_15 : decode cX8_latestStart 15 = .ok (.ifCond .ne 5, 3) := by decide +kernel
theorem dX8_latestStart_18 : decode cX8_latestStart 18 = .ok (.iconst (-1), 1) := by decide +kernel
theorem dX8_latestStart_19 : decode cX8_latestStart 19 = .ok (.ireturn, 1) := by decide +kernel
theorem dX8_latestStart_20 : decode cX8_latestStart 20 = .ok (.aload_n 0, 1) := by decide +kernel
theorem dX8_latestStart_21 : decode cX8_latestStart 21 = .ok (.iload_n 1, 1) := by decide +kernel
theorem dX8_latestStart_22 : decode cX8_latestStart 22 = .ok (.iconst 2, 1) := by decide +kernel
theorem dX8_latestStart_23 : decode cX8_latestStart 23 = .ok (.invokevirtual 75, 3) := by decide +kernel
theorem dX8_latestStart_26 : decode cX8_latestStart 26 = .ok (.istore_n 2, 1) := by decide +kernel
theorem dX8_latestStart_27 : decode cX8_latestStart 27 = .ok (.iconst (-1), 1) := by decide +kernel
theorem dX8_latestStart_28 : decode cX8_latestStart 28 = .ok (.istore_n 3, 1) := by decide +kernel
theorem dX8_latestStart_29 : decode cX8_latestStart 29 = .ok (.iconst 0, 1) := by decide +kernel
theorem dX8_latestStart_30 : decode cX8_latestStart 30 = .ok (.istore 4, 2) := by decide +kernel
theorem dX8_latestStart_32 : decode cX8_latestStart 32 = .ok (.iload 4, 2) := by decide +kernel
theorem dX8_latestStart_34 : decode cX8_latestStart 34 = .ok (.sipush 900, 3) := by decide +kernel
theorem dX8_latestStart_37 : decode cX8_latestStart 37 = .ok (.if_icmp .gt 45, 3) := by decide +kernel
theorem dX8_latestStart_40 : decode cX8_latestStart 40 = .ok (.iload_n 2, 1) := by decide +kernel
theorem dX8_latestStart_41 : decode cX8_latestStart 41 = .ok (.iload 4, 2) := by decide +kernel
theorem dX8_latestStart_43 : decode cX8_latestStart 43 = .ok (.iadd, 1) := by decide +kernel
theorem dX8_latestStart_44 : decode cX8_latestStart 44 = .ok (.aload_n 0, 1) := by decide +kernel
theorem dX8_latestStart_45 : decode cX8_latestStart 45 = .ok (.iload_n 1, 1) := by decide +kernel
theorem dX8_latestStart_46 : decode cX8_latestStart 46 = .ok (.iconst 4, 1) := by decide +kernel
theorem dX8_latestStart_47 : decode cX8_latestStart 47 = .ok (.invokevirtual 75, 3) := by decide +kernel
theorem dX8_latestStart_50 : decode cX8_latestStart 50 = .ok (.if_icmp .gt 32, 3) := by decide +kernel
theorem dX8_latestStart_53 : decode cX8_latestStart 53 = .ok (.aload_n 0, 1) := by decide +kernel
theorem dX8_latestStart_54 : decode cX8_latestStart 54 = .ok (.iload_n 1, 1) := by decide +kernel
theorem dX8_latestStart_55 : decode cX8_latestStart 55 = .ok (.iconst 2, 1) := by decide +kernel
theorem dX8_latestStart_56 : decode cX8_latestStart 56 = .ok (.iload_n 2, 1) := by decide +kernel
theorem dX8_latestStart_57 : decode cX8_latestStart 57 = .ok (.iload 4, 2) := by decide +kernel
theorem dX8_latestStart_59 : decode cX8_latestStart 59 = .ok (.iadd, 1) := by decide +kernel
theorem dX8_latestStart_60 : decode cX8_latestStart 60 = .ok (.invokevirtual 315, 3) := by decide +kernel
theorem dX8_latestStart_63 : decode cX8_latestStart 63 = .ok (.aload_n 0, 1) := by decide +kernel
theorem dX8_latestStart_64 : decode cX8_latestStart 64 = .ok (.iload_n 1, 1) := by decide +kernel
theorem dX8_latestStart_65 : decode cX8_latestStart 65 = .ok (.invokevirtual 279, 3) := by decide +kernel
theorem dX8_latestStart_68 : decode cX8_latestStart 68 = .ok (.ifCond .ne 8, 3) := by decide +kernel
theorem dX8_latestStart_71 : decode cX8_latestStart 71 = .ok (.iload_n 2, 1) := by decide +kernel
theorem dX8_latestStart_72 : decode cX8_latestStart 72 = .ok (.iload 4, 2) := by decide +kernel
theorem dX8_latestStart_74 : decode cX8_latestStart 74 = .ok (.iadd, 1) := by decide +kernel
theorem dX8_latestStart_75 : decode cX8_latestStart 75 = .ok (.istore_n 3, 1) := by decide +kernel
theorem dX8_latestStart_76 : decode cX8_latestStart 76 = .ok (.iinc 4 30, 3) := by decide +kernel
theorem dX8_latestStart_79 : decode cX8_latestStart 79 = .ok (.goto (-47), 3) := by decide +kernel
theorem dX8_latestStart_82 : decode cX8_latestStart 82 = .ok (.aload_n 0, 1) := by decide +kernel
theorem dX8_latestStart_83 : decode cX8_latestStart 83 = .ok (.iload_n 1, 1) := by decide +kernel
theorem dX8_latestStart_84 : decode cX8_latestStart 84 = .ok (.iconst 2, 1) := by decide +kernel
theorem dX8_latestStart_85 : decode cX8_latestStart 85 = .ok (.iload_n 2, 1) := by decide +kernel
theorem dX8_latestStart_86 : decode cX8_latestStart 86 = .ok (.invokevirtual 315, 3) := by decide +kernel
theorem dX8_latestStart_89 : decode cX8_latestStart 89 = .ok (.iload_n 3, 1) := by decide +kernel
theorem dX8_latestStart_90 : decode cX8_latestStart 90 = .ok (.ireturn, 1) := by decide +kernel
set_option maxRecDepth 20000 in
theorem s_X8_latestStart_0 {l : Launch} {G : GT} {d : Nat} {Q : AV → AH → Prop} {H : AH} {a0 x1 : Int} {M : Row} (hW : MW H a0 M) (h : (0 ≤ M 6 ∧ M 6 ≤ 24) ∧ ∀ H1 : AH, H1 = hs H a0 5 (1 - bi (decide (0 ≤ x1 ∧ x1 < M 6))) → (0 ≤ x1 ∧ x1 < M 6 → (0 ≤ x1 ∧ x1 < 24) ∧ (ofM M x1 7 = 0 → AW l G mX8_latestStart (d + 1) 0 0 Q 32 [vR a0, vI x1, vI (ofM M x1 2), vI (-1), vI 0] [] 0 0 H1) ∧ (¬ (ofM M x1 7 = 0) → Q (vI (-1)) H1)) ∧ (¬ (0 ≤ x1 ∧ x1 < M 6) → Q (vI 0) H1)) (hd : 16 ≤ d := by omega) : AW l G mX8_latestStart (d + 1) 0 0 Q 0 [vR a0, vI x1, vU, vU, vU] [] 0 0 H := by
  refine a_aload_n dX8_latestStart_0 rfl rfl ?_
  refine a_iload_n dX8_latestStart_1 rfl rfl ?_
  obtain ⟨q2_0, h⟩ := h
  refine a_callV dX8_latestStart_2 cw_X8_latestStart_2 (as := [vI x1]) rfl rfl (kMod_0 hW.1) (Nat.le_refl _) (Nat.le_of_ble_eq_true rfl) (nocov rfl) (Nat.le_of_ble_eq_true rfl) (Nat.le_of_ble_eq_true rfl) (CL.mono (c_isFlight hW.1 (by rw [hW.2.1]; exact q2_0)) (fun r9 H9 h9 => ?_))
  rw [h9.1, h9.2]
  (try rw [hW.2.1])
  have h_r0_1 := Lay.wr hW.1 ok_Mod (nrf_fld 5 (kMod_0 hW.1) (by decide) (by decide)) (i := 5) (x := (1 - bi (decide (0 ≤ x1 ∧ x1 < M 6))))
  generalize e_H1 : hs H a0 5 (1 - bi (decide (0 ≤ x1 ∧ x1 < M 6))) = H1 at h_r0_1 ⊢
  replace h := h H1 e_H1.symm
  have row_H1 := (show rowM H1 a0 = _ from by rw [← e_H1, rowM_ne (by omega), hW.2.1])
  have mk_H1 := (show okM _ ∧ mkd H1 a0 from by rw [← e_H1]; exact ⟨hW.2.2.1, mkd_wr hW.2.2.2 (by omega) (by omega) (by omega)⟩)
  show AW l G mX8_latestStart (d + 1) 0 0 Q 5 [vR a0, vI x1, vU, vU, vU] [vI (bi (decide (0 ≤ x1 ∧ x1 < M 6)))] 0 0 H1
  refine a_if_ne dX8_latestStart_5 (tgt := 10) rfl (fun c5 => ?_) (fun c5 => ?_)
  · replace h := h.1 (bi_1 c5)
    refine a_aload_n dX8_latestStart_10 rfl rfl ?_
    refine a_iload_n dX8_latestStart_11 rfl rfl ?_
    obtain ⟨q12_0, h⟩ := h
    refine a_callV dX8_latestStart_12 cw_X8_latestStart_12 (as := [vI x1]) rfl rfl (kMod_0 h_r0_1) (Nat.le_refl _) (Nat.le_of_ble_eq_true rfl) (nocov rfl) (Nat.le_of_ble_eq_true rfl) (Nat.le_of_ble_eq_true rfl) (CL.mono (c_isPlanned h_r0_1 q12_0) (fun r9 H9 h9 => ?_))
    rw [h9.1, h9.2]
    (try rw [row_H1])
    show AW l G mX8_latestStart (d + 1) 0 0 Q 15 [vR a0, vI x1, vU, vU, vU] [vI (bi (decide (ofM M x1 7 = 0)))] 0 0 H1
    refine a_if_ne dX8_latestStart_15 (tgt := 20) rfl (fun c15 => ?_) (fun c15 => ?_)
    · replace h := h.1 (bi_1 c15)
      refine a_aload_n dX8_latestStart_20 rfl rfl ?_
      refine a_iload_n dX8_latestStart_21 rfl rfl ?_
      refine a_iconst dX8_latestStart_22 ⟨by decide, by decide⟩ ?_
      refine a_callV dX8_latestStart_23 cw_X8_latestStart_23 (as := [vI x1, vI 2]) rfl rfl (kMod_0 h_r0_1) (Nat.le_refl _) (Nat.le_of_ble_eq_true rfl) (nocov rfl) (Nat.le_of_ble_eq_true rfl) (Nat.le_of_ble_eq_true rfl) (CL.mono (c_of h_r0_1 ⟨q12_0.1, q12_0.2, by decide, by decide⟩) (fun r9 H9 h9 => ?_))
      rw [h9.1, h9.2]
      (try rw [row_H1])
      show AW l G mX8_latestStart (d + 1) 0 0 Q 26 [vR a0, vI x1, vU, vU, vU] [vI (ofM M x1 2)] 0 0 H1
      refine a_istore_n dX8_latestStart_26 rfl (Nat.le_of_ble_eq_true rfl) (ls' := [vR a0, vI x1, vI (ofM M x1 2), vU, vU]) rfl ?_
      refine a_iconst dX8_latestStart_27 ⟨by decide, by decide⟩ ?_
      refine a_istore_n dX8_latestStart_28 rfl (Nat.le_of_ble_eq_true rfl) (ls' := [vR a0, vI x1, vI (ofM M x1 2), vI (-1), vU]) rfl ?_
      refine a_iconst dX8_latestStart_29 ⟨by decide, by decide⟩ ?_
      refine a_istore dX8_latestStart_30 (Nat.le_of_ble_eq_true rfl) (ls' := [vR a0, vI x1, vI (ofM M x1 2), vI (-1), vI 0]) rfl ?_
      exact h
    · replace h := h.2 (bi_0 c15)
      refine a_iconst dX8_latestStart_18 ⟨by decide, by decide⟩ ?_
      exact a_iret dX8_latestStart_19 rfl (Nat.le_of_ble_eq_true rfl) (Nat.le_of_ble_eq_true rfl) h
  · replace h := h.2 (bi_0 c5)
    refine a_iconst dX8_latestStart_8 ⟨by decide, by decide⟩ ?_
    exact a_iret dX8_latestStart_9 rfl (Nat.le_of_ble_eq_true rfl) (Nat.le_of_ble_eq_true rfl) h

set_option maxRecDepth 20000 in
theorem s_X8_latestStart_32 {l : Launch} {G : GT} {d : Nat} {Q : AV → AH → Prop} {H : AH} {a0 x1 x2 x3 x4 : Int} {M : Row} (hW : MW H a0 M) (h : (900 < x4 → (0 ≤ x1 ∧ x1 < 24) ∧ ∀ H1 : AH, ∀ M1 : Row, M1 = upM M (56 + 16 * x1 + 2) x2 → MX H H1 a0 M1 → Q (vI x3) H1) ∧ (x4 ≤ 900 → (-2147483648 ≤ x2 + x4 ∧ x2 + x4 ≤ 2147483647) ∧ (0 ≤ x1 ∧ x1 < 24) ∧ ((ofM M x1 4) < (x2 + x4) → ∀ H1 : AH, ∀ M1 : Row, M1 = upM M (56 + 16 * x1 + 2) x2 → MX H H1 a0 M1 → Q (vI x3) H1) ∧ ((x2 + x4) ≤ (ofM M x1 4) → ∀ H1 : AH, ∀ M1 : Row, M1 = upM M (56 + 16 * x1 + 2) (x2 + x4) → MX H H1 a0 M1 → (okM M1 ∧ mkd H1 a0) ∧ (0 ≤ x1 ∧ x1 < M1 6) ∧ ∀ H2 : AH, only H1 H2 (pMks a0) → MW H2 a0 M1 → (¬ ofM M1 x1 7 = 3 ∧ ofM M1 x1 4 < tmNow M1 x1 → (-2147483648 ≤ x4 + 30 ∧ x4 + 30 ≤ 2147483647) ∧ AW l G mX8_latestStart (d + 1) 0 0 Q 32 [vR a0, vI x1, vI x2, vI x3, vI (x4 + 30)] [] 0 0 H2) ∧ (¬ (¬ ofM M1 x1 7 = 3 ∧ ofM M1 x1 4 < tmNow M1 x1) → (-2147483648 ≤ x4 + 30 ∧ x4 + 30 ≤ 2147483647) ∧ AW l G mX8_latestStart (d + 1) 0 0 Q 32 [vR a0, vI x1, vI x2, vI (x2 + x4), vI (x4 + 30)] [] 0 0 H2)))) (hd : 16 ≤ d := by omega) : AW l G mX8_latestStart (d + 1) 0 0 Q 32 [vR a0, vI x1, vI x2, vI x3, vI x4] [] 0 0 H := by
  refine a_iload dX8_latestStart_32 rfl ?_
  refine a_sipush dX8_latestStart_34 (by decide) ?_
  refine a_icmp_gt dX8_latestStart_37 (tgt := 82) rfl (fun c37 => ?_) (fun c37 => ?_)
  · replace h := h.1 c37
    refine a_aload_n dX8_latestStart_82 rfl rfl ?_
    refine a_iload_n dX8_latestStart_83 rfl rfl ?_
    refine a_iconst dX8_latestStart_84 ⟨by decide, by decide⟩ ?_
    refine a_iload_n dX8_latestStart_85 rfl rfl ?_
    obtain ⟨q86_0, h⟩ := h
    refine a_callV dX8_latestStart_86 cw_X8_latestStart_86 (as := [vI x1, vI 2, vI x2]) rfl rfl (kMod_0 hW.1) (Nat.le_refl _) (Nat.le_of_ble_eq_true rfl) (nocov rfl) (Nat.le_of_ble_eq_true rfl) (Nat.le_of_ble_eq_true rfl) (CL.mono (c_setsX hW.1 hW.2.1 ⟨q86_0.1, q86_0.2, by decide, by decide⟩) (fun r9 H1 h9 => ?_))
    obtain ⟨e9, hX_H1⟩ := h9
    rw [e9]
    obtain ⟨M1, e_M1⟩ : ∃ M1 : Row, M1 = upM M (56 + 16 * x1 + 2) x2 := ⟨_, rfl⟩
    rw [← e_M1] at hX_H1
    replace h := h H1 M1 e_M1 hX_H1
    show AW l G mX8_latestStart (d + 1) 0 0 Q 89 [vR a0, vI x1, vI x2, vI x3, vI x4] [] 0 0 H1
    refine a_iload_n dX8_latestStart_89 rfl rfl ?_
    exact a_iret dX8_latestStart_90 rfl (Nat.le_of_ble_eq_true rfl) (Nat.le_of_ble_eq_true rfl) h
  · replace h := h.2 c37
    refine a_iload_n dX8_latestStart_40 rfl rfl ?_
    refine a_iload dX8_latestStart_41 rfl ?_
    obtain ⟨q43_0, h⟩ := h
    refine a_iadd dX8_latestStart_43 q43_0 ?_
    refine a_aload_n dX8_latestStart_44 rfl rfl ?_
    refine a_iload_n dX8_latestStart_45 rfl rfl ?_
    refine a_iconst dX8_latestStart_46 ⟨by decide, by decide⟩ ?_
    obtain ⟨q47_0, h⟩ := h
    refine a_callV dX8_latestStart_47 cw_X8_latestStart_47 (as := [vI x1, vI 4]) rfl rfl (kMod_0 hW.1) (Nat.le_refl _) (Nat.le_of_ble_eq_true rfl) (nocov rfl) (Nat.le_of_ble_eq_true rfl) (Nat.le_of_ble_eq_true rfl) (CL.mono (c_of hW.1 ⟨q47_0.1, q47_0.2, by decide, by decide⟩) (fun r9 H9 h9 => ?_))
    rw [h9.1, h9.2]
    (try rw [hW.2.1])
    show AW l G mX8_latestStart (d + 1) 0 0 Q 50 [vR a0, vI x1, vI x2, vI x3, vI x4] [vI (ofM M x1 4), vI (x2 + x4)] 0 0 H
    refine a_icmp_gt dX8_latestStart_50 (tgt := 82) rfl (fun c50 => ?_) (fun c50 => ?_)
    · replace h := h.1 c50
      refine a_aload_n dX8_latestStart_82 rfl rfl ?_
      refine a_iload_n dX8_latestStart_83 rfl rfl ?_
      refine a_iconst dX8_latestStart_84 ⟨by decide, by decide⟩ ?_
      refine a_iload_n dX8_latestStart_85 rfl rfl ?_
      refine a_callV dX8_latestStart_86 cw_X8_latestStart_86 (as := [vI x1, vI 2, vI x2]) rfl rfl (kMod_0 hW.1) (Nat.le_refl _) (Nat.le_of_ble_eq_true rfl) (nocov rfl) (Nat.le_of_ble_eq_true rfl) (Nat.le_of_ble_eq_true rfl) (CL.mono (c_setsX hW.1 hW.2.1 ⟨q47_0.1, q47_0.2, by decide, by decide⟩) (fun r9 H1 h9 => ?_))
      obtain ⟨e9, hX_H1⟩ := h9
      rw [e9]
      obtain ⟨M1, e_M1⟩ : ∃ M1 : Row, M1 = upM M (56 + 16 * x1 + 2) x2 := ⟨_, rfl⟩
      rw [← e_M1] at hX_H1
      replace h := h H1 M1 e_M1 hX_H1
      show AW l G mX8_latestStart (d + 1) 0 0 Q 89 [vR a0, vI x1, vI x2, vI x3, vI x4] [] 0 0 H1
      refine a_iload_n dX8_latestStart_89 rfl rfl ?_
      exact a_iret dX8_latestStart_90 rfl (Nat.le_of_ble_eq_true rfl) (Nat.le_of_ble_eq_true rfl) h
    · replace h := h.2 c50
      refine a_aload_n dX8_latestStart_53 rfl rfl ?_
      refine a_iload_n dX8_latestStart_54 rfl rfl ?_
      refine a_iconst dX8_latestStart_55 ⟨by decide, by decide⟩ ?_
      refine a_iload_n dX8_latestStart_56 rfl rfl ?_
      refine a_iload dX8_latestStart_57 rfl ?_
      refine a_iadd dX8_latestStart_59 q43_0 ?_
      refine a_callV dX8_latestStart_60 cw_X8_latestStart_60 (as := [vI x1, vI 2, vI (x2 + x4)]) rfl rfl (kMod_0 hW.1) (Nat.le_refl _) (Nat.le_of_ble_eq_true rfl) (nocov rfl) (Nat.le_of_ble_eq_true rfl) (Nat.le_of_ble_eq_true rfl) (CL.mono (c_setsX hW.1 hW.2.1 ⟨q47_0.1, q47_0.2, by decide, by decide⟩) (fun r9 H1 h9 => ?_))
      obtain ⟨e9, hX_H1⟩ := h9
      rw [e9]
      obtain ⟨M1, e_M1⟩ : ∃ M1 : Row, M1 = upM M (56 + 16 * x1 + 2) (x2 + x4) := ⟨_, rfl⟩
      rw [← e_M1] at hX_H1
      replace h := h H1 M1 e_M1 hX_H1
      show AW l G mX8_latestStart (d + 1) 0 0 Q 63 [vR a0, vI x1, vI x2, vI x3, vI x4] [] 0 0 H1
      refine a_aload_n dX8_latestStart_63 rfl rfl ?_
      refine a_iload_n dX8_latestStart_64 rfl rfl ?_
      obtain ⟨q65_0, h⟩ := h
      obtain ⟨q65_1, h⟩ := h
      refine a_callV dX8_latestStart_65 cw_X8_latestStart_65 (as := [vI x1]) rfl rfl (kMod_0 hX_H1.2.1) (Nat.le_refl _) (Nat.le_of_ble_eq_true rfl) (nocov rfl) (Nat.le_of_ble_eq_true rfl) (Nat.le_of_ble_eq_true rfl) (CL.mono (c_isLateNow (show MW H1 a0 M1 from ⟨hX_H1.2.1, hX_H1.2.2.1, q65_0⟩) q65_1) (fun r9 H2 h9 => ?_))
      obtain ⟨e9, o_H2, hW_H2⟩ := h9
      rw [e9]
      replace h := h H2 o_H2 hW_H2
      show AW l G mX8_latestStart (d + 1) 0 0 Q 68 [vR a0, vI x1, vI x2, vI x3, vI x4] [vI (bi (decide (¬ ofM M1 x1 7 = 3 ∧ ofM M1 x1 4 < tmNow M1 x1)))] 0 0 H2
      refine a_if_ne dX8_latestStart_68 (tgt := 76) rfl (fun c68 => ?_) (fun c68 => ?_)
      · replace h := h.1 (bi_1 c68)
        obtain ⟨q76_0, h⟩ := h
        refine a_iinc dX8_latestStart_76 rfl (Nat.le_of_ble_eq_true rfl) (by decide) q76_0 (ls' := [vR a0, vI x1, vI x2, vI x3, vI (x4 + 30)]) rfl ?_
        refine a_goto dX8_latestStart_79 (tgt := 32) rfl ?_
        exact h
      · replace h := h.2 (bi_0 c68)
        refine a_iload_n dX8_latestStart_71 rfl rfl ?_
        refine a_iload dX8_latestStart_72 rfl ?_
        refine a_iadd dX8_latestStart_74 q43_0 ?_
        refine a_istore_n dX8_latestStart_75 rfl (Nat.le_of_ble_eq_true rfl) (ls' := [vR a0, vI x1, vI x2, vI (x2 + x4), vI x4]) rfl ?_
        obtain ⟨q76_0, h⟩ := h
        refine a_iinc dX8_latestStart_76 rfl (Nat.le_of_ble_eq_true rfl) (by decide) q76_0 (ls' := [vR a0, vI x1, vI x2, vI (x2 + x4), vI (x4 + 30)]) rfl ?_
        refine a_goto dX8_latestStart_79 (tgt := 32) rfl ?_
        exact h

def lsM (M : Row) (f k : Int) : Row := upM M (56 + 16 * f + 2) (ofM M f 2 + 30 * k)
abbrev lsP (M : Row) (f k : Int) : Prop := ofM M f 2 + 30 * k ≤ ofM M f 4 ∧ tmNow (lsM M f k) f ≤ ofM M f 4
noncomputable def lsN (M : Row) (f : Int) : Nat → Int
  | 0 => -1
  | n + 1 => if lsP M f n then ofM M f 2 + 30 * n else lsN M f n
noncomputable def vLS (M : Row) (f : Int) : Int := if fl M f then (if ofM M f 7 = 0 then lsN M f 31 else -1) else 0
theorem lsN_stop {M : Row} {f : Int} {j : Nat} (h : ofM M f 4 < ofM M f 2 + 30 * j) : ∀ {n : Nat}, j ≤ n → lsN M f n = lsN M f j
  | 0, hn => by rw [show j = 0 by omega]
  | n + 1, hn => by
    by_cases e : j = n + 1
    · rw [e]
    · rw [lsN, if_neg (fun z => by have := z.1; omega)]
      exact lsN_stop h (by omega)
theorem okM_set2 {M : Row} (hM : okM M) {f x : Int} (hf : fl M f) (hx : 0 ≤ x ∧ x ≤ 300000) : okM (upM M (56 + 16 * f + 2) x) := by
  refine okM_one (g := f) hM (fun k _ q => lo_up q hf.1 (by omega)) (fun g w q1 _ q2 q3 => of_ne (by omega) (by omega) (Or.inl q1)) ?_
  obtain ⟨h0, h1, h2, h3, h4, h5, h6, h7, h8, h9⟩ := hM.2 f hf.1 hf.2
  unfold okF
  rw [of_ne (by omega) (by omega) (by omega), of_ne (by omega) (by omega) (by omega), of_same (by omega), of_ne (by omega) (by omega) (by omega), of_ne (by omega) (by omega) (by omega), of_ne (by omega) (by omega) (by omega), of_ne (by omega) (by omega) (by omega), of_ne (by omega) (by omega) (by omega), of_ne (by omega) (by omega) (by omega), lo_up (by omega) hf.1 (by omega)]
  exact ⟨h0, h1, hx, h3, h4, h5, h6, h7, h8, h9⟩
theorem c_latestStart {l : Launch} {G : GT} {d : Nat} {H : AH} {a : Int} {M : Row} {f : Int} (hW : MW H a M) (hd : 17 ≤ d := by omega) : CL l G mX8_latestStart d 0 0 [vR a, vI f] H (mutP a M (vI (vLS M f)) (1 - bi (decide (fl M f))) H) := by
  obtain ⟨d, rfl⟩ : ∃ k, d = k + 1 := ⟨d - 1, by omega⟩
  have hM := hW.2.2.1
  have hn := okM_n hM
  refine CL.of (by decide) rfl (Nat.le_of_ble_eq_true rfl) (s_X8_latestStart_0 hW ⟨by omega, fun H1 e1 => ⟨fun c => ⟨by omega, fun c2 => ?_, fun c2 => ⟨by rw [vLS, if_pos c, if_neg c2], pb_pm (pb1 hW e1)⟩⟩, fun c => ⟨by rw [vLS, if_neg c], pb_pm (pb1 hW e1)⟩⟩⟩)
  obtain ⟨-, -, h2, -, h4, -, -, -, -, -⟩ := hM.2 f c.1 c.2
  have key : ∀ j, j ≤ 31 → ∀ (y : Int) (H' : AH), pmW a (upM M (56 + 16 * f + 2) y) (1 - bi (decide (fl M f))) H H' → AW l G mX8_latestStart (d + 1) 0 0 (mutP a M (vI (vLS M f)) (1 - bi (decide (fl M f))) H) 32 [vR a, vI f, vI (ofM M f 2), vI (lsN M f j), vI (30 * (j : Int))] [] 0 0 H' := by
    have back : ∀ (y : Int) (H' H2 : AH) (M2 : Row), pmW a (upM M (56 + 16 * f + 2) y) (1 - bi (decide (fl M f))) H H' → M2 = upM (upM M (56 + 16 * f + 2) y) (56 + 16 * f + 2) (ofM M f 2) → MX H' H2 a M2 → pmW a M (1 - bi (decide (fl M f))) H H2 := by
      intro y H' H2 M2 hb e2 x2
      have e : M2 = M := by rw [e2]; exact upM_back
      rw [e] at x2
      exact pm_mx hb x2 hM
    refine upN _ ?_ ?_
    · intro j hj ih y H' hb
      have e4 : ofM (upM M (56 + 16 * f + 2) y) f 4 = ofM M f 4 := of_ne (by omega) (by omega) (by omega)
      refine s_X8_latestStart_32 hb.2.2 ?_
      rw [e4]
      refine ⟨fun q => absurd q (by omega), fun _ => ⟨by omega, by omega, fun q H2 M2 e2 x2 => ⟨?_, back y H' H2 M2 hb e2 x2⟩, fun q H2 M2 e2 x2 => ?_⟩⟩
      · rw [vLS, if_pos c, if_pos c2, lsN_stop (n := 31) q (by omega)]
      · have eM : M2 = lsM M f j := by rw [e2]; exact upM_up
        have hM2 : okM M2 := by rw [eM]; exact okM_set2 hM c (by omega)
        have e7 : ofM M2 f 7 = 0 := by rw [eM, lsM, of_ne (by omega) (by omega) (by omega)]; exact c2
        have e42 : ofM M2 f 4 = ofM M f 4 := by rw [eM, lsM, of_ne (by omega) (by omega) (by omega)]
        have e6 : M2 6 = M 6 := by rw [eM, lsM, lo_up (by omega) c.1 (by omega)]
        rw [e6, e7, e42]
        have hb2 : ∀ H3, only H2 H3 (pMks a) → MW H3 a M2 → pmW a (upM M (56 + 16 * f + 2) (ofM M f 2 + 30 * j)) (1 - bi (decide (fl M f))) H H3 := fun H3 o3 w3 => by
          have := pmx (pm_mx hb x2 hM2) (o3.mono pMks_mt) w3
          rw [eM] at this
          exact this
        have gj : (30 * (j : Int) + 30) = 30 * ((j + 1 : Nat) : Int) := by omega
        refine ⟨⟨hM2, x2.mk⟩, c, fun H3 o3 w3 => ⟨fun q3 => ⟨by omega, ?_⟩, fun q3 => ⟨by omega, ?_⟩⟩⟩
        · have := ih _ H3 (hb2 H3 o3 w3)
          rw [lsN, if_neg (fun z => by have := z.2; rw [← eM] at this; omega), ← gj] at this
          exact this
        · have := ih _ H3 (hb2 H3 o3 w3)
          rw [lsN, if_pos ⟨q, by rw [← eM]; omega⟩, ← gj] at this
          exact this
    · intro y H' hb
      refine s_X8_latestStart_32 hb.2.2 ⟨fun _ => ⟨by omega, fun H2 M2 e2 x2 => ⟨by rw [vLS, if_pos c, if_pos c2], back y H' H2 M2 hb e2 x2⟩⟩, fun q => absurd q (by omega)⟩
  have := key 0 (Nat.zero_le _) (ofM M f 2) H1 (by
    have e : upM M (56 + 16 * f + 2) (ofM M f 2) = M := upM_self
    rw [e]
    exact pb_pm (pb1 hW e1))
  exact this

theorem dX8_apartOf_0 : decode cX8_apartOf 0 = .ok (.aload_n 0, 1) := by decide +kernel
theorem dX8_apartOf_1 : decode cX8_apartOf 1 = .ok (.iload_n 2, 1) := by decide +kernel
theorem dX8_apartOf_2 : decode cX8_apartOf 2 = .ok (.iconst 0, 1) := by decide +kernel
theorem dX8_apartOf_3 : decode cX8_apartOf 3 = .ok (.invokevirtual 75, 3) := by decide +kernel
theorem dX8_apartOf_6 : decode cX8_apartOf 6 = .ok (.ifCond .ne 10, 3) := by decide +kernel
theorem dX8_apartOf_9 : decode cX8_apartOf 9 = .ok (.aload_n 0, 1) := by decide +kernel
theorem dX8_apartOf_10 : decode cX8_apartOf 10 = .ok (.getfield 9, 3) := by decide +kernel
theorem dX8_apartOf_13 : decode cX8_apartOf 13 = .ok (.iconst 4, 1) := by decide +kernel
theorem dX8_apartOf_14 : decode cX8_apartOf 14 = .ok (.iaload, 1) := by decide +kernel
theorem dX8_apartOf_15 : decode cX8_apartOf 15 = .ok (.ireturn, 1) := by decide +kernel
theorem dX8_apartOf_16 : decode cX8_apartOf 16 = .ok (.iload_n 3, 1) := by decide +kernel
theorem dX8_apartOf_17 : decode cX8_apartOf 17 = .ok (.ifCond .eq 17, 3) := by decide +kernel
theorem dX8_apartOf_20 : decode cX8_apartOf 20 = .ok (.aload_n 0, 1) := by decide +kernel
theorem dX8_apartOf_21 : decode cX8_apartOf 21 = .ok (.aload_n 0, 1) := by decide +kernel
theorem dX8_apartOf_22 : decode cX8_apartOf 22 = .ok (.iload_n 2, 1) := by decide +kernel
theorem dX8_apartOf_23 : decode cX8_apartOf 23 = .ok (.iconst 1, 1) := by decide +kernel
theorem dX8_apartOf_24 : decode cX8_apartOf 24 = .ok (.invokevirtual 75, 3) := by decide +kernel
theorem dX8_apartOf_27 : decode cX8_apartOf 27 = .ok (.iload_n 1, 1) := by decide +kernel
theorem dX8_apartOf_28 : decode cX8_apartOf 28 = .ok (.invokevirtual 204, 3) := by decide +kernel
theorem dX8_apartOf_31 : decode cX8_apartOf 31 = .ok (.goto 14, 3) := by decide +kernel
theorem dX8_apartOf_34 : decode cX8_apartOf 34 = .ok (.aload_n 0, 1) := by decide +kernel
theorem dX8_apartOf_35 : decode cX8_apartOf 35 = .ok (.iload_n 1, 1) := by decide +kernel
theorem dX8_apartOf_36 : decode cX8_apartOf 36 = .ok (.aload_n 0, 1) := by decide +kernel
theorem dX8_apartOf_37 : decode cX8_apartOf 37 = .ok (.iload_n 2, 1) := by decide +kernel
theorem dX8_apartOf_38 : decode cX8_apartOf 38 = .ok (.iconst 1, 1) := by decide +kernel
theorem dX8_apartOf_39 : decode cX8_apartOf 39 = .ok (.invokevirtual 75, 3) := by decide +kernel
theorem dX8_apartOf_42 : decode cX8_apartOf 42 = .ok (.invokevirtual 204, 3) := by decide +kernel
theorem dX8_apartOf_45 : decode cX8_apartOf 45 = .ok (.ireturn, 1) := by decide +kernel
set_option maxRecDepth 20000 in
theorem s_X8_apartOf_0 {l : Launch} {G : GT} {d : Nat} {Q : AV → AH → Prop} {H : AH} {a0 x1 x2 x3 : Int} {M : Row} (hW : MW H a0 M) (h : (0 ≤ x2 ∧ x2 < 24) ∧ (¬ (ofM M x2 0) = 0 → (x3 = 0 → (0 ≤ x1 ∧ x1 ≤ 3 ∧ 0 ≤ (ofM M x2 1) ∧ (ofM M x2 1) ≤ 3) ∧ Q (vI (M (8 + 4 * x1 + (ofM M x2 1)))) H) ∧ (¬ x3 = 0 → (0 ≤ (ofM M x2 1) ∧ (ofM M x2 1) ≤ 3 ∧ 0 ≤ x1 ∧ x1 ≤ 3) ∧ Q (vI (M (8 + 4 * (ofM M x2 1) + x1))) H)) ∧ ((ofM M x2 0) = 0 → Q (vI (M 4)) H)) (hd : 1 ≤ d := by omega) : AW l G mX8_apartOf (d + 1) 0 0 Q 0 [vR a0, vI x1, vI x2, vI x3] [] 0 0 H := by
  refine a_aload_n dX8_apartOf_0 rfl rfl ?_
  refine a_iload_n dX8_apartOf_1 rfl rfl ?_
  refine a_iconst dX8_apartOf_2 ⟨by decide, by decide⟩ ?_
  obtain ⟨q3_0, h⟩ := h
  refine a_callV dX8_apartOf_3 cw_X8_apartOf_3 (as := [vI x2, vI 0]) rfl rfl (kMod_0 hW.1) (Nat.le_refl _) (Nat.le_of_ble_eq_true rfl) (nocov rfl) (Nat.le_of_ble_eq_true rfl) (Nat.le_of_ble_eq_true rfl) (CL.mono (c_of hW.1 ⟨q3_0.1, q3_0.2, by decide, by decide⟩) (fun r9 H9 h9 => ?_))
  rw [h9.1, h9.2]
  (try rw [hW.2.1])
  show AW l G mX8_apartOf (d + 1) 0 0 Q 6 [vR a0, vI x1, vI x2, vI x3] [vI (ofM M x2 0)] 0 0 H
  refine a_if_ne dX8_apartOf_6 (tgt := 16) rfl (fun c6 => ?_) (fun c6 => ?_)
  · replace h := h.1 c6
    refine a_iload_n dX8_apartOf_16 rfl rfl ?_
    refine a_if_eq dX8_apartOf_17 (tgt := 34) rfl (fun c17 => ?_) (fun c17 => ?_)
    · replace h := h.1 c17
      refine a_aload_n dX8_apartOf_34 rfl rfl ?_
      refine a_iload_n dX8_apartOf_35 rfl rfl ?_
      refine a_aload_n dX8_apartOf_36 rfl rfl ?_
      refine a_iload_n dX8_apartOf_37 rfl rfl ?_
      refine a_iconst dX8_apartOf_38 ⟨by decide, by decide⟩ ?_
      refine a_callV dX8_apartOf_39 cw_X8_apartOf_39 (as := [vI x2, vI 1]) rfl rfl (kMod_0 hW.1) (Nat.le_refl _) (Nat.le_of_ble_eq_true rfl) (nocov rfl) (Nat.le_of_ble_eq_true rfl) (Nat.le_of_ble_eq_true rfl) (CL.mono (c_of hW.1 ⟨q3_0.1, q3_0.2, by decide, by decide⟩) (fun r9 H9 h9 => ?_))
      rw [h9.1, h9.2]
      (try rw [hW.2.1])
      show AW l G mX8_apartOf (d + 1) 0 0 Q 42 [vR a0, vI x1, vI x2, vI x3] [vI (ofM M x2 1), vI x1, vR a0] 0 0 H
      obtain ⟨q42_0, h⟩ := h
      refine a_callV dX8_apartOf_42 cw_X8_apartOf_42 (as := [vI x1, vI (ofM M x2 1)]) rfl rfl (kMod_0 hW.1) (Nat.le_refl _) (Nat.le_of_ble_eq_true rfl) (nocov rfl) (Nat.le_of_ble_eq_true rfl) (Nat.le_of_ble_eq_true rfl) (CL.mono (c_wakeOf hW.1 q42_0) (fun r9 H9 h9 => ?_))
      rw [h9.1, h9.2]
      (try rw [hW.2.1])
      show AW l G mX8_apartOf (d + 1) 0 0 Q 45 [vR a0, vI x1, vI x2, vI x3] [vI (M (8 + 4 * x1 + (ofM M x2 1)))] 0 0 H
      exact a_iret dX8_apartOf_45 rfl (Nat.le_of_ble_eq_true rfl) (Nat.le_of_ble_eq_true rfl) h
    · replace h := h.2 c17
      refine a_aload_n dX8_apartOf_20 rfl rfl ?_
      refine a_aload_n dX8_apartOf_21 rfl rfl ?_
      refine a_iload_n dX8_apartOf_22 rfl rfl ?_
      refine a_iconst dX8_apartOf_23 ⟨by decide, by decide⟩ ?_
      refine a_callV dX8_apartOf_24 cw_X8_apartOf_24 (as := [vI x2, vI 1]) rfl rfl (kMod_0 hW.1) (Nat.le_refl _) (Nat.le_of_ble_eq_true rfl) (nocov rfl) (Nat.le_of_ble_eq_true rfl) (Nat.le_of_ble_eq_true rfl) (CL.mono (c_of hW.1 ⟨q3_0.1, q3_0.2, by decide, by decide⟩) (fun r9 H9 h9 => ?_))
      rw [h9.1, h9.2]
      (try rw [hW.2.1])
      show AW l G mX8_apartOf (d + 1) 0 0 Q 27 [vR a0, vI x1, vI x2, vI x3] [vI (ofM M x2 1), vR a0] 0 0 H
      refine a_iload_n dX8_apartOf_27 rfl rfl ?_
      obtain ⟨q28_0, h⟩ := h
      refine a_callV dX8_apartOf_28 cw_X8_apartOf_28 (as := [vI (ofM M x2 1), vI x1]) rfl rfl (kMod_0 hW.1) (Nat.le_refl _) (Nat.le_of_ble_eq_true rfl) (nocov rfl) (Nat.le_of_ble_eq_true rfl) (Nat.le_of_ble_eq_true rfl) (CL.mono (c_wakeOf hW.1 q28_0) (fun r9 H9 h9 => ?_))
      rw [h9.1, h9.2]
      (try rw [hW.2.1])
      show AW l G mX8_apartOf (d + 1) 0 0 Q 31 [vR a0, vI x1, vI x2, vI x3] [vI (M (8 + 4 * (ofM M x2 1) + x1))] 0 0 H
      refine a_goto dX8_apartOf_31 (tgt := 45) rfl ?_
      exact a_iret dX8_apartOf_45 rfl (Nat.le_of_ble_eq_true rfl) (Nat.le_of_ble_eq_true rfl) h
  · replace h := h.2 c6
    refine a_aload_n dX8_apartOf_9 rfl rfl ?_
    refine a_getR dX8_apartOf_10 fw_RX8_9 rfl rfl (kMod_0 hW.1) (rMod_0_0 hW.1) ?_
    refine a_iconst dX8_apartOf_13 ⟨by decide, by decide⟩ ?_
    refine b_ialdV dX8_apartOf_14 (kMod_1 hW.1) (nMod_1 hW.1) (⟨by decide, by decide⟩) (congrFun hW.2.1 _) ?_
    exact a_iret dX8_apartOf_15 rfl (Nat.le_of_ble_eq_true rfl) (Nat.le_of_ble_eq_true rfl) h

def apO (M : Row) (c f s : Int) : Int := if ofM M f 0 = 0 then M 4 else if s = 0 then M (8 + 4 * c + ofM M f 1) else M (8 + 4 * ofM M f 1 + c)
theorem apO_in {M : Row} (hM : okM M) {c f s : Int} (hc : 0 ≤ c ∧ c ≤ 3) (hf : fl M f) : 0 ≤ apO M c f s ∧ apO M c f s ≤ 600 := by
  have h1 := (okF_123 hM hf).1
  unfold apO
  split
  · exact hM.1.2.2.2.2.1
  · split
    · exact okM_wk hM hc h1
    · exact okM_wk hM h1 hc
theorem c_apartOf {l : Launch} {G : GT} {d : Nat} {H : AH} {a : Int} {M : Row} {c f s : Int} (hW : MW H a M) (hc : 0 ≤ c ∧ c ≤ 3) (hf : fl M f) (hd : 2 ≤ d := by omega) : CL l G mX8_apartOf d 0 0 [vR a, vI c, vI f, vI s] H (qP a M (vI (apO M c f s)) H) := by
  obtain ⟨d, rfl⟩ : ∃ k, d = k + 1 := ⟨d - 1, by omega⟩
  have hM := hW.2.2.1
  have hn := okM_n hM
  have h1 := (okF_123 hM hf).1
  exact CL.of (by decide) rfl (Nat.le_of_ble_eq_true rfl) (s_X8_apartOf_0 hW ⟨by omega, fun q => ⟨fun q2 => ⟨by omega, by rw [apO, if_neg q, if_pos q2], only.rf, hW⟩, fun q2 => ⟨by omega, by rw [apO, if_neg q, if_neg q2], only.rf, hW⟩⟩, fun q => ⟨by rw [apO, if_pos q], only.rf, hW⟩⟩)

theorem dX8_isFree_0 : decode cX8_isFree 0 = .ok (.iconst 0, 1) := by decide +kernel
theorem dX8_isFree_1 : decode cX8_isFree 1 = .ok (.istore 4, 2) := by decide +kernel
theorem dX8_isFree_3 : decode cX8_isFree 3 = .ok (.iload 4, 2) := by decide +kernel
theorem dX8_isFree_5 : decode cX8_isFree 5 = .ok (.aload_n 0, 1) := by decide +kernel
theorem dX8_isFree_6 : decode cX8_isFree 6 = .ok (.getfield 9, 3) := by decide +kernel
theorem dX8_isFree_9 : decode cX8_isFree 9 = .ok (.bipush 6, 2) := by decide +kernel
theorem dX8_isFree_11 : decode cX8_isFree 11 = .ok (.iaload, 1) := by decide +kernel
theorem dX8_isFree_12 : decode cX8_isFree 12 = .ok (.if_icmp .ge 73, 3) := by decide +kernel
theorem dX8_isFree_15 : decode cX8_isFree 15 = .ok (.aload_n 0, 1) := by decide +kernel
theorem dX8_isFree_16 : decode cX8_isFree 16 = .ok (.iload 4, 2) := by decide +kernel
theorem dX8_isFree_18 : decode cX8_isFree 18 = .ok (.invokevirtual 267, 3) := by decide +kernel
theorem dX8_isFree_21 : decode cX8_isFree 21 = .ok (.ifCond .eq 58, 3) := by decide +kernel
theorem dX8_isFree_24 : decode cX8_isFree 24 = .ok (.aload_n 0, 1) := by decide +kernel
theorem dX8_isFree_25 : decode cX8_isFree 25 = .ok (.iload 4, 2) := by decide +kernel
theorem dX8_isFree_27 : decode cX8_isFree 27 = .ok (.bipush 6, 2) := by decide +kernel
theorem dX8_isFree_29 : decode cX8_isFree 29 = .ok (.invokevirtual 75, 3) := by decide +kernel
theorem dX8_isFree_32 : decode cX8_isFree 32 = .ok (.iload_n 3, 1) := by decide +kernel
theorem dX8_isFree_33 : decode cX8_isFree 33 = .ok (.if_icmp .eq 6, 3) := by decide +kernel
theorem dX8_isFree_36 : decode cX8_isFree 36 = .ok (.goto 43, 3) := by decide +kernel
theorem dX8_isFree_39 : decode cX8_isFree 39 = .ok (.aload_n 0, 1) := by decide +kernel
theorem dX8_isFree_40 : decode cX8_isFree 40 = .ok (.iload 4, 2) := by decide +kernel
theorem dX8_isFree_42 : decode cX8_isFree 42 = .ok (.invokevirtual 270, 3) := by decide +kernel
theorem dX8_isFree_45 : decode cX8_isFree 45 = .ok (.istore 5, 2) := by decide +kernel
theorem dX8_isFree_47 : decode cX8_isFree 47 = .ok (.iload_n 2, 1) := by decide +kernel
theorem dX8_isFree_48 : decode cX8_isFree 48 = .ok (.iload 5, 2) := by decide +kernel
theorem dX8_isFree_50 : decode cX8_isFree 50 = .ok (.aload_n 0, 1) := by decide +kernel
theorem dX8_isFree_51 : decode cX8_isFree 51 = .ok (.iload_n 1, 1) := by decide +kernel
theorem dX8_isFree_52 : decode cX8_isFree 52 = .ok (.iload 4, 2) := by decide +kernel
theorem dX8_isFree_54 : decode cX8_isFree 54 = .ok (.iconst 1, 1) := by decide +kernel
theorem dX8_isFree_55 : decode cX8_isFree 55 = .ok (.invokevirtual 359, 3) := by decide +kernel
theorem dX8_isFree_58 : decode cX8_isFree 58 = .ok (.iadd, 1) := by decide +kernel
theorem dX8_isFree_59 : decode cX8_isFree 59 = .ok (.if_icmp .ge 20, 3) := by decide +kernel
theorem dX8_isFree_62 : decode cX8_isFree 62 = .ok (.iload 5, 2) := by decide +kernel
theorem dX8_isFree_64 : decode cX8_isFree 64 = .ok (.iload_n 2, 1) := by decide +kernel
theorem dX8_isFree_65 : decode cX8_isFree 65 = .ok (.aload_n 0, 1) := by decide +kernel
theorem dX8_isFree_66 : decode cX8_isFree 66 = .ok (.iload_n 1, 1) := by decide +kernel
theorem dX8_isFree_67 : decode cX8_isFree 67 = .ok (.iload 4, 2) := by decide +kernel
theorem dX8_isFree_69 : decode cX8_isFree 69 = .ok (.iconst 0, 1) := by decide +kernel
theorem dX8_isFree_70 : decode cX8_isFree 70 = .ok (.invokevirtual 359, 3) := by decide +kernel
theorem dX8_isFree_73 : decode cX8_isFree 73 = .ok (.iadd, 1) := by decide +kernel
theorem dX8_isFree_74 : decode cX8_isFree 74 = .ok (.if_icmp .ge 5, 3) := by decide +kernel
theorem dX8_isFree_77 : decode cX8_isFree 77 = .ok (.iconst 0, 1) := by decide +kernel
theorem dX8_isFree_78 : decode cX8_isFree 78 = .ok (.ireturn, 1) := by decide +kernel
theorem dX8_isFree_79 : decode cX8_isFree 79 = .ok (.iinc 4 1, 3) := by decide +kernel
theorem dX8_isFree_82 : decode cX8_isFree 82 = .ok (.goto (-79), 3) := by decide +kernel
theorem dX8_isFree_85 : decode cX8_isFree 85 = .ok (.iconst 1, 1) := by decide +kernel
theorem dX8_isFree_86 : decode cX8_isFree 86 = .ok (.ireturn, 1) := by decide +kernel
set_option maxRecDepth 20000 in
theorem s_X8_isFree_0 {l : Launch} {G : GT} {d : Nat} {Q : AV → AH → Prop} {H : AH} {a0 x1 x2 x3 : Int} {M : Row} (hW : MW H a0 M) (h : AW l G mX8_isFree (d + 1) 0 0 Q 3 [vR a0, vI x1, vI x2, vI x3, vI 0, vU] [] 0 0 H) (hd : 15 ≤ d := by omega) : AW l G mX8_isFree (d + 1) 0 0 Q 0 [vR a0, vI x1, vI x2, vI x3, vU, vU] [] 0 0 H := by
  refine a_iconst dX8_isFree_0 ⟨by decide, by decide⟩ ?_
  refine a_istore dX8_isFree_1 (Nat.le_of_ble_eq_true rfl) (ls' := [vR a0, vI x1, vI x2, vI x3, vI 0, vU]) rfl ?_
  exact h

set_option maxRecDepth 20000 in
theorem s_X8_isFree_3 {l : Launch} {G : GT} {d : Nat} {Q : AV → AH → Prop} {H : AH} {a0 x1 x2 x3 x4 : Int} {M : Row} (hW : MW H a0 M) (h : ((M 6) ≤ x4 → Q (vI 1) H) ∧ (x4 < (M 6) → (0 ≤ x4 ∧ x4 < 24) ∧ (¬ (¬ ofM M x4 7 = 3) → (-2147483648 ≤ x4 + 1 ∧ x4 + 1 ≤ 2147483647) ∧ AW l G mX8_isFree (d + 1) 0 0 Q 3 [vR a0, vI x1, vI x2, vI x3, vI (x4 + 1), vU] [] 0 0 H) ∧ (¬ ofM M x4 7 = 3 → ((ofM M x4 6) = x3 → (0 ≤ x4 ∧ x4 < M 6) ∧ ∀ H1 : AH, only H H1 (pMks a0) → MW H1 a0 M → (0 ≤ x1 ∧ x1 ≤ 3) ∧ (fl M x4) ∧ ∀ H2 : AH, only H1 H2 (pMks a0) → MW H2 a0 M → (-2147483648 ≤ (tmNow M x4) + (apO M x1 x4 1) ∧ (tmNow M x4) + (apO M x1 x4 1) ≤ 2147483647) ∧ (((tmNow M x4) + (apO M x1 x4 1)) ≤ x2 → (-2147483648 ≤ x4 + 1 ∧ x4 + 1 ≤ 2147483647) ∧ AW l G mX8_isFree (d + 1) 0 0 Q 3 [vR a0, vI x1, vI x2, vI x3, vI (x4 + 1), vU] [] 0 0 H2) ∧ (x2 < ((tmNow M x4) + (apO M x1 x4 1)) → ∀ H3 : AH, only H2 H3 (pMks a0) → MW H3 a0 M → (-2147483648 ≤ x2 + (apO M x1 x4 0) ∧ x2 + (apO M x1 x4 0) ≤ 2147483647) ∧ ((x2 + (apO M x1 x4 0)) ≤ (tmNow M x4) → (-2147483648 ≤ x4 + 1 ∧ x4 + 1 ≤ 2147483647) ∧ AW l G mX8_isFree (d + 1) 0 0 Q 3 [vR a0, vI x1, vI x2, vI x3, vI (x4 + 1), vU] [] 0 0 H3) ∧ ((tmNow M x4) < (x2 + (apO M x1 x4 0)) → Q (vI 0) H3))) ∧ (¬ (ofM M x4 6) = x3 → (-2147483648 ≤ x4 + 1 ∧ x4 + 1 ≤ 2147483647) ∧ AW l G mX8_isFree (d + 1) 0 0 Q 3 [vR a0, vI x1, vI x2, vI x3, vI (x4 + 1), vU] [] 0 0 H)))) (hd : 15 ≤ d := by omega) : AW l G mX8_isFree (d + 1) 0 0 Q 3 [vR a0, vI x1, vI x2, vI x3, vI x4, vU] [] 0 0 H := by
  refine a_iload dX8_isFree_3 rfl ?_
  refine a_aload_n dX8_isFree_5 rfl rfl ?_
  refine a_getR dX8_isFree_6 fw_RX8_9 rfl rfl (kMod_0 hW.1) (rMod_0_0 hW.1) ?_
  refine a_bipush dX8_isFree_9 (by decide) ?_
  refine b_ialdV dX8_isFree_11 (kMod_1 hW.1) (nMod_1 hW.1) (⟨by decide, by decide⟩) (congrFun hW.2.1 _) ?_
  refine a_icmp_ge dX8_isFree_12 (tgt := 85) rfl (fun c12 => ?_) (fun c12 => ?_)
  · replace h := h.1 c12
    refine a_iconst dX8_isFree_85 ⟨by decide, by decide⟩ ?_
    exact a_zret dX8_isFree_86 rfl (by decide) (Nat.le_of_ble_eq_true rfl) (Nat.le_of_ble_eq_true rfl) h
  · replace h := h.2 c12
    refine a_aload_n dX8_isFree_15 rfl rfl ?_
    refine a_iload dX8_isFree_16 rfl ?_
    obtain ⟨q18_0, h⟩ := h
    refine a_callV dX8_isFree_18 cw_X8_isFree_18 (as := [vI x4]) rfl rfl (kMod_0 hW.1) (Nat.le_refl _) (Nat.le_of_ble_eq_true rfl) (nocov rfl) (Nat.le_of_ble_eq_true rfl) (Nat.le_of_ble_eq_true rfl) (CL.mono (c_isThere hW.1 q18_0) (fun r9 H9 h9 => ?_))
    rw [h9.1, h9.2]
    (try rw [hW.2.1])
    show AW l G mX8_isFree (d + 1) 0 0 Q 21 [vR a0, vI x1, vI x2, vI x3, vI x4, vU] [vI (bi (decide (¬ ofM M x4 7 = 3)))] 0 0 H
    refine a_if_eq dX8_isFree_21 (tgt := 79) rfl (fun c21 => ?_) (fun c21 => ?_)
    · replace h := h.1 (bi_0 c21)
      obtain ⟨q79_0, h⟩ := h
      refine a_iinc dX8_isFree_79 rfl (Nat.le_of_ble_eq_true rfl) (by decide) q79_0 (ls' := [vR a0, vI x1, vI x2, vI x3, vI (x4 + 1), vU]) rfl ?_
      refine a_goto dX8_isFree_82 (tgt := 3) rfl ?_
      exact h
    · replace h := h.2 (bi_1 c21)
      refine a_aload_n dX8_isFree_24 rfl rfl ?_
      refine a_iload dX8_isFree_25 rfl ?_
      refine a_bipush dX8_isFree_27 (by decide) ?_
      refine a_callV dX8_isFree_29 cw_X8_isFree_29 (as := [vI x4, vI 6]) rfl rfl (kMod_0 hW.1) (Nat.le_refl _) (Nat.le_of_ble_eq_true rfl) (nocov rfl) (Nat.le_of_ble_eq_true rfl) (Nat.le_of_ble_eq_true rfl) (CL.mono (c_of hW.1 ⟨q18_0.1, q18_0.2, by decide, by decide⟩) (fun r9 H9 h9 => ?_))
      rw [h9.1, h9.2]
      (try rw [hW.2.1])
      show AW l G mX8_isFree (d + 1) 0 0 Q 32 [vR a0, vI x1, vI x2, vI x3, vI x4, vU] [vI (ofM M x4 6)] 0 0 H
      refine a_iload_n dX8_isFree_32 rfl rfl ?_
      refine a_icmp_eq dX8_isFree_33 (tgt := 39) rfl (fun c33 => ?_) (fun c33 => ?_)
      · replace h := h.1 c33
        refine a_aload_n dX8_isFree_39 rfl rfl ?_
        refine a_iload dX8_isFree_40 rfl ?_
        obtain ⟨q42_0, h⟩ := h
        refine a_callV dX8_isFree_42 cw_X8_isFree_42 (as := [vI x4]) rfl rfl (kMod_0 hW.1) (Nat.le_refl _) (Nat.le_of_ble_eq_true rfl) (nocov rfl) (Nat.le_of_ble_eq_true rfl) (Nat.le_of_ble_eq_true rfl) (CL.mono (c_timeNow (show MW H a0 M from ⟨hW.1, hW.2.1, hW.2.2⟩) q42_0) (fun r9 H1 h9 => ?_))
        obtain ⟨e9, o_H1, hW_H1⟩ := h9
        rw [e9]
        replace h := h H1 o_H1 hW_H1
        show AW l G mX8_isFree (d + 1) 0 0 Q 45 [vR a0, vI x1, vI x2, vI x3, vI x4, vU] [vI (tmNow M x4)] 0 0 H1
        refine a_istore dX8_isFree_45 (Nat.le_of_ble_eq_true rfl) (ls' := [vR a0, vI x1, vI x2, vI x3, vI x4, vI (tmNow M x4)]) rfl ?_
        refine a_iload_n dX8_isFree_47 rfl rfl ?_
        refine a_iload dX8_isFree_48 rfl ?_
        refine a_aload_n dX8_isFree_50 rfl rfl ?_
        refine a_iload_n dX8_isFree_51 rfl rfl ?_
        refine a_iload dX8_isFree_52 rfl ?_
        refine a_iconst dX8_isFree_54 ⟨by decide, by decide⟩ ?_
        obtain ⟨q55_0, h⟩ := h
        obtain ⟨q55_1, h⟩ := h
        refine a_callV dX8_isFree_55 cw_X8_isFree_55 (as := [vI x1, vI x4, vI 1]) rfl rfl (kMod_0 hW_H1.1) (Nat.le_refl _) (Nat.le_of_ble_eq_true rfl) (nocov rfl) (Nat.le_of_ble_eq_true rfl) (Nat.le_of_ble_eq_true rfl) (CL.mono (c_apartOf (show MW H1 a0 M from ⟨hW_H1.1, hW_H1.2.1, hW_H1.2.2⟩) q55_0 q55_1) (fun r9 H2 h9 => ?_))
        obtain ⟨e9, o_H2, hW_H2⟩ := h9
        rw [e9]
        replace h := h H2 o_H2 hW_H2
        show AW l G mX8_isFree (d + 1) 0 0 Q 58 [vR a0, vI x1, vI x2, vI x3, vI x4, vI (tmNow M x4)] [vI (apO M x1 x4 1), vI (tmNow M x4), vI x2] 0 0 H2
        obtain ⟨q58_0, h⟩ := h
        refine a_iadd dX8_isFree_58 q58_0 ?_
        refine a_icmp_ge dX8_isFree_59 (tgt := 79) rfl (fun c59 => ?_) (fun c59 => ?_)
        · replace h := h.1 c59
          obtain ⟨q79_0, h⟩ := h
          refine a_iinc dX8_isFree_79 rfl (Nat.le_of_ble_eq_true rfl) (by decide) q79_0 (ls' := [vR a0, vI x1, vI x2, vI x3, vI (x4 + 1), vI (tmNow M x4)]) rfl ?_
          refine a_goto dX8_isFree_82 (tgt := 3) rfl ?_
          exact a_weak (wk_e (wk_e (wk_e (wk_e (wk_e (wk_u wk_n)))))) h
        · replace h := h.2 c59
          refine a_iload dX8_isFree_62 rfl ?_
          refine a_iload_n dX8_isFree_64 rfl rfl ?_
          refine a_aload_n dX8_isFree_65 rfl rfl ?_
          refine a_iload_n dX8_isFree_66 rfl rfl ?_
          refine a_iload dX8_isFree_67 rfl ?_
          refine a_iconst dX8_isFree_69 ⟨by decide, by decide⟩ ?_
          refine a_callV dX8_isFree_70 cw_X8_isFree_70 (as := [vI x1, vI x4, vI 0]) rfl rfl (kMod_0 hW_H2.1) (Nat.le_refl _) (Nat.le_of_ble_eq_true rfl) (nocov rfl) (Nat.le_of_ble_eq_true rfl) (Nat.le_of_ble_eq_true rfl) (CL.mono (c_apartOf (show MW H2 a0 M from ⟨hW_H2.1, hW_H2.2.1, hW_H2.2.2⟩) q55_0 q55_1) (fun r9 H3 h9 => ?_))
          obtain ⟨e9, o_H3, hW_H3⟩ := h9
          rw [e9]
          replace h := h H3 o_H3 hW_H3
          show AW l G mX8_isFree (d + 1) 0 0 Q 73 [vR a0, vI x1, vI x2, vI x3, vI x4, vI (tmNow M x4)] [vI (apO M x1 x4 0), vI x2, vI (tmNow M x4)] 0 0 H3
          obtain ⟨q73_0, h⟩ := h
          refine a_iadd dX8_isFree_73 q73_0 ?_
          refine a_icmp_ge dX8_isFree_74 (tgt := 79) rfl (fun c74 => ?_) (fun c74 => ?_)
          · replace h := h.1 c74
            obtain ⟨q79_0, h⟩ := h
            refine a_iinc dX8_isFree_79 rfl (Nat.le_of_ble_eq_true rfl) (by decide) q79_0 (ls' := [vR a0, vI x1, vI x2, vI x3, vI (x4 + 1), vI (tmNow M x4)]) rfl ?_
            refine a_goto dX8_isFree_82 (tgt := 3) rfl ?_
            exact a_weak (wk_e (wk_e (wk_e (wk_e (wk_e (wk_u wk_n)))))) h
          · replace h := h.2 c74
            refine a_iconst dX8_isFree_77 ⟨by decide, by decide⟩ ?_
            exact a_zret dX8_isFree_78 rfl (by decide) (Nat.le_of_ble_eq_true rfl) (Nat.le_of_ble_eq_true rfl) h
      · replace h := h.2 c33
        refine a_goto dX8_isFree_36 (tgt := 79) rfl ?_
        obtain ⟨q79_0, h⟩ := h
        refine a_iinc dX8_isFree_79 rfl (Nat.le_of_ble_eq_true rfl) (by decide) q79_0 (ls' := [vR a0, vI x1, vI x2, vI x3, vI (x4 + 1), vU]) rfl ?_
        refine a_goto dX8_isFree_82 (tgt := 3) rfl ?_
        exact h

def blk (M : Row) (c t r : Int) (f : Nat) : Prop := (¬ ofM M f 7 = 3 ∧ ofM M f 6 = r) ∧ t < tmNow M f + apO M c f 1 ∧ tmNow M f < t + apO M c f 0
noncomputable def freeN (M : Row) (c t r : Int) (n : Nat) : Int := if fndP (blk M c t r) n = -1 then 1 else 0
theorem c_isFree {l : Launch} {G : GT} {d : Nat} {H : AH} {a : Int} {M : Row} {c t r : Int} (hW : MW H a M) (hc : 0 ≤ c ∧ c ≤ 3) (ht : 0 ≤ t ∧ t ≤ 1000000) (hd : 17 ≤ d := by omega) : CL l G mX8_isFree d 0 0 [vR a, vI c, vI t, vI r] H (qP a M (vI (freeN M c t r (M 6).toNat)) H) := by
  obtain ⟨d, rfl⟩ : ∃ k, d = k + 1 := ⟨d - 1, by omega⟩
  have hM := hW.2.2.1
  have hn := okM_n hM
  refine CL.of (by decide) rfl (Nat.le_of_ble_eq_true rfl) (s_X8_isFree_0 hW ?_)
  have key : ∀ j, j ≤ (M 6).toNat → ∀ H', only H H' (pMks a) → MW H' a M → (∀ k, k < j → ¬ blk M c t r k) → AW l G mX8_isFree (d + 1) 0 0 (qP a M (vI (freeN M c t r (M 6).toNat)) H) 3 [vR a, vI c, vI t, vI r, vI j, vU] [] 0 0 H' := by
    refine upN _ ?_ ?_
    · intro j hj ih H' ho hW' hno
      have hjf : fl M j := ⟨by omega, by omega⟩
      have nx : ¬ blk M c t r j → ∀ H2, only H H2 (pMks a) → MW H2 a M → AW l G mX8_isFree (d + 1) 0 0 (qP a M (vI (freeN M c t r (M 6).toNat)) H) 3 [vR a, vI c, vI t, vI r, vI (j + 1), vU] [] 0 0 H2 := fun z H2 o2 w2 => ih H2 o2 w2 (fun k hk q => by
        by_cases hkj : k = j
        · subst hkj; exact z q
        · exact hno k (by omega) q)
      have a0 := apO_in hM (s := 0) hc hjf
      have a1 := apO_in hM (s := 1) hc hjf
      refine s_X8_isFree_3 hW' ⟨fun q => absurd q (by omega), fun _ => ⟨by omega, fun q => ⟨by omega, nx (fun z => q z.1.1) H' ho hW'⟩, fun q => ⟨fun q2 => ⟨hjf, fun H1 o1 w1 => ⟨hc, hjf, fun H2 o2 w2 => ?_⟩⟩, fun q2 => ⟨by omega, nx (fun z => q2 z.1.2) H' ho hW'⟩⟩⟩⟩
      have t1 := tmNow_in hM hjf q
      refine ⟨by omega, fun q3 => ⟨by omega, nx (fun z => by have := z.2.1; omega) H2 ((ho.trans o1).trans o2) w2⟩, fun q3 H3 o3 w3 => ⟨by omega, fun q4 => ⟨by omega, nx (fun z => by have := z.2.2; omega) H3 (((ho.trans o1).trans o2).trans o3) w3⟩, fun q4 => ⟨?_, ((ho.trans o1).trans o2).trans o3, w3⟩⟩⟩
      rw [freeN, fndP_hit hno ⟨⟨q, q2⟩, q3, q4⟩ (by omega), if_neg (by omega)]
    · intro H' ho hW' hno
      exact s_X8_isFree_3 hW' ⟨fun _ => ⟨by rw [freeN, fndP_none hno, if_pos rfl], ho, hW'⟩, fun q => absurd q (by omega)⟩
  exact key 0 (Nat.zero_le _) H only.rf hW (fun k hk => by omega)

theorem dX8_timeInserted_0 : decode cX8_timeInserted 0 = .ok (.aload_n 0, 1) := by decide +kernel
theorem dX8_timeInserted_1 : decode cX8_timeInserted 1 = .ok (.iload_n 3, 1) := by decide +kernel
theorem dX8_timeInserted_2 : decode cX8_timeInserted 2 = .ok (.invokevirtual 276, 3) := by decide +kernel
theorem dX8_timeInserted_5 : decode cX8_timeInserted 5 = .ok (.ifCond .ne 5, 3) := by decide +kernel
theorem dX8_timeInserted_8 : decode cX8_timeInserted 8 = .ok (.iconst 0, 1) := by decide +kernel
theorem dX8_timeInserted_9 : decode cX8_timeInserted 9 = .ok (.ireturn, 1) := by decide +kernel
theorem dX8_timeInserted_10 : decode cX8_timeInserted 10 = .ok (.iload_n 1, 1) := by decide +kernel
theorem dX8_timeInserted_11 : decode cX8_timeInserted 11 = .ok (.invokestatic 201, 3) := by decide +kernel
theorem dX8_timeInserted_14 : decode cX8_timeInserted 14 = .ok (.ifCond .eq 14, 3) := by decide +kernel
theorem dX8_timeInserted_17 : decode cX8_timeInserted 17 = .ok (.iload_n 2, 1) := by decide +kernel
theorem dX8_timeInserted_18 : decode cX8_timeInserted 18 = .ok (.iconst 0, 1) := by decide +kernel
theorem dX8_timeInserted_19 : decode cX8_timeInserted 19 = .ok (.ldc_w 328, 3) := by decide +kernel
theorem dX8_timeInserted_22 : decode cX8_timeInserted 22 = .ok (.invokestatic 67, 3) := by decide +kernel
theorem dX8_timeInserted_25 : decode cX8_timeInserted 25 = .ok (.ifCond .ne 10, 3) := by decide +kernel
theorem dX8_timeInserted_28 : decode cX8_timeInserted 28 = .ok (.aload_n 0, 1) := by decide +kernel
theorem dX8_timeInserted_29 : decode cX8_timeInserted 29 = .ok (.iconst 2, 1) := by decide +kernel
theorem dX8_timeInserted_30 : decode cX8_timeInserted 30 = .ok (.putfield 55, 3) := by decide +kernel
theorem dX8_timeInserted_33 : decode cX8_timeInserted 33 = .ok (.iconst 0, 1) := by decide +kernel
theorem dX8_timeInserted_34 : decode cX8_timeInserted 34 = .ok (.ireturn, 1) := by decide +kernel
theorem dX8_timeInserted_35 : decode cX8_timeInserted 35 = .ok (.aload_n 0, 1) := by decide +kernel
theorem dX8_timeInserted_36 : decode cX8_timeInserted 36 = .ok (.getfield 9, 3) := by decide +kernel
theorem dX8_timeInserted_39 : decode cX8_timeInserted 39 = .ok (.iconst 0, 1) := by decide +kernel
theorem dX8_timeInserted_40 : decode cX8_timeInserted 40 = .ok (.iaload, 1) := by decide +kernel
theorem dX8_timeInserted_41 : decode cX8_timeInserted 41 = .ok (.iload_n 2, 1) := by decide +kernel
theorem dX8_timeInserted_42 : decode cX8_timeInserted 42 = .ok (.invokestatic 213, 3) := by decide +kernel
theorem dX8_timeInserted_45 : decode cX8_timeInserted 45 = .ok (.istore 4, 2) := by decide +kernel
theorem dX8_timeInserted_47 : decode cX8_timeInserted 47 = .ok (.aload_n 0, 1) := by decide +kernel
theorem dX8_timeInserted_48 : decode cX8_timeInserted 48 = .ok (.iload_n 1, 1) := by decide +kernel
theorem dX8_timeInserted_49 : decode cX8_timeInserted 49 = .ok (.iload 4, 2) := by decide +kernel
theorem dX8_timeInserted_51 : decode cX8_timeInserted 51 = .ok (.iload_n 3, 1) := by decide +kernel
theorem dX8_timeInserted_52 : decode cX8_timeInserted 52 = .ok (.invokevirtual 363, 3) := by decide +kernel
theorem dX8_timeInserted_55 : decode cX8_timeInserted 55 = .ok (.ifCond .eq 8, 3) := by decide +kernel
theorem dX8_timeInserted_58 : decode cX8_timeInserted 58 = .ok (.iload 4, 2) := by decide +kernel
theorem dX8_timeInserted_60 : decode cX8_timeInserted 60 = .ok (.goto 6, 3) := by decide +kernel
theorem dX8_timeInserted_63 : decode cX8_timeInserted 63 = .ok (.ldc_w 368, 3) := by decide +kernel
theorem dX8_timeInserted_66 : decode cX8_timeInserted 66 = .ok (.istore 5, 2) := by decide +kernel
theorem dX8_timeInserted_68 : decode cX8_timeInserted 68 = .ok (.iconst 0, 1) := by decide +kernel
theorem dX8_timeInserted_69 : decode cX8_timeInserted 69 = .ok (.istore 6, 2) := by decide +kernel
theorem dX8_timeInserted_71 : decode cX8_timeInserted 71 = .ok (.iload 6, 2) := by decide +kernel
theorem dX8_timeInserted_73 : decode cX8_timeInserted 73 = .ok (.aload_n 0, 1) := by decide +kernel
theorem dX8_timeInserted_74 : decode cX8_timeInserted 74 = .ok (.getfield 9, 3) := by decide +kernel
theorem dX8_timeInserted_77 : decode cX8_timeInserted 77 = .ok (.bipush 6, 2) := by decide +kernel
theorem dX8_timeInserted_79 : decode cX8_timeInserted 79 = .ok (.iaload, 1) := by decide +kernel
theorem dX8_timeInserted_80 : decode cX8_timeInserted 80 = .ok (.if_icmp .ge 79, 3) := by decide +kernel
theorem dX8_timeInserted_83 : decode cX8_timeInserted 83 = .ok (.aload_n 0, 1) := by decide +kernel
theorem dX8_timeInserted_84 : decode cX8_timeInserted 84 = .ok (.iload 6, 2) := by decide +kernel
theorem dX8_timeInserted_86 : decode cX8_timeInserted 86 = .ok (.invokevirtual 267, 3) := by decide +kernel
theorem dX8_timeInserted_89 : decode cX8_timeInserted 89 = .ok (.ifCond .eq 64, 3) := by decide +kernel
theorem dX8_timeInserted_92 : decode cX8_timeInserted 92 = .ok (.aload_n 0, 1) := by decide +kernel
theorem dX8_timeInserted_93 : decode cX8_timeInserted 93 = .ok (.iload 6, 2) := by decide +kernel
theorem dX8_timeInserted_95 : decode cX8_timeInserted 95 = .ok (.bipush 6, 2) := by decide +kernel
theorem dX8_timeInserted_97 : decode cX8_timeInserted 97 = .ok (.invokevirtual 75, 3) := by decide +kernel
theorem dX8_timeInserted_100 : decode cX8_timeInserted 100 = .ok (.iload_n 3, 1) := by decide +kernel
theorem dX8_timeInserted_101 : decode cX8_timeInserted 101 = .ok (.if_icmp .eq 6, 3) := by decide +kernel
theorem dX8_timeInserted_104 : decode cX8_timeInserted 104 = .ok (.goto 49, 3) := by decide +kernel
theorem dX8_timeInserted_107 : decode cX8_timeInserted 107 = .ok (.aload_n 0, 1) := by decide +kernel
theorem dX8_timeInserted_108 : decode cX8_timeInserted 108 = .ok (.iload 6, 2) := by decide +kernel
theorem dX8_timeInserted_110 : decode cX8_timeInserted 110 = .ok (.invokevirtual 270, 3) := by decide +kernel
theorem dX8_timeInserted_113 : decode cX8_timeInserted 113 = .ok (.aload_n 0, 1) := by decide +kernel
theorem dX8_timeInserted_114 : decode cX8_timeInserted 114 = .ok (.iload_n 1, 1) := by decide +kernel
theorem dX8_timeInserted_115 : decode cX8_timeInserted 115 = .ok (.iload 6, 2) := by decide +kernel
theorem dX8_timeInserted_117 : decode cX8_timeInserted 117 = .ok (.iconst 1, 1) := by decide +kernel
theorem dX8_timeInserted_118 : decode cX8_timeInserted 118 = .ok (.invokevirtual 359, 3) := by decide +kernel
theorem dX8_timeInserted_121 : decode cX8_timeInserted 121 = .ok (.iadd, 1) := by decide +kernel
theorem dX8_timeInserted_122 : decode cX8_timeInserted 122 = .ok (.istore 7, 2) := by decide +kernel
theorem dX8_timeInserted_124 : decode cX8_timeInserted 124 = .ok (.iload 7, 2) := by decide +kernel
theorem dX8_timeInserted_126 : decode cX8_timeInserted 126 = .ok (.iload 4, 2) := by decide +kernel
theorem dX8_timeInserted_128 : decode cX8_timeInserted 128 = .ok (.if_icmp .lt 25, 3) := by decide +kernel
theorem dX8_timeInserted_131 : decode cX8_timeInserted 131 = .ok (.iload 7, 2) := by decide +kernel
theorem dX8_timeInserted_133 : decode cX8_timeInserted 133 = .ok (.iload 5, 2) := by decide +kernel
theorem dX8_timeInserted_135 : decode cX8_timeInserted 135 = .ok (.if_icmp .ge 18, 3) := by decide +kernel
theorem dX8_timeInserted_138 : decode cX8_timeInserted 138 = .ok (.aload_n 0, 1) := by decide +kernel
theorem dX8_timeInserted_139 : decode cX8_timeInserted 139 = .ok (.iload_n 1, 1) := by decide +kernel
theorem dX8_timeInserted_140 : decode cX8_timeInserted 140 = .ok (.iload 7, 2) := by decide +kernel
theorem dX8_timeInserted_142 : decode cX8_timeInserted 142 = .ok (.iload_n 3, 1) := by decide +kernel
theorem dX8_timeInserted_143 : decode cX8_timeInserted 143 = .ok (.invokevirtual 363, 3) := by decide +kernel
theorem dX8_timeInserted_146 : decode cX8_timeInserted 146 = .ok (.ifCond .eq 7, 3) := by decide +kernel
theorem dX8_timeInserted_149 : decode cX8_timeInserted 149 = .ok (.iload 7, 2) := by decide +kernel
theorem dX8_timeInserted_151 : decode cX8_timeInserted 151 = .ok (.istore 5, 2) := by decide +kernel
theorem dX8_timeInserted_153 : decode cX8_timeInserted 153 = .ok (.iinc 6 1, 3) := by decide +kernel
theorem dX8_timeInserted_156 : decode cX8_timeInserted 156 = .ok (.goto (-85), 3) := by decide +kernel
theorem dX8_timeInserted_159 : decode cX8_timeInserted 159 = .ok (.iload 5, 2) := by decide +kernel
theorem dX8_timeInserted_161 : decode cX8_timeInserted 161 = .ok (.ireturn, 1) := by decide +kernel
set_option maxRecDepth 20000 in
theorem s_X8_timeInserted_0 {l : Launch} {G : GT} {d : Nat} {Q : AV → AH → Prop} {H : AH} {a0 x1 x2 x3 : Int} {M : Row} (hW : MW H a0 M) (h : (0 ≤ M 5 ∧ M 5 ≤ 3) ∧ ∀ H1 : AH, H1 = hs H a0 5 (1 - bi (decide (0 ≤ x3 ∧ x3 < M 5))) → (0 ≤ x3 ∧ x3 < M 5 → (¬ (0 ≤ x1 ∧ x1 ≤ 3) → ∀ H2 : AH, H2 = hs H1 a0 5 2 → Q (vI 0) H2) ∧ (0 ≤ x1 ∧ x1 ≤ 3 → (0 ≤ x2 ∧ x2 ≤ 200000 → (0 ≤ x1 ∧ x1 ≤ 3) ∧ (0 ≤ (max (M 0) x2) ∧ (max (M 0) x2) ≤ 1000000) ∧ ∀ H2 : AH, only H1 H2 (pMks a0) → MW H2 a0 M → ((freeN M x1 (max (M 0) x2) x3 (M 6).toNat) = 0 → AW l G mX8_timeInserted (d + 1) 0 0 Q 71 [vR a0, vI x1, vI x2, vI x3, vI (max (M 0) x2), vI 2147483647, vI 0, vU] [] 0 0 H2) ∧ (¬ (freeN M x1 (max (M 0) x2) x3 (M 6).toNat) = 0 → AW l G mX8_timeInserted (d + 1) 0 0 Q 71 [vR a0, vI x1, vI x2, vI x3, vI (max (M 0) x2), vI (max (M 0) x2), vI 0, vU] [] 0 0 H2)) ∧ (¬ (0 ≤ x2 ∧ x2 ≤ 200000) → ∀ H2 : AH, H2 = hs H1 a0 5 2 → Q (vI 0) H2))) ∧ (¬ (0 ≤ x3 ∧ x3 < M 5) → Q (vI 0) H1)) (hd : 17 ≤ d := by omega) : AW l G mX8_timeInserted (d + 1) 0 0 Q 0 [vR a0, vI x1, vI x2, vI x3, vU, vU, vU, vU] [] 0 0 H := by
  refine a_aload_n dX8_timeInserted_0 rfl rfl ?_
  refine a_iload_n dX8_timeInserted_1 rfl rfl ?_
  obtain ⟨q2_0, h⟩ := h
  refine a_callV dX8_timeInserted_2 cw_X8_timeInserted_2 (as := [vI x3]) rfl rfl (kMod_0 hW.1) (Nat.le_refl _) (Nat.le_of_ble_eq_true rfl) (nocov rfl) (Nat.le_of_ble_eq_true rfl) (Nat.le_of_ble_eq_true rfl) (CL.mono (c_isRunway hW.1 (by rw [hW.2.1]; exact q2_0)) (fun r9 H9 h9 => ?_))
  rw [h9.1, h9.2]
  (try rw [hW.2.1])
  have h_r0_1 := Lay.wr hW.1 ok_Mod (nrf_fld 5 (kMod_0 hW.1) (by decide) (by decide)) (i := 5) (x := (1 - bi (decide (0 ≤ x3 ∧ x3 < M 5))))
  generalize e_H1 : hs H a0 5 (1 - bi (decide (0 ≤ x3 ∧ x3 < M 5))) = H1 at h_r0_1 ⊢
  replace h := h H1 e_H1.symm
  have row_H1 := (show rowM H1 a0 = _ from by rw [← e_H1, rowM_ne (by omega), hW.2.1])
  have mk_H1 := (show okM _ ∧ mkd H1 a0 from by rw [← e_H1]; exact ⟨hW.2.2.1, mkd_wr hW.2.2.2 (by omega) (by omega) (by omega)⟩)
  show AW l G mX8_timeInserted (d + 1) 0 0 Q 5 [vR a0, vI x1, vI x2, vI x3, vU, vU, vU, vU] [vI (bi (decide (0 ≤ x3 ∧ x3 < M 5)))] 0 0 H1
  refine a_if_ne dX8_timeInserted_5 (tgt := 10) rfl (fun c5 => ?_) (fun c5 => ?_)
  · replace h := h.1 (bi_1 c5)
    refine a_iload_n dX8_timeInserted_10 rfl rfl ?_
    refine a_callS dX8_timeInserted_11 cw_X8_timeInserted_11 (as := [vI x1]) rfl rfl (Nat.le_refl _) (Nat.le_of_ble_eq_true rfl) (nocov rfl) (Nat.le_of_ble_eq_true rfl) (Nat.le_of_ble_eq_true rfl) (CL.mono (c_isClass  ) (fun r9 H9 h9 => ?_))
    rw [h9.1, h9.2]
    (try rw [row_H1])
    show AW l G mX8_timeInserted (d + 1) 0 0 Q 14 [vR a0, vI x1, vI x2, vI x3, vU, vU, vU, vU] [vI (bi (decide (0 ≤ x1 ∧ x1 ≤ 3)))] 0 0 H1
    refine a_if_eq dX8_timeInserted_14 (tgt := 28) rfl (fun c14 => ?_) (fun c14 => ?_)
    · replace h := h.1 (bi_0 c14)
      refine a_aload_n dX8_timeInserted_28 rfl rfl ?_
      refine a_iconst dX8_timeInserted_29 ⟨by decide, by decide⟩ ?_
      refine a_putI dX8_timeInserted_30 fp_RX8_55 rfl rfl (kMod_0 h_r0_1) ?_
      have h_r0_2 := Lay.wr h_r0_1 ok_Mod (nrf_fld 5 (kMod_0 h_r0_1) (by decide) (by decide)) (i := 5) (x := 2)
      generalize e_H2 : hs H1 a0 5 2 = H2 at h_r0_2 ⊢
      replace h := h H2 e_H2.symm
      have row_H2 := (show rowM H2 a0 = _ from by rw [← e_H2, rowM_ne (by omega), row_H1])
      have mk_H2 := (show okM _ ∧ mkd H2 a0 from by rw [← e_H2]; exact ⟨mk_H1.1, mkd_wr mk_H1.2 (by omega) (by omega) (by omega)⟩)
      refine a_iconst dX8_timeInserted_33 ⟨by decide, by decide⟩ ?_
      exact a_iret dX8_timeInserted_34 rfl (Nat.le_of_ble_eq_true rfl) (Nat.le_of_ble_eq_true rfl) h
    · replace h := h.2 (bi_1 c14)
      refine a_iload_n dX8_timeInserted_17 rfl rfl ?_
      refine a_iconst dX8_timeInserted_18 ⟨by decide, by decide⟩ ?_
      refine a_ldcw dX8_timeInserted_19 (w_1685) ?_
      show AW l G mX8_timeInserted (d + 1) 0 0 Q 22 [vR a0, vI x1, vI x2, vI x3, vU, vU, vU, vU] [vI 200000, vI 0, vI x2] 0 0 H1
      refine a_callS dX8_timeInserted_22 cw_X8_timeInserted_22 (as := [vI x2, vI 0, vI 200000]) rfl rfl (Nat.le_refl _) (Nat.le_of_ble_eq_true rfl) (nocov rfl) (Nat.le_of_ble_eq_true rfl) (Nat.le_of_ble_eq_true rfl) (CL.mono (c_in  ) (fun r9 H9 h9 => ?_))
      rw [h9.1, h9.2]
      (try rw [row_H1])
      show AW l G mX8_timeInserted (d + 1) 0 0 Q 25 [vR a0, vI x1, vI x2, vI x3, vU, vU, vU, vU] [vI (bi (decide (0 ≤ x2 ∧ x2 ≤ 200000)))] 0 0 H1
      refine a_if_ne dX8_timeInserted_25 (tgt := 35) rfl (fun c25 => ?_) (fun c25 => ?_)
      · replace h := h.1 (bi_1 c25)
        refine a_aload_n dX8_timeInserted_35 rfl rfl ?_
        refine a_getR dX8_timeInserted_36 fw_RX8_9 rfl rfl (kMod_0 h_r0_1) (rMod_0_0 h_r0_1) ?_
        refine a_iconst dX8_timeInserted_39 ⟨by decide, by decide⟩ ?_
        refine b_ialdV dX8_timeInserted_40 (kMod_1 h_r0_1) (nMod_1 h_r0_1) (⟨by decide, by decide⟩) (congrFun row_H1 _) ?_
        refine a_iload_n dX8_timeInserted_41 rfl rfl ?_
        refine a_mmax dX8_timeInserted_42 cw_X8_timeInserted_42 (Nat.le_of_ble_eq_true rfl) (Nat.le_of_ble_eq_true rfl) (Nat.le_of_ble_eq_true rfl) ?_
        refine a_istore dX8_timeInserted_45 (Nat.le_of_ble_eq_true rfl) (ls' := [vR a0, vI x1, vI x2, vI x3, vI (max (M 0) x2), vU, vU, vU]) rfl ?_
        refine a_aload_n dX8_timeInserted_47 rfl rfl ?_
        refine a_iload_n dX8_timeInserted_48 rfl rfl ?_
        refine a_iload dX8_timeInserted_49 rfl ?_
        refine a_iload_n dX8_timeInserted_51 rfl rfl ?_
        obtain ⟨q52_0, h⟩ := h
        obtain ⟨q52_1, h⟩ := h
        refine a_callV dX8_timeInserted_52 cw_X8_timeInserted_52 (as := [vI x1, vI (max (M 0) x2), vI x3]) rfl rfl (kMod_0 h_r0_1) (Nat.le_refl _) (Nat.le_of_ble_eq_true rfl) (nocov rfl) (Nat.le_of_ble_eq_true rfl) (Nat.le_of_ble_eq_true rfl) (CL.mono (c_isFree (show MW H1 a0 M from ⟨h_r0_1, row_H1, mk_H1⟩) q52_0 q52_1) (fun r9 H2 h9 => ?_))
        obtain ⟨e9, o_H2, hW_H2⟩ := h9
        rw [e9]
        replace h := h H2 o_H2 hW_H2
        show AW l G mX8_timeInserted (d + 1) 0 0 Q 55 [vR a0, vI x1, vI x2, vI x3, vI (max (M 0) x2), vU, vU, vU] [vI (freeN M x1 (max (M 0) x2) x3 (M 6).toNat)] 0 0 H2
        refine a_if_eq dX8_timeInserted_55 (tgt := 63) rfl (fun c55 => ?_) (fun c55 => ?_)
        · replace h := h.1 c55
          refine a_ldcw dX8_timeInserted_63 (w_1794) ?_
          show AW l G mX8_timeInserted (d + 1) 0 0 Q 66 [vR a0, vI x1, vI x2, vI x3, vI (max (M 0) x2), vU, vU, vU] [vI 2147483647] 0 0 H2
          refine a_istore dX8_timeInserted_66 (Nat.le_of_ble_eq_true rfl) (ls' := [vR a0, vI x1, vI x2, vI x3, vI (max (M 0) x2), vI 2147483647, vU, vU]) rfl ?_
          refine a_iconst dX8_timeInserted_68 ⟨by decide, by decide⟩ ?_
          refine a_istore dX8_timeInserted_69 (Nat.le_of_ble_eq_true rfl) (ls' := [vR a0, vI x1, vI x2, vI x3, vI (max (M 0) x2), vI 2147483647, vI 0, vU]) rfl ?_
          exact h
        · replace h := h.2 c55
          refine a_iload dX8_timeInserted_58 rfl ?_
          refine a_goto dX8_timeInserted_60 (tgt := 66) rfl ?_
          refine a_istore dX8_timeInserted_66 (Nat.le_of_ble_eq_true rfl) (ls' := [vR a0, vI x1, vI x2, vI x3, vI (max (M 0) x2), vI (max (M 0) x2), vU, vU]) rfl ?_
          refine a_iconst dX8_timeInserted_68 ⟨by decide, by decide⟩ ?_
          refine a_istore dX8_timeInserted_69 (Nat.le_of_ble_eq_true rfl) (ls' := [vR a0, vI x1, vI x2, vI x3, vI (max (M 0) x2), vI (max (M 0) x2), vI 0, vU]) rfl ?_
          exact h
      · replace h := h.2 (bi_0 c25)
        refine a_aload_n dX8_timeInserted_28 rfl rfl ?_
        refine a_iconst dX8_timeInserted_29 ⟨by decide, by decide⟩ ?_
        refine a_putI dX8_timeInserted_30 fp_RX8_55 rfl rfl (kMod_0 h_r0_1) ?_
        have h_r0_2 := Lay.wr h_r0_1 ok_Mod (nrf_fld 5 (kMod_0 h_r0_1) (by decide) (by decide)) (i := 5) (x := 2)
        generalize e_H2 : hs H1 a0 5 2 = H2 at h_r0_2 ⊢
        replace h := h H2 e_H2.symm
        have row_H2 := (show rowM H2 a0 = _ from by rw [← e_H2, rowM_ne (by omega), row_H1])
        have mk_H2 := (show okM _ ∧ mkd H2 a0 from by rw [← e_H2]; exact ⟨mk_H1.1, mkd_wr mk_H1.2 (by omega) (by omega) (by omega)⟩)
        refine a_iconst dX8_timeInserted_33 ⟨by decide, by decide⟩ ?_
        exact a_iret dX8_timeInserted_34 rfl (Nat.le_of_ble_eq_true rfl) (Nat.le_of_ble_eq_true rfl) h
  · replace h := h.2 (bi_0 c5)
    refine a_iconst dX8_timeInserted_8 ⟨by decide, by decide⟩ ?_
    exact a_iret dX8_timeInserted_9 rfl (Nat.le_of_ble_eq_true rfl) (Nat.le_of_ble_eq_true rfl) h

set_option maxRecDepth 20000 in
theorem s_X8_timeInserted_71 {l : Launch} {G : GT} {d : Nat} {Q : AV → AH → Prop} {H : AH} {a0 x1 x2 x3 x4 x5 x6 : Int} {M : Row} (hW : MW H a0 M) (h : ((M 6) ≤ x6 → Q (vI x5) H) ∧ (x6 < (M 6) → (0 ≤ x6 ∧ x6 < 24) ∧ (¬ (¬ ofM M x6 7 = 3) → (-2147483648 ≤ x6 + 1 ∧ x6 + 1 ≤ 2147483647) ∧ AW l G mX8_timeInserted (d + 1) 0 0 Q 71 [vR a0, vI x1, vI x2, vI x3, vI x4, vI x5, vI (x6 + 1), vU] [] 0 0 H) ∧ (¬ ofM M x6 7 = 3 → ((ofM M x6 6) = x3 → (0 ≤ x6 ∧ x6 < M 6) ∧ ∀ H1 : AH, only H H1 (pMks a0) → MW H1 a0 M → (0 ≤ x1 ∧ x1 ≤ 3) ∧ (fl M x6) ∧ ∀ H2 : AH, only H1 H2 (pMks a0) → MW H2 a0 M → (-2147483648 ≤ (tmNow M x6) + (apO M x1 x6 1) ∧ (tmNow M x6) + (apO M x1 x6 1) ≤ 2147483647) ∧ (((tmNow M x6) + (apO M x1 x6 1)) < x4 → (-2147483648 ≤ x6 + 1 ∧ x6 + 1 ≤ 2147483647) ∧ AW l G mX8_timeInserted (d + 1) 0 0 Q 71 [vR a0, vI x1, vI x2, vI x3, vI x4, vI x5, vI (x6 + 1), vU] [] 0 0 H2) ∧ (x4 ≤ ((tmNow M x6) + (apO M x1 x6 1)) → (x5 ≤ ((tmNow M x6) + (apO M x1 x6 1)) → (-2147483648 ≤ x6 + 1 ∧ x6 + 1 ≤ 2147483647) ∧ AW l G mX8_timeInserted (d + 1) 0 0 Q 71 [vR a0, vI x1, vI x2, vI x3, vI x4, vI x5, vI (x6 + 1), vU] [] 0 0 H2) ∧ (((tmNow M x6) + (apO M x1 x6 1)) < x5 → (0 ≤ ((tmNow M x6) + (apO M x1 x6 1)) ∧ ((tmNow M x6) + (apO M x1 x6 1)) ≤ 1000000) ∧ ∀ H3 : AH, only H2 H3 (pMks a0) → MW H3 a0 M → ((freeN M x1 ((tmNow M x6) + (apO M x1 x6 1)) x3 (M 6).toNat) = 0 → (-2147483648 ≤ x6 + 1 ∧ x6 + 1 ≤ 2147483647) ∧ AW l G mX8_timeInserted (d + 1) 0 0 Q 71 [vR a0, vI x1, vI x2, vI x3, vI x4, vI x5, vI (x6 + 1), vU] [] 0 0 H3) ∧ (¬ (freeN M x1 ((tmNow M x6) + (apO M x1 x6 1)) x3 (M 6).toNat) = 0 → (-2147483648 ≤ x6 + 1 ∧ x6 + 1 ≤ 2147483647) ∧ AW l G mX8_timeInserted (d + 1) 0 0 Q 71 [vR a0, vI x1, vI x2, vI x3, vI x4, vI ((tmNow M x6) + (apO M x1 x6 1)), vI (x6 + 1), vU] [] 0 0 H3)))) ∧ (¬ (ofM M x6 6) = x3 → (-2147483648 ≤ x6 + 1 ∧ x6 + 1 ≤ 2147483647) ∧ AW l G mX8_timeInserted (d + 1) 0 0 Q 71 [vR a0, vI x1, vI x2, vI x3, vI x4, vI x5, vI (x6 + 1), vU] [] 0 0 H)))) (hd : 17 ≤ d := by omega) : AW l G mX8_timeInserted (d + 1) 0 0 Q 71 [vR a0, vI x1, vI x2, vI x3, vI x4, vI x5, vI x6, vU] [] 0 0 H := by
  refine a_iload dX8_timeInserted_71 rfl ?_
  refine a_aload_n dX8_timeInserted_73 rfl rfl ?_
  refine a_getR dX8_timeInserted_74 fw_RX8_9 rfl rfl (kMod_0 hW.1) (rMod_0_0 hW.1) ?_
  refine a_bipush dX8_timeInserted_77 (by decide) ?_
  refine b_ialdV dX8_timeInserted_79 (kMod_1 hW.1) (nMod_1 hW.1) (⟨by decide, by decide⟩) (congrFun hW.2.1 _) ?_
  refine a_icmp_ge dX8_timeInserted_80 (tgt := 159) rfl (fun c80 => ?_) (fun c80 => ?_)
  · replace h := h.1 c80
    refine a_iload dX8_timeInserted_159 rfl ?_
    exact a_iret dX8_timeInserted_161 rfl (Nat.le_of_ble_eq_true rfl) (Nat.le_of_ble_eq_true rfl) h
  · replace h := h.2 c80
    refine a_aload_n dX8_timeInserted_83 rfl rfl ?_
    refine a_iload dX8_timeInserted_84 rfl ?_
    obtain ⟨q86_0, h⟩ := h
    refine a_callV dX8_timeInserted_86 cw_X8_timeInserted_86 (as := [vI x6]) rfl rfl (kMod_0 hW.1) (Nat.le_refl _) (Nat.le_of_ble_eq_true rfl) (nocov rfl) (Nat.le_of_ble_eq_true rfl) (Nat.le_of_ble_eq_true rfl) (CL.mono (c_isThere hW.1 q86_0) (fun r9 H9 h9 => ?_))
    rw [h9.1, h9.2]
    (try rw [hW.2.1])
    show AW l G mX8_timeInserted (d + 1) 0 0 Q 89 [vR a0, vI x1, vI x2, vI x3, vI x4, vI x5, vI x6, vU] [vI (bi (decide (¬ ofM M x6 7 = 3)))] 0 0 H
    refine a_if_eq dX8_timeInserted_89 (tgt := 153) rfl (fun c89 => ?_) (fun c89 => ?_)
    · replace h := h.1 (bi_0 c89)
      obtain ⟨q153_0, h⟩ := h
      refine a_iinc dX8_timeInserted_153 rfl (Nat.le_of_ble_eq_true rfl) (by decide) q153_0 (ls' := [vR a0, vI x1, vI x2, vI x3, vI x4, vI x5, vI (x6 + 1), vU]) rfl ?_
      refine a_goto dX8_timeInserted_156 (tgt := 71) rfl ?_
      exact h
    · replace h := h.2 (bi_1 c89)
      refine a_aload_n dX8_timeInserted_92 rfl rfl ?_
      refine a_iload dX8_timeInserted_93 rfl ?_
      refine a_bipush dX8_timeInserted_95 (by decide) ?_
      refine a_callV dX8_timeInserted_97 cw_X8_timeInserted_97 (as := [vI x6, vI 6]) rfl rfl (kMod_0 hW.1) (Nat.le_refl _) (Nat.le_of_ble_eq_true rfl) (nocov rfl) (Nat.le_of_ble_eq_true rfl) (Nat.le_of_ble_eq_true rfl) (CL.mono (c_of hW.1 ⟨q86_0.1, q86_0.2, by decide, by decide⟩) (fun r9 H9 h9 => ?_))
      rw [h9.1, h9.2]
      (try rw [hW.2.1])
      show AW l G mX8_timeInserted (d + 1) 0 0 Q 100 [vR a0, vI x1, vI x2, vI x3, vI x4, vI x5, vI x6, vU] [vI (ofM M x6 6)] 0 0 H
      refine a_iload_n dX8_timeInserted_100 rfl rfl ?_
      refine a_icmp_eq dX8_timeInserted_101 (tgt := 107) rfl (fun c101 => ?_) (fun c101 => ?_)
      · replace h := h.1 c101
        refine a_aload_n dX8_timeInserted_107 rfl rfl ?_
        refine a_iload dX8_timeInserted_108 rfl ?_
        obtain ⟨q110_0, h⟩ := h
        refine a_callV dX8_timeInserted_110 cw_X8_timeInserted_110 (as := [vI x6]) rfl rfl (kMod_0 hW.1) (Nat.le_refl _) (Nat.le_of_ble_eq_true rfl) (nocov rfl) (Nat.le_of_ble_eq_true rfl) (Nat.le_of_ble_eq_true rfl) (CL.mono (c_timeNow (show MW H a0 M from ⟨hW.1, hW.2.1, hW.2.2⟩) q110_0) (fun r9 H1 h9 => ?_))
        obtain ⟨e9, o_H1, hW_H1⟩ := h9
        rw [e9]
        replace h := h H1 o_H1 hW_H1
        show AW l G mX8_timeInserted (d + 1) 0 0 Q 113 [vR a0, vI x1, vI x2, vI x3, vI x4, vI x5, vI x6, vU] [vI (tmNow M x6)] 0 0 H1
        refine a_aload_n dX8_timeInserted_113 rfl rfl ?_
        refine a_iload_n dX8_timeInserted_114 rfl rfl ?_
        refine a_iload dX8_timeInserted_115 rfl ?_
        refine a_iconst dX8_timeInserted_117 ⟨by decide, by decide⟩ ?_
        obtain ⟨q118_0, h⟩ := h
        obtain ⟨q118_1, h⟩ := h
        refine a_callV dX8_timeInserted_118 cw_X8_timeInserted_118 (as := [vI x1, vI x6, vI 1]) rfl rfl (kMod_0 hW_H1.1) (Nat.le_refl _) (Nat.le_of_ble_eq_true rfl) (nocov rfl) (Nat.le_of_ble_eq_true rfl) (Nat.le_of_ble_eq_true rfl) (CL.mono (c_apartOf (show MW H1 a0 M from ⟨hW_H1.1, hW_H1.2.1, hW_H1.2.2⟩) q118_0 q118_1) (fun r9 H2 h9 => ?_))
        obtain ⟨e9, o_H2, hW_H2⟩ := h9
        rw [e9]
        replace h := h H2 o_H2 hW_H2
        show AW l G mX8_timeInserted (d + 1) 0 0 Q 121 [vR a0, vI x1, vI x2, vI x3, vI x4, vI x5, vI x6, vU] [vI (apO M x1 x6 1), vI (tmNow M x6)] 0 0 H2
        obtain ⟨q121_0, h⟩ := h
        refine a_iadd dX8_timeInserted_121 q121_0 ?_
        refine a_istore dX8_timeInserted_122 (Nat.le_of_ble_eq_true rfl) (ls' := [vR a0, vI x1, vI x2, vI x3, vI x4, vI x5, vI x6, vI ((tmNow M x6) + (apO M x1 x6 1))]) rfl ?_
        refine a_iload dX8_timeInserted_124 rfl ?_
        refine a_iload dX8_timeInserted_126 rfl ?_
        refine a_icmp_lt dX8_timeInserted_128 (tgt := 153) rfl (fun c128 => ?_) (fun c128 => ?_)
        · replace h := h.1 c128
          obtain ⟨q153_0, h⟩ := h
          refine a_iinc dX8_timeInserted_153 rfl (Nat.le_of_ble_eq_true rfl) (by decide) q153_0 (ls' := [vR a0, vI x1, vI x2, vI x3, vI x4, vI x5, vI (x6 + 1), vI ((tmNow M x6) + (apO M x1 x6 1))]) rfl ?_
          refine a_goto dX8_timeInserted_156 (tgt := 71) rfl ?_
          exact a_weak (wk_e (wk_e (wk_e (wk_e (wk_e (wk_e (wk_e (wk_u wk_n)))))))) h
        · replace h := h.2 c128
          refine a_iload dX8_timeInserted_131 rfl ?_
          refine a_iload dX8_timeInserted_133 rfl ?_
          refine a_icmp_ge dX8_timeInserted_135 (tgt := 153) rfl (fun c135 => ?_) (fun c135 => ?_)
          · replace h := h.1 c135
            obtain ⟨q153_0, h⟩ := h
            refine a_iinc dX8_timeInserted_153 rfl (Nat.le_of_ble_eq_true rfl) (by decide) q153_0 (ls' := [vR a0, vI x1, vI x2, vI x3, vI x4, vI x5, vI (x6 + 1), vI ((tmNow M x6) + (apO M x1 x6 1))]) rfl ?_
            refine a_goto dX8_timeInserted_156 (tgt := 71) rfl ?_
            exact a_weak (wk_e (wk_e (wk_e (wk_e (wk_e (wk_e (wk_e (wk_u wk_n)))))))) h
          · replace h := h.2 c135
            refine a_aload_n dX8_timeInserted_138 rfl rfl ?_
            refine a_iload_n dX8_timeInserted_139 rfl rfl ?_
            refine a_iload dX8_timeInserted_140 rfl ?_
            refine a_iload_n dX8_timeInserted_142 rfl rfl ?_
            obtain ⟨q143_1, h⟩ := h
            refine a_callV dX8_timeInserted_143 cw_X8_timeInserted_143 (as := [vI x1, vI ((tmNow M x6) + (apO M x1 x6 1)), vI x3]) rfl rfl (kMod_0 hW_H2.1) (Nat.le_refl _) (Nat.le_of_ble_eq_true rfl) (nocov rfl) (Nat.le_of_ble_eq_true rfl) (Nat.le_of_ble_eq_true rfl) (CL.mono (c_isFree (show MW H2 a0 M from ⟨hW_H2.1, hW_H2.2.1, hW_H2.2.2⟩) q118_0 q143_1) (fun r9 H3 h9 => ?_))
            obtain ⟨e9, o_H3, hW_H3⟩ := h9
            rw [e9]
            replace h := h H3 o_H3 hW_H3
            show AW l G mX8_timeInserted (d + 1) 0 0 Q 146 [vR a0, vI x1, vI x2, vI x3, vI x4, vI x5, vI x6, vI ((tmNow M x6) + (apO M x1 x6 1))] [vI (freeN M x1 ((tmNow M x6) + (apO M x1 x6 1)) x3 (M 6).toNat)] 0 0 H3
            refine a_if_eq dX8_timeInserted_146 (tgt := 153) rfl (fun c146 => ?_) (fun c146 => ?_)
            · replace h := h.1 c146
              obtain ⟨q153_0, h⟩ := h
              refine a_iinc dX8_timeInserted_153 rfl (Nat.le_of_ble_eq_true rfl) (by decide) q153_0 (ls' := [vR a0, vI x1, vI x2, vI x3, vI x4, vI x5, vI (x6 + 1), vI ((tmNow M x6) + (apO M x1 x6 1))]) rfl ?_
              refine a_goto dX8_timeInserted_156 (tgt := 71) rfl ?_
              exact a_weak (wk_e (wk_e (wk_e (wk_e (wk_e (wk_e (wk_e (wk_u wk_n)))))))) h
            · replace h := h.2 c146
              refine a_iload dX8_timeInserted_149 rfl ?_
              refine a_istore dX8_timeInserted_151 (Nat.le_of_ble_eq_true rfl) (ls' := [vR a0, vI x1, vI x2, vI x3, vI x4, vI ((tmNow M x6) + (apO M x1 x6 1)), vI x6, vI ((tmNow M x6) + (apO M x1 x6 1))]) rfl ?_
              obtain ⟨q153_0, h⟩ := h
              refine a_iinc dX8_timeInserted_153 rfl (Nat.le_of_ble_eq_true rfl) (by decide) q153_0 (ls' := [vR a0, vI x1, vI x2, vI x3, vI x4, vI ((tmNow M x6) + (apO M x1 x6 1)), vI (x6 + 1), vI ((tmNow M x6) + (apO M x1 x6 1))]) rfl ?_
              refine a_goto dX8_timeInserted_156 (tgt := 71) rfl ?_
              exact a_weak (wk_e (wk_e (wk_e (wk_e (wk_e (wk_e (wk_e (wk_u wk_n)))))))) h
      · replace h := h.2 c101
        refine a_goto dX8_timeInserted_104 (tgt := 153) rfl ?_
        obtain ⟨q153_0, h⟩ := h
        refine a_iinc dX8_timeInserted_153 rfl (Nat.le_of_ble_eq_true rfl) (by decide) q153_0 (ls' := [vR a0, vI x1, vI x2, vI x3, vI x4, vI x5, vI (x6 + 1), vU]) rfl ?_
        refine a_goto dX8_timeInserted_156 (tgt := 71) rfl ?_
        exact h

abbrev frM (M : Row) (c t r : Int) : Prop := ¬ freeN M c t r (M 6).toNat = 0
noncomputable def tiN (M : Row) (c e r : Int) : Nat → Int
  | 0 => if frM M c e r then e else 2147483647
  | n + 1 => if (¬ ofM M n 7 = 3 ∧ ofM M n 6 = r) ∧ (e ≤ tmNow M n + apO M c n 1 ∧ tmNow M n + apO M c n 1 < tiN M c e r n) ∧ frM M c (tmNow M n + apO M c n 1) r then tmNow M n + apO M c n 1 else tiN M c e r n
abbrev okTI (c e : Int) : Prop := (0 ≤ c ∧ c ≤ 3) ∧ 0 ≤ e ∧ e ≤ 200000
noncomputable def vTI (M : Row) (c e r : Int) : Int := if rl M r then (if okTI c e then tiN M c (max (M 0) e) r (M 6).toNat else 0) else 0
def tTI (M : Row) (c e r : Int) : Int := if rl M r then (if okTI c e then 0 else 2) else 1
theorem c_timeInserted {l : Launch} {G : GT} {d : Nat} {H : AH} {a : Int} {M : Row} {c e r : Int} (hW : MW H a M) (hd : 18 ≤ d := by omega) : CL l G mX8_timeInserted d 0 0 [vR a, vI c, vI e, vI r] H (pubP a M (vI (vTI M c e r)) (tTI M c e r) H) := by
  obtain ⟨d, rfl⟩ : ∃ k, d = k + 1 := ⟨d - 1, by omega⟩
  have hM := hW.2.2.1
  have hn := okM_n hM
  have hn5 := okM_5 hM
  have h0 := hM.1.1
  refine CL.of (by decide) rfl (Nat.le_of_ble_eq_true rfl) (s_X8_timeInserted_0 hW ⟨by omega, fun H1 e1 => ⟨fun q => ⟨fun q2 H2 e2 => ?_, fun q2 => ⟨fun q3 => ⟨q2, by omega, fun H2 o2 w2 => ?_⟩, fun q3 H2 e2 => ?_⟩⟩, fun q => ?_⟩⟩)
  · rw [vTI, if_pos q, if_neg (fun z => q2 z.1), tTI, if_pos q, if_neg (fun z => q2 z.1)]
    exact ⟨rfl, pbt (pb1 hW e1) e2⟩
  · rw [vTI, if_pos q, if_pos ⟨q2, q3⟩, tTI, if_pos q, if_pos ⟨q2, q3⟩]
    rw [bi_t q] at e1
    have hb := pbq (pb1 hW e1) o2 w2
    have key : ∀ j, j ≤ (M 6).toNat → ∀ H', pbW a M 0 H H' → AW l G mX8_timeInserted (d + 1) 0 0 (pubP a M (vI (tiN M c (max (M 0) e) r (M 6).toNat)) 0 H) 71 [vR a, vI c, vI e, vI r, vI (max (M 0) e), vI (tiN M c (max (M 0) e) r j), vI j, vU] [] 0 0 H' := by
      refine upN _ ?_ ?_
      · intro j hj ih H' hb
        have hjf : fl M j := ⟨by omega, by omega⟩
        have go : ∀ x, tiN M c (max (M 0) e) r (j + 1) = x → ∀ H', pbW a M 0 H H' → AW l G mX8_timeInserted (d + 1) 0 0 (pubP a M (vI (tiN M c (max (M 0) e) r (M 6).toNat)) 0 H) 71 [vR a, vI c, vI e, vI r, vI (max (M 0) e), vI x, vI (j + 1), vU] [] 0 0 H' := fun x hx H' hb => by rw [← hx]; exact ih H' hb
        have a1 := apO_in hM (s := 1) q2 hjf
        refine s_X8_timeInserted_71 hb.2.2 ⟨fun z => absurd z (by omega), fun _ => ⟨by omega, fun z => ⟨by omega, go _ ?_ H' hb⟩, fun z => ⟨fun z2 => ⟨hjf, fun H3 o3 w3 => ⟨q2, hjf, fun H4 o4 w4 => ?_⟩⟩, fun z2 => ⟨by omega, go _ ?_ H' hb⟩⟩⟩⟩
        · rw [tiN, if_neg (fun y => z y.1.1)]
        · have t1 := tmNow_in hM hjf z
          have hb4 := pbq (pbq hb o3 w3) o4 w4
          refine ⟨by omega, fun z3 => ⟨by omega, go _ ?_ H4 hb4⟩, fun z3 => ⟨fun z4 => ⟨by omega, go _ ?_ H4 hb4⟩, fun z4 => ⟨by omega, fun H5 o5 w5 => ⟨fun z5 => ⟨by omega, go _ ?_ H5 (pbq hb4 o5 w5)⟩, fun z5 => ⟨by omega, go _ ?_ H5 (pbq hb4 o5 w5)⟩⟩⟩⟩⟩
          · rw [tiN, if_neg (fun y => by have := y.2.1.1; omega)]
          · rw [tiN, if_neg (fun y => by have := y.2.1.2; omega)]
          · rw [tiN, if_neg (fun y => y.2.2 z5)]
          · rw [tiN, if_pos ⟨⟨z, z2⟩, ⟨z3, z4⟩, z5⟩]
        · rw [tiN, if_neg (fun y => z2 y.1.2)]
      · intro H' hb
        exact s_X8_timeInserted_71 hb.2.2 ⟨fun _ => ⟨rfl, hb⟩, fun z => absurd z (by omega)⟩
    have k0 := key 0 (Nat.zero_le _) H2 hb
    refine ⟨fun z => ?_, fun z => ?_⟩
    · rw [tiN, if_neg (fun y => y z)] at k0
      exact k0
    · rw [tiN, if_pos z] at k0
      exact k0
  · rw [vTI, if_pos q, if_neg (fun z => q3 z.2), tTI, if_pos q, if_neg (fun z => q3 z.2)]
    exact ⟨rfl, pbt (pb1 hW e1) e2⟩
  · rw [vTI, if_neg q, tTI, if_neg q]
    rw [bi_f q] at e1
    exact ⟨rfl, pb1 hW e1⟩

theorem dX8_draws_0 : decode cX8_draws 0 = .ok (.iconst 0, 1) := by decide +kernel
theorem dX8_draws_1 : decode cX8_draws 1 = .ok (.istore_n 2, 1) := by decide +kernel
theorem dX8_draws_2 : decode cX8_draws 2 = .ok (.iload_n 2, 1) := by decide +kernel
theorem dX8_draws_3 : decode cX8_draws 3 = .ok (.aload_n 0, 1) := by decide +kernel
theorem dX8_draws_4 : decode cX8_draws 4 = .ok (.getfield 9, 3) := by decide +kernel
theorem dX8_draws_7 : decode cX8_draws 7 = .ok (.bipush 6, 2) := by decide +kernel
theorem dX8_draws_9 : decode cX8_draws 9 = .ok (.iaload, 1) := by decide +kernel
theorem dX8_draws_10 : decode cX8_draws 10 = .ok (.if_icmp .ge 73, 3) := by decide +kernel
theorem dX8_draws_13 : decode cX8_draws 13 = .ok (.aload_n 0, 1) := by decide +kernel
theorem dX8_draws_14 : decode cX8_draws 14 = .ok (.iload_n 2, 1) := by decide +kernel
theorem dX8_draws_15 : decode cX8_draws 15 = .ok (.invokevirtual 338, 3) := by decide +kernel
theorem dX8_draws_18 : decode cX8_draws 18 = .ok (.ifCond .eq 6, 3) := by decide +kernel
theorem dX8_draws_21 : decode cX8_draws 21 = .ok (.goto 56, 3) := by decide +kernel
theorem dX8_draws_24 : decode cX8_draws 24 = .ok (.aload_n 0, 1) := by decide +kernel
theorem dX8_draws_25 : decode cX8_draws 25 = .ok (.ldc2_w 369, 3) := by decide +kernel
theorem dX8_draws_28 : decode cX8_draws 28 = .ok (.aload_n 0, 1) := by decide +kernel
theorem dX8_draws_29 : decode cX8_draws 29 = .ok (.getfield 371, 3) := by decide +kernel
theorem dX8_draws_32 : decode cX8_draws 32 = .ok (.i2l, 1) := by decide +kernel
theorem dX8_draws_33 : decode cX8_draws 33 = .ok (.lmul, 1) := by decide +kernel
theorem dX8_draws_34 : decode cX8_draws 34 = .ok (.ldc2_w 374, 3) := by decide +kernel
theorem dX8_draws_37 : decode cX8_draws 37 = .ok (.ladd, 1) := by decide +kernel
theorem dX8_draws_38 : decode cX8_draws 38 = .ok (.ldc2_w 376, 3) := by decide +kernel
theorem dX8_draws_41 : decode cX8_draws 41 = .ok (.lrem, 1) := by decide +kernel
theorem dX8_draws_42 : decode cX8_draws 42 = .ok (.l2i, 1) := by decide +kernel
theorem dX8_draws_43 : decode cX8_draws 43 = .ok (.putfield 371, 3) := by decide +kernel
theorem dX8_draws_46 : decode cX8_draws 46 = .ok (.aload_n 0, 1) := by decide +kernel
theorem dX8_draws_47 : decode cX8_draws 47 = .ok (.getfield 371, 3) := by decide +kernel
theorem dX8_draws_50 : decode cX8_draws 50 = .ok (.ldc_w 378, 3) := by decide +kernel
theorem dX8_draws_53 : decode cX8_draws 53 = .ok (.idiv, 1) := by decide +kernel
theorem dX8_draws_54 : decode cX8_draws 54 = .ok (.sipush 1000, 3) := by decide +kernel
theorem dX8_draws_57 : decode cX8_draws 57 = .ok (.irem, 1) := by decide +kernel
theorem dX8_draws_58 : decode cX8_draws 58 = .ok (.iload_n 1, 1) := by decide +kernel
theorem dX8_draws_59 : decode cX8_draws 59 = .ok (.if_icmp .ge 18, 3) := by decide +kernel
theorem dX8_draws_62 : decode cX8_draws 62 = .ok (.aload_n 0, 1) := by decide +kernel
theorem dX8_draws_63 : decode cX8_draws 63 = .ok (.iload_n 2, 1) := by decide +kernel
theorem dX8_draws_64 : decode cX8_draws 64 = .ok (.invokevirtual 341, 3) := by decide +kernel
theorem dX8_draws_67 : decode cX8_draws 67 = .ok (.aload_n 0, 1) := by decide +kernel
theorem dX8_draws_68 : decode cX8_draws 68 = .ok (.dup, 1) := by decide +kernel
theorem dX8_draws_69 : decode cX8_draws 69 = .ok (.getfield 379, 3) := by decide +kernel
theorem dX8_draws_72 : decode cX8_draws 72 = .ok (.iconst 1, 1) := by decide +kernel
theorem dX8_draws_73 : decode cX8_draws 73 = .ok (.iadd, 1) := by decide +kernel
theorem dX8_draws_74 : decode cX8_draws 74 = .ok (.putfield 379, 3) := by decide +kernel
theorem dX8_draws_77 : decode cX8_draws 77 = .ok (.iinc 2 1, 3) := by decide +kernel
theorem dX8_draws_80 : decode cX8_draws 80 = .ok (.goto (-78), 3) := by decide +kernel
theorem dX8_draws_83 : decode cX8_draws 83 = .ok (.return_, 1) := by decide +kernel
set_option maxRecDepth 20000 in
theorem s_X8_draws_0 {l : Launch} {G : GT} {d : Nat} {Q : AV → AH → Prop} {H : AH} {a0 x1 : Int} {M : Row} (hW : MW H a0 M) (h : AW l G mX8_draws (d + 1) 0 0 Q 2 [vR a0, vI x1, vI 0] [] 0 0 H) (hd : 2 ≤ d := by omega) : AW l G mX8_draws (d + 1) 0 0 Q 0 [vR a0, vI x1, vU] [] 0 0 H := by
  refine a_iconst dX8_draws_0 ⟨by decide, by decide⟩ ?_
  refine a_istore_n dX8_draws_1 rfl (Nat.le_of_ble_eq_true rfl) (ls' := [vR a0, vI x1, vI 0]) rfl ?_
  exact h

set_option maxRecDepth 20000 in
theorem s_X8_draws_2 {l : Launch} {G : GT} {d : Nat} {Q : AV → AH → Prop} {H : AH} {a0 x1 x2 : Int} {M : Row} (hW : MW H a0 M) (h : ((M 6) ≤ x2 → Q vV H) ∧ (x2 < (M 6) → (0 ≤ x2 ∧ x2 < 24) ∧ ((noarM M x2) = 0 → (-9223372036854775808 ≤ 1103515245 * (hg H a0 24) ∧ 1103515245 * (hg H a0 24) ≤ 9223372036854775807) ∧ (-9223372036854775808 ≤ (1103515245 * (hg H a0 24)) + 12345 ∧ (1103515245 * (hg H a0 24)) + 12345 ≤ 9223372036854775807) ∧ ((-9223372036854775808 ≤ ((1103515245 * (hg H a0 24)) + 12345).tdiv 2147483648 ∧ ((1103515245 * (hg H a0 24)) + 12345).tdiv 2147483648 ≤ 9223372036854775807) ∧ (-9223372036854775808 ≤ (((1103515245 * (hg H a0 24)) + 12345).tdiv 2147483648) * 2147483648 ∧ (((1103515245 * (hg H a0 24)) + 12345).tdiv 2147483648) * 2147483648 ≤ 9223372036854775807) ∧ (-9223372036854775808 ≤ ((1103515245 * (hg H a0 24)) + 12345).tmod 2147483648 ∧ ((1103515245 * (hg H a0 24)) + 12345).tmod 2147483648 ≤ 9223372036854775807)) ∧ (-2147483648 ≤ (((1103515245 * (hg H a0 24)) + 12345).tmod 2147483648) ∧ (((1103515245 * (hg H a0 24)) + 12345).tmod 2147483648) ≤ 2147483647) ∧ ∀ H1 : AH, H1 = hs H a0 24 (((1103515245 * (hg H a0 24)) + 12345).tmod 2147483648) → (-2147483648 ≤ (hg H1 a0 24).tdiv 65536 ∧ (hg H1 a0 24).tdiv 65536 ≤ 2147483647) ∧ ((-2147483648 ≤ ((hg H1 a0 24).tdiv 65536).tdiv 1000 ∧ ((hg H1 a0 24).tdiv 65536).tdiv 1000 ≤ 2147483647) ∧ (-2147483648 ≤ (((hg H1 a0 24).tdiv 65536).tdiv 1000) * 1000 ∧ (((hg H1 a0 24).tdiv 65536).tdiv 1000) * 1000 ≤ 2147483647) ∧ (-2147483648 ≤ ((hg H1 a0 24).tdiv 65536).tmod 1000 ∧ ((hg H1 a0 24).tdiv 65536).tmod 1000 ≤ 2147483647)) ∧ (x1 ≤ (((hg H1 a0 24).tdiv 65536).tmod 1000) → (-2147483648 ≤ x2 + 1 ∧ x2 + 1 ≤ 2147483647) ∧ AW l G mX8_draws (d + 1) 0 0 Q 2 [vR a0, vI x1, vI (x2 + 1)] [] 0 0 H1) ∧ ((((hg H1 a0 24).tdiv 65536).tmod 1000) < x1 → (fl M x2) ∧ (0 ≤ ofM M x2 9 ∧ ofM M x2 9 ≤ 1000000000) ∧ ∀ H2 : AH, ∀ M2 : Row, M2 = arM M x2 → only H1 H2 (pMt a0) → MW H2 a0 M2 → (-2147483648 ≤ (hg H2 a0 25) + 1 ∧ (hg H2 a0 25) + 1 ≤ 2147483647) ∧ ∀ H3 : AH, H3 = hs H2 a0 25 ((hg H2 a0 25) + 1) → (-2147483648 ≤ x2 + 1 ∧ x2 + 1 ≤ 2147483647) ∧ AW l G mX8_draws (d + 1) 0 0 Q 2 [vR a0, vI x1, vI (x2 + 1)] [] 0 0 H3)) ∧ (¬ (noarM M x2) = 0 → (-2147483648 ≤ x2 + 1 ∧ x2 + 1 ≤ 2147483647) ∧ AW l G mX8_draws (d + 1) 0 0 Q 2 [vR a0, vI x1, vI (x2 + 1)] [] 0 0 H))) (hd : 2 ≤ d := by omega) : AW l G mX8_draws (d + 1) 0 0 Q 2 [vR a0, vI x1, vI x2] [] 0 0 H := by
  refine a_iload_n dX8_draws_2 rfl rfl ?_
  refine a_aload_n dX8_draws_3 rfl rfl ?_
  refine a_getR dX8_draws_4 fw_RX8_9 rfl rfl (kMod_0 hW.1) (rMod_0_0 hW.1) ?_
  refine a_bipush dX8_draws_7 (by decide) ?_
  refine b_ialdV dX8_draws_9 (kMod_1 hW.1) (nMod_1 hW.1) (⟨by decide, by decide⟩) (congrFun hW.2.1 _) ?_
  refine a_icmp_ge dX8_draws_10 (tgt := 83) rfl (fun c10 => ?_) (fun c10 => ?_)
  · replace h := h.1 c10
    exact a_vret dX8_draws_83 rfl (Nat.le_of_ble_eq_true rfl) (Nat.le_of_ble_eq_true rfl) h
  · replace h := h.2 c10
    refine a_aload_n dX8_draws_13 rfl rfl ?_
    refine a_iload_n dX8_draws_14 rfl rfl ?_
    obtain ⟨q15_0, h⟩ := h
    refine a_callV dX8_draws_15 cw_X8_draws_15 (as := [vI x2]) rfl rfl (kMod_0 hW.1) (Nat.le_refl _) (Nat.le_of_ble_eq_true rfl) (nocov rfl) (Nat.le_of_ble_eq_true rfl) (Nat.le_of_ble_eq_true rfl) (CL.mono (c_noAround hW.1 q15_0) (fun r9 H9 h9 => ?_))
    rw [h9.1, h9.2]
    (try rw [hW.2.1])
    show AW l G mX8_draws (d + 1) 0 0 Q 18 [vR a0, vI x1, vI x2] [vI (noarM M x2)] 0 0 H
    refine a_if_eq dX8_draws_18 (tgt := 24) rfl (fun c18 => ?_) (fun c18 => ?_)
    · replace h := h.1 c18
      refine a_aload_n dX8_draws_24 rfl rfl ?_
      refine a_ldc2 dX8_draws_25 (w_1803) ?_
      show AW l G mX8_draws (d + 1) 0 0 Q 28 [vR a0, vI x1, vI x2] [vJ 1103515245, vR a0] 0 0 H
      refine a_aload_n dX8_draws_28 rfl rfl ?_
      refine a_getI dX8_draws_29 fw_RX8_371 rfl rfl (kMod_0 hW.1) ?_
      refine a_i2l dX8_draws_32 ?_
      obtain ⟨q33_0, h⟩ := h
      refine a_lmul dX8_draws_33 q33_0 ?_
      refine a_ldc2 dX8_draws_34 (w_1804) ?_
      show AW l G mX8_draws (d + 1) 0 0 Q 37 [vR a0, vI x1, vI x2] [vJ 12345, vJ (1103515245 * (hg H a0 24)), vR a0] 0 0 H
      obtain ⟨q37_0, h⟩ := h
      refine a_ladd dX8_draws_37 q37_0 ?_
      refine a_ldc2 dX8_draws_38 (w_1805) ?_
      show AW l G mX8_draws (d + 1) 0 0 Q 41 [vR a0, vI x1, vI x2] [vJ 2147483648, vJ ((1103515245 * (hg H a0 24)) + 12345), vR a0] 0 0 H
      obtain ⟨q41_1, h⟩ := h
      refine a_lrem dX8_draws_41 (by decide) q41_1 ?_
      obtain ⟨q42_0, h⟩ := h
      refine a_l2i dX8_draws_42 q42_0 ?_
      refine a_putI dX8_draws_43 fp_RX8_371 rfl rfl (kMod_0 hW.1) ?_
      have h_r0_1 := Lay.wr hW.1 ok_Mod (nrf_fld 24 (kMod_0 hW.1) (by decide) (by decide)) (i := 24) (x := (((1103515245 * (hg H a0 24)) + 12345).tmod 2147483648))
      generalize e_H1 : hs H a0 24 (((1103515245 * (hg H a0 24)) + 12345).tmod 2147483648) = H1 at h_r0_1 ⊢
      replace h := h H1 e_H1.symm
      have row_H1 := (show rowM H1 a0 = _ from by rw [← e_H1, rowM_ne (by omega), hW.2.1])
      have mk_H1 := (show okM _ ∧ mkd H1 a0 from by rw [← e_H1]; exact ⟨hW.2.2.1, mkd_wr hW.2.2.2 (by omega) (by omega) (by omega)⟩)
      refine a_aload_n dX8_draws_46 rfl rfl ?_
      refine a_getI dX8_draws_47 fw_RX8_371 rfl rfl (kMod_0 h_r0_1) ?_
      refine a_ldcw dX8_draws_50 (w_1806) ?_
      show AW l G mX8_draws (d + 1) 0 0 Q 53 [vR a0, vI x1, vI x2] [vI 65536, vI (hg H1 a0 24)] 0 0 H1
      obtain ⟨q53_1, h⟩ := h
      refine a_idiv dX8_draws_53 (by decide) q53_1 ?_
      refine a_sipush dX8_draws_54 (by decide) ?_
      obtain ⟨q57_1, h⟩ := h
      refine a_irem dX8_draws_57 (by decide) q57_1 ?_
      refine a_iload_n dX8_draws_58 rfl rfl ?_
      refine a_icmp_ge dX8_draws_59 (tgt := 77) rfl (fun c59 => ?_) (fun c59 => ?_)
      · replace h := h.1 c59
        obtain ⟨q77_0, h⟩ := h
        refine a_iinc dX8_draws_77 rfl (Nat.le_of_ble_eq_true rfl) (by decide) q77_0 (ls' := [vR a0, vI x1, vI (x2 + 1)]) rfl ?_
        refine a_goto dX8_draws_80 (tgt := 2) rfl ?_
        exact h
      · replace h := h.2 c59
        refine a_aload_n dX8_draws_62 rfl rfl ?_
        refine a_iload_n dX8_draws_63 rfl rfl ?_
        obtain ⟨q64_0, h⟩ := h
        obtain ⟨q64_1, h⟩ := h
        refine a_callV dX8_draws_64 cw_X8_draws_64 (as := [vI x2]) rfl rfl (kMod_0 h_r0_1) (Nat.le_refl _) (Nat.le_of_ble_eq_true rfl) (nocov rfl) (Nat.le_of_ble_eq_true rfl) (Nat.le_of_ble_eq_true rfl) (CL.mono (c_goesAround (show MW H1 a0 M from ⟨h_r0_1, row_H1, mk_H1⟩) q64_0 q64_1) (fun r9 H2 h9 => ?_))
        obtain ⟨e9, o_H2, hX_H2⟩ := h9
        rw [e9]
        obtain ⟨M2, e_M2⟩ : ∃ M2 : Row, M2 = arM M x2 := ⟨_, rfl⟩
        rw [← e_M2] at hX_H2
        replace h := h H2 M2 e_M2 o_H2 hX_H2
        show AW l G mX8_draws (d + 1) 0 0 Q 67 [vR a0, vI x1, vI x2] [] 0 0 H2
        refine a_aload_n dX8_draws_67 rfl rfl ?_
        refine a_dup dX8_draws_68 rfl ?_
        refine a_getI dX8_draws_69 fw_RX8_379 rfl rfl (kMod_0 hX_H2.1) ?_
        refine a_iconst dX8_draws_72 ⟨by decide, by decide⟩ ?_
        obtain ⟨q73_0, h⟩ := h
        refine a_iadd dX8_draws_73 q73_0 ?_
        refine a_putI dX8_draws_74 fp_RX8_379 rfl rfl (kMod_0 hX_H2.1) ?_
        have h_r0_3 := Lay.wr hX_H2.1 ok_Mod (nrf_fld 25 (kMod_0 hX_H2.1) (by decide) (by decide)) (i := 25) (x := ((hg H2 a0 25) + 1))
        generalize e_H3 : hs H2 a0 25 ((hg H2 a0 25) + 1) = H3 at h_r0_3 ⊢
        replace h := h H3 e_H3.symm
        have row_H3 := (show rowM H3 a0 = _ from by rw [← e_H3, rowM_ne (by omega), hX_H2.2.1])
        have mk_H3 := (show okM _ ∧ mkd H3 a0 from by rw [← e_H3]; exact ⟨hX_H2.2.2.1, mkd_wr hX_H2.2.2.2 (by omega) (by omega) (by omega)⟩)
        obtain ⟨q77_0, h⟩ := h
        refine a_iinc dX8_draws_77 rfl (Nat.le_of_ble_eq_true rfl) (by decide) q77_0 (ls' := [vR a0, vI x1, vI (x2 + 1)]) rfl ?_
        refine a_goto dX8_draws_80 (tgt := 2) rfl ?_
        exact h
    · replace h := h.2 c18
      refine a_goto dX8_draws_21 (tgt := 77) rfl ?_
      obtain ⟨q77_0, h⟩ := h
      refine a_iinc dX8_draws_77 rfl (Nat.le_of_ble_eq_true rfl) (by decide) q77_0 (ls' := [vR a0, vI x1, vI (x2 + 1)]) rfl ?_
      refine a_goto dX8_draws_80 (tgt := 2) rfl ?_
      exact h

abbrev S3 : Type := Row × Int × Int
def lcg (x : Int) : Int := (1103515245 * x + 12345) % 2147483648
def dr1 (p : Int) (s : S3) (f : Int) : S3 := if noarM s.1 f = 0 then (if lcg s.2.1 / 65536 % 1000 < p then (arM s.1 f, lcg s.2.1, s.2.2 + 1) else (s.1, lcg s.2.1, s.2.2)) else s
def drN (p : Int) (s : S3) : Nat → S3
  | 0 => s
  | n + 1 => dr1 p (drN p s n) n
theorem noar_0 {{M : Row}} {{f : Int}} (h : noarM M f = 0) : ofM M f 7 = 1 ∧ ofM M f 0 = 1 := by
  unfold noarM at h
  split at h
  · split at h
    · exact ⟨by assumption, by assumption⟩
    · omega
  · omega
/-- what holds of the drawing -/
def okR (M : Row) (B : Int) (s : S3) : Prop := (okM s.1 ∧ okD s.1 ∧ s.1 6 = M 6 ∧ s.1 0 = M 0 ∧ s.1 7 = M 7) ∧ (0 ≤ s.2.1 ∧ s.2.1 ≤ 2147483647) ∧ (0 ≤ s.2.2 ∧ s.2.2 ≤ B) ∧ arB s.1 B
theorem lcg_in {{x : Int}} : 0 ≤ lcg x ∧ lcg x ≤ 2147483647 := by unfold lcg; omega
theorem dr1_ok {{M : Row}} {{p B : Int}} {{s : S3}} {{f : Int}} (hf : fl M f) (h : okR M B s) : okR M (B + 1) (dr1 p s f) := by
  obtain ⟨⟨h1, h2, h3, h4, h5⟩, h6, h7, h8⟩ := h
  have wk : arB s.1 (B + 1) := fun g hg => by have := h8 g hg; omega
  have hl := lcg_in (x := s.2.1)
  unfold dr1
  split
  · rename_i c
    have n0 := noar_0 c
    have hf1 : fl s.1 f := by unfold fl at hf ⊢; rw [h3]; exact hf
    split
    · refine ⟨⟨okM_ar h1 hf1, ar_D hf.1 h2 (by omega), (arM_lo hf.1 (by omega)).trans h3, (arM_lo hf.1 (by omega)).trans h4, (arM_lo hf.1 (by omega)).trans h5⟩, hl, by show 0 ≤ s.2.2 + 1 ∧ s.2.2 + 1 ≤ B + 1; omega, fun g hg => ?_⟩
      have hg2 : fl s.1 g := by unfold fl at hg ⊢; rw [← arM_lo (M := s.1) hf.1 (k := 6) (by omega)]; exact hg
      have := h8 g hg2
      by_cases e : g = f
      · rw [e, arM_9, ← e]; omega
      · rw [arM_ne (by omega) (Or.inl e)]; omega
    · exact ⟨⟨h1, h2, h3, h4, h5⟩, hl, by show 0 ≤ s.2.2 ∧ s.2.2 ≤ B + 1; omega, wk⟩
  · exact ⟨⟨h1, h2, h3, h4, h5⟩, h6, by omega, wk⟩
theorem drN_ok {{M : Row}} {{p B : Int}} {{s : S3}} (h : okR M B s) : ∀ n : Nat, (n : Int) ≤ M 6 → okR M (B + n) (drN p s n)
  | 0, _ => by rw [show B + ((0 : Nat) : Int) = B by omega]; exact h
  | n + 1, hn => by
    have := dr1_ok (p := p) (f := n) ⟨by omega, by omega⟩ (drN_ok (p := p) h n (by omega))
    rw [show B + ((n + 1 : Nat) : Int) = B + n + 1 by omega]
    exact this
def pDr (a : Int) : Int → Int → Prop := fun b i => pMt a b i ∨ (b = a ∧ (i = 24 ∨ i = 25))
/-- the world of the drawing -/
def DW (H : AH) (a : Int) (s : S3) : Prop := MW H a s.1 ∧ hg H a 24 = s.2.1 ∧ hg H a 25 = s.2.2
theorem MW.sl {{H : AH}} {{a k x : Int}} {{M : Row}} (h : MW H a M) (hk : k = 24 ∨ k = 25) : MW (hs H a k x) a M :=
  h.only (P := fun b i => b = a ∧ i = k) (only.wr ⟨rfl, rfl⟩) (by rintro c i ⟨rfl, rfl⟩; rcases hk with rfl | rfl; exact nrf_fld 24 (kMod_0 h.1) (by decide) (by decide); exact nrf_fld 25 (kMod_0 h.1) (by decide) (by decide)) (by rintro i ⟨q, -⟩; omega) (by rintro b i q1 q2 ⟨q, -⟩; omega) (by rintro ⟨-, q⟩; omega)
theorem only.mt24 {{H H' : AH}} {{a : Int}} (o : only H H' (pMt a)) {{k : Int}} (hk : k = 24 ∨ k = 25) : hg H' a k = hg H a k := o.2.2 a k (by rintro ((⟨q, -⟩ | ⟨-, q | q⟩) | q) <;> omega)
theorem c_draws {l : Launch} {G : GT} {d : Nat} {H : AH} {a : Int} {M : Row} {p B : Int} {s : S3} (hW : DW H a s) (hs : okR M B s) (hB : 0 ≤ B ∧ B ≤ 900000000) (hp : 0 ≤ p ∧ p ≤ 500) (hd : 3 ≤ d := by omega) : CL l G mX8_draws d 0 0 [vR a, vI p] H (fun r H' => r = vV ∧ only H H' (pDr a) ∧ DW H' a (drN p s (M 6).toNat)) := by
  obtain ⟨d, rfl⟩ : ∃ k, d = k + 1 := ⟨d - 1, by omega⟩
  have hn := okM_n hs.1.1
  rw [hs.1.2.2.1] at hn
  refine CL.of (by decide) rfl (Nat.le_of_ble_eq_true rfl) (s_X8_draws_0 hW.1 ?_)
  have key : ∀ j, j ≤ (M 6).toNat → ∀ H', only H H' (pDr a) → DW H' a (drN p s j) → AW l G mX8_draws (d + 1) 0 0 (fun r H' => r = vV ∧ only H H' (pDr a) ∧ DW H' a (drN p s (M 6).toNat)) 2 [vR a, vI p, vI j] [] 0 0 H' := by
    refine upN _ ?_ ?_
    · intro j hj ih H' ho hW'
      have ok := drN_ok (p := p) hs j (by omega)
      obtain ⟨⟨k1, k2, k3, k4, k5⟩, k6, k7, k8⟩ := ok
      have hl := lcg_in (x := (drN p s j).2.1)
      have go : ∀ t : S3, drN p s (j + 1) = t → ∀ H', only H H' (pDr a) → DW H' a t → AW l G mX8_draws (d + 1) 0 0 (fun r H' => r = vV ∧ only H H' (pDr a) ∧ DW H' a (drN p s (M 6).toNat)) 2 [vR a, vI p, vI (j + 1)] [] 0 0 H' := fun t ht H' o w => by rw [← ht] at w; exact ih H' o w
      refine s_X8_draws_2 hW'.1 ?_
      rw [k3, hW'.2.1]
      have t1 : (1103515245 * (drN p s j).2.1 + 12345).tmod 2147483648 = lcg (drN p s j).2.1 := Int.tmod_eq_emod_of_nonneg (by omega)
      have t2 : (1103515245 * (drN p s j).2.1 + 12345).tdiv 2147483648 = (1103515245 * (drN p s j).2.1 + 12345) / 2147483648 := Int.tdiv_eq_ediv_of_nonneg (by omega)
      rw [t1, t2]
      refine ⟨fun q => absurd q (by omega), fun _ => ⟨by omega, fun q => ⟨by omega, by omega, ⟨by omega, by omega, by omega⟩, by omega, fun H1 e1 => ?_⟩, fun q => ⟨by omega, go _ ?_ H' ho hW'⟩⟩⟩
      · have g1 : hg H1 a 24 = lcg (drN p s j).2.1 := by rw [e1, hg_same]
        have g2 : hg H1 a 25 = (drN p s j).2.2 := by rw [e1, hg_ne _ (by omega)]; exact hW'.2.2
        have w1 : MW H1 a (drN p s j).1 := by rw [e1]; exact hW'.1.sl (Or.inl rfl)
        have o1 : only H H1 (pDr a) := by rw [e1]; exact ho.then (Or.inr ⟨rfl, Or.inl rfl⟩)
        rw [g1]
        have t3 : (lcg (drN p s j).2.1).tdiv 65536 = lcg (drN p s j).2.1 / 65536 := Int.tdiv_eq_ediv_of_nonneg hl.1
        have t4 : (lcg (drN p s j).2.1 / 65536).tdiv 1000 = lcg (drN p s j).2.1 / 65536 / 1000 := Int.tdiv_eq_ediv_of_nonneg (by omega)
        have t5 : (lcg (drN p s j).2.1 / 65536).tmod 1000 = lcg (drN p s j).2.1 / 65536 % 1000 := Int.tmod_eq_emod_of_nonneg (by omega)
        rw [t3, t4, t5]
        refine ⟨by omega, ⟨by omega, by omega, by omega⟩, fun q2 => ⟨by omega, go ((drN p s j).1, lcg (drN p s j).2.1, (drN p s j).2.2) ?_ H1 o1 ⟨w1, g1, g2⟩⟩, fun q2 => ?_⟩
        · show dr1 p (drN p s j) j = _
          rw [dr1, if_pos q, if_neg (by omega)]
        · have hjf : fl (drN p s j).1 j := by unfold fl; rw [k3]; omega
          have b9 := k8 j hjf
          refine ⟨hjf, by omega, fun H2 M2 e2 o2 w2 => ?_⟩
          rw [o2.mt24 (Or.inr rfl), g2]
          refine ⟨by omega, fun H3 e3 => ⟨by omega, go (arM (drN p s j).1 j, lcg (drN p s j).2.1, (drN p s j).2.2 + 1) ?_ H3 ?_ ⟨?_, ?_, ?_⟩⟩⟩
          · show dr1 p (drN p s j) j = _
            rw [dr1, if_pos q, if_pos q2]
          · rw [e3]; exact (o1.trans (o2.mono (fun b i z => Or.inl z))).then (Or.inr ⟨rfl, Or.inr rfl⟩)
          · rw [e2] at w2; rw [e3]; exact w2.sl (Or.inr rfl)
          · rw [e3, hg_ne _ (by omega), o2.mt24 (Or.inl rfl)]; exact g1
          · rw [e3, hg_same]
      · show dr1 p (drN p s j) j = _
        rw [dr1, if_neg q]
    · intro H' ho hW'
      have ok := drN_ok (p := p) hs (M 6).toNat (by omega)
      exact s_X8_draws_2 hW'.1 ⟨fun _ => ⟨rfl, ho, hW'⟩, fun q => absurd q (by rw [ok.1.2.2.1]; omega)⟩
  exact key 0 (Nat.zero_le _) H only.rf hW

theorem dX8_simulate_0 : decode cX8_simulate 0 = .ok (.aload_n 0, 1) := by decide +kernel
theorem dX8_simulate_1 : decode cX8_simulate 1 = .ok (.iload_n 1, 1) := by decide +kernel
theorem dX8_simulate_2 : decode cX8_simulate 2 = .ok (.ifCond .lt 39, 3) := by decide +kernel
theorem dX8_simulate_5 : decode cX8_simulate 5 = .ok (.iload_n 2, 1) := by decide +kernel
theorem dX8_simulate_6 : decode cX8_simulate 6 = .ok (.iconst 0, 1) := by decide +kernel
theorem dX8_simulate_7 : decode cX8_simulate 7 = .ok (.sipush 500, 3) := by decide +kernel
theorem dX8_simulate_10 : decode cX8_simulate 10 = .ok (.invokestatic 67, 3) := by decide +kernel
theorem dX8_simulate_13 : decode cX8_simulate 13 = .ok (.ifCond .eq 28, 3) := by decide +kernel
theorem dX8_simulate_16 : decode cX8_simulate 16 = .ok (.iload_n 3, 1) := by decide +kernel
theorem dX8_simulate_17 : decode cX8_simulate 17 = .ok (.iconst 1, 1) := by decide +kernel
theorem dX8_simulate_18 : decode cX8_simulate 18 = .ok (.sipush 7200, 3) := by decide +kernel
theorem dX8_simulate_21 : decode cX8_simulate 21 = .ok (.invokestatic 67, 3) := by decide +kernel
theorem dX8_simulate_24 : decode cX8_simulate 24 = .ok (.ifCond .eq 17, 3) := by decide +kernel
theorem dX8_simulate_27 : decode cX8_simulate 27 = .ok (.iload 4, 2) := by decide +kernel
theorem dX8_simulate_29 : decode cX8_simulate 29 = .ok (.iconst 0, 1) := by decide +kernel
theorem dX8_simulate_30 : decode cX8_simulate 30 = .ok (.iconst 3, 1) := by decide +kernel
theorem dX8_simulate_31 : decode cX8_simulate 31 = .ok (.invokestatic 67, 3) := by decide +kernel
theorem dX8_simulate_34 : decode cX8_simulate 34 = .ok (.ifCond .eq 7, 3) := by decide +kernel
theorem dX8_simulate_37 : decode cX8_simulate 37 = .ok (.iconst 1, 1) := by decide +kernel
theorem dX8_simulate_38 : decode cX8_simulate 38 = .ok (.goto 4, 3) := by decide +kernel
theorem dX8_simulate_41 : decode cX8_simulate 41 = .ok (.iconst 0, 1) := by decide +kernel
theorem dX8_simulate_42 : decode cX8_simulate 42 = .ok (.invokevirtual 78, 3) := by decide +kernel
theorem dX8_simulate_45 : decode cX8_simulate 45 = .ok (.ifCond .ne 5, 3) := by decide +kernel
theorem dX8_simulate_48 : decode cX8_simulate 48 = .ok (.iconst 0, 1) := by decide +kernel
theorem dX8_simulate_49 : decode cX8_simulate 49 = .ok (.ireturn, 1) := by decide +kernel
theorem dX8_simulate_50 : decode cX8_simulate 50 = .ok (.aload_n 0, 1) := by decide +kernel
theorem dX8_simulate_51 : decode cX8_simulate 51 = .ok (.invokevirtual 353, 3) := by decide +kernel
theorem dX8_simulate_54 : decode cX8_simulate 54 = .ok (.aload_n 0, 1) := by decide +kernel
theorem dX8_simulate_55 : decode cX8_simulate 55 = .ok (.iload_n 1, 1) := by decide +kernel
theorem dX8_simulate_56 : decode cX8_simulate 56 = .ok (.putfield 371, 3) := by decide +kernel
theorem dX8_simulate_59 : decode cX8_simulate 59 = .ok (.aload_n 0, 1) := by decide +kernel
theorem dX8_simulate_60 : decode cX8_simulate 60 = .ok (.iconst 0, 1) := by decide +kernel
theorem dX8_simulate_61 : decode cX8_simulate 61 = .ok (.putfield 379, 3) := by decide +kernel
theorem dX8_simulate_64 : decode cX8_simulate 64 = .ok (.aload_n 0, 1) := by decide +kernel
theorem dX8_simulate_65 : decode cX8_simulate 65 = .ok (.getfield 9, 3) := by decide +kernel
theorem dX8_simulate_68 : decode cX8_simulate 68 = .ok (.iconst 0, 1) := by decide +kernel
theorem dX8_simulate_69 : decode cX8_simulate 69 = .ok (.iaload, 1) := by decide +kernel
theorem dX8_simulate_70 : decode cX8_simulate 70 = .ok (.iload_n 3, 1) := by decide +kernel
theorem dX8_simulate_71 : decode cX8_simulate 71 = .ok (.iadd, 1) := by decide +kernel
theorem dX8_simulate_72 : decode cX8_simulate 72 = .ok (.istore 5, 2) := by decide +kernel
theorem dX8_simulate_74 : decode cX8_simulate 74 = .ok (.aload_n 0, 1) := by decide +kernel
theorem dX8_simulate_75 : decode cX8_simulate 75 = .ok (.getfield 9, 3) := by decide +kernel
theorem dX8_simulate_78 : decode cX8_simulate 78 = .ok (.iconst 0, 1) := by decide +kernel
theorem dX8_simulate_79 : decode cX8_simulate 79 = .ok (.iaload, 1) := by decide +kernel
theorem dX8_simulate_80 : decode cX8_simulate 80 = .ok (.iload 5, 2) := by decide +kernel
theorem dX8_simulate_82 : decode cX8_simulate 82 = .ok (.if_icmp .ge 29, 3) := by decide +kernel
theorem dX8_simulate_85 : decode cX8_simulate 85 = .ok (.aload_n 0, 1) := by decide +kernel
theorem dX8_simulate_86 : decode cX8_simulate 86 = .ok (.iload 5, 2) := by decide +kernel
theorem dX8_simulate_88 : decode cX8_simulate 88 = .ok (.aload_n 0, 1) := by decide +kernel
theorem dX8_simulate_89 : decode cX8_simulate 89 = .ok (.getfield 9, 3) := by decide +kernel
theorem dX8_simulate_92 : decode cX8_simulate 92 = .ok (.iconst 0, 1) := by decide +kernel
theorem dX8_simulate_93 : decode cX8_simulate 93 = .ok (.iaload, 1) := by decide +kernel
theorem dX8_simulate_94 : decode cX8_simulate 94 = .ok (.bipush 60, 2) := by decide +kernel
theorem dX8_simulate_96 : decode cX8_simulate 96 = .ok (.iadd, 1) := by decide +kernel
theorem dX8_simulate_97 : decode cX8_simulate 97 = .ok (.invokestatic 116, 3) := by decide +kernel
theorem dX8_simulate_100 : decode cX8_simulate 100 = .ok (.invokevirtual 329, 3) := by decide +kernel
theorem dX8_simulate_103 : decode cX8_simulate 103 = .ok (.aload_n 0, 1) := by decide +kernel
theorem dX8_simulate_104 : decode cX8_simulate 104 = .ok (.iload_n 2, 1) := by decide +kernel
theorem dX8_simulate_105 : decode cX8_simulate 105 = .ok (.invokevirtual 382, 3) := by decide +kernel
theorem dX8_simulate_108 : decode cX8_simulate 108 = .ok (.goto (-34), 3) := by decide +kernel
theorem dX8_simulate_111 : decode cX8_simulate 111 = .ok (.iload 4, 2) := by decide +kernel
theorem dX8_simulate_113 : decode cX8_simulate 113 = .ok (.ifCond .ne 13, 3) := by decide +kernel
theorem dX8_simulate_116 : decode cX8_simulate 116 = .ok (.aload_n 0, 1) := by decide +kernel
theorem dX8_simulate_117 : decode cX8_simulate 117 = .ok (.getfield 9, 3) := by decide +kernel
theorem dX8_simulate_120 : decode cX8_simulate 120 = .ok (.bipush 7, 2) := by decide +kernel
theorem dX8_simulate_122 : decode cX8_simulate 122 = .ok (.iaload, 1) := by decide +kernel
theorem dX8_simulate_123 : decode cX8_simulate 123 = .ok (.goto 34, 3) := by decide +kernel
theorem dX8_simulate_126 : decode cX8_simulate 126 = .ok (.iload 4, 2) := by decide +kernel
theorem dX8_simulate_128 : decode cX8_simulate 128 = .ok (.iconst 1, 1) := by decide +kernel
theorem dX8_simulate_129 : decode cX8_simulate 129 = .ok (.if_icmp .ne 10, 3) := by decide +kernel
theorem dX8_simulate_132 : decode cX8_simulate 132 = .ok (.aload_n 0, 1) := by decide +kernel
theorem dX8_simulate_133 : decode cX8_simulate 133 = .ok (.getfield 379, 3) := by decide +kernel
theorem dX8_simulate_136 : decode cX8_simulate 136 = .ok (.goto 21, 3) := by decide +kernel
theorem dX8_simulate_139 : decode cX8_simulate 139 = .ok (.iload 4, 2) := by decide +kernel
theorem dX8_simulate_141 : decode cX8_simulate 141 = .ok (.iconst 2, 1) := by decide +kernel
theorem dX8_simulate_142 : decode cX8_simulate 142 = .ok (.if_icmp .ne 10, 3) := by decide +kernel
theorem dX8_simulate_145 : decode cX8_simulate 145 = .ok (.aload_n 0, 1) := by decide +kernel
theorem dX8_simulate_146 : decode cX8_simulate 146 = .ok (.invokevirtual 295, 3) := by decide +kernel
theorem dX8_simulate_149 : decode cX8_simulate 149 = .ok (.goto 8, 3) := by decide +kernel
theorem dX8_simulate_152 : decode cX8_simulate 152 = .ok (.aload_n 0, 1) := by decide +kernel
theorem dX8_simulate_153 : decode cX8_simulate 153 = .ok (.invokevirtual 291, 3) := by decide +kernel
theorem dX8_simulate_156 : decode cX8_simulate 156 = .ok (.f2i, 1) := by decide +kernel
theorem dX8_simulate_157 : decode cX8_simulate 157 = .ok (.istore 6, 2) := by decide +kernel
theorem dX8_simulate_159 : decode cX8_simulate 159 = .ok (.aload_n 0, 1) := by decide +kernel
theorem dX8_simulate_160 : decode cX8_simulate 160 = .ok (.invokevirtual 356, 3) := by decide +kernel
theorem dX8_simulate_163 : decode cX8_simulate 163 = .ok (.iload 6, 2) := by decide +kernel
theorem dX8_simulate_165 : decode cX8_simulate 165 = .ok (.ireturn, 1) := by decide +kernel
set_option maxRecDepth 20000 in
theorem s_X8_simulate_0 {l : Launch} {G : GT} {d : Nat} {Q : AV → AH → Prop} {H : AH} {a0 x1 x2 x3 x4 : Int} {M : Row} (hW : MW H a0 M) (h : (x1 < 0 → ∀ H1 : AH, H1 = hs H a0 5 (1 - 0) → Q (vI 0) H1) ∧ (0 ≤ x1 → (¬ (0 ≤ x2 ∧ x2 ≤ 500) → ∀ H1 : AH, H1 = hs H a0 5 (1 - 0) → Q (vI 0) H1) ∧ (0 ≤ x2 ∧ x2 ≤ 500 → (¬ (1 ≤ x3 ∧ x3 ≤ 7200) → ∀ H1 : AH, H1 = hs H a0 5 (1 - 0) → Q (vI 0) H1) ∧ (1 ≤ x3 ∧ x3 ≤ 7200 → (¬ (0 ≤ x4 ∧ x4 ≤ 3) → ∀ H1 : AH, H1 = hs H a0 5 (1 - 0) → Q (vI 0) H1) ∧ (0 ≤ x4 ∧ x4 ≤ 3 → ∀ H1 : AH, H1 = hs H a0 5 (1 - 1) → ∀ H2 : AH, only H1 H2 (pAs a0) → MW H2 a0 M → asd H2 a0 M → ∀ H3 : AH, H3 = hs H2 a0 24 x1 → ∀ H4 : AH, H4 = hs H3 a0 25 0 → (-2147483648 ≤ (M 0) + x3 ∧ (M 0) + x3 ≤ 2147483647) ∧ AW l G mX8_simulate (d + 1) 0 0 Q 74 [vR a0, vI x1, vI x2, vI x3, vI x4, vI ((M 0) + x3), vU] [] 0 0 H4))))) (hd : 17 ≤ d := by omega) : AW l G mX8_simulate (d + 1) 0 0 Q 0 [vR a0, vI x1, vI x2, vI x3, vI x4, vU, vU] [] 0 0 H := by
  refine a_aload_n dX8_simulate_0 rfl rfl ?_
  refine a_iload_n dX8_simulate_1 rfl rfl ?_
  refine a_if_lt dX8_simulate_2 (tgt := 41) rfl (fun c2 => ?_) (fun c2 => ?_)
  · replace h := h.1 c2
    refine a_iconst dX8_simulate_41 ⟨by decide, by decide⟩ ?_
    refine a_callV dX8_simulate_42 cw_X8_simulate_42 (as := [vI 0]) rfl rfl (kMod_0 hW.1) (Nat.le_refl _) (Nat.le_of_ble_eq_true rfl) (nocov rfl) (Nat.le_of_ble_eq_true rfl) (Nat.le_of_ble_eq_true rfl) (CL.mono (c_isNumber hW.1 (by decide)) (fun r9 H9 h9 => ?_))
    rw [h9.1, h9.2]
    (try rw [hW.2.1])
    have h_r0_1 := Lay.wr hW.1 ok_Mod (nrf_fld 5 (kMod_0 hW.1) (by decide) (by decide)) (i := 5) (x := (1 - 0))
    generalize e_H1 : hs H a0 5 (1 - 0) = H1 at h_r0_1 ⊢
    replace h := h H1 e_H1.symm
    have row_H1 := (show rowM H1 a0 = _ from by rw [← e_H1, rowM_ne (by omega), hW.2.1])
    have mk_H1 := (show okM _ ∧ mkd H1 a0 from by rw [← e_H1]; exact ⟨hW.2.2.1, mkd_wr hW.2.2.2 (by omega) (by omega) (by omega)⟩)
    show AW l G mX8_simulate (d + 1) 0 0 Q 45 [vR a0, vI x1, vI x2, vI x3, vI x4, vU, vU] [vI 0] 0 0 H1
    refine a_if_ne dX8_simulate_45 (tgt := 50) rfl (fun c9 => absurd c9 (by decide)) (fun _ => ?_)
    refine a_iconst dX8_simulate_48 ⟨by decide, by decide⟩ ?_
    exact a_iret dX8_simulate_49 rfl (Nat.le_of_ble_eq_true rfl) (Nat.le_of_ble_eq_true rfl) h
  · replace h := h.2 c2
    refine a_iload_n dX8_simulate_5 rfl rfl ?_
    refine a_iconst dX8_simulate_6 ⟨by decide, by decide⟩ ?_
    refine a_sipush dX8_simulate_7 (by decide) ?_
    refine a_callS dX8_simulate_10 cw_X8_simulate_10 (as := [vI x2, vI 0, vI 500]) rfl rfl (Nat.le_refl _) (Nat.le_of_ble_eq_true rfl) (nocov rfl) (Nat.le_of_ble_eq_true rfl) (Nat.le_of_ble_eq_true rfl) (CL.mono (c_in  ) (fun r9 H9 h9 => ?_))
    rw [h9.1, h9.2]
    (try rw [hW.2.1])
    show AW l G mX8_simulate (d + 1) 0 0 Q 13 [vR a0, vI x1, vI x2, vI x3, vI x4, vU, vU] [vI (bi (decide (0 ≤ x2 ∧ x2 ≤ 500))), vR a0] 0 0 H
    refine a_if_eq dX8_simulate_13 (tgt := 41) rfl (fun c13 => ?_) (fun c13 => ?_)
    · replace h := h.1 (bi_0 c13)
      refine a_iconst dX8_simulate_41 ⟨by decide, by decide⟩ ?_
      refine a_callV dX8_simulate_42 cw_X8_simulate_42 (as := [vI 0]) rfl rfl (kMod_0 hW.1) (Nat.le_refl _) (Nat.le_of_ble_eq_true rfl) (nocov rfl) (Nat.le_of_ble_eq_true rfl) (Nat.le_of_ble_eq_true rfl) (CL.mono (c_isNumber hW.1 (by decide)) (fun r9 H9 h9 => ?_))
      rw [h9.1, h9.2]
      (try rw [hW.2.1])
      have h_r0_1 := Lay.wr hW.1 ok_Mod (nrf_fld 5 (kMod_0 hW.1) (by decide) (by decide)) (i := 5) (x := (1 - 0))
      generalize e_H1 : hs H a0 5 (1 - 0) = H1 at h_r0_1 ⊢
      replace h := h H1 e_H1.symm
      have row_H1 := (show rowM H1 a0 = _ from by rw [← e_H1, rowM_ne (by omega), hW.2.1])
      have mk_H1 := (show okM _ ∧ mkd H1 a0 from by rw [← e_H1]; exact ⟨hW.2.2.1, mkd_wr hW.2.2.2 (by omega) (by omega) (by omega)⟩)
      show AW l G mX8_simulate (d + 1) 0 0 Q 45 [vR a0, vI x1, vI x2, vI x3, vI x4, vU, vU] [vI 0] 0 0 H1
      refine a_if_ne dX8_simulate_45 (tgt := 50) rfl (fun c9 => absurd c9 (by decide)) (fun _ => ?_)
      refine a_iconst dX8_simulate_48 ⟨by decide, by decide⟩ ?_
      exact a_iret dX8_simulate_49 rfl (Nat.le_of_ble_eq_true rfl) (Nat.le_of_ble_eq_true rfl) h
    · replace h := h.2 (bi_1 c13)
      refine a_iload_n dX8_simulate_16 rfl rfl ?_
      refine a_iconst dX8_simulate_17 ⟨by decide, by decide⟩ ?_
      refine a_sipush dX8_simulate_18 (by decide) ?_
      refine a_callS dX8_simulate_21 cw_X8_simulate_21 (as := [vI x3, vI 1, vI 7200]) rfl rfl (Nat.le_refl _) (Nat.le_of_ble_eq_true rfl) (nocov rfl) (Nat.le_of_ble_eq_true rfl) (Nat.le_of_ble_eq_true rfl) (CL.mono (c_in  ) (fun r9 H9 h9 => ?_))
      rw [h9.1, h9.2]
      (try rw [hW.2.1])
      show AW l G mX8_simulate (d + 1) 0 0 Q 24 [vR a0, vI x1, vI x2, vI x3, vI x4, vU, vU] [vI (bi (decide (1 ≤ x3 ∧ x3 ≤ 7200))), vR a0] 0 0 H
      refine a_if_eq dX8_simulate_24 (tgt := 41) rfl (fun c24 => ?_) (fun c24 => ?_)
      · replace h := h.1 (bi_0 c24)
        refine a_iconst dX8_simulate_41 ⟨by decide, by decide⟩ ?_
        refine a_callV dX8_simulate_42 cw_X8_simulate_42 (as := [vI 0]) rfl rfl (kMod_0 hW.1) (Nat.le_refl _) (Nat.le_of_ble_eq_true rfl) (nocov rfl) (Nat.le_of_ble_eq_true rfl) (Nat.le_of_ble_eq_true rfl) (CL.mono (c_isNumber hW.1 (by decide)) (fun r9 H9 h9 => ?_))
        rw [h9.1, h9.2]
        (try rw [hW.2.1])
        have h_r0_1 := Lay.wr hW.1 ok_Mod (nrf_fld 5 (kMod_0 hW.1) (by decide) (by decide)) (i := 5) (x := (1 - 0))
        generalize e_H1 : hs H a0 5 (1 - 0) = H1 at h_r0_1 ⊢
        replace h := h H1 e_H1.symm
        have row_H1 := (show rowM H1 a0 = _ from by rw [← e_H1, rowM_ne (by omega), hW.2.1])
        have mk_H1 := (show okM _ ∧ mkd H1 a0 from by rw [← e_H1]; exact ⟨hW.2.2.1, mkd_wr hW.2.2.2 (by omega) (by omega) (by omega)⟩)
        show AW l G mX8_simulate (d + 1) 0 0 Q 45 [vR a0, vI x1, vI x2, vI x3, vI x4, vU, vU] [vI 0] 0 0 H1
        refine a_if_ne dX8_simulate_45 (tgt := 50) rfl (fun c9 => absurd c9 (by decide)) (fun _ => ?_)
        refine a_iconst dX8_simulate_48 ⟨by decide, by decide⟩ ?_
        exact a_iret dX8_simulate_49 rfl (Nat.le_of_ble_eq_true rfl) (Nat.le_of_ble_eq_true rfl) h
      · replace h := h.2 (bi_1 c24)
        refine a_iload dX8_simulate_27 rfl ?_
        refine a_iconst dX8_simulate_29 ⟨by decide, by decide⟩ ?_
        refine a_iconst dX8_simulate_30 ⟨by decide, by decide⟩ ?_
        refine a_callS dX8_simulate_31 cw_X8_simulate_31 (as := [vI x4, vI 0, vI 3]) rfl rfl (Nat.le_refl _) (Nat.le_of_ble_eq_true rfl) (nocov rfl) (Nat.le_of_ble_eq_true rfl) (Nat.le_of_ble_eq_true rfl) (CL.mono (c_in  ) (fun r9 H9 h9 => ?_))
        rw [h9.1, h9.2]
        (try rw [hW.2.1])
        show AW l G mX8_simulate (d + 1) 0 0 Q 34 [vR a0, vI x1, vI x2, vI x3, vI x4, vU, vU] [vI (bi (decide (0 ≤ x4 ∧ x4 ≤ 3))), vR a0] 0 0 H
        refine a_if_eq dX8_simulate_34 (tgt := 41) rfl (fun c34 => ?_) (fun c34 => ?_)
        · replace h := h.1 (bi_0 c34)
          refine a_iconst dX8_simulate_41 ⟨by decide, by decide⟩ ?_
          refine a_callV dX8_simulate_42 cw_X8_simulate_42 (as := [vI 0]) rfl rfl (kMod_0 hW.1) (Nat.le_refl _) (Nat.le_of_ble_eq_true rfl) (nocov rfl) (Nat.le_of_ble_eq_true rfl) (Nat.le_of_ble_eq_true rfl) (CL.mono (c_isNumber hW.1 (by decide)) (fun r9 H9 h9 => ?_))
          rw [h9.1, h9.2]
          (try rw [hW.2.1])
          have h_r0_1 := Lay.wr hW.1 ok_Mod (nrf_fld 5 (kMod_0 hW.1) (by decide) (by decide)) (i := 5) (x := (1 - 0))
          generalize e_H1 : hs H a0 5 (1 - 0) = H1 at h_r0_1 ⊢
          replace h := h H1 e_H1.symm
          have row_H1 := (show rowM H1 a0 = _ from by rw [← e_H1, rowM_ne (by omega), hW.2.1])
          have mk_H1 := (show okM _ ∧ mkd H1 a0 from by rw [← e_H1]; exact ⟨hW.2.2.1, mkd_wr hW.2.2.2 (by omega) (by omega) (by omega)⟩)
          show AW l G mX8_simulate (d + 1) 0 0 Q 45 [vR a0, vI x1, vI x2, vI x3, vI x4, vU, vU] [vI 0] 0 0 H1
          refine a_if_ne dX8_simulate_45 (tgt := 50) rfl (fun c9 => absurd c9 (by decide)) (fun _ => ?_)
          refine a_iconst dX8_simulate_48 ⟨by decide, by decide⟩ ?_
          exact a_iret dX8_simulate_49 rfl (Nat.le_of_ble_eq_true rfl) (Nat.le_of_ble_eq_true rfl) h
        · replace h := h.2 (bi_1 c34)
          refine a_iconst dX8_simulate_37 ⟨by decide, by decide⟩ ?_
          refine a_goto dX8_simulate_38 (tgt := 42) rfl ?_
          refine a_callV dX8_simulate_42 cw_X8_simulate_42 (as := [vI 1]) rfl rfl (kMod_0 hW.1) (Nat.le_refl _) (Nat.le_of_ble_eq_true rfl) (nocov rfl) (Nat.le_of_ble_eq_true rfl) (Nat.le_of_ble_eq_true rfl) (CL.mono (c_isNumber hW.1 (by decide)) (fun r9 H9 h9 => ?_))
          rw [h9.1, h9.2]
          (try rw [hW.2.1])
          have h_r0_1 := Lay.wr hW.1 ok_Mod (nrf_fld 5 (kMod_0 hW.1) (by decide) (by decide)) (i := 5) (x := (1 - 1))
          generalize e_H1 : hs H a0 5 (1 - 1) = H1 at h_r0_1 ⊢
          replace h := h H1 e_H1.symm
          have row_H1 := (show rowM H1 a0 = _ from by rw [← e_H1, rowM_ne (by omega), hW.2.1])
          have mk_H1 := (show okM _ ∧ mkd H1 a0 from by rw [← e_H1]; exact ⟨hW.2.2.1, mkd_wr hW.2.2.2 (by omega) (by omega) (by omega)⟩)
          show AW l G mX8_simulate (d + 1) 0 0 Q 45 [vR a0, vI x1, vI x2, vI x3, vI x4, vU, vU] [vI 1] 0 0 H1
          refine a_if_ne dX8_simulate_45 (tgt := 50) rfl (fun _ => ?_) (fun c9 => absurd c9 (by decide))
          refine a_aload_n dX8_simulate_50 rfl rfl ?_
          refine a_callV dX8_simulate_51 cw_X8_simulate_51 (as := []) rfl rfl (kMod_0 h_r0_1) (Nat.le_refl _) (Nat.le_of_ble_eq_true rfl) (nocov rfl) (Nat.le_of_ble_eq_true rfl) (Nat.le_of_ble_eq_true rfl) (CL.mono (c_leaves (show MW H1 a0 M from ⟨h_r0_1, row_H1, mk_H1⟩) ) (fun r9 H2 h9 => ?_))
          obtain ⟨e9, o_H2, hW_H2, hX_H2⟩ := h9
          rw [e9]
          replace h := h H2 o_H2 hW_H2 hX_H2
          show AW l G mX8_simulate (d + 1) 0 0 Q 54 [vR a0, vI x1, vI x2, vI x3, vI x4, vU, vU] [] 0 0 H2
          refine a_aload_n dX8_simulate_54 rfl rfl ?_
          refine a_iload_n dX8_simulate_55 rfl rfl ?_
          refine a_putI dX8_simulate_56 fp_RX8_371 rfl rfl (kMod_0 hW_H2.1) ?_
          have h_r0_3 := Lay.wr hW_H2.1 ok_Mod (nrf_fld 24 (kMod_0 hW_H2.1) (by decide) (by decide)) (i := 24) (x := x1)
          generalize e_H3 : hs H2 a0 24 x1 = H3 at h_r0_3 ⊢
          replace h := h H3 e_H3.symm
          have row_H3 := (show rowM H3 a0 = _ from by rw [← e_H3, rowM_ne (by omega), hW_H2.2.1])
          have mk_H3 := (show okM _ ∧ mkd H3 a0 from by rw [← e_H3]; exact ⟨hW_H2.2.2.1, mkd_wr hW_H2.2.2.2 (by omega) (by omega) (by omega)⟩)
          refine a_aload_n dX8_simulate_59 rfl rfl ?_
          refine a_iconst dX8_simulate_60 ⟨by decide, by decide⟩ ?_
          refine a_putI dX8_simulate_61 fp_RX8_379 rfl rfl (kMod_0 h_r0_3) ?_
          have h_r0_4 := Lay.wr h_r0_3 ok_Mod (nrf_fld 25 (kMod_0 h_r0_3) (by decide) (by decide)) (i := 25) (x := 0)
          generalize e_H4 : hs H3 a0 25 0 = H4 at h_r0_4 ⊢
          replace h := h H4 e_H4.symm
          have row_H4 := (show rowM H4 a0 = _ from by rw [← e_H4, rowM_ne (by omega), row_H3])
          have mk_H4 := (show okM _ ∧ mkd H4 a0 from by rw [← e_H4]; exact ⟨mk_H3.1, mkd_wr mk_H3.2 (by omega) (by omega) (by omega)⟩)
          refine a_aload_n dX8_simulate_64 rfl rfl ?_
          refine a_getR dX8_simulate_65 fw_RX8_9 rfl rfl (kMod_0 h_r0_4) (rMod_0_0 h_r0_4) ?_
          refine a_iconst dX8_simulate_68 ⟨by decide, by decide⟩ ?_
          refine b_ialdV dX8_simulate_69 (kMod_1 h_r0_4) (nMod_1 h_r0_4) (⟨by decide, by decide⟩) (congrFun row_H4 _) ?_
          refine a_iload_n dX8_simulate_70 rfl rfl ?_
          obtain ⟨q71_0, h⟩ := h
          refine a_iadd dX8_simulate_71 q71_0 ?_
          refine a_istore dX8_simulate_72 (Nat.le_of_ble_eq_true rfl) (ls' := [vR a0, vI x1, vI x2, vI x3, vI x4, vI ((M 0) + x3), vU]) rfl ?_
          exact h

set_option maxRecDepth 20000 in
theorem s_X8_simulate_74 {l : Launch} {G : GT} {d : Nat} {Q : AV → AH → Prop} {H : AH} {a0 x1 x2 x3 x4 x5 : Int} {M : Row} (hW : MW H a0 M) (h : (x5 ≤ (M 0) → (¬ x4 = 0 → (¬ x4 = 1 → (¬ x4 = 2 → ∀ H1 : AH, only H H1 (pMks a0) → MW H1 a0 M → ∃ M2 : Row, asd H1 a0 M2 ∧ okM M2 ∧ ∀ H2 : AH, only H1 H2 (pMt a0) → MW H2 a0 M2 → Q (vI (af2i (vMean M))) H2) ∧ (x4 = 2 → ∀ H1 : AH, only H H1 (pMks a0) → MW H1 a0 M → ∃ M2 : Row, asd H1 a0 M2 ∧ okM M2 ∧ ∀ H2 : AH, only H1 H2 (pMt a0) → MW H2 a0 M2 → Q (vI (lateM M)) H2)) ∧ (x4 = 1 → ∃ M1 : Row, asd H a0 M1 ∧ okM M1 ∧ ∀ H1 : AH, only H H1 (pMt a0) → MW H1 a0 M1 → Q (vI (hg H a0 25)) H1)) ∧ (x4 = 0 → ∃ M1 : Row, asd H a0 M1 ∧ okM M1 ∧ ∀ H1 : AH, only H H1 (pMt a0) → MW H1 a0 M1 → Q (vI (M 7)) H1)) ∧ ((M 0) < x5 → (-2147483648 ≤ (M 0) + 60 ∧ (M 0) + 60 ≤ 2147483647) ∧ (okD M) ∧ (M 0 ≤ (min x5 ((M 0) + 60)) ∧ (min x5 ((M 0) + 60)) ≤ 207200) ∧ ∀ H1 : AH, ∀ M1 : Row, M1 = pasM M (min x5 ((M 0) + 60)) → only H H1 (pMt a0) → MW H1 a0 M1 → CL l G mX8_draws d 0 0 [vR a0, vI x2] H1 (fun r9 H2 => Lay LMod H2 a0 ∧ r9 = vV ∧ AW l G mX8_simulate (d + 1) 0 0 Q 74 [vR a0, vI x1, vI x2, vI x3, vI x4, vI x5, vU] [] 0 0 H2))) (hd : 17 ≤ d := by omega) : AW l G mX8_simulate (d + 1) 0 0 Q 74 [vR a0, vI x1, vI x2, vI x3, vI x4, vI x5, vU] [] 0 0 H := by
  refine a_aload_n dX8_simulate_74 rfl rfl ?_
  refine a_getR dX8_simulate_75 fw_RX8_9 rfl rfl (kMod_0 hW.1) (rMod_0_0 hW.1) ?_
  refine a_iconst dX8_simulate_78 ⟨by decide, by decide⟩ ?_
  refine b_ialdV dX8_simulate_79 (kMod_1 hW.1) (nMod_1 hW.1) (⟨by decide, by decide⟩) (congrFun hW.2.1 _) ?_
  refine a_iload dX8_simulate_80 rfl ?_
  refine a_icmp_ge dX8_simulate_82 (tgt := 111) rfl (fun c82 => ?_) (fun c82 => ?_)
  · replace h := h.1 c82
    refine a_iload dX8_simulate_111 rfl ?_
    refine a_if_ne dX8_simulate_113 (tgt := 126) rfl (fun c113 => ?_) (fun c113 => ?_)
    · replace h := h.1 c113
      refine a_iload dX8_simulate_126 rfl ?_
      refine a_iconst dX8_simulate_128 ⟨by decide, by decide⟩ ?_
      refine a_icmp_ne dX8_simulate_129 (tgt := 139) rfl (fun c129 => ?_) (fun c129 => ?_)
      · replace h := h.1 c129
        refine a_iload dX8_simulate_139 rfl ?_
        refine a_iconst dX8_simulate_141 ⟨by decide, by decide⟩ ?_
        refine a_icmp_ne dX8_simulate_142 (tgt := 152) rfl (fun c142 => ?_) (fun c142 => ?_)
        · replace h := h.1 c142
          refine a_aload_n dX8_simulate_152 rfl rfl ?_
          refine a_callV dX8_simulate_153 cw_X8_simulate_153 (as := []) rfl rfl (kMod_0 hW.1) (Nat.le_refl _) (Nat.le_of_ble_eq_true rfl) (nocov rfl) (Nat.le_of_ble_eq_true rfl) (Nat.le_of_ble_eq_true rfl) (CL.mono (c_mean (show MW H a0 M from ⟨hW.1, hW.2.1, hW.2.2⟩) ) (fun r9 H1 h9 => ?_))
          obtain ⟨e9, o_H1, hW_H1⟩ := h9
          rw [e9]
          replace h := h H1 o_H1 hW_H1
          show AW l G mX8_simulate (d + 1) 0 0 Q 156 [vR a0, vI x1, vI x2, vI x3, vI x4, vI x5, vU] [vF (vMean M)] 0 0 H1
          refine a_f2i dX8_simulate_156 ?_
          refine a_istore dX8_simulate_157 (Nat.le_of_ble_eq_true rfl) (ls' := [vR a0, vI x1, vI x2, vI x3, vI x4, vI x5, vI (af2i (vMean M))]) rfl ?_
          refine a_aload_n dX8_simulate_159 rfl rfl ?_
          obtain ⟨M2, q9a_H2, q9b_H2, h⟩ := h
          refine a_callV dX8_simulate_160 cw_X8_simulate_160 (as := []) rfl rfl (kMod_0 hW_H1.1) (Nat.le_refl _) (Nat.le_of_ble_eq_true rfl) (nocov rfl) (Nat.le_of_ble_eq_true rfl) (Nat.le_of_ble_eq_true rfl) (CL.mono (c_comesBack hW_H1.1 q9a_H2 q9b_H2) (fun r9 H2 h9 => ?_))
          obtain ⟨e9, o_H2, hX_H2⟩ := h9
          rw [e9]
          replace h := h H2 o_H2 hX_H2
          show AW l G mX8_simulate (d + 1) 0 0 Q 163 [vR a0, vI x1, vI x2, vI x3, vI x4, vI x5, vI (af2i (vMean M))] [] 0 0 H2
          refine a_iload dX8_simulate_163 rfl ?_
          exact a_iret dX8_simulate_165 rfl (Nat.le_of_ble_eq_true rfl) (Nat.le_of_ble_eq_true rfl) h
        · replace h := h.2 c142
          refine a_aload_n dX8_simulate_145 rfl rfl ?_
          refine a_callV dX8_simulate_146 cw_X8_simulate_146 (as := []) rfl rfl (kMod_0 hW.1) (Nat.le_refl _) (Nat.le_of_ble_eq_true rfl) (nocov rfl) (Nat.le_of_ble_eq_true rfl) (Nat.le_of_ble_eq_true rfl) (CL.mono (c_lateMany (show MW H a0 M from ⟨hW.1, hW.2.1, hW.2.2⟩) ) (fun r9 H1 h9 => ?_))
          obtain ⟨e9, o_H1, hW_H1⟩ := h9
          rw [e9]
          replace h := h H1 o_H1 hW_H1
          show AW l G mX8_simulate (d + 1) 0 0 Q 149 [vR a0, vI x1, vI x2, vI x3, vI x4, vI x5, vU] [vI (lateM M)] 0 0 H1
          refine a_goto dX8_simulate_149 (tgt := 157) rfl ?_
          refine a_istore dX8_simulate_157 (Nat.le_of_ble_eq_true rfl) (ls' := [vR a0, vI x1, vI x2, vI x3, vI x4, vI x5, vI (lateM M)]) rfl ?_
          refine a_aload_n dX8_simulate_159 rfl rfl ?_
          obtain ⟨M2, q9a_H2, q9b_H2, h⟩ := h
          refine a_callV dX8_simulate_160 cw_X8_simulate_160 (as := []) rfl rfl (kMod_0 hW_H1.1) (Nat.le_refl _) (Nat.le_of_ble_eq_true rfl) (nocov rfl) (Nat.le_of_ble_eq_true rfl) (Nat.le_of_ble_eq_true rfl) (CL.mono (c_comesBack hW_H1.1 q9a_H2 q9b_H2) (fun r9 H2 h9 => ?_))
          obtain ⟨e9, o_H2, hX_H2⟩ := h9
          rw [e9]
          replace h := h H2 o_H2 hX_H2
          show AW l G mX8_simulate (d + 1) 0 0 Q 163 [vR a0, vI x1, vI x2, vI x3, vI x4, vI x5, vI (lateM M)] [] 0 0 H2
          refine a_iload dX8_simulate_163 rfl ?_
          exact a_iret dX8_simulate_165 rfl (Nat.le_of_ble_eq_true rfl) (Nat.le_of_ble_eq_true rfl) h
      · replace h := h.2 c129
        refine a_aload_n dX8_simulate_132 rfl rfl ?_
        refine a_getI dX8_simulate_133 fw_RX8_379 rfl rfl (kMod_0 hW.1) ?_
        refine a_goto dX8_simulate_136 (tgt := 157) rfl ?_
        refine a_istore dX8_simulate_157 (Nat.le_of_ble_eq_true rfl) (ls' := [vR a0, vI x1, vI x2, vI x3, vI x4, vI x5, vI (hg H a0 25)]) rfl ?_
        refine a_aload_n dX8_simulate_159 rfl rfl ?_
        obtain ⟨M1, q9a_H1, q9b_H1, h⟩ := h
        refine a_callV dX8_simulate_160 cw_X8_simulate_160 (as := []) rfl rfl (kMod_0 hW.1) (Nat.le_refl _) (Nat.le_of_ble_eq_true rfl) (nocov rfl) (Nat.le_of_ble_eq_true rfl) (Nat.le_of_ble_eq_true rfl) (CL.mono (c_comesBack hW.1 q9a_H1 q9b_H1) (fun r9 H1 h9 => ?_))
        obtain ⟨e9, o_H1, hX_H1⟩ := h9
        rw [e9]
        replace h := h H1 o_H1 hX_H1
        show AW l G mX8_simulate (d + 1) 0 0 Q 163 [vR a0, vI x1, vI x2, vI x3, vI x4, vI x5, vI (hg H a0 25)] [] 0 0 H1
        refine a_iload dX8_simulate_163 rfl ?_
        exact a_iret dX8_simulate_165 rfl (Nat.le_of_ble_eq_true rfl) (Nat.le_of_ble_eq_true rfl) h
    · replace h := h.2 c113
      refine a_aload_n dX8_simulate_116 rfl rfl ?_
      refine a_getR dX8_simulate_117 fw_RX8_9 rfl rfl (kMod_0 hW.1) (rMod_0_0 hW.1) ?_
      refine a_bipush dX8_simulate_120 (by decide) ?_
      refine b_ialdV dX8_simulate_122 (kMod_1 hW.1) (nMod_1 hW.1) (⟨by decide, by decide⟩) (congrFun hW.2.1 _) ?_
      refine a_goto dX8_simulate_123 (tgt := 157) rfl ?_
      refine a_istore dX8_simulate_157 (Nat.le_of_ble_eq_true rfl) (ls' := [vR a0, vI x1, vI x2, vI x3, vI x4, vI x5, vI (M 7)]) rfl ?_
      refine a_aload_n dX8_simulate_159 rfl rfl ?_
      obtain ⟨M1, q9a_H1, q9b_H1, h⟩ := h
      refine a_callV dX8_simulate_160 cw_X8_simulate_160 (as := []) rfl rfl (kMod_0 hW.1) (Nat.le_refl _) (Nat.le_of_ble_eq_true rfl) (nocov rfl) (Nat.le_of_ble_eq_true rfl) (Nat.le_of_ble_eq_true rfl) (CL.mono (c_comesBack hW.1 q9a_H1 q9b_H1) (fun r9 H1 h9 => ?_))
      obtain ⟨e9, o_H1, hX_H1⟩ := h9
      rw [e9]
      replace h := h H1 o_H1 hX_H1
      show AW l G mX8_simulate (d + 1) 0 0 Q 163 [vR a0, vI x1, vI x2, vI x3, vI x4, vI x5, vI (M 7)] [] 0 0 H1
      refine a_iload dX8_simulate_163 rfl ?_
      exact a_iret dX8_simulate_165 rfl (Nat.le_of_ble_eq_true rfl) (Nat.le_of_ble_eq_true rfl) h
  · replace h := h.2 c82
    refine a_aload_n dX8_simulate_85 rfl rfl ?_
    refine a_iload dX8_simulate_86 rfl ?_
    refine a_aload_n dX8_simulate_88 rfl rfl ?_
    refine a_getR dX8_simulate_89 fw_RX8_9 rfl rfl (kMod_0 hW.1) (rMod_0_0 hW.1) ?_
    refine a_iconst dX8_simulate_92 ⟨by decide, by decide⟩ ?_
    refine b_ialdV dX8_simulate_93 (kMod_1 hW.1) (nMod_1 hW.1) (⟨by decide, by decide⟩) (congrFun hW.2.1 _) ?_
    refine a_bipush dX8_simulate_94 (by decide) ?_
    obtain ⟨q96_0, h⟩ := h
    refine a_iadd dX8_simulate_96 q96_0 ?_
    refine a_mmin dX8_simulate_97 cw_X8_simulate_97 (Nat.le_of_ble_eq_true rfl) (Nat.le_of_ble_eq_true rfl) (Nat.le_of_ble_eq_true rfl) ?_
    obtain ⟨q100_0, h⟩ := h
    obtain ⟨q100_1, h⟩ := h
    refine a_callV dX8_simulate_100 cw_X8_simulate_100 (as := [vI (min x5 ((M 0) + 60))]) rfl rfl (kMod_0 hW.1) (Nat.le_refl _) (Nat.le_of_ble_eq_true rfl) (nocov rfl) (Nat.le_of_ble_eq_true rfl) (Nat.le_of_ble_eq_true rfl) (CL.mono (c_passesTo (show MW H a0 M from ⟨hW.1, hW.2.1, hW.2.2⟩) q100_0 q100_1) (fun r9 H1 h9 => ?_))
    obtain ⟨e9, o_H1, hX_H1⟩ := h9
    rw [e9]
    obtain ⟨M1, e_M1⟩ : ∃ M1 : Row, M1 = pasM M (min x5 ((M 0) + 60)) := ⟨_, rfl⟩
    rw [← e_M1] at hX_H1
    replace h := h H1 M1 e_M1 o_H1 hX_H1
    show AW l G mX8_simulate (d + 1) 0 0 Q 103 [vR a0, vI x1, vI x2, vI x3, vI x4, vI x5, vU] [] 0 0 H1
    refine a_aload_n dX8_simulate_103 rfl rfl ?_
    refine a_iload_n dX8_simulate_104 rfl rfl ?_
    refine a_callV dX8_simulate_105 cw_X8_simulate_105 (as := [vI x2]) rfl rfl (kMod_0 hX_H1.1) (Nat.le_refl _) (Nat.le_of_ble_eq_true rfl) (nocov rfl) (Nat.le_of_ble_eq_true rfl) (Nat.le_of_ble_eq_true rfl) (CL.mono h (fun r9 H2 h => ?_))
    obtain ⟨h_r0_2, e9, h⟩ := h
    rw [e9]
    show AW l G mX8_simulate (d + 1) 0 0 Q 108 [vR a0, vI x1, vI x2, vI x3, vI x4, vI x5, vU] [] 0 0 H2
    refine a_goto dX8_simulate_108 (tgt := 74) rfl ?_
    exact h

noncomputable def simN (p e : Int) : Nat → S3 → S3
  | 0, s => s
  | n + 1, s => if s.1 0 < e then simN p e n (drN p (pasM s.1 (min e (s.1 0 + 60)), s.2) (s.1 6).toNat) else s
abbrev okSi (x p s w : Int) : Prop := 0 ≤ x ∧ (0 ≤ p ∧ p ≤ 500) ∧ (1 ≤ s ∧ s ≤ 7200) ∧ 0 ≤ w ∧ w ≤ 3
noncomputable def simE (M : Row) (x p s : Int) : S3 := simN p (M 0 + s) 120 (M, x, 0)
noncomputable def vSim (M : Row) (x p s w : Int) : Int := if okSi x p s w then (if w = 0 then (simE M x p s).1 7 else if w = 1 then (simE M x p s).2.2 else if w = 2 then lateM (simE M x p s).1 else af2i (vMean (simE M x p s).1)) else 0
theorem arB_stab {{M M' : Row}} {{B : Int}} (h : arB M B) (hs : stab M M') : arB M' B := fun f hf => by
  rw [hs.2 f 9 hf.1 (by omega) (by omega) (by omega) (by omega)]
  refine h f ?_
  unfold fl at hf ⊢
  rw [← hs.1 6 (by omega) (by omega) (by omega)]
  exact hf
/-- what holds while it is simulated -/
def okQ (e B : Int) (s : S3) : Prop := (okM s.1 ∧ okD s.1) ∧ s.1 0 ≤ e ∧ (0 ≤ s.2.1 ∧ s.2.1 ≤ 2147483647) ∧ (0 ≤ s.2.2 ∧ s.2.2 ≤ B) ∧ arB s.1 B
theorem sim_step {{p e B : Int}} {{s : S3}} (he : e ≤ 207200) (h : okQ e B s) (hlt : s.1 0 < e) : okR (pasM s.1 (min e (s.1 0 + 60))) B (pasM s.1 (min e (s.1 0 + 60)), s.2) ∧ (pasM s.1 (min e (s.1 0 + 60))) 0 = min e (s.1 0 + 60) ∧ (pasM s.1 (min e (s.1 0 + 60))) 6 = s.1 6 ∧ okQ e (B + 24) (drN p (pasM s.1 (min e (s.1 0 + 60)), s.2) (s.1 6).toNat) ∧ (drN p (pasM s.1 (min e (s.1 0 + 60)), s.2) (s.1 6).toNat).1 0 = min e (s.1 0 + 60) := by
  obtain ⟨⟨h1, h2⟩, h3, h4, h5, h6⟩ := h
  obtain ⟨p1, p2, p3, p4⟩ := pasM_ok h1 h2 (t := min e (s.1 0 + 60)) (by omega)
  have e6 := p3.1 6 (by omega) (by omega) (by omega)
  have r : okR (pasM s.1 (min e (s.1 0 + 60))) B (pasM s.1 (min e (s.1 0 + 60)), s.2) := ⟨⟨p1, p2, rfl, rfl, rfl⟩, h4, h5, arB_stab h6 p3⟩
  have hn := okM_n h1
  have q := drN_ok (p := p) r (s.1 6).toNat (by omega)
  have q0 : (drN p (pasM s.1 (min e (s.1 0 + 60)), s.2) (s.1 6).toNat).1 0 = min e (s.1 0 + 60) := q.1.2.2.2.1.trans p4
  refine ⟨r, p4, e6, ⟨⟨q.1.1, q.1.2.1⟩, by omega, q.2.1, ?_, fun f hf => ?_⟩, q0⟩
  · have := q.2.2.1; omega
  · have := q.2.2.2 f hf; omega
theorem c_simulate {l : Launch} {G : GT} {d : Nat} {H : AH} {a : Int} {M : Row} {x p s w : Int} (hW : MW H a M) (hx : inI x) (h0 : M 0 ≤ 200000) (hD : okD M) (hB : arB M 800000000) (hd : 18 ≤ d := by omega) : CL l G mX8_simulate d 0 0 [vR a, vI x, vI p, vI s, vI w] H (mutP a M (vI (vSim M x p s w)) (1 - bi (decide (okSi x p s w))) H) := by
  obtain ⟨d, rfl⟩ : ∃ k, d = k + 1 := ⟨d - 1, by omega⟩
  have hM := hW.2.2.1
  have hn := okM_n hM
  have g0 := hM.1.1
  have bad : ¬ okSi x p s w → ∀ H1 : AH, H1 = hs H a 5 (1 - 0) → mutP a M (vI (vSim M x p s w)) (1 - bi (decide (okSi x p s w))) H (vI 0) H1 := fun z H1 e1 => by
    rw [vSim, if_neg z, bi_f z]
    exact ⟨rfl, pb_pm (pb1 hW e1)⟩
  refine CL.of (by decide) rfl (Nat.le_of_ble_eq_true rfl) (s_X8_simulate_0 hW ⟨fun c => bad (fun z => by have := z.1; omega), fun c => ⟨fun c2 => bad (fun z => c2 z.2.1), fun c2 => ⟨fun c3 => bad (fun z => c3 z.2.2.1), fun c3 => ⟨fun c4 => bad (fun z => c4 z.2.2.2), fun c4 H1 e1 H2 o2 w2 s2 H3 e3 H4 e4 => ⟨by omega, ?_⟩⟩⟩⟩⟩)
  have ok : okSi x p s w := ⟨c, c2, c3, c4⟩
  have p2 := pma (pb_pm (pb1 hW e1)) o2 w2
  rw [bi_t ok]
  have key : ∀ (n : Nat) (t : S3) (B : Int) (H' : AH), (0 ≤ B ∧ B + 24 * n ≤ 800002880) → okQ (M 0 + s) B t → (M 0 + s) - t.1 0 ≤ 60 * n → simN p (M 0 + s) n t = simE M x p s → (hg H' a 5 = 0 ∧ only H H' (pMut a)) → asd H' a M → DW H' a t → AW l G mX8_simulate (d + 1) 0 0 (mutP a M (vI (vSim M x p s w)) (1 - 1) H) 74 [vR a, vI x, vI p, vI s, vI w, vI (M 0 + s), vU] [] 0 0 H' := by
    have fin : ∀ (t : S3) (H' : AH), simE M x p s = t → (hg H' a 5 = 0 ∧ only H H' (pMut a)) → asd H' a M → DW H' a t → (¬ w = 0 → (¬ w = 1 → (¬ w = 2 → ∀ H1 : AH, only H' H1 (pMks a) → MW H1 a t.1 → ∃ M2 : Row, asd H1 a M2 ∧ okM M2 ∧ ∀ H2 : AH, only H1 H2 (pMt a) → MW H2 a M2 → mutP a M (vI (vSim M x p s w)) (1 - 1) H (vI (af2i (vMean t.1))) H2) ∧ (w = 2 → ∀ H1 : AH, only H' H1 (pMks a) → MW H1 a t.1 → ∃ M2 : Row, asd H1 a M2 ∧ okM M2 ∧ ∀ H2 : AH, only H1 H2 (pMt a) → MW H2 a M2 → mutP a M (vI (vSim M x p s w)) (1 - 1) H (vI (lateM t.1)) H2)) ∧ (w = 1 → ∃ M1 : Row, asd H' a M1 ∧ okM M1 ∧ ∀ H1 : AH, only H' H1 (pMt a) → MW H1 a M1 → mutP a M (vI (vSim M x p s w)) (1 - 1) H (vI (hg H' a 25)) H1)) ∧ (w = 0 → ∃ M1 : Row, asd H' a M1 ∧ okM M1 ∧ ∀ H1 : AH, only H' H1 (pMt a) → MW H1 a M1 → mutP a M (vI (vSim M x p s w)) (1 - 1) H (vI (t.1 7)) H1) := by
      intro t H' et ho hs' hW'
      have pm : pmW a t.1 (1 - 1) H H' := ⟨ho.1, ho.2, hW'.1⟩
      refine ⟨fun z0 => ⟨fun z1 => ⟨fun z2 H5 o5 w5 => ⟨M, hs'.only (o5.mono pMks_mt), hM, fun H6 o6 w6 => ⟨?_, pmx (pmx pm (o5.mono pMks_mt) w5) o6 w6⟩⟩, fun z2 H5 o5 w5 => ⟨M, hs'.only (o5.mono pMks_mt), hM, fun H6 o6 w6 => ⟨?_, pmx (pmx pm (o5.mono pMks_mt) w5) o6 w6⟩⟩⟩, fun z1 => ⟨M, hs', hM, fun H6 o6 w6 => ⟨?_, pmx pm o6 w6⟩⟩⟩, fun z0 => ⟨M, hs', hM, fun H6 o6 w6 => ⟨?_, pmx pm o6 w6⟩⟩⟩
      · rw [vSim, if_pos ok, if_neg z0, if_neg z1, if_neg z2, et]
      · rw [vSim, if_pos ok, if_neg z0, if_neg z1, if_pos z2, et]
      · rw [vSim, if_pos ok, if_neg z0, if_pos z1, et, hW'.2.2]
      · rw [vSim, if_pos ok, if_pos z0, et]
    intro n
    induction n with
    | zero =>
      intro t B H' hB2 hq hle he ho hs' hW'
      exact s_X8_simulate_74 hW'.1 ⟨fun _ => fin t H' he.symm ho hs' hW', fun q => absurd q (by omega)⟩
    | succ n ih =>
      intro t B H' hB2 hq hle he ho hs' hW'
      have en : simN p (M 0 + s) (n + 1) t = if t.1 0 < M 0 + s then simN p (M 0 + s) n (drN p (pasM t.1 (min (M 0 + s) (t.1 0 + 60)), t.2) (t.1 6).toNat) else t := rfl
      refine s_X8_simulate_74 hW'.1 ⟨fun q => fin t H' (by rw [en, if_neg (by omega)] at he; exact he.symm) ho hs' hW', fun q => ?_⟩
      rw [en, if_pos q] at he
      obtain ⟨r1, r2, r3, r4, r5⟩ := sim_step (p := p) (by omega) hq q
      have q0 := hq.1.1.1.1
      refine ⟨by omega, hq.1.2, by omega, fun H5 M5 e5 o5 w5 => ?_⟩
      subst e5
      have dw : DW H5 a (pasM t.1 (min (M 0 + s) (t.1 0 + 60)), t.2) := ⟨w5, (o5.mt24 (Or.inl rfl)).trans hW'.2.1, (o5.mt24 (Or.inr rfl)).trans hW'.2.2⟩
      refine CL.mono (c_draws dw r1 (by omega) c2 (by omega)) ?_
      rintro r9 H6 ⟨rfl, o6, w6⟩
      rw [r3] at w6
      have o6' : ∀ b i, pDr a b i → pMut a b i := by
        rintro b i (z | ⟨z, z2 | z2⟩)
        · exact pMt_mut b i z
        · exact Or.inl (Or.inl ⟨z, by omega⟩)
        · exact Or.inl (Or.inl ⟨z, by omega⟩)
      refine ⟨w6.1.1, rfl, ih _ (B + 24) H6 (by omega) r4 (by omega) he ⟨?_, (ho.2.trans (o5.mono pMt_mut)).trans (o6.mono o6')⟩ ?_ w6⟩
      · rw [o6.2.2 a 5 (by rintro (((⟨z, -⟩ | ⟨-, z | z⟩) | z) | ⟨-, z | z⟩) <;> omega), o5.2.2 a 5 (by rintro ((⟨z, -⟩ | ⟨-, z | z⟩) | z) <;> omega)]
        exact ho.1
      · intro k k1 k2
        rw [o6.2.2 (a + 3) k (by rintro (((⟨z, z2⟩ | ⟨z, -⟩) | z) | ⟨z, -⟩) <;> omega)]
        exact hs'.only o5 k k1 k2
  have w4 : MW H4 a M := by rw [e4, e3]; exact (w2.sl (Or.inl rfl)).sl (Or.inr rfl)
  refine key 120 (M, x, 0) 800000000 H4 (by omega) ⟨⟨hM, hD⟩, by show M 0 ≤ M 0 + s; omega, by unfold inI at hx; show 0 ≤ x ∧ x ≤ 2147483647; omega, by show 0 ≤ (0 : Int) ∧ (0 : Int) ≤ 800000000; omega, hB⟩ (by show M 0 + s - M 0 ≤ _; omega) rfl ⟨?_, ?_⟩ ?_ ⟨w4, ?_, ?_⟩
  · rw [e4, hg_ne _ (by omega), e3, hg_ne _ (by omega)]; exact p2.1
  · rw [e4, e3]; exact (p2.2.1.then (Or.inl (Or.inl ⟨rfl, by omega⟩))).then (Or.inl (Or.inl ⟨rfl, by omega⟩))
  · intro k k1 k2
    rw [e4, hg_ne _ (by omega), e3, hg_ne _ (by omega)]
    exact s2 k k1 k2
  · rw [e4, hg_ne _ (by omega), e3, hg_same]
  · rw [e4, hg_same]

theorem dX8_saveSnapshot_0 : decode cX8_saveSnapshot 0 = .ok (.aload_n 0, 1) := by decide +kernel
theorem dX8_saveSnapshot_1 : decode cX8_saveSnapshot 1 = .ok (.iload_n 1, 1) := by decide +kernel
theorem dX8_saveSnapshot_2 : decode cX8_saveSnapshot 2 = .ok (.iconst 0, 1) := by decide +kernel
theorem dX8_saveSnapshot_3 : decode cX8_saveSnapshot 3 = .ok (.iconst 1, 1) := by decide +kernel
theorem dX8_saveSnapshot_4 : decode cX8_saveSnapshot 4 = .ok (.invokestatic 67, 3) := by decide +kernel
theorem dX8_saveSnapshot_7 : decode cX8_saveSnapshot 7 = .ok (.invokevirtual 78, 3) := by decide +kernel
theorem dX8_saveSnapshot_10 : decode cX8_saveSnapshot 10 = .ok (.ifCond .ne 5, 3) := by decide +kernel
theorem dX8_saveSnapshot_13 : decode cX8_saveSnapshot 13 = .ok (.iconst 0, 1) := by decide +kernel
theorem dX8_saveSnapshot_14 : decode cX8_saveSnapshot 14 = .ok (.ireturn, 1) := by decide +kernel
theorem dX8_saveSnapshot_15 : decode cX8_saveSnapshot 15 = .ok (.aload_n 0, 1) := by decide +kernel
theorem dX8_saveSnapshot_16 : decode cX8_saveSnapshot 16 = .ok (.getfield 9, 3) := by decide +kernel
theorem dX8_saveSnapshot_19 : decode cX8_saveSnapshot 19 = .ok (.iconst 0, 1) := by decide +kernel
theorem dX8_saveSnapshot_20 : decode cX8_saveSnapshot 20 = .ok (.aload_n 0, 1) := by decide +kernel
theorem dX8_saveSnapshot_21 : decode cX8_saveSnapshot 21 = .ok (.getfield 19, 3) := by decide +kernel
theorem dX8_saveSnapshot_24 : decode cX8_saveSnapshot 24 = .ok (.iload_n 1, 1) := by decide +kernel
theorem dX8_saveSnapshot_25 : decode cX8_saveSnapshot 25 = .ok (.invokestatic 195, 3) := by decide +kernel
theorem dX8_saveSnapshot_28 : decode cX8_saveSnapshot 28 = .ok (.aload_n 0, 1) := by decide +kernel
theorem dX8_saveSnapshot_29 : decode cX8_saveSnapshot 29 = .ok (.getfield 22, 3) := by decide +kernel
theorem dX8_saveSnapshot_32 : decode cX8_saveSnapshot 32 = .ok (.iload_n 1, 1) := by decide +kernel
theorem dX8_saveSnapshot_33 : decode cX8_saveSnapshot 33 = .ok (.iconst 1, 1) := by decide +kernel
theorem dX8_saveSnapshot_34 : decode cX8_saveSnapshot 34 = .ok (.bastore, 1) := by decide +kernel
theorem dX8_saveSnapshot_35 : decode cX8_saveSnapshot 35 = .ok (.aload_n 0, 1) := by decide +kernel
theorem dX8_saveSnapshot_36 : decode cX8_saveSnapshot 36 = .ok (.getfield 9, 3) := by decide +kernel
theorem dX8_saveSnapshot_39 : decode cX8_saveSnapshot 39 = .ok (.iconst 0, 1) := by decide +kernel
theorem dX8_saveSnapshot_40 : decode cX8_saveSnapshot 40 = .ok (.iaload, 1) := by decide +kernel
theorem dX8_saveSnapshot_41 : decode cX8_saveSnapshot 41 = .ok (.ireturn, 1) := by decide +kernel
set_option maxRecDepth 20000 in
theorem s_X8_saveSnapshot_0 {l : Launch} {G : GT} {d : Nat} {Q : AV → AH → Prop} {H : AH} {a0 x1 : Int} (h_r0 : Lay LMod H a0) (h : ∀ H1 : AH, H1 = hs H a0 5 (1 - (bi (decide (0 ≤ x1 ∧ x1 ≤ 1)))) → (0 ≤ x1 ∧ x1 ≤ 1 → CL l G mX8_copies d 0 0 [vR (a0 + 1), vI 0, vR (a0 + 4), vI x1] H1 (fun r9 H2 => Lay LMod H2 a0 ∧ r9 = vV ∧ (0 ≤ x1 ∧ x1 < 2) ∧ ∀ H3 : AH, H3 = hs H2 (a0 + 5) x1 1 → Q (vI (rowM H3 a0 0)) H3)) ∧ (¬ (0 ≤ x1 ∧ x1 ≤ 1) → Q (vI 0) H1)) : AW l G mX8_saveSnapshot (d + 1) 0 0 Q 0 [vR a0, vI x1] [] 0 0 H := by
  refine a_aload_n dX8_saveSnapshot_0 rfl rfl ?_
  refine a_iload_n dX8_saveSnapshot_1 rfl rfl ?_
  refine a_iconst dX8_saveSnapshot_2 ⟨by decide, by decide⟩ ?_
  refine a_iconst dX8_saveSnapshot_3 ⟨by decide, by decide⟩ ?_
  refine a_callS dX8_saveSnapshot_4 cw_X8_saveSnapshot_4 (as := [vI x1, vI 0, vI 1]) rfl rfl (Nat.le_refl _) (Nat.le_of_ble_eq_true rfl) (nocov rfl) (Nat.le_of_ble_eq_true rfl) (Nat.le_of_ble_eq_true rfl) (CL.mono (c_in  ) (fun r9 H9 h9 => ?_))
  rw [h9.1, h9.2]
  show AW l G mX8_saveSnapshot (d + 1) 0 0 Q 7 [vR a0, vI x1] [vI (bi (decide (0 ≤ x1 ∧ x1 ≤ 1))), vR a0] 0 0 H
  refine a_callV dX8_saveSnapshot_7 cw_X8_saveSnapshot_7 (as := [vI (bi (decide (0 ≤ x1 ∧ x1 ≤ 1)))]) rfl rfl (kMod_0 h_r0) (Nat.le_refl _) (Nat.le_of_ble_eq_true rfl) (nocov rfl) (Nat.le_of_ble_eq_true rfl) (Nat.le_of_ble_eq_true rfl) (CL.mono (c_isNumber h_r0 (bi_01 _)) (fun r9 H9 h9 => ?_))
  rw [h9.1, h9.2]
  have h_r0_1 := Lay.wr h_r0 ok_Mod (nrf_fld 5 (kMod_0 h_r0) (by decide) (by decide)) (i := 5) (x := (1 - (bi (decide (0 ≤ x1 ∧ x1 ≤ 1)))))
  generalize e_H1 : hs H a0 5 (1 - (bi (decide (0 ≤ x1 ∧ x1 ≤ 1)))) = H1 at h_r0_1 ⊢
  replace h := h H1 e_H1.symm
  show AW l G mX8_saveSnapshot (d + 1) 0 0 Q 10 [vR a0, vI x1] [vI (bi (decide (0 ≤ x1 ∧ x1 ≤ 1)))] 0 0 H1
  refine a_if_ne dX8_saveSnapshot_10 (tgt := 15) rfl (fun c10 => ?_) (fun c10 => ?_)
  · replace h := h.1 (bi_1 c10)
    refine a_aload_n dX8_saveSnapshot_15 rfl rfl ?_
    refine a_getR dX8_saveSnapshot_16 fw_RX8_9 rfl rfl (kMod_0 h_r0_1) (rMod_0_0 h_r0_1) ?_
    refine a_iconst dX8_saveSnapshot_19 ⟨by decide, by decide⟩ ?_
    refine a_aload_n dX8_saveSnapshot_20 rfl rfl ?_
    refine a_getR dX8_saveSnapshot_21 fw_RX8_19 rfl rfl (kMod_0 h_r0_1) (rMod_0_3 h_r0_1) ?_
    refine a_iload_n dX8_saveSnapshot_24 rfl rfl ?_
    refine a_callS dX8_saveSnapshot_25 cw_X8_saveSnapshot_25 (as := [vR (a0 + 1), vI 0, vR (a0 + 4), vI x1]) rfl rfl (Nat.le_refl _) (Nat.le_of_ble_eq_true rfl) (nocov rfl) (Nat.le_of_ble_eq_true rfl) (Nat.le_of_ble_eq_true rfl) (CL.mono h (fun r9 H2 h => ?_))
    obtain ⟨h_r0_2, e9, h⟩ := h
    rw [e9]
    show AW l G mX8_saveSnapshot (d + 1) 0 0 Q 28 [vR a0, vI x1] [] 0 0 H2
    refine a_aload_n dX8_saveSnapshot_28 rfl rfl ?_
    refine a_getR dX8_saveSnapshot_29 fw_RX8_22 rfl rfl (kMod_0 h_r0_2) (rMod_0_4 h_r0_2) ?_
    refine a_iload_n dX8_saveSnapshot_32 rfl rfl ?_
    refine a_iconst dX8_saveSnapshot_33 ⟨by decide, by decide⟩ ?_
    obtain ⟨q34_0, h⟩ := h
    refine b_zast dX8_saveSnapshot_34 (kMod_5 h_r0_2) (nMod_5 h_r0_2) q34_0 (by decide) ?_
    have h_r0_3 := Lay.wr h_r0_2 ok_Mod (nrf_arr (kMod_5 h_r0_2) (by decide) (by decide)) (i := x1) (x := 1)
    generalize e_H3 : hs H2 (a0 + 5) x1 1 = H3 at h_r0_3 ⊢
    replace h := h H3 e_H3.symm
    refine a_aload_n dX8_saveSnapshot_35 rfl rfl ?_
    refine a_getR dX8_saveSnapshot_36 fw_RX8_9 rfl rfl (kMod_0 h_r0_3) (rMod_0_0 h_r0_3) ?_
    refine a_iconst dX8_saveSnapshot_39 ⟨by decide, by decide⟩ ?_
    refine b_iald dX8_saveSnapshot_40 (kMod_1 h_r0_3) (nMod_1 h_r0_3) (⟨by decide, by decide⟩) ?_
    exact a_iret dX8_saveSnapshot_41 rfl (Nat.le_of_ble_eq_true rfl) (Nat.le_of_ble_eq_true rfl) h
  · replace h := h.2 (bi_0 c10)
    refine a_iconst dX8_saveSnapshot_13 ⟨by decide, by decide⟩ ?_
    exact a_iret dX8_saveSnapshot_14 rfl (Nat.le_of_ble_eq_true rfl) (Nat.le_of_ble_eq_true rfl) h

abbrev okSl (s : Int) : Prop := 0 ≤ s ∧ s ≤ 1
def pSv (a s : Int) : Int → Int → Prop := fun b i => (b = a ∧ i = 5) ∨ (b = a + 4 ∧ 440 * s ≤ i ∧ i < 440 * s + 440) ∨ (b = a + 5 ∧ i = s)
theorem c_saveSnapshot {l : Launch} {G : GT} {d : Nat} {H : AH} {a : Int} {M : Row} {s : Int} (hW : MW H a M) (hd : 1 ≤ d := by omega) : CL l G mX8_saveSnapshot d 0 0 [vR a, vI s] H (fun r H' => (okSl s → r = vI (M 0) ∧ hg H' a 5 = 0 ∧ only H H' (pSv a s) ∧ MW H' a M ∧ (∀ k, 0 ≤ k → k < 440 → hg H' (a + 4) (440 * s + k) = M k) ∧ hg H' (a + 5) s = 1) ∧ (¬ okSl s → r = vI 0 ∧ pbW a M 1 H H')) := by
  obtain ⟨d, rfl⟩ : ∃ k, d = k + 1 := ⟨d - 1, by omega⟩
  refine CL.of (by decide) rfl (Nat.le_of_ble_eq_true rfl) (s_X8_saveSnapshot_0 hW.1 fun H1 e1 => ⟨fun c => ?_, fun c => ⟨fun c2 => absurd c2 c, fun _ => ⟨rfl, pb1 hW (by rw [bi_f c] at e1; exact e1)⟩⟩⟩)
  rw [bi_t c] at e1
  have b1 := pb1 hW e1
  have L1 := b1.2.2.1
  refine CL.mono (c_copies (sA_Mod_1 L1) (sA_Mod_4 L1) (by omega) (by omega) (by omega)) ?_
  rintro r H2 ⟨rfl, ho, hv⟩
  have hn : ∀ b k, b = a + 4 ∧ 440 * s ≤ k ∧ k < 440 * s + 440 → nrf H1 b k := fun b k z => by rw [z.1]; exact nrf_arr (kMod_4 L1) (by decide) (by decide)
  have w2 := b1.2.2.only ho hn (fun i z => by omega) (fun b i z1 z2 z => by omega) (fun z => by omega)
  have n5 : nrf H2 (a + 5) s := nrf_arr (kMod_5 w2.1) (by decide) (by decide)
  refine ⟨w2.1, rfl, by omega, fun H3 e3 => ⟨fun _ => ?_, fun c2 => absurd c c2⟩⟩
  have w3 : MW H3 a M := by rw [e3]; exact w2.only (P := fun b i => b = a + 5 ∧ i = s) (only.wr ⟨rfl, rfl⟩) (by rintro x y ⟨rfl, rfl⟩; exact n5) (by rintro i ⟨q, -⟩; omega) (by rintro b i q1 q2 ⟨q, -⟩; omega) (by rintro ⟨q, -⟩; omega)
  have o1 : only H H1 (pSv a s) := by rw [e1]; exact only.wr (Or.inl ⟨rfl, rfl⟩)
  refine ⟨by rw [w3.2.1], ?_, ?_, w3, fun k k1 k2 => ?_, ?_⟩
  · rw [e3, hg_ne _ (by omega), ho.2.2 a 5 (by omega)]; exact b1.1
  · rw [e3]; exact (o1.trans (ho.mono (fun b k z => Or.inr (Or.inl z)))).then (Or.inr (Or.inr ⟨rfl, rfl⟩))
  · have := hv k k1 k2
    rw [show 440 * (0 : Int) + k = k by omega] at this
    rw [e3, hg_ne _ (by omega), this]
    exact congrFun b1.2.2.2.1 k
  · rw [e3, hg_same]

theorem dX8_restoreSnapshot_0 : decode cX8_restoreSnapshot 0 = .ok (.aload_n 0, 1) := by decide +kernel
theorem dX8_restoreSnapshot_1 : decode cX8_restoreSnapshot 1 = .ok (.iload_n 1, 1) := by decide +kernel
theorem dX8_restoreSnapshot_2 : decode cX8_restoreSnapshot 2 = .ok (.iconst 0, 1) := by decide +kernel
theorem dX8_restoreSnapshot_3 : decode cX8_restoreSnapshot 3 = .ok (.iconst 1, 1) := by decide +kernel
theorem dX8_restoreSnapshot_4 : decode cX8_restoreSnapshot 4 = .ok (.invokestatic 67, 3) := by decide +kernel
theorem dX8_restoreSnapshot_7 : decode cX8_restoreSnapshot 7 = .ok (.invokevirtual 78, 3) := by decide +kernel
theorem dX8_restoreSnapshot_10 : decode cX8_restoreSnapshot 10 = .ok (.ifCond .ne 5, 3) := by decide +kernel
theorem dX8_restoreSnapshot_13 : decode cX8_restoreSnapshot 13 = .ok (.iconst 0, 1) := by decide +kernel
theorem dX8_restoreSnapshot_14 : decode cX8_restoreSnapshot 14 = .ok (.ireturn, 1) := by decide +kernel
theorem dX8_restoreSnapshot_15 : decode cX8_restoreSnapshot 15 = .ok (.aload_n 0, 1) := by decide +kernel
theorem dX8_restoreSnapshot_16 : decode cX8_restoreSnapshot 16 = .ok (.getfield 22, 3) := by decide +kernel
theorem dX8_restoreSnapshot_19 : decode cX8_restoreSnapshot 19 = .ok (.iload_n 1, 1) := by decide +kernel
theorem dX8_restoreSnapshot_20 : decode cX8_restoreSnapshot 20 = .ok (.baload, 1) := by decide +kernel
theorem dX8_restoreSnapshot_21 : decode cX8_restoreSnapshot 21 = .ok (.ifCond .ne 5, 3) := by decide +kernel
theorem dX8_restoreSnapshot_24 : decode cX8_restoreSnapshot 24 = .ok (.iconst (-1), 1) := by decide +kernel
theorem dX8_restoreSnapshot_25 : decode cX8_restoreSnapshot 25 = .ok (.ireturn, 1) := by decide +kernel
theorem dX8_restoreSnapshot_26 : decode cX8_restoreSnapshot 26 = .ok (.aload_n 0, 1) := by decide +kernel
theorem dX8_restoreSnapshot_27 : decode cX8_restoreSnapshot 27 = .ok (.getfield 19, 3) := by decide +kernel
theorem dX8_restoreSnapshot_30 : decode cX8_restoreSnapshot 30 = .ok (.iload_n 1, 1) := by decide +kernel
theorem dX8_restoreSnapshot_31 : decode cX8_restoreSnapshot 31 = .ok (.aload_n 0, 1) := by decide +kernel
theorem dX8_restoreSnapshot_32 : decode cX8_restoreSnapshot 32 = .ok (.getfield 9, 3) := by decide +kernel
theorem dX8_restoreSnapshot_35 : decode cX8_restoreSnapshot 35 = .ok (.iconst 0, 1) := by decide +kernel
theorem dX8_restoreSnapshot_36 : decode cX8_restoreSnapshot 36 = .ok (.invokestatic 195, 3) := by decide +kernel
theorem dX8_restoreSnapshot_39 : decode cX8_restoreSnapshot 39 = .ok (.aload_n 0, 1) := by decide +kernel
theorem dX8_restoreSnapshot_40 : decode cX8_restoreSnapshot 40 = .ok (.iconst 0, 1) := by decide +kernel
theorem dX8_restoreSnapshot_41 : decode cX8_restoreSnapshot 41 = .ok (.putfield 63, 3) := by decide +kernel
theorem dX8_restoreSnapshot_44 : decode cX8_restoreSnapshot 44 = .ok (.aload_n 0, 1) := by decide +kernel
theorem dX8_restoreSnapshot_45 : decode cX8_restoreSnapshot 45 = .ok (.getfield 9, 3) := by decide +kernel
theorem dX8_restoreSnapshot_48 : decode cX8_restoreSnapshot 48 = .ok (.iconst 0, 1) := by decide +kernel
theorem dX8_restoreSnapshot_49 : decode cX8_restoreSnapshot 49 = .ok (.iaload, 1) := by decide +kernel
theorem dX8_restoreSnapshot_50 : decode cX8_restoreSnapshot 50 = .ok (.ireturn, 1) := by decide +kernel
set_option maxRecDepth 20000 in
theorem s_X8_restoreSnapshot_0 {l : Launch} {G : GT} {d : Nat} {Q : AV → AH → Prop} {H : AH} {a0 x1 : Int} (h_r0 : Lay LMod H a0) (h : ∀ H1 : AH, H1 = hs H a0 5 (1 - (bi (decide (0 ≤ x1 ∧ x1 ≤ 1)))) → (0 ≤ x1 ∧ x1 ≤ 1 → (0 ≤ x1 ∧ x1 < 2) ∧ (¬ (hg H1 (a0 + 5) x1) = 0 → CL l G mX8_copies d 0 0 [vR (a0 + 4), vI x1, vR (a0 + 1), vI 0] H1 (fun r9 H2 => Lay LMod H2 a0 ∧ r9 = vV ∧ ∀ H3 : AH, H3 = hs H2 a0 13 0 → Q (vI (rowM H3 a0 0)) H3)) ∧ ((hg H1 (a0 + 5) x1) = 0 → Q (vI (-1)) H1)) ∧ (¬ (0 ≤ x1 ∧ x1 ≤ 1) → Q (vI 0) H1)) : AW l G mX8_restoreSnapshot (d + 1) 0 0 Q 0 [vR a0, vI x1] [] 0 0 H := by
  refine a_aload_n dX8_restoreSnapshot_0 rfl rfl ?_
  refine a_iload_n dX8_restoreSnapshot_1 rfl rfl ?_
  refine a_iconst dX8_restoreSnapshot_2 ⟨by decide, by decide⟩ ?_
  refine a_iconst dX8_restoreSnapshot_3 ⟨by decide, by decide⟩ ?_
  refine a_callS dX8_restoreSnapshot_4 cw_X8_restoreSnapshot_4 (as := [vI x1, vI 0, vI 1]) rfl rfl (Nat.le_refl _) (Nat.le_of_ble_eq_true rfl) (nocov rfl) (Nat.le_of_ble_eq_true rfl) (Nat.le_of_ble_eq_true rfl) (CL.mono (c_in  ) (fun r9 H9 h9 => ?_))
  rw [h9.1, h9.2]
  show AW l G mX8_restoreSnapshot (d + 1) 0 0 Q 7 [vR a0, vI x1] [vI (bi (decide (0 ≤ x1 ∧ x1 ≤ 1))), vR a0] 0 0 H
  refine a_callV dX8_restoreSnapshot_7 cw_X8_restoreSnapshot_7 (as := [vI (bi (decide (0 ≤ x1 ∧ x1 ≤ 1)))]) rfl rfl (kMod_0 h_r0) (Nat.le_refl _) (Nat.le_of_ble_eq_true rfl) (nocov rfl) (Nat.le_of_ble_eq_true rfl) (Nat.le_of_ble_eq_true rfl) (CL.mono (c_isNumber h_r0 (bi_01 _)) (fun r9 H9 h9 => ?_))
  rw [h9.1, h9.2]
  have h_r0_1 := Lay.wr h_r0 ok_Mod (nrf_fld 5 (kMod_0 h_r0) (by decide) (by decide)) (i := 5) (x := (1 - (bi (decide (0 ≤ x1 ∧ x1 ≤ 1)))))
  generalize e_H1 : hs H a0 5 (1 - (bi (decide (0 ≤ x1 ∧ x1 ≤ 1)))) = H1 at h_r0_1 ⊢
  replace h := h H1 e_H1.symm
  show AW l G mX8_restoreSnapshot (d + 1) 0 0 Q 10 [vR a0, vI x1] [vI (bi (decide (0 ≤ x1 ∧ x1 ≤ 1)))] 0 0 H1
  refine a_if_ne dX8_restoreSnapshot_10 (tgt := 15) rfl (fun c10 => ?_) (fun c10 => ?_)
  · replace h := h.1 (bi_1 c10)
    refine a_aload_n dX8_restoreSnapshot_15 rfl rfl ?_
    refine a_getR dX8_restoreSnapshot_16 fw_RX8_22 rfl rfl (kMod_0 h_r0_1) (rMod_0_4 h_r0_1) ?_
    refine a_iload_n dX8_restoreSnapshot_19 rfl rfl ?_
    obtain ⟨q20_0, h⟩ := h
    refine b_zald dX8_restoreSnapshot_20 (kMod_5 h_r0_1) (nMod_5 h_r0_1) q20_0 ?_
    refine a_if_ne dX8_restoreSnapshot_21 (tgt := 26) rfl (fun c21 => ?_) (fun c21 => ?_)
    · replace h := h.1 c21
      refine a_aload_n dX8_restoreSnapshot_26 rfl rfl ?_
      refine a_getR dX8_restoreSnapshot_27 fw_RX8_19 rfl rfl (kMod_0 h_r0_1) (rMod_0_3 h_r0_1) ?_
      refine a_iload_n dX8_restoreSnapshot_30 rfl rfl ?_
      refine a_aload_n dX8_restoreSnapshot_31 rfl rfl ?_
      refine a_getR dX8_restoreSnapshot_32 fw_RX8_9 rfl rfl (kMod_0 h_r0_1) (rMod_0_0 h_r0_1) ?_
      refine a_iconst dX8_restoreSnapshot_35 ⟨by decide, by decide⟩ ?_
      refine a_callS dX8_restoreSnapshot_36 cw_X8_restoreSnapshot_36 (as := [vR (a0 + 4), vI x1, vR (a0 + 1), vI 0]) rfl rfl (Nat.le_refl _) (Nat.le_of_ble_eq_true rfl) (nocov rfl) (Nat.le_of_ble_eq_true rfl) (Nat.le_of_ble_eq_true rfl) (CL.mono h (fun r9 H2 h => ?_))
      obtain ⟨h_r0_2, e9, h⟩ := h
      rw [e9]
      show AW l G mX8_restoreSnapshot (d + 1) 0 0 Q 39 [vR a0, vI x1] [] 0 0 H2
      refine a_aload_n dX8_restoreSnapshot_39 rfl rfl ?_
      refine a_iconst dX8_restoreSnapshot_40 ⟨by decide, by decide⟩ ?_
      refine a_putZ dX8_restoreSnapshot_41 fp_RX8_63 rfl rfl (kMod_0 h_r0_2) (by decide) ?_
      have h_r0_3 := Lay.wr h_r0_2 ok_Mod (nrf_fld 13 (kMod_0 h_r0_2) (by decide) (by decide)) (i := 13) (x := 0)
      generalize e_H3 : hs H2 a0 13 0 = H3 at h_r0_3 ⊢
      replace h := h H3 e_H3.symm
      refine a_aload_n dX8_restoreSnapshot_44 rfl rfl ?_
      refine a_getR dX8_restoreSnapshot_45 fw_RX8_9 rfl rfl (kMod_0 h_r0_3) (rMod_0_0 h_r0_3) ?_
      refine a_iconst dX8_restoreSnapshot_48 ⟨by decide, by decide⟩ ?_
      refine b_iald dX8_restoreSnapshot_49 (kMod_1 h_r0_3) (nMod_1 h_r0_3) (⟨by decide, by decide⟩) ?_
      exact a_iret dX8_restoreSnapshot_50 rfl (Nat.le_of_ble_eq_true rfl) (Nat.le_of_ble_eq_true rfl) h
    · replace h := h.2 c21
      refine a_iconst dX8_restoreSnapshot_24 ⟨by decide, by decide⟩ ?_
      exact a_iret dX8_restoreSnapshot_25 rfl (Nat.le_of_ble_eq_true rfl) (Nat.le_of_ble_eq_true rfl) h
  · replace h := h.2 (bi_0 c10)
    refine a_iconst dX8_restoreSnapshot_13 ⟨by decide, by decide⟩ ?_
    exact a_iret dX8_restoreSnapshot_14 rfl (Nat.le_of_ble_eq_true rfl) (Nat.le_of_ble_eq_true rfl) h

abbrev okRs (H : AH) (a s : Int) : Prop := okSl s ∧ ¬ hg H (a + 5) s = 0
theorem c_restoreSnapshot {l : Launch} {G : GT} {d : Nat} {H : AH} {a : Int} {M M' : Row} {s : Int} (hW : MW H a M) (hsv : okRs H a s → (∀ k, 0 ≤ k → k < 440 → hg H (a + 4) (440 * s + k) = M' k) ∧ okM M') (hd : 1 ≤ d := by omega) : CL l G mX8_restoreSnapshot d 0 0 [vR a, vI s] H (mutP a (if okRs H a s then M' else M) (vI (if okSl s then (if hg H (a + 5) s = 0 then -1 else M' 0) else 0)) (1 - bi (decide (okSl s))) H) := by
  obtain ⟨d, rfl⟩ : ∃ k, d = k + 1 := ⟨d - 1, by omega⟩
  by_cases c0 : okRs H a s
  · rw [if_pos c0, if_pos c0.1, if_neg c0.2, bi_t c0.1]
    obtain ⟨hv0, hM'⟩ := hsv c0
    refine CL.norm (Q := fun r H' => r = vI (M' 0) ∧ hg H' a 5 = 0 ∧ only H H' (pMut a) ∧ Lay LMod H' a ∧ (∀ k, 0 ≤ k → k < 440 → hg H' (a + 1) k = M' k) ∧ hg H' a 13 = 0) (CL.of (by decide) rfl (Nat.le_of_ble_eq_true rfl) (s_X8_restoreSnapshot_0 hW.1 fun H1 e1 => ?_)) ?_
    · rw [bi_t c0.1] at e1
      have b1 := pb1 hW e1
      have L1 := b1.2.2.1
      have g5 : hg H1 (a + 5) s = hg H (a + 5) s := by rw [e1, hg_ne _ (by omega)]
      rw [g5]
      refine ⟨fun c => ⟨by omega, fun c2 => CL.mono (c_copies (sA_Mod_4 L1) (sA_Mod_1 L1) (by omega) (by omega) (by omega)) ?_, fun c2 => absurd c2 c0.2⟩, fun c => absurd c0.1 c⟩
      rintro r H2 ⟨rfl, ho, hv⟩
      have hn : ∀ b k, b = a + 1 ∧ 440 * (0 : Int) ≤ k ∧ k < 440 * 0 + 440 → nrf H1 b k := fun b k z => by rw [z.1]; exact nrf_arr (kMod_1 L1) (by decide) (by decide)
      have hL2 := L1.only ok_Mod ho hn
      have val : ∀ k, 0 ≤ k → k < 440 → hg (hs H2 a 13 0) (a + 1) k = M' k := fun k k1 k2 => by
        have := hv k k1 k2
        rw [show 440 * (0 : Int) + k = k by omega] at this
        rw [hg_ne _ (by omega), this, e1, hg_ne _ (by omega)]
        exact hv0 k k1 k2
      refine ⟨hL2, rfl, fun H3 e3 => ?_⟩
      subst e3
      refine ⟨by rw [show rowM (hs H2 a 13 0) a 0 = M' 0 from val 0 (by omega) (by omega)], ?_, ?_, hL2.wr ok_Mod (nrf_fld 13 (kMod_0 hL2) (by decide) (by decide)), val, hg_same _ _ _ _⟩
      · rw [hg_ne _ (by omega), ho.2.2 a 5 (by omega)]; exact b1.1
      · exact ((b1.2.1.mono (fun _ _ z => Or.inl z)).trans (ho.mono (fun b k z => Or.inr z.1))).then (Or.inl (Or.inl ⟨rfl, by omega⟩))
    · rintro r H1 ⟨rfl, h5, ho, hL1, hv, h13⟩
      obtain ⟨H2, hs2, ho2, hL2, hr2⟩ := row_norm hL1 hv
      refine ⟨H2, hs2, rfl, ?_, ho.trans (ho2.mono (fun b k z => Or.inr z)), hL2, hr2, hM', Or.inl ?_⟩
      · rw [ho2.2.2 a 5 (by omega)]; exact h5
      · rw [ho2.2.2 a 13 (by omega)]; exact h13
  · rw [if_neg c0]
    refine CL.of (by decide) rfl (Nat.le_of_ble_eq_true rfl) (s_X8_restoreSnapshot_0 hW.1 fun H1 e1 => ?_)
    have b1 := pb_pm (pb1 hW e1)
    have g5 : hg H1 (a + 5) s = hg H (a + 5) s := by rw [e1, hg_ne _ (by omega)]
    rw [g5]
    refine ⟨fun c => ⟨by omega, fun c2 => absurd ⟨c, c2⟩ c0, fun c2 => ?_⟩, fun c => ?_⟩
    · rw [if_pos c, if_pos c2]; exact ⟨rfl, b1⟩
    · rw [if_neg c]; exact ⟨rfl, b1⟩

