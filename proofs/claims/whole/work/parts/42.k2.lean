theorem dX5_price_0 : decode cX5_price 0 = .ok (.aload_n 0, 1) := by decide +kernel
theorem dX5_price_1 : decode cX5_price 1 = .ok (.getfield 18, 3) := by decide +kernel
theorem dX5_price_4 : decode cX5_price 4 = .ok (.iload_n 1, 1) := by decide +kernel
theorem dX5_price_5 : decode cX5_price 5 = .ok (.iaload, 1) := by decide +kernel
theorem dX5_price_6 : decode cX5_price 6 = .ok (.iload_n 2, 1) := by decide +kernel
theorem dX5_price_7 : decode cX5_price 7 = .ok (.isub, 1) := by decide +kernel
theorem dX5_price_8 : decode cX5_price 8 = .ok (.istore_n 3, 1) := by decide +kernel
theorem dX5_price_9 : decode cX5_price 9 = .ok (.iload_n 3, 1) := by decide +kernel
theorem dX5_price_10 : decode cX5_price 10 = .ok (.ifCond .le 16, 3) := by decide +kernel
theorem dX5_price_13 : decode cX5_price 13 = .ok (.aload_n 0, 1) := by decide +kernel
theorem dX5_price_14 : decode cX5_price 14 = .ok (.getfield 24, 3) := by decide +kernel
theorem dX5_price_17 : decode cX5_price 17 = .ok (.iload_n 1, 1) := by decide +kernel
theorem dX5_price_18 : decode cX5_price 18 = .ok (.iaload, 1) := by decide +kernel
theorem dX5_price_19 : decode cX5_price 19 = .ok (.i2l, 1) := by decide +kernel
theorem dX5_price_20 : decode cX5_price 20 = .ok (.iload_n 3, 1) := by decide +kernel
theorem dX5_price_21 : decode cX5_price 21 = .ok (.i2l, 1) := by decide +kernel
theorem dX5_price_22 : decode cX5_price 22 = .ok (.lmul, 1) := by decide +kernel
theorem dX5_price_23 : decode cX5_price 23 = .ok (.goto 14, 3) := by decide +kernel
theorem dX5_price_26 : decode cX5_price 26 = .ok (.aload_n 0, 1) := by decide +kernel
theorem dX5_price_27 : decode cX5_price 27 = .ok (.getfield 27, 3) := by decide +kernel
theorem dX5_price_30 : decode cX5_price 30 = .ok (.iload_n 1, 1) := by decide +kernel
theorem dX5_price_31 : decode cX5_price 31 = .ok (.iaload, 1) := by decide +kernel
theorem dX5_price_32 : decode cX5_price 32 = .ok (.i2l, 1) := by decide +kernel
theorem dX5_price_33 : decode cX5_price 33 = .ok (.iload_n 3, 1) := by decide +kernel
theorem dX5_price_34 : decode cX5_price 34 = .ok (.ineg, 1) := by decide +kernel
theorem dX5_price_35 : decode cX5_price 35 = .ok (.i2l, 1) := by decide +kernel
theorem dX5_price_36 : decode cX5_price 36 = .ok (.lmul, 1) := by decide +kernel
theorem dX5_price_37 : decode cX5_price 37 = .ok (.lstore 4, 2) := by decide +kernel
theorem dX5_price_39 : decode cX5_price 39 = .ok (.iload_n 2, 1) := by decide +kernel
theorem dX5_price_40 : decode cX5_price 40 = .ok (.aload_n 0, 1) := by decide +kernel
theorem dX5_price_41 : decode cX5_price 41 = .ok (.getfield 21, 3) := by decide +kernel
theorem dX5_price_44 : decode cX5_price 44 = .ok (.iload_n 1, 1) := by decide +kernel
theorem dX5_price_45 : decode cX5_price 45 = .ok (.iaload, 1) := by decide +kernel
theorem dX5_price_46 : decode cX5_price 46 = .ok (.if_icmp .le 12, 3) := by decide +kernel
theorem dX5_price_49 : decode cX5_price 49 = .ok (.lload 4, 2) := by decide +kernel
theorem dX5_price_51 : decode cX5_price 51 = .ok (.ldc2_w 102, 3) := by decide +kernel
theorem dX5_price_54 : decode cX5_price 54 = .ok (.ladd, 1) := by decide +kernel
theorem dX5_price_55 : decode cX5_price 55 = .ok (.goto 5, 3) := by decide +kernel
theorem dX5_price_58 : decode cX5_price 58 = .ok (.lload 4, 2) := by decide +kernel
theorem dX5_price_60 : decode cX5_price 60 = .ok (.lreturn, 1) := by decide +kernel
set_option maxRecDepth 20000 in
theorem s_X5_price_0 {l : Launch} {G : GT} {d : Nat} {Q : AV → AH → Prop} {H : AH} {a0 x1 x2 : Int} (h_r0 : Lay LSea H a0) (h : (0 ≤ x1 ∧ x1 < 7) ∧ (-2147483648 ≤ (hg H (a0 + 3) x1) - x2 ∧ (hg H (a0 + 3) x1) - x2 ≤ 2147483647) ∧ (((hg H (a0 + 3) x1) - x2) ≤ 0 → (-2147483648 ≤ -((hg H (a0 + 3) x1) - x2) ∧ -((hg H (a0 + 3) x1) - x2) ≤ 2147483647) ∧ (-9223372036854775808 ≤ (hg H (a0 + 6) x1) * (-((hg H (a0 + 3) x1) - x2)) ∧ (hg H (a0 + 6) x1) * (-((hg H (a0 + 3) x1) - x2)) ≤ 9223372036854775807) ∧ (x2 ≤ (hg H (a0 + 4) x1) → Q (vJ ((hg H (a0 + 6) x1) * (-((hg H (a0 + 3) x1) - x2)))) H) ∧ ((hg H (a0 + 4) x1) < x2 → (-9223372036854775808 ≤ ((hg H (a0 + 6) x1) * (-((hg H (a0 + 3) x1) - x2))) + 1000000000 ∧ ((hg H (a0 + 6) x1) * (-((hg H (a0 + 3) x1) - x2))) + 1000000000 ≤ 9223372036854775807) ∧ Q (vJ (((hg H (a0 + 6) x1) * (-((hg H (a0 + 3) x1) - x2))) + 1000000000)) H)) ∧ (0 < ((hg H (a0 + 3) x1) - x2) → (-9223372036854775808 ≤ (hg H (a0 + 5) x1) * ((hg H (a0 + 3) x1) - x2) ∧ (hg H (a0 + 5) x1) * ((hg H (a0 + 3) x1) - x2) ≤ 9223372036854775807) ∧ (x2 ≤ (hg H (a0 + 4) x1) → Q (vJ ((hg H (a0 + 5) x1) * ((hg H (a0 + 3) x1) - x2))) H) ∧ ((hg H (a0 + 4) x1) < x2 → (-9223372036854775808 ≤ ((hg H (a0 + 5) x1) * ((hg H (a0 + 3) x1) - x2)) + 1000000000 ∧ ((hg H (a0 + 5) x1) * ((hg H (a0 + 3) x1) - x2)) + 1000000000 ≤ 9223372036854775807) ∧ Q (vJ (((hg H (a0 + 5) x1) * ((hg H (a0 + 3) x1) - x2)) + 1000000000)) H))) : AW l G mX5_price d 0 0 Q 0 [vR a0, vI x1, vI x2, vU, vU, vU] [] 0 0 H := by
  refine a_aload_n dX5_price_0 rfl rfl ?_
  refine a_getR dX5_price_1 fw_RX5_18 rfl rfl (kSea_0 h_r0) (rSea_0_4 h_r0) ?_
  refine a_iload_n dX5_price_4 rfl rfl ?_
  obtain ⟨q5_0, h⟩ := h
  refine b_iald dX5_price_5 (kSea_3 h_r0) (nSea_3 h_r0) q5_0 ?_
  refine a_iload_n dX5_price_6 rfl rfl ?_
  obtain ⟨q7_0, h⟩ := h
  refine a_isub dX5_price_7 q7_0 ?_
  refine a_istore_n dX5_price_8 rfl (Nat.le_of_ble_eq_true rfl) (ls' := [vR a0, vI x1, vI x2, vI ((hg H (a0 + 3) x1) - x2), vU, vU]) rfl ?_
  refine a_iload_n dX5_price_9 rfl rfl ?_
  refine a_if_le dX5_price_10 (tgt := 26) rfl (fun c10 => ?_) (fun c10 => ?_)
  · replace h := h.1 c10
    refine a_aload_n dX5_price_26 rfl rfl ?_
    refine a_getR dX5_price_27 fw_RX5_27 rfl rfl (kSea_0 h_r0) (rSea_0_7 h_r0) ?_
    refine a_iload_n dX5_price_30 rfl rfl ?_
    refine b_iald dX5_price_31 (kSea_6 h_r0) (nSea_6 h_r0) q5_0 ?_
    refine a_i2l dX5_price_32 ?_
    refine a_iload_n dX5_price_33 rfl rfl ?_
    obtain ⟨q34_0, h⟩ := h
    refine a_ineg dX5_price_34 q34_0 ?_
    refine a_i2l dX5_price_35 ?_
    obtain ⟨q36_0, h⟩ := h
    refine a_lmul dX5_price_36 q36_0 ?_
    refine a_lstore dX5_price_37 (Nat.le_of_ble_eq_true rfl) (ls' := [vR a0, vI x1, vI x2, vI ((hg H (a0 + 3) x1) - x2), vJ ((hg H (a0 + 6) x1) * (-((hg H (a0 + 3) x1) - x2))), vU]) rfl ?_
    refine a_iload_n dX5_price_39 rfl rfl ?_
    refine a_aload_n dX5_price_40 rfl rfl ?_
    refine a_getR dX5_price_41 fw_RX5_21 rfl rfl (kSea_0 h_r0) (rSea_0_5 h_r0) ?_
    refine a_iload_n dX5_price_44 rfl rfl ?_
    refine b_iald dX5_price_45 (kSea_4 h_r0) (nSea_4 h_r0) q5_0 ?_
    refine a_icmp_le dX5_price_46 (tgt := 58) rfl (fun c46 => ?_) (fun c46 => ?_)
    · replace h := h.1 c46
      refine a_lload dX5_price_58 rfl ?_
      exact a_lret dX5_price_60 rfl (Nat.le_of_ble_eq_true rfl) (Nat.le_of_ble_eq_true rfl) h
    · replace h := h.2 c46
      refine a_lload dX5_price_49 rfl ?_
      refine a_ldc2 dX5_price_51 (w_616) ?_
      show AW l G mX5_price d 0 0 Q 54 [vR a0, vI x1, vI x2, vI ((hg H (a0 + 3) x1) - x2), vJ ((hg H (a0 + 6) x1) * (-((hg H (a0 + 3) x1) - x2))), vU] [vJ 1000000000, vJ ((hg H (a0 + 6) x1) * (-((hg H (a0 + 3) x1) - x2)))] 0 0 H
      obtain ⟨q54_0, h⟩ := h
      refine a_ladd dX5_price_54 q54_0 ?_
      refine a_goto dX5_price_55 (tgt := 60) rfl ?_
      exact a_lret dX5_price_60 rfl (Nat.le_of_ble_eq_true rfl) (Nat.le_of_ble_eq_true rfl) h
  · replace h := h.2 c10
    refine a_aload_n dX5_price_13 rfl rfl ?_
    refine a_getR dX5_price_14 fw_RX5_24 rfl rfl (kSea_0 h_r0) (rSea_0_6 h_r0) ?_
    refine a_iload_n dX5_price_17 rfl rfl ?_
    refine b_iald dX5_price_18 (kSea_5 h_r0) (nSea_5 h_r0) q5_0 ?_
    refine a_i2l dX5_price_19 ?_
    refine a_iload_n dX5_price_20 rfl rfl ?_
    refine a_i2l dX5_price_21 ?_
    obtain ⟨q22_0, h⟩ := h
    refine a_lmul dX5_price_22 q22_0 ?_
    refine a_goto dX5_price_23 (tgt := 37) rfl ?_
    refine a_lstore dX5_price_37 (Nat.le_of_ble_eq_true rfl) (ls' := [vR a0, vI x1, vI x2, vI ((hg H (a0 + 3) x1) - x2), vJ ((hg H (a0 + 5) x1) * ((hg H (a0 + 3) x1) - x2)), vU]) rfl ?_
    refine a_iload_n dX5_price_39 rfl rfl ?_
    refine a_aload_n dX5_price_40 rfl rfl ?_
    refine a_getR dX5_price_41 fw_RX5_21 rfl rfl (kSea_0 h_r0) (rSea_0_5 h_r0) ?_
    refine a_iload_n dX5_price_44 rfl rfl ?_
    refine b_iald dX5_price_45 (kSea_4 h_r0) (nSea_4 h_r0) q5_0 ?_
    refine a_icmp_le dX5_price_46 (tgt := 58) rfl (fun c46 => ?_) (fun c46 => ?_)
    · replace h := h.1 c46
      refine a_lload dX5_price_58 rfl ?_
      exact a_lret dX5_price_60 rfl (Nat.le_of_ble_eq_true rfl) (Nat.le_of_ble_eq_true rfl) h
    · replace h := h.2 c46
      refine a_lload dX5_price_49 rfl ?_
      refine a_ldc2 dX5_price_51 (w_616) ?_
      show AW l G mX5_price d 0 0 Q 54 [vR a0, vI x1, vI x2, vI ((hg H (a0 + 3) x1) - x2), vJ ((hg H (a0 + 5) x1) * ((hg H (a0 + 3) x1) - x2)), vU] [vJ 1000000000, vJ ((hg H (a0 + 5) x1) * ((hg H (a0 + 3) x1) - x2))] 0 0 H
      obtain ⟨q54_0, h⟩ := h
      refine a_ladd dX5_price_54 q54_0 ?_
      refine a_goto dX5_price_55 (tgt := 60) rfl ?_
      exact a_lret dX5_price_60 rfl (Nat.le_of_ble_eq_true rfl) (Nat.le_of_ble_eq_true rfl) h

/-- what the search stands on -/
def SE (H : AH) (s : Int) (M : Row) (W : List Int) : Prop := Lay LSea H s ∧ (hg H s 0 = W.length ∧ hg H s 1 = M 1 ∧ lst H (s + 1) 0 (srt W)) ∧ (∀ i : Int, 0 ≤ i ∧ i < W.length → hg H (s + 3) i = ofM M (wAt W i) 3 ∧ hg H (s + 4) i = ofM M (wAt W i) 4 ∧ hg H (s + 5) i = M (24 + ofM M (wAt W i) 1) ∧ hg H (s + 6) i = M (28 + ofM M (wAt W i) 1)) ∧ ∀ i j : Int, 0 ≤ i ∧ i < W.length → 0 ≤ j ∧ j < W.length → hg H (s + 2) (i * 7 + j) = apartM M (wAt W i) (wAt W j)
/-- cells that it doesn't speak of -/
def offE (s c i : Int) : Prop := (c < s ∨ s + 7 ≤ c) ∨ (c = s ∧ 12 ≤ i)
theorem seO {H H' : AH} {s : Int} {M : Row} {W : List Int} {P : Int → Int → Prop} (h : SE H s M W) (ho : only H H' P) (hn : ∀ c i, P c i → nrf H c i) (hP : ∀ c i, P c i → offE s c i) : SE H' s M W := by
  have e : ∀ o i, 0 ≤ o → o ≤ 6 → (o ≠ 0 ∨ i < 12) → hg H' (s + o) i = hg H (s + o) i := fun o i h1 h2 h3 => ho.2.2 _ _ (fun q => by have := hP _ _ q; unfold offE at this; omega)
  have e0 : ∀ i, i < 12 → hg H' s i = hg H s i := fun i hi => by have := e 0 i (by omega) (by omega) (Or.inr hi); rwa [Int.add_zero] at this
  refine ⟨h.1.only ok_Sea ho hn, ⟨?_, ?_, ?_⟩, fun i hi => ?_, fun i j hi hj => ?_⟩
  · rw [e0 0 (by omega)]; exact h.2.1.1
  · rw [e0 1 (by omega)]; exact h.2.1.2.1
  · exact h.2.1.2.2.only ho (fun k _ q => by have := hP _ _ q; unfold offE at this; omega)
  · rw [e 3 _ (by omega) (by omega) (by omega), e 4 _ (by omega) (by omega) (by omega), e 5 _ (by omega) (by omega) (by omega), e 6 _ (by omega) (by omega) (by omega)]; exact h.2.2.1 i hi
  · rw [e 2 _ (by omega) (by omega) (by omega)]; exact h.2.2.2 i j hi hj
theorem k_price {l : Launch} {G : GT} {d : Nat} {H : AH} {s i t : Int} {M : Row} {W : List Int} (hE : SE H s M W) (hM : okM M) (hW : ∀ x ∈ W, fl M x) (hW7 : W.length ≤ 7) (hi : 0 ≤ i ∧ i < W.length) (ht : 0 ≤ t ∧ t ≤ 400000) : CL l G mX5_price d 0 0 [vR s, vI i, vI t] H (PQ (vJ (costM M (wAt W i) t)) H) := by
  have hf := hW _ (wAt_mem hi)
  obtain ⟨c1, c3, c4⟩ := okF_123 hM hf
  have e1 := okM_early hM hf
  have e2 := okM_late hM hf
  refine CL.of (by decide) rfl (Nat.le_of_ble_eq_true rfl) (s_X5_price_0 hE.1 ?_)
  obtain ⟨g3, g4, g5, g6⟩ := hE.2.2.1 i hi
  rw [g3, g4, g5, g6]
  refine ⟨by omega, by omega, fun c => ?_, fun c => ?_⟩
  · have m := mul_in (a := M (28 + ofM M (wAt W i) 1)) (A := 9999) (b := -(ofM M (wAt W i) 3 - t)) (B := 400000) e2.1 e2.2 (by omega) (by omega)
    have e : M (28 + ofM M (wAt W i) 1) * -(ofM M (wAt W i) 3 - t) = (t - ofM M (wAt W i) 3) * M (28 + ofM M (wAt W i) 1) := by rw [Int.mul_comm, show -(ofM M (wAt W i) 3 - t) = t - ofM M (wAt W i) 3 by omega]
    refine ⟨by omega, by omega, fun q => ⟨?_, rfl⟩, fun q => ⟨by omega, ?_, rfl⟩⟩
    · rw [costM, if_neg (by omega), if_neg (by omega), e, Int.add_zero]
    · rw [costM, if_neg (by omega), if_pos q, e]
  · have m := mul_in (a := M (24 + ofM M (wAt W i) 1)) (A := 9999) (b := ofM M (wAt W i) 3 - t) (B := 400000) e1.1 e1.2 (by omega) (by omega)
    have e : M (24 + ofM M (wAt W i) 1) * (ofM M (wAt W i) 3 - t) = (ofM M (wAt W i) 3 - t) * M (24 + ofM M (wAt W i) 1) := Int.mul_comm _ _
    refine ⟨by omega, fun q => ⟨?_, rfl⟩, fun q => ⟨by omega, ?_, rfl⟩⟩
    · rw [costM, if_pos (by omega), if_neg (by omega), e, Int.add_zero]
    · rw [costM, if_pos (by omega), if_pos q, e]

theorem dX5_put_0 : decode cX5_put 0 = .ok (.iload_n 2, 1) := by decide +kernel
theorem dX5_put_1 : decode cX5_put 1 = .ok (.bipush 7, 2) := by decide +kernel
theorem dX5_put_3 : decode cX5_put 3 = .ok (.imul, 1) := by decide +kernel
theorem dX5_put_4 : decode cX5_put 4 = .ok (.istore 4, 2) := by decide +kernel
theorem dX5_put_6 : decode cX5_put 6 = .ok (.aload_n 0, 1) := by decide +kernel
theorem dX5_put_7 : decode cX5_put 7 = .ok (.getfield 30, 3) := by decide +kernel
theorem dX5_put_10 : decode cX5_put 10 = .ok (.iload 4, 2) := by decide +kernel
theorem dX5_put_12 : decode cX5_put 12 = .ok (.iload_n 1, 1) := by decide +kernel
theorem dX5_put_13 : decode cX5_put 13 = .ok (.iadd, 1) := by decide +kernel
theorem dX5_put_14 : decode cX5_put 14 = .ok (.iaload, 1) := by decide +kernel
theorem dX5_put_15 : decode cX5_put 15 = .ok (.istore 5, 2) := by decide +kernel
theorem dX5_put_17 : decode cX5_put 17 = .ok (.aload_n 0, 1) := by decide +kernel
theorem dX5_put_18 : decode cX5_put 18 = .ok (.getfield 33, 3) := by decide +kernel
theorem dX5_put_21 : decode cX5_put 21 = .ok (.iload_n 2, 1) := by decide +kernel
theorem dX5_put_22 : decode cX5_put 22 = .ok (.laload, 1) := by decide +kernel
theorem dX5_put_23 : decode cX5_put 23 = .ok (.aload_n 0, 1) := by decide +kernel
theorem dX5_put_24 : decode cX5_put 24 = .ok (.iload_n 1, 1) := by decide +kernel
theorem dX5_put_25 : decode cX5_put 25 = .ok (.iload 5, 2) := by decide +kernel
theorem dX5_put_27 : decode cX5_put 27 = .ok (.invokevirtual 98, 3) := by decide +kernel
theorem dX5_put_30 : decode cX5_put 30 = .ok (.ladd, 1) := by decide +kernel
theorem dX5_put_31 : decode cX5_put 31 = .ok (.lstore 6, 2) := by decide +kernel
theorem dX5_put_33 : decode cX5_put 33 = .ok (.aload_n 0, 1) := by decide +kernel
theorem dX5_put_34 : decode cX5_put 34 = .ok (.getfield 33, 3) := by decide +kernel
theorem dX5_put_37 : decode cX5_put 37 = .ok (.iload_n 2, 1) := by decide +kernel
theorem dX5_put_38 : decode cX5_put 38 = .ok (.iconst 1, 1) := by decide +kernel
theorem dX5_put_39 : decode cX5_put 39 = .ok (.iadd, 1) := by decide +kernel
theorem dX5_put_40 : decode cX5_put 40 = .ok (.lload 6, 2) := by decide +kernel
theorem dX5_put_42 : decode cX5_put 42 = .ok (.lastore, 1) := by decide +kernel
theorem dX5_put_43 : decode cX5_put 43 = .ok (.iconst 0, 1) := by decide +kernel
theorem dX5_put_44 : decode cX5_put 44 = .ok (.istore 8, 2) := by decide +kernel
theorem dX5_put_46 : decode cX5_put 46 = .ok (.iload 8, 2) := by decide +kernel
theorem dX5_put_48 : decode cX5_put 48 = .ok (.aload_n 0, 1) := by decide +kernel
theorem dX5_put_49 : decode cX5_put 49 = .ok (.getfield 43, 3) := by decide +kernel
theorem dX5_put_52 : decode cX5_put 52 = .ok (.if_icmp .ge 108, 3) := by decide +kernel
theorem dX5_put_55 : decode cX5_put 55 = .ok (.iload 8, 2) := by decide +kernel
theorem dX5_put_57 : decode cX5_put 57 = .ok (.iload_n 1, 1) := by decide +kernel
theorem dX5_put_58 : decode cX5_put 58 = .ok (.if_icmp .eq 96, 3) := by decide +kernel
theorem dX5_put_61 : decode cX5_put 61 = .ok (.iload_n 3, 1) := by decide +kernel
theorem dX5_put_62 : decode cX5_put 62 = .ok (.iload 8, 2) := by decide +kernel
theorem dX5_put_64 : decode cX5_put 64 = .ok (.ishr, 1) := by decide +kernel
theorem dX5_put_65 : decode cX5_put 65 = .ok (.iconst 1, 1) := by decide +kernel
theorem dX5_put_66 : decode cX5_put 66 = .ok (.iand, 1) := by decide +kernel
theorem dX5_put_67 : decode cX5_put 67 = .ok (.ifCond .ne 87, 3) := by decide +kernel
theorem dX5_put_70 : decode cX5_put 70 = .ok (.iload 5, 2) := by decide +kernel
theorem dX5_put_72 : decode cX5_put 72 = .ok (.aload_n 0, 1) := by decide +kernel
theorem dX5_put_73 : decode cX5_put 73 = .ok (.getfield 15, 3) := by decide +kernel
theorem dX5_put_76 : decode cX5_put 76 = .ok (.iload_n 1, 1) := by decide +kernel
theorem dX5_put_77 : decode cX5_put 77 = .ok (.bipush 7, 2) := by decide +kernel
theorem dX5_put_79 : decode cX5_put 79 = .ok (.imul, 1) := by decide +kernel
theorem dX5_put_80 : decode cX5_put 80 = .ok (.iload 8, 2) := by decide +kernel
theorem dX5_put_82 : decode cX5_put 82 = .ok (.iadd, 1) := by decide +kernel
theorem dX5_put_83 : decode cX5_put 83 = .ok (.iaload, 1) := by decide +kernel
theorem dX5_put_84 : decode cX5_put 84 = .ok (.iadd, 1) := by decide +kernel
theorem dX5_put_85 : decode cX5_put 85 = .ok (.istore 9, 2) := by decide +kernel
theorem dX5_put_87 : decode cX5_put 87 = .ok (.iload 9, 2) := by decide +kernel
theorem dX5_put_89 : decode cX5_put 89 = .ok (.aload_n 0, 1) := by decide +kernel
theorem dX5_put_90 : decode cX5_put 90 = .ok (.getfield 30, 3) := by decide +kernel
theorem dX5_put_93 : decode cX5_put 93 = .ok (.iload 4, 2) := by decide +kernel
theorem dX5_put_95 : decode cX5_put 95 = .ok (.iload 8, 2) := by decide +kernel
theorem dX5_put_97 : decode cX5_put 97 = .ok (.iadd, 1) := by decide +kernel
theorem dX5_put_98 : decode cX5_put 98 = .ok (.iaload, 1) := by decide +kernel
theorem dX5_put_99 : decode cX5_put 99 = .ok (.if_icmp .ge 15, 3) := by decide +kernel
theorem dX5_put_102 : decode cX5_put 102 = .ok (.aload_n 0, 1) := by decide +kernel
theorem dX5_put_103 : decode cX5_put 103 = .ok (.getfield 30, 3) := by decide +kernel
theorem dX5_put_106 : decode cX5_put 106 = .ok (.iload 4, 2) := by decide +kernel
theorem dX5_put_108 : decode cX5_put 108 = .ok (.iload 8, 2) := by decide +kernel
theorem dX5_put_110 : decode cX5_put 110 = .ok (.iadd, 1) := by decide +kernel
theorem dX5_put_111 : decode cX5_put 111 = .ok (.iaload, 1) := by decide +kernel
theorem dX5_put_112 : decode cX5_put 112 = .ok (.istore 9, 2) := by decide +kernel
theorem dX5_put_114 : decode cX5_put 114 = .ok (.aload_n 0, 1) := by decide +kernel
theorem dX5_put_115 : decode cX5_put 115 = .ok (.getfield 30, 3) := by decide +kernel
theorem dX5_put_118 : decode cX5_put 118 = .ok (.iload 4, 2) := by decide +kernel
theorem dX5_put_120 : decode cX5_put 120 = .ok (.bipush 7, 2) := by decide +kernel
theorem dX5_put_122 : decode cX5_put 122 = .ok (.iadd, 1) := by decide +kernel
theorem dX5_put_123 : decode cX5_put 123 = .ok (.iload 8, 2) := by decide +kernel
theorem dX5_put_125 : decode cX5_put 125 = .ok (.iadd, 1) := by decide +kernel
theorem dX5_put_126 : decode cX5_put 126 = .ok (.iload 9, 2) := by decide +kernel
theorem dX5_put_128 : decode cX5_put 128 = .ok (.iastore, 1) := by decide +kernel
theorem dX5_put_129 : decode cX5_put 129 = .ok (.iload 9, 2) := by decide +kernel
theorem dX5_put_131 : decode cX5_put 131 = .ok (.aload_n 0, 1) := by decide +kernel
theorem dX5_put_132 : decode cX5_put 132 = .ok (.getfield 18, 3) := by decide +kernel
theorem dX5_put_135 : decode cX5_put 135 = .ok (.iload 8, 2) := by decide +kernel
theorem dX5_put_137 : decode cX5_put 137 = .ok (.iaload, 1) := by decide +kernel
theorem dX5_put_138 : decode cX5_put 138 = .ok (.if_icmp .le 16, 3) := by decide +kernel
theorem dX5_put_141 : decode cX5_put 141 = .ok (.lload 6, 2) := by decide +kernel
theorem dX5_put_143 : decode cX5_put 143 = .ok (.aload_n 0, 1) := by decide +kernel
theorem dX5_put_144 : decode cX5_put 144 = .ok (.iload 8, 2) := by decide +kernel
theorem dX5_put_146 : decode cX5_put 146 = .ok (.iload 9, 2) := by decide +kernel
theorem dX5_put_148 : decode cX5_put 148 = .ok (.invokevirtual 98, 3) := by decide +kernel
theorem dX5_put_151 : decode cX5_put 151 = .ok (.ladd, 1) := by decide +kernel
theorem dX5_put_152 : decode cX5_put 152 = .ok (.lstore 6, 2) := by decide +kernel
theorem dX5_put_154 : decode cX5_put 154 = .ok (.iinc 8 1, 3) := by decide +kernel
theorem dX5_put_157 : decode cX5_put 157 = .ok (.goto (-111), 3) := by decide +kernel
theorem dX5_put_160 : decode cX5_put 160 = .ok (.lload 6, 2) := by decide +kernel
theorem dX5_put_162 : decode cX5_put 162 = .ok (.lreturn, 1) := by decide +kernel
set_option maxRecDepth 20000 in
theorem s_X5_put_0 {l : Launch} {G : GT} {d : Nat} {Q : AV → AH → Prop} {H : AH} {a0 x1 x2 x3 : Int} (h_r0 : Lay LSea H a0) (h : (-2147483648 ≤ x2 * 7 ∧ x2 * 7 ≤ 2147483647) ∧ (-2147483648 ≤ (x2 * 7) + x1 ∧ (x2 * 7) + x1 ≤ 2147483647) ∧ (0 ≤ ((x2 * 7) + x1) ∧ ((x2 * 7) + x1) < 56) ∧ (0 ≤ x2 ∧ x2 < 8) ∧ CL l G mX5_price d 0 0 [vR a0, vI x1, vI (hg H (a0 + 7) ((x2 * 7) + x1))] H (fun r9 H1 => Lay LSea H1 a0 ∧ ∃ y1 : Int, r9 = vJ y1 ∧ (-9223372036854775808 ≤ (hg H (a0 + 8) x2) + y1 ∧ (hg H (a0 + 8) x2) + y1 ≤ 9223372036854775807) ∧ (-2147483648 ≤ x2 + 1 ∧ x2 + 1 ≤ 2147483647) ∧ (0 ≤ (x2 + 1) ∧ (x2 + 1) < 8) ∧ ∀ H2 : AH, H2 = hs H1 (a0 + 8) (x2 + 1) ((hg H (a0 + 8) x2) + y1) → AW l G mX5_put (d + 1) 0 0 Q 46 [vR a0, vI x1, vI x2, vI x3, vI (x2 * 7), vI (hg H (a0 + 7) ((x2 * 7) + x1)), vJ ((hg H (a0 + 8) x2) + y1), vU, vI 0, vU] [] 0 0 H2)) : AW l G mX5_put (d + 1) 0 0 Q 0 [vR a0, vI x1, vI x2, vI x3, vU, vU, vU, vU, vU, vU] [] 0 0 H := by
  refine a_iload_n dX5_put_0 rfl rfl ?_
  refine a_bipush dX5_put_1 (by decide) ?_
  obtain ⟨q3_0, h⟩ := h
  refine a_imul dX5_put_3 q3_0 ?_
  refine a_istore dX5_put_4 (Nat.le_of_ble_eq_true rfl) (ls' := [vR a0, vI x1, vI x2, vI x3, vI (x2 * 7), vU, vU, vU, vU, vU]) rfl ?_
  refine a_aload_n dX5_put_6 rfl rfl ?_
  refine a_getR dX5_put_7 fw_RX5_30 rfl rfl (kSea_0 h_r0) (rSea_0_8 h_r0) ?_
  refine a_iload dX5_put_10 rfl ?_
  refine a_iload_n dX5_put_12 rfl rfl ?_
  obtain ⟨q13_0, h⟩ := h
  refine a_iadd dX5_put_13 q13_0 ?_
  obtain ⟨q14_0, h⟩ := h
  refine b_iald dX5_put_14 (kSea_7 h_r0) (nSea_7 h_r0) q14_0 ?_
  refine a_istore dX5_put_15 (Nat.le_of_ble_eq_true rfl) (ls' := [vR a0, vI x1, vI x2, vI x3, vI (x2 * 7), vI (hg H (a0 + 7) ((x2 * 7) + x1)), vU, vU, vU, vU]) rfl ?_
  refine a_aload_n dX5_put_17 rfl rfl ?_
  refine a_getR dX5_put_18 fw_RX5_33 rfl rfl (kSea_0 h_r0) (rSea_0_9 h_r0) ?_
  refine a_iload_n dX5_put_21 rfl rfl ?_
  obtain ⟨q22_0, h⟩ := h
  refine b_lald dX5_put_22 (kSea_8 h_r0) (nSea_8 h_r0) q22_0 ?_
  refine a_aload_n dX5_put_23 rfl rfl ?_
  refine a_iload_n dX5_put_24 rfl rfl ?_
  refine a_iload dX5_put_25 rfl ?_
  refine a_callV dX5_put_27 cw_X5_put_27 (as := [vI x1, vI (hg H (a0 + 7) ((x2 * 7) + x1))]) rfl rfl (kSea_0 h_r0) (Nat.le_refl _) (Nat.le_of_ble_eq_true rfl) (nocov rfl) (Nat.le_of_ble_eq_true rfl) (Nat.le_of_ble_eq_true rfl) (CL.mono h (fun r9 H1 h => ?_))
  obtain ⟨h_r0_1, y1, e9, h⟩ := h
  rw [e9]
  show AW l G mX5_put (d + 1) 0 0 Q 30 [vR a0, vI x1, vI x2, vI x3, vI (x2 * 7), vI (hg H (a0 + 7) ((x2 * 7) + x1)), vU, vU, vU, vU] [vJ y1, vJ (hg H (a0 + 8) x2)] 0 0 H1
  obtain ⟨q30_0, h⟩ := h
  refine a_ladd dX5_put_30 q30_0 ?_
  refine a_lstore dX5_put_31 (Nat.le_of_ble_eq_true rfl) (ls' := [vR a0, vI x1, vI x2, vI x3, vI (x2 * 7), vI (hg H (a0 + 7) ((x2 * 7) + x1)), vJ ((hg H (a0 + 8) x2) + y1), vU, vU, vU]) rfl ?_
  refine a_aload_n dX5_put_33 rfl rfl ?_
  refine a_getR dX5_put_34 fw_RX5_33 rfl rfl (kSea_0 h_r0_1) (rSea_0_9 h_r0_1) ?_
  refine a_iload_n dX5_put_37 rfl rfl ?_
  refine a_iconst dX5_put_38 ⟨by decide, by decide⟩ ?_
  obtain ⟨q39_0, h⟩ := h
  refine a_iadd dX5_put_39 q39_0 ?_
  refine a_lload dX5_put_40 rfl ?_
  obtain ⟨q42_0, h⟩ := h
  refine b_last dX5_put_42 (kSea_8 h_r0_1) (nSea_8 h_r0_1) q42_0 ?_
  have h_r0_2 := Lay.wr h_r0_1 ok_Sea (nrf_arr (kSea_8 h_r0_1) (by decide) (by decide)) (i := (x2 + 1)) (x := ((hg H (a0 + 8) x2) + y1))
  generalize e_H2 : hs H1 (a0 + 8) (x2 + 1) ((hg H (a0 + 8) x2) + y1) = H2 at h_r0_2 ⊢
  replace h := h H2 e_H2.symm
  refine a_iconst dX5_put_43 ⟨by decide, by decide⟩ ?_
  refine a_istore dX5_put_44 (Nat.le_of_ble_eq_true rfl) (ls' := [vR a0, vI x1, vI x2, vI x3, vI (x2 * 7), vI (hg H (a0 + 7) ((x2 * 7) + x1)), vJ ((hg H (a0 + 8) x2) + y1), vU, vI 0, vU]) rfl ?_
  exact h

set_option maxRecDepth 20000 in
theorem s_X5_put_46 {l : Launch} {G : GT} {d : Nat} {Q : AV → AH → Prop} {H : AH} {a0 x1 x2 x3 x4 x5 x6 x8 : Int} (h_r0 : Lay LSea H a0) (h : ((hg H a0 0) ≤ x8 → Q (vJ x6) H) ∧ (x8 < (hg H a0 0) → (x8 = x1 → (-2147483648 ≤ x8 + 1 ∧ x8 + 1 ≤ 2147483647) ∧ AW l G mX5_put (d + 1) 0 0 Q 46 [vR a0, vI x1, vI x2, vI x3, vI x4, vI x5, vJ x6, vU, vI (x8 + 1), vU] [] 0 0 H) ∧ (¬ x8 = x1 → (0 ≤ x8 ∧ x8 ≤ 31) ∧ (¬ ((shr x3 x8) % 2) = 0 → (-2147483648 ≤ x8 + 1 ∧ x8 + 1 ≤ 2147483647) ∧ AW l G mX5_put (d + 1) 0 0 Q 46 [vR a0, vI x1, vI x2, vI x3, vI x4, vI x5, vJ x6, vU, vI (x8 + 1), vU] [] 0 0 H) ∧ (((shr x3 x8) % 2) = 0 → (-2147483648 ≤ x1 * 7 ∧ x1 * 7 ≤ 2147483647) ∧ (-2147483648 ≤ (x1 * 7) + x8 ∧ (x1 * 7) + x8 ≤ 2147483647) ∧ (0 ≤ ((x1 * 7) + x8) ∧ ((x1 * 7) + x8) < 49) ∧ (-2147483648 ≤ x5 + (hg H (a0 + 2) ((x1 * 7) + x8)) ∧ x5 + (hg H (a0 + 2) ((x1 * 7) + x8)) ≤ 2147483647) ∧ (-2147483648 ≤ x4 + x8 ∧ x4 + x8 ≤ 2147483647) ∧ (0 ≤ (x4 + x8) ∧ (x4 + x8) < 56) ∧ ((hg H (a0 + 7) (x4 + x8)) ≤ (x5 + (hg H (a0 + 2) ((x1 * 7) + x8))) → (-2147483648 ≤ x4 + 7 ∧ x4 + 7 ≤ 2147483647) ∧ (-2147483648 ≤ (x4 + 7) + x8 ∧ (x4 + 7) + x8 ≤ 2147483647) ∧ (0 ≤ ((x4 + 7) + x8) ∧ ((x4 + 7) + x8) < 56) ∧ ∀ H1 : AH, H1 = hs H (a0 + 7) ((x4 + 7) + x8) (x5 + (hg H (a0 + 2) ((x1 * 7) + x8))) → (0 ≤ x8 ∧ x8 < 7) ∧ ((x5 + (hg H (a0 + 2) ((x1 * 7) + x8))) ≤ (hg H1 (a0 + 3) x8) → (-2147483648 ≤ x8 + 1 ∧ x8 + 1 ≤ 2147483647) ∧ AW l G mX5_put (d + 1) 0 0 Q 46 [vR a0, vI x1, vI x2, vI x3, vI x4, vI x5, vJ x6, vU, vI (x8 + 1), vU] [] 0 0 H1) ∧ ((hg H1 (a0 + 3) x8) < (x5 + (hg H (a0 + 2) ((x1 * 7) + x8))) → CL l G mX5_price d 0 0 [vR a0, vI x8, vI (x5 + (hg H (a0 + 2) ((x1 * 7) + x8)))] H1 (fun r9 H2 => Lay LSea H2 a0 ∧ ∃ y2 : Int, r9 = vJ y2 ∧ (-9223372036854775808 ≤ x6 + y2 ∧ x6 + y2 ≤ 9223372036854775807) ∧ (-2147483648 ≤ x8 + 1 ∧ x8 + 1 ≤ 2147483647) ∧ AW l G mX5_put (d + 1) 0 0 Q 46 [vR a0, vI x1, vI x2, vI x3, vI x4, vI x5, vJ (x6 + y2), vU, vI (x8 + 1), vU] [] 0 0 H2))) ∧ ((x5 + (hg H (a0 + 2) ((x1 * 7) + x8))) < (hg H (a0 + 7) (x4 + x8)) → (-2147483648 ≤ x4 + 7 ∧ x4 + 7 ≤ 2147483647) ∧ (-2147483648 ≤ (x4 + 7) + x8 ∧ (x4 + 7) + x8 ≤ 2147483647) ∧ (0 ≤ ((x4 + 7) + x8) ∧ ((x4 + 7) + x8) < 56) ∧ ∀ H1 : AH, H1 = hs H (a0 + 7) ((x4 + 7) + x8) (hg H (a0 + 7) (x4 + x8)) → (0 ≤ x8 ∧ x8 < 7) ∧ ((hg H (a0 + 7) (x4 + x8)) ≤ (hg H1 (a0 + 3) x8) → (-2147483648 ≤ x8 + 1 ∧ x8 + 1 ≤ 2147483647) ∧ AW l G mX5_put (d + 1) 0 0 Q 46 [vR a0, vI x1, vI x2, vI x3, vI x4, vI x5, vJ x6, vU, vI (x8 + 1), vU] [] 0 0 H1) ∧ ((hg H1 (a0 + 3) x8) < (hg H (a0 + 7) (x4 + x8)) → CL l G mX5_price d 0 0 [vR a0, vI x8, vI (hg H (a0 + 7) (x4 + x8))] H1 (fun r9 H2 => Lay LSea H2 a0 ∧ ∃ y2 : Int, r9 = vJ y2 ∧ (-9223372036854775808 ≤ x6 + y2 ∧ x6 + y2 ≤ 9223372036854775807) ∧ (-2147483648 ≤ x8 + 1 ∧ x8 + 1 ≤ 2147483647) ∧ AW l G mX5_put (d + 1) 0 0 Q 46 [vR a0, vI x1, vI x2, vI x3, vI x4, vI x5, vJ (x6 + y2), vU, vI (x8 + 1), vU] [] 0 0 H2))))))) : AW l G mX5_put (d + 1) 0 0 Q 46 [vR a0, vI x1, vI x2, vI x3, vI x4, vI x5, vJ x6, vU, vI x8, vU] [] 0 0 H := by
  refine a_iload dX5_put_46 rfl ?_
  refine a_aload_n dX5_put_48 rfl rfl ?_
  refine a_getI dX5_put_49 fw_RX5_43 rfl rfl (kSea_0 h_r0) ?_
  refine a_icmp_ge dX5_put_52 (tgt := 160) rfl (fun c52 => ?_) (fun c52 => ?_)
  · replace h := h.1 c52
    refine a_lload dX5_put_160 rfl ?_
    exact a_lret dX5_put_162 rfl (Nat.le_of_ble_eq_true rfl) (Nat.le_of_ble_eq_true rfl) h
  · replace h := h.2 c52
    refine a_iload dX5_put_55 rfl ?_
    refine a_iload_n dX5_put_57 rfl rfl ?_
    refine a_icmp_eq dX5_put_58 (tgt := 154) rfl (fun c58 => ?_) (fun c58 => ?_)
    · replace h := h.1 c58
      obtain ⟨q154_0, h⟩ := h
      refine a_iinc dX5_put_154 rfl (Nat.le_of_ble_eq_true rfl) (by decide) q154_0 (ls' := [vR a0, vI x1, vI x2, vI x3, vI x4, vI x5, vJ x6, vU, vI (x8 + 1), vU]) rfl ?_
      refine a_goto dX5_put_157 (tgt := 46) rfl ?_
      exact h
    · replace h := h.2 c58
      refine a_iload_n dX5_put_61 rfl rfl ?_
      refine a_iload dX5_put_62 rfl ?_
      obtain ⟨q64_0, h⟩ := h
      refine a_ishr dX5_put_64 q64_0 ?_
      refine a_iconst dX5_put_65 ⟨by decide, by decide⟩ ?_
      refine a_iand1 dX5_put_66 ?_
      refine a_if_ne dX5_put_67 (tgt := 154) rfl (fun c67 => ?_) (fun c67 => ?_)
      · replace h := h.1 c67
        obtain ⟨q154_0, h⟩ := h
        refine a_iinc dX5_put_154 rfl (Nat.le_of_ble_eq_true rfl) (by decide) q154_0 (ls' := [vR a0, vI x1, vI x2, vI x3, vI x4, vI x5, vJ x6, vU, vI (x8 + 1), vU]) rfl ?_
        refine a_goto dX5_put_157 (tgt := 46) rfl ?_
        exact h
      · replace h := h.2 c67
        refine a_iload dX5_put_70 rfl ?_
        refine a_aload_n dX5_put_72 rfl rfl ?_
        refine a_getR dX5_put_73 fw_RX5_15 rfl rfl (kSea_0 h_r0) (rSea_0_3 h_r0) ?_
        refine a_iload_n dX5_put_76 rfl rfl ?_
        refine a_bipush dX5_put_77 (by decide) ?_
        obtain ⟨q79_0, h⟩ := h
        refine a_imul dX5_put_79 q79_0 ?_
        refine a_iload dX5_put_80 rfl ?_
        obtain ⟨q82_0, h⟩ := h
        refine a_iadd dX5_put_82 q82_0 ?_
        obtain ⟨q83_0, h⟩ := h
        refine b_iald dX5_put_83 (kSea_2 h_r0) (nSea_2 h_r0) q83_0 ?_
        obtain ⟨q84_0, h⟩ := h
        refine a_iadd dX5_put_84 q84_0 ?_
        refine a_istore dX5_put_85 (Nat.le_of_ble_eq_true rfl) (ls' := [vR a0, vI x1, vI x2, vI x3, vI x4, vI x5, vJ x6, vU, vI x8, vI (x5 + (hg H (a0 + 2) ((x1 * 7) + x8)))]) rfl ?_
        refine a_iload dX5_put_87 rfl ?_
        refine a_aload_n dX5_put_89 rfl rfl ?_
        refine a_getR dX5_put_90 fw_RX5_30 rfl rfl (kSea_0 h_r0) (rSea_0_8 h_r0) ?_
        refine a_iload dX5_put_93 rfl ?_
        refine a_iload dX5_put_95 rfl ?_
        obtain ⟨q97_0, h⟩ := h
        refine a_iadd dX5_put_97 q97_0 ?_
        obtain ⟨q98_0, h⟩ := h
        refine b_iald dX5_put_98 (kSea_7 h_r0) (nSea_7 h_r0) q98_0 ?_
        refine a_icmp_ge dX5_put_99 (tgt := 114) rfl (fun c99 => ?_) (fun c99 => ?_)
        · replace h := h.1 c99
          refine a_aload_n dX5_put_114 rfl rfl ?_
          refine a_getR dX5_put_115 fw_RX5_30 rfl rfl (kSea_0 h_r0) (rSea_0_8 h_r0) ?_
          refine a_iload dX5_put_118 rfl ?_
          refine a_bipush dX5_put_120 (by decide) ?_
          obtain ⟨q122_0, h⟩ := h
          refine a_iadd dX5_put_122 q122_0 ?_
          refine a_iload dX5_put_123 rfl ?_
          obtain ⟨q125_0, h⟩ := h
          refine a_iadd dX5_put_125 q125_0 ?_
          refine a_iload dX5_put_126 rfl ?_
          obtain ⟨q128_0, h⟩ := h
          refine b_iast dX5_put_128 (kSea_7 h_r0) (nSea_7 h_r0) q128_0 ?_
          have h_r0_1 := Lay.wr h_r0 ok_Sea (nrf_arr (kSea_7 h_r0) (by decide) (by decide)) (i := ((x4 + 7) + x8)) (x := (x5 + (hg H (a0 + 2) ((x1 * 7) + x8))))
          generalize e_H1 : hs H (a0 + 7) ((x4 + 7) + x8) (x5 + (hg H (a0 + 2) ((x1 * 7) + x8))) = H1 at h_r0_1 ⊢
          replace h := h H1 e_H1.symm
          refine a_iload dX5_put_129 rfl ?_
          refine a_aload_n dX5_put_131 rfl rfl ?_
          refine a_getR dX5_put_132 fw_RX5_18 rfl rfl (kSea_0 h_r0_1) (rSea_0_4 h_r0_1) ?_
          refine a_iload dX5_put_135 rfl ?_
          obtain ⟨q137_0, h⟩ := h
          refine b_iald dX5_put_137 (kSea_3 h_r0_1) (nSea_3 h_r0_1) q137_0 ?_
          refine a_icmp_le dX5_put_138 (tgt := 154) rfl (fun c138 => ?_) (fun c138 => ?_)
          · replace h := h.1 c138
            obtain ⟨q154_0, h⟩ := h
            refine a_iinc dX5_put_154 rfl (Nat.le_of_ble_eq_true rfl) (by decide) q154_0 (ls' := [vR a0, vI x1, vI x2, vI x3, vI x4, vI x5, vJ x6, vU, vI (x8 + 1), vI (x5 + (hg H (a0 + 2) ((x1 * 7) + x8)))]) rfl ?_
            refine a_goto dX5_put_157 (tgt := 46) rfl ?_
            exact a_weak (wk_e (wk_e (wk_e (wk_e (wk_e (wk_e (wk_e (wk_u (wk_e (wk_u wk_n)))))))))) h
          · replace h := h.2 c138
            refine a_lload dX5_put_141 rfl ?_
            refine a_aload_n dX5_put_143 rfl rfl ?_
            refine a_iload dX5_put_144 rfl ?_
            refine a_iload dX5_put_146 rfl ?_
            refine a_callV dX5_put_148 cw_X5_put_148 (as := [vI x8, vI (x5 + (hg H (a0 + 2) ((x1 * 7) + x8)))]) rfl rfl (kSea_0 h_r0_1) (Nat.le_refl _) (Nat.le_of_ble_eq_true rfl) (nocov rfl) (Nat.le_of_ble_eq_true rfl) (Nat.le_of_ble_eq_true rfl) (CL.mono h (fun r9 H2 h => ?_))
            obtain ⟨h_r0_2, y2, e9, h⟩ := h
            rw [e9]
            show AW l G mX5_put (d + 1) 0 0 Q 151 [vR a0, vI x1, vI x2, vI x3, vI x4, vI x5, vJ x6, vU, vI x8, vI (x5 + (hg H (a0 + 2) ((x1 * 7) + x8)))] [vJ y2, vJ x6] 0 0 H2
            obtain ⟨q151_0, h⟩ := h
            refine a_ladd dX5_put_151 q151_0 ?_
            refine a_lstore dX5_put_152 (Nat.le_of_ble_eq_true rfl) (ls' := [vR a0, vI x1, vI x2, vI x3, vI x4, vI x5, vJ (x6 + y2), vU, vI x8, vI (x5 + (hg H (a0 + 2) ((x1 * 7) + x8)))]) rfl ?_
            obtain ⟨q154_0, h⟩ := h
            refine a_iinc dX5_put_154 rfl (Nat.le_of_ble_eq_true rfl) (by decide) q154_0 (ls' := [vR a0, vI x1, vI x2, vI x3, vI x4, vI x5, vJ (x6 + y2), vU, vI (x8 + 1), vI (x5 + (hg H (a0 + 2) ((x1 * 7) + x8)))]) rfl ?_
            refine a_goto dX5_put_157 (tgt := 46) rfl ?_
            exact a_weak (wk_e (wk_e (wk_e (wk_e (wk_e (wk_e (wk_e (wk_u (wk_e (wk_u wk_n)))))))))) h
        · replace h := h.2 c99
          refine a_aload_n dX5_put_102 rfl rfl ?_
          refine a_getR dX5_put_103 fw_RX5_30 rfl rfl (kSea_0 h_r0) (rSea_0_8 h_r0) ?_
          refine a_iload dX5_put_106 rfl ?_
          refine a_iload dX5_put_108 rfl ?_
          refine a_iadd dX5_put_110 q97_0 ?_
          refine b_iald dX5_put_111 (kSea_7 h_r0) (nSea_7 h_r0) q98_0 ?_
          refine a_istore dX5_put_112 (Nat.le_of_ble_eq_true rfl) (ls' := [vR a0, vI x1, vI x2, vI x3, vI x4, vI x5, vJ x6, vU, vI x8, vI (hg H (a0 + 7) (x4 + x8))]) rfl ?_
          refine a_aload_n dX5_put_114 rfl rfl ?_
          refine a_getR dX5_put_115 fw_RX5_30 rfl rfl (kSea_0 h_r0) (rSea_0_8 h_r0) ?_
          refine a_iload dX5_put_118 rfl ?_
          refine a_bipush dX5_put_120 (by decide) ?_
          obtain ⟨q122_0, h⟩ := h
          refine a_iadd dX5_put_122 q122_0 ?_
          refine a_iload dX5_put_123 rfl ?_
          obtain ⟨q125_0, h⟩ := h
          refine a_iadd dX5_put_125 q125_0 ?_
          refine a_iload dX5_put_126 rfl ?_
          obtain ⟨q128_0, h⟩ := h
          refine b_iast dX5_put_128 (kSea_7 h_r0) (nSea_7 h_r0) q128_0 ?_
          have h_r0_1 := Lay.wr h_r0 ok_Sea (nrf_arr (kSea_7 h_r0) (by decide) (by decide)) (i := ((x4 + 7) + x8)) (x := (hg H (a0 + 7) (x4 + x8)))
          generalize e_H1 : hs H (a0 + 7) ((x4 + 7) + x8) (hg H (a0 + 7) (x4 + x8)) = H1 at h_r0_1 ⊢
          replace h := h H1 e_H1.symm
          refine a_iload dX5_put_129 rfl ?_
          refine a_aload_n dX5_put_131 rfl rfl ?_
          refine a_getR dX5_put_132 fw_RX5_18 rfl rfl (kSea_0 h_r0_1) (rSea_0_4 h_r0_1) ?_
          refine a_iload dX5_put_135 rfl ?_
          obtain ⟨q137_0, h⟩ := h
          refine b_iald dX5_put_137 (kSea_3 h_r0_1) (nSea_3 h_r0_1) q137_0 ?_
          refine a_icmp_le dX5_put_138 (tgt := 154) rfl (fun c138 => ?_) (fun c138 => ?_)
          · replace h := h.1 c138
            obtain ⟨q154_0, h⟩ := h
            refine a_iinc dX5_put_154 rfl (Nat.le_of_ble_eq_true rfl) (by decide) q154_0 (ls' := [vR a0, vI x1, vI x2, vI x3, vI x4, vI x5, vJ x6, vU, vI (x8 + 1), vI (hg H (a0 + 7) (x4 + x8))]) rfl ?_
            refine a_goto dX5_put_157 (tgt := 46) rfl ?_
            exact a_weak (wk_e (wk_e (wk_e (wk_e (wk_e (wk_e (wk_e (wk_u (wk_e (wk_u wk_n)))))))))) h
          · replace h := h.2 c138
            refine a_lload dX5_put_141 rfl ?_
            refine a_aload_n dX5_put_143 rfl rfl ?_
            refine a_iload dX5_put_144 rfl ?_
            refine a_iload dX5_put_146 rfl ?_
            refine a_callV dX5_put_148 cw_X5_put_148 (as := [vI x8, vI (hg H (a0 + 7) (x4 + x8))]) rfl rfl (kSea_0 h_r0_1) (Nat.le_refl _) (Nat.le_of_ble_eq_true rfl) (nocov rfl) (Nat.le_of_ble_eq_true rfl) (Nat.le_of_ble_eq_true rfl) (CL.mono h (fun r9 H2 h => ?_))
            obtain ⟨h_r0_2, y2, e9, h⟩ := h
            rw [e9]
            show AW l G mX5_put (d + 1) 0 0 Q 151 [vR a0, vI x1, vI x2, vI x3, vI x4, vI x5, vJ x6, vU, vI x8, vI (hg H (a0 + 7) (x4 + x8))] [vJ y2, vJ x6] 0 0 H2
            obtain ⟨q151_0, h⟩ := h
            refine a_ladd dX5_put_151 q151_0 ?_
            refine a_lstore dX5_put_152 (Nat.le_of_ble_eq_true rfl) (ls' := [vR a0, vI x1, vI x2, vI x3, vI x4, vI x5, vJ (x6 + y2), vU, vI x8, vI (hg H (a0 + 7) (x4 + x8))]) rfl ?_
            obtain ⟨q154_0, h⟩ := h
            refine a_iinc dX5_put_154 rfl (Nat.le_of_ble_eq_true rfl) (by decide) q154_0 (ls' := [vR a0, vI x1, vI x2, vI x3, vI x4, vI x5, vJ (x6 + y2), vU, vI (x8 + 1), vI (hg H (a0 + 7) (x4 + x8))]) rfl ?_
            refine a_goto dX5_put_157 (tgt := 46) rfl ?_
            exact a_weak (wk_e (wk_e (wk_e (wk_e (wk_e (wk_e (wk_e (wk_u (wk_e (wk_u wk_n)))))))))) h

abbrev tI (M : Row) (r : Int) (W : List Int) (T : List (Int × Int)) (i : Int) : Int := tmA M (baseM M r (wAt W i)) T (wAt W i)
/-- a depth's row: how soon each flight can be that stands not yet -/
def RT (H : AH) (s : Int) (M : Row) (r : Int) (W : List Int) (used : Int) (T : List (Int × Int)) (dp : Int) : Prop := ∀ j : Int, 0 ≤ j ∧ j < W.length → shr used j % 2 = 0 → hg H (s + 7) (dp * 7 + j) = tI M r W T j
abbrev TI (M : Row) (r : Int) (W : List Int) (T : List (Int × Int)) (i : Int) : List (Int × Int) := T ++ [(wAt W i, tI M r W T i)]
def pPut (s dp : Int) : Int → Int → Prop := fun b i => (b = s + 8 ∧ i = dp + 1) ∨ (b = s + 7 ∧ (dp + 1) * 7 ≤ i)
theorem pPut_nrf {H : AH} {s dp : Int} (hL : Lay LSea H s) : ∀ c i, pPut s dp c i → nrf H c i := by
  rintro c i (⟨rfl, -⟩ | ⟨rfl, -⟩)
  · exact nrf_arr (kSea_8 hL) (by decide) (by decide)
  · exact nrf_arr (kSea_7 hL) (by decide) (by decide)
theorem pPut_off {s dp : Int} : ∀ c i, pPut s dp c i → offE s c i := by
  rintro c i (⟨rfl, -⟩ | ⟨rfl, -⟩)
  · exact Or.inl (by omega)
  · exact Or.inl (by omega)
theorem k_put {l : Launch} {G : GT} {d : Nat} {H : AH} {s i dp used c B r : Int} {M : Row} {W : List Int} {T : List (Int × Int)} (hE : SE H s M W) (hM : okM M) (hW : ∀ x ∈ W, fl M x) (hW7 : W.length ≤ 7) (hi : 0 ≤ i ∧ i < W.length) (hdp : 0 ≤ dp ∧ dp < W.length) (hu : 0 ≤ used ∧ used < 128) (hui : shr used i % 2 = 0) (hR : RT H s M r W used T dp) (hT : okT M T B) (hB : 299400 ≤ B ∧ B + 1200 ≤ 400000) (hc : hg H (s + 8) dp = c) (hc0 : 0 ≤ c ∧ c ≤ 100000000000) (hd : 1 ≤ d := by omega) :
    CL l G mX5_put d 0 0 [vR s, vI i, vI dp, vI used] H (fun v H' => v = vJ (c + costM M (wAt W i) (tI M r W T i) + lbS M r W (ior used (pw i)) (TI M r W T i) W.length) ∧ only H H' (pPut s dp) ∧ hg H' (s + 8) (dp + 1) = c + costM M (wAt W i) (tI M r W T i) ∧ RT H' s M r W (ior used (pw i)) (TI M r W T i) (dp + 1)) := by
  obtain ⟨d, rfl⟩ : ∃ k, d = k + 1 := ⟨d - 1, by omega⟩
  have hf := hW _ (wAt_mem hi)
  have hb := baseM_in hM (r := r) hf
  have ht : 0 ≤ tI M r W T i ∧ tI M r W T i ≤ B + 600 := tmA_in hM (b := baseM M r (wAt W i)) (B := B) hf (by omega) hT
  have hco := hM.cost hf (t := tI M r W T i) (by omega)
  have hT' : okT M (TI M r W T i) (B + 600) := hT.snoc (by omega) hf ht
  refine CL.of (by decide) rfl (Nat.le_of_ble_eq_true rfl) (s_X5_put_0 hE.1 ?_)
  rw [hR i hi hui, hc]
  refine ⟨by omega, by omega, by omega, by omega, CL.mono (k_price hE hM hW hW7 hi (by omega)) ?_⟩
  rintro r9 H1 ⟨rfl, rfl⟩
  refine ⟨hE.1, _, rfl, by omega, by omega, by omega, fun H2 e2 => ?_⟩
  have key : ∀ j, j ≤ W.length → ∀ H3, only H1 H3 (pPut s dp) → hg H3 (s + 8) (dp + 1) = c + costM M (wAt W i) (tI M r W T i) → (∀ k : Int, 0 ≤ k ∧ k < j → shr (ior used (pw i)) k % 2 = 0 → hg H3 (s + 7) ((dp + 1) * 7 + k) = tmA M (baseM M r (wAt W k)) (TI M r W T i) (wAt W k)) →
      AW l G mX5_put (d + 1) 0 0 (fun v H' => v = vJ (c + costM M (wAt W i) (tI M r W T i) + lbS M r W (ior used (pw i)) (TI M r W T i) W.length) ∧ only H1 H' (pPut s dp) ∧ hg H' (s + 8) (dp + 1) = c + costM M (wAt W i) (tI M r W T i) ∧ RT H' s M r W (ior used (pw i)) (TI M r W T i) (dp + 1)) 46 [vR s, vI i, vI dp, vI used, vI (dp * 7), vI (tI M r W T i), vJ (c + costM M (wAt W i) (tI M r W T i) + lbS M r W (ior used (pw i)) (TI M r W T i) j), vU, vI j, vU] [] 0 0 H3 := by
    refine upN _ ?_ ?_
    · intro j hj ih H3 ho h8 h7
      have hE3 := seO hE ho (pPut_nrf hE.1) pPut_off
      have hfj := hW _ (wAt_mem (W := W) (k := j) (by omega))
      have lk := lbK_in (r := r) hM hW (used := ior used (pw i)) hT' (by omega) hj
      have ls := sm_in (f := lbK M r W (ior used (pw i)) (TI M r W T i)) (lo := 0) (hi := 5000000000) (n := j) (fun k hk => lbK_in (r := r) hM hW hT' (by omega) (by omega))
      have ls' : 0 ≤ lbS M r W (ior used (pw i)) (TI M r W T i) j ∧ lbS M r W (ior used (pw i)) (TI M r W T i) j ≤ 35000000000 := by unfold lbS; omega
      have ap := hM.apart hf hfj
      have bj := baseM_in hM (r := r) hfj
      have tj := tmA_in hM (b := baseM M r (wAt W j)) (B := B) hfj (by omega) hT
      have eS : lbS M r W (ior used (pw i)) (TI M r W T i) (j + 1) = lbS M r W (ior used (pw i)) (TI M r W T i) j + lbK M r W (ior used (pw i)) (TI M r W T i) j := rfl
      have iffU := shr_ior (used := used) (k := i) (j := j) hu.1 hi.1 (by omega)
      have skip : ¬ shr (ior used (pw i)) j % 2 = 0 → AW l G mX5_put (d + 1) 0 0 (fun v H' => v = vJ (c + costM M (wAt W i) (tI M r W T i) + lbS M r W (ior used (pw i)) (TI M r W T i) W.length) ∧ only H1 H' (pPut s dp) ∧ hg H' (s + 8) (dp + 1) = c + costM M (wAt W i) (tI M r W T i) ∧ RT H' s M r W (ior used (pw i)) (TI M r W T i) (dp + 1)) 46 [vR s, vI i, vI dp, vI used, vI (dp * 7), vI (tI M r W T i), vJ (c + costM M (wAt W i) (tI M r W T i) + lbS M r W (ior used (pw i)) (TI M r W T i) j), vU, vI (j + 1), vU] [] 0 0 H3 := fun z => by
        have := ih H3 ho h8 (fun k hk q => by
          by_cases e : k = j
          · subst e; exact absurd q z
          · exact h7 k (by omega) q)
        rw [eS, lbK, if_neg z, Int.add_zero] at this
        exact this
      refine s_X5_put_46 hE3.1 ?_
      rw [hE3.2.1.1]
      refine ⟨fun q => absurd q (by omega), fun _ => ⟨fun q => ⟨by omega, skip (fun z => (iffU.mp z).1 q)⟩, fun q => ⟨by omega, fun q2 => ⟨by omega, skip (fun z => q2 (iffU.mp z).2)⟩, fun q2 => ?_⟩⟩⟩
      have hun : shr (ior used (pw i)) j % 2 = 0 := iffU.mpr ⟨q, q2⟩
      have g7 : hg H3 (s + 7) (dp * 7 + j) = tmA M (baseM M r (wAt W j)) T (wAt W j) := by
        rw [ho.2.2 _ _ (by rintro (⟨z, -⟩ | ⟨-, z⟩) <;> omega)]
        exact hR j (by omega) q2
      have g2 := hE3.2.2.2 i j hi (by omega)
      rw [g7, g2]
      have tn : tmA M (baseM M r (wAt W j)) (TI M r W T i) (wAt W j) = max (tmA M (baseM M r (wAt W j)) T (wAt W j)) (tI M r W T i + apartM M (wAt W i) (wAt W j)) := tmA_snoc _ _ _ _ _
      have tn2 := tmA_in hM (b := baseM M r (wAt W j)) (B := B + 600) hfj (by omega) hT'
      -- the way on, with the new time
      have go : ∀ y, y = tmA M (baseM M r (wAt W j)) (TI M r W T i) (wAt W j) → ∀ H4, H4 = hs H3 (s + 7) (dp * 7 + 7 + j) y → (0 ≤ (j : Int) ∧ (j : Int) < 7) ∧ (y ≤ hg H4 (s + 3) j → (-2147483648 ≤ (j : Int) + 1 ∧ (j : Int) + 1 ≤ 2147483647) ∧ AW l G mX5_put (d + 1) 0 0 (fun v H' => v = vJ (c + costM M (wAt W i) (tI M r W T i) + lbS M r W (ior used (pw i)) (TI M r W T i) W.length) ∧ only H1 H' (pPut s dp) ∧ hg H' (s + 8) (dp + 1) = c + costM M (wAt W i) (tI M r W T i) ∧ RT H' s M r W (ior used (pw i)) (TI M r W T i) (dp + 1)) 46 [vR s, vI i, vI dp, vI used, vI (dp * 7), vI (tI M r W T i), vJ (c + costM M (wAt W i) (tI M r W T i) + lbS M r W (ior used (pw i)) (TI M r W T i) j), vU, vI (j + 1), vU] [] 0 0 H4) ∧ (hg H4 (s + 3) j < y → CL l G mX5_price d 0 0 [vR s, vI j, vI y] H4 (fun r9 H5 => Lay LSea H5 s ∧ ∃ y2 : Int, r9 = vJ y2 ∧ (-9223372036854775808 ≤ (c + costM M (wAt W i) (tI M r W T i) + lbS M r W (ior used (pw i)) (TI M r W T i) j) + y2 ∧ (c + costM M (wAt W i) (tI M r W T i) + lbS M r W (ior used (pw i)) (TI M r W T i) j) + y2 ≤ 9223372036854775807) ∧ (-2147483648 ≤ (j : Int) + 1 ∧ (j : Int) + 1 ≤ 2147483647) ∧ AW l G mX5_put (d + 1) 0 0 (fun v H' => v = vJ (c + costM M (wAt W i) (tI M r W T i) + lbS M r W (ior used (pw i)) (TI M r W T i) W.length) ∧ only H1 H' (pPut s dp) ∧ hg H' (s + 8) (dp + 1) = c + costM M (wAt W i) (tI M r W T i) ∧ RT H' s M r W (ior used (pw i)) (TI M r W T i) (dp + 1)) 46 [vR s, vI i, vI dp, vI used, vI (dp * 7), vI (tI M r W T i), vJ ((c + costM M (wAt W i) (tI M r W T i) + lbS M r W (ior used (pw i)) (TI M r W T i) j) + y2), vU, vI (j + 1), vU] [] 0 0 H5)) := by
        intro y hy H4 e4
        have ho4 : only H1 H4 (pPut s dp) := by rw [e4]; exact ho.then (Or.inr ⟨rfl, by omega⟩)
        have hE4 := seO hE ho4 (pPut_nrf hE.1) pPut_off
        have h84 : hg H4 (s + 8) (dp + 1) = c + costM M (wAt W i) (tI M r W T i) := by rw [e4, hg_ne _ (by omega)]; exact h8
        have h74 : ∀ k : Int, 0 ≤ k ∧ k < (j + 1 : Nat) → shr (ior used (pw i)) k % 2 = 0 → hg H4 (s + 7) ((dp + 1) * 7 + k) = tmA M (baseM M r (wAt W k)) (TI M r W T i) (wAt W k) := by
          intro k hk qk
          by_cases e : k = j
          · rw [e, show (dp + 1) * 7 + (j : Int) = dp * 7 + 7 + j by omega, e4, hg_same]; exact hy
          · rw [e4, hg_ne _ (by omega)]; exact h7 k (by omega) qk
        have hi4 := ih H4 ho4 h84 h74
        rw [(hE4.2.2.1 j (by omega)).1]
        refine ⟨by omega, fun z => ⟨by omega, ?_⟩, fun z => CL.mono (k_price hE4 hM hW hW7 (i := j) (by omega) (by omega)) ?_⟩
        · rw [eS, lbK, if_pos hun, lbJ, if_neg (by rw [← hy]; omega), Int.add_zero] at hi4
          exact hi4
        · rintro r9 H5 ⟨rfl, rfl⟩
          rw [lbK, if_pos hun, lbJ, if_pos (by rw [← hy]; exact z), ← hy] at lk
          rw [eS, lbK, if_pos hun, lbJ, if_pos (by rw [← hy]; exact z), ← hy, ← Int.add_assoc] at hi4
          exact ⟨hE4.1, _, rfl, by omega, by omega, hi4⟩
      refine ⟨by omega, by omega, by omega, by omega, by omega, by omega, fun q3 => ⟨by omega, by omega, by omega, fun H4 e4 => go _ (by rw [tn]; omega) H4 e4⟩, fun q3 => ⟨by omega, by omega, by omega, fun H4 e4 => go _ (by rw [tn]; omega) H4 e4⟩⟩
    · intro H3 ho h8 h7
      have hE3 := seO hE ho (pPut_nrf hE.1) pPut_off
      exact s_X5_put_46 hE3.1 ⟨fun _ => ⟨rfl, ho, h8, fun j hj q => h7 j hj q⟩, fun q => absurd q (by rw [hE3.2.1.1]; omega)⟩
  have k0 := key 0 (Nat.zero_le _) H2 (by rw [e2]; exact only.wr (Or.inl ⟨rfl, rfl⟩)) (by rw [e2, hg_same]) (fun k hk => by omega)
  have z0 : lbS M r W (ior used (pw i)) (TI M r W T i) 0 = 0 := rfl
  rw [z0, Int.add_zero] at k0
  exact k0

theorem dX5_accept_0 : decode cX5_accept 0 = .ok (.aload_n 0, 1) := by decide +kernel
theorem dX5_accept_1 : decode cX5_accept 1 = .ok (.getfield 76, 3) := by decide +kernel
theorem dX5_accept_4 : decode cX5_accept 4 = .ok (.ifCond .eq 14, 3) := by decide +kernel
theorem dX5_accept_7 : decode cX5_accept 7 = .ok (.aload_n 0, 1) := by decide +kernel
theorem dX5_accept_8 : decode cX5_accept 8 = .ok (.dup, 1) := by decide +kernel
theorem dX5_accept_9 : decode cX5_accept 9 = .ok (.getfield 92, 3) := by decide +kernel
theorem dX5_accept_12 : decode cX5_accept 12 = .ok (.iconst 1, 1) := by decide +kernel
theorem dX5_accept_13 : decode cX5_accept 13 = .ok (.iadd, 1) := by decide +kernel
theorem dX5_accept_14 : decode cX5_accept 14 = .ok (.putfield 92, 3) := by decide +kernel
theorem dX5_accept_17 : decode cX5_accept 17 = .ok (.return_, 1) := by decide +kernel
theorem dX5_accept_18 : decode cX5_accept 18 = .ok (.aload_n 0, 1) := by decide +kernel
theorem dX5_accept_19 : decode cX5_accept 19 = .ok (.aload_n 0, 1) := by decide +kernel
theorem dX5_accept_20 : decode cX5_accept 20 = .ok (.getfield 33, 3) := by decide +kernel
theorem dX5_accept_23 : decode cX5_accept 23 = .ok (.aload_n 0, 1) := by decide +kernel
theorem dX5_accept_24 : decode cX5_accept 24 = .ok (.getfield 43, 3) := by decide +kernel
theorem dX5_accept_27 : decode cX5_accept 27 = .ok (.laload, 1) := by decide +kernel
theorem dX5_accept_28 : decode cX5_accept 28 = .ok (.lconst 1, 1) := by decide +kernel
theorem dX5_accept_29 : decode cX5_accept 29 = .ok (.lsub, 1) := by decide +kernel
theorem dX5_accept_30 : decode cX5_accept 30 = .ok (.putfield 84, 3) := by decide +kernel
theorem dX5_accept_33 : decode cX5_accept 33 = .ok (.iconst 0, 1) := by decide +kernel
theorem dX5_accept_34 : decode cX5_accept 34 = .ok (.istore_n 1, 1) := by decide +kernel
theorem dX5_accept_35 : decode cX5_accept 35 = .ok (.iload_n 1, 1) := by decide +kernel
theorem dX5_accept_36 : decode cX5_accept 36 = .ok (.aload_n 0, 1) := by decide +kernel
theorem dX5_accept_37 : decode cX5_accept 37 = .ok (.getfield 43, 3) := by decide +kernel
theorem dX5_accept_40 : decode cX5_accept 40 = .ok (.if_icmp .ge 21, 3) := by decide +kernel
theorem dX5_accept_43 : decode cX5_accept 43 = .ok (.aload_n 0, 1) := by decide +kernel
theorem dX5_accept_44 : decode cX5_accept 44 = .ok (.getfield 40, 3) := by decide +kernel
theorem dX5_accept_47 : decode cX5_accept 47 = .ok (.iload_n 1, 1) := by decide +kernel
theorem dX5_accept_48 : decode cX5_accept 48 = .ok (.aload_n 0, 1) := by decide +kernel
theorem dX5_accept_49 : decode cX5_accept 49 = .ok (.getfield 37, 3) := by decide +kernel
theorem dX5_accept_52 : decode cX5_accept 52 = .ok (.iload_n 1, 1) := by decide +kernel
theorem dX5_accept_53 : decode cX5_accept 53 = .ok (.iaload, 1) := by decide +kernel
theorem dX5_accept_54 : decode cX5_accept 54 = .ok (.iastore, 1) := by decide +kernel
theorem dX5_accept_55 : decode cX5_accept 55 = .ok (.iinc 1 1, 3) := by decide +kernel
theorem dX5_accept_58 : decode cX5_accept 58 = .ok (.goto (-23), 3) := by decide +kernel
theorem dX5_accept_61 : decode cX5_accept 61 = .ok (.return_, 1) := by decide +kernel
set_option maxRecDepth 20000 in
theorem s_X5_accept_0 {l : Launch} {G : GT} {d : Nat} {Q : AV → AH → Prop} {H : AH} {a0 : Int} (h_r0 : Lay LSea H a0) (h : ((hg H a0 13) = 0 → (0 ≤ (hg H a0 0) ∧ (hg H a0 0) < 8) ∧ (-9223372036854775808 ≤ (hg H (a0 + 8) (hg H a0 0)) - 1 ∧ (hg H (a0 + 8) (hg H a0 0)) - 1 ≤ 9223372036854775807) ∧ ∀ H1 : AH, H1 = hs H a0 12 ((hg H (a0 + 8) (hg H a0 0)) - 1) → AW l G mX5_accept d 0 0 Q 35 [vR a0, vI 0] [] 0 0 H1) ∧ (¬ (hg H a0 13) = 0 → (-2147483648 ≤ (hg H a0 14) + 1 ∧ (hg H a0 14) + 1 ≤ 2147483647) ∧ ∀ H1 : AH, H1 = hs H a0 14 ((hg H a0 14) + 1) → Q vV H1)) : AW l G mX5_accept d 0 0 Q 0 [vR a0, vU] [] 0 0 H := by
  refine a_aload_n dX5_accept_0 rfl rfl ?_
  refine a_getI dX5_accept_1 fw_RX5_76 rfl rfl (kSea_0 h_r0) ?_
  refine a_if_eq dX5_accept_4 (tgt := 18) rfl (fun c4 => ?_) (fun c4 => ?_)
  · replace h := h.1 c4
    refine a_aload_n dX5_accept_18 rfl rfl ?_
    refine a_aload_n dX5_accept_19 rfl rfl ?_
    refine a_getR dX5_accept_20 fw_RX5_33 rfl rfl (kSea_0 h_r0) (rSea_0_9 h_r0) ?_
    refine a_aload_n dX5_accept_23 rfl rfl ?_
    refine a_getI dX5_accept_24 fw_RX5_43 rfl rfl (kSea_0 h_r0) ?_
    obtain ⟨q27_0, h⟩ := h
    refine b_lald dX5_accept_27 (kSea_8 h_r0) (nSea_8 h_r0) q27_0 ?_
    refine a_lconst dX5_accept_28 ?_
    show AW l G mX5_accept d 0 0 Q 29 [vR a0, vU] [vJ 1, vJ (hg H (a0 + 8) (hg H a0 0)), vR a0] 0 0 H
    obtain ⟨q29_0, h⟩ := h
    refine a_lsub dX5_accept_29 q29_0 ?_
    refine a_putJ dX5_accept_30 fp_RX5_84 rfl rfl (kSea_0 h_r0) ?_
    have h_r0_1 := Lay.wr h_r0 ok_Sea (nrf_fld 12 (kSea_0 h_r0) (by decide) (by decide)) (i := 12) (x := ((hg H (a0 + 8) (hg H a0 0)) - 1))
    generalize e_H1 : hs H a0 12 ((hg H (a0 + 8) (hg H a0 0)) - 1) = H1 at h_r0_1 ⊢
    replace h := h H1 e_H1.symm
    refine a_iconst dX5_accept_33 ⟨by decide, by decide⟩ ?_
    refine a_istore_n dX5_accept_34 rfl (Nat.le_of_ble_eq_true rfl) (ls' := [vR a0, vI 0]) rfl ?_
    exact h
  · replace h := h.2 c4
    refine a_aload_n dX5_accept_7 rfl rfl ?_
    refine a_dup dX5_accept_8 rfl ?_
    refine a_getI dX5_accept_9 fw_RX5_92 rfl rfl (kSea_0 h_r0) ?_
    refine a_iconst dX5_accept_12 ⟨by decide, by decide⟩ ?_
    obtain ⟨q13_0, h⟩ := h
    refine a_iadd dX5_accept_13 q13_0 ?_
    refine a_putI dX5_accept_14 fp_RX5_92 rfl rfl (kSea_0 h_r0) ?_
    have h_r0_1 := Lay.wr h_r0 ok_Sea (nrf_fld 14 (kSea_0 h_r0) (by decide) (by decide)) (i := 14) (x := ((hg H a0 14) + 1))
    generalize e_H1 : hs H a0 14 ((hg H a0 14) + 1) = H1 at h_r0_1 ⊢
    replace h := h H1 e_H1.symm
    exact a_vret dX5_accept_17 rfl (Nat.le_of_ble_eq_true rfl) (Nat.le_of_ble_eq_true rfl) h

set_option maxRecDepth 20000 in
theorem s_X5_accept_35 {l : Launch} {G : GT} {d : Nat} {Q : AV → AH → Prop} {H : AH} {a0 x1 : Int} (h_r0 : Lay LSea H a0) (h : ((hg H a0 0) ≤ x1 → Q vV H) ∧ (x1 < (hg H a0 0) → (0 ≤ x1 ∧ x1 < 7) ∧ ∀ H1 : AH, H1 = hs H (a0 + 10) x1 (hg H (a0 + 9) x1) → (-2147483648 ≤ x1 + 1 ∧ x1 + 1 ≤ 2147483647) ∧ AW l G mX5_accept d 0 0 Q 35 [vR a0, vI (x1 + 1)] [] 0 0 H1)) : AW l G mX5_accept d 0 0 Q 35 [vR a0, vI x1] [] 0 0 H := by
  refine a_iload_n dX5_accept_35 rfl rfl ?_
  refine a_aload_n dX5_accept_36 rfl rfl ?_
  refine a_getI dX5_accept_37 fw_RX5_43 rfl rfl (kSea_0 h_r0) ?_
  refine a_icmp_ge dX5_accept_40 (tgt := 61) rfl (fun c40 => ?_) (fun c40 => ?_)
  · replace h := h.1 c40
    exact a_vret dX5_accept_61 rfl (Nat.le_of_ble_eq_true rfl) (Nat.le_of_ble_eq_true rfl) h
  · replace h := h.2 c40
    refine a_aload_n dX5_accept_43 rfl rfl ?_
    refine a_getR dX5_accept_44 fw_RX5_40 rfl rfl (kSea_0 h_r0) (rSea_0_11 h_r0) ?_
    refine a_iload_n dX5_accept_47 rfl rfl ?_
    refine a_aload_n dX5_accept_48 rfl rfl ?_
    refine a_getR dX5_accept_49 fw_RX5_37 rfl rfl (kSea_0 h_r0) (rSea_0_10 h_r0) ?_
    refine a_iload_n dX5_accept_52 rfl rfl ?_
    obtain ⟨q53_0, h⟩ := h
    refine b_iald dX5_accept_53 (kSea_9 h_r0) (nSea_9 h_r0) q53_0 ?_
    refine b_iast dX5_accept_54 (kSea_10 h_r0) (nSea_10 h_r0) q53_0 ?_
    have h_r0_1 := Lay.wr h_r0 ok_Sea (nrf_arr (kSea_10 h_r0) (by decide) (by decide)) (i := x1) (x := (hg H (a0 + 9) x1))
    generalize e_H1 : hs H (a0 + 10) x1 (hg H (a0 + 9) x1) = H1 at h_r0_1 ⊢
    replace h := h H1 e_H1.symm
    obtain ⟨q55_0, h⟩ := h
    refine a_iinc dX5_accept_55 rfl (Nat.le_of_ble_eq_true rfl) (by decide) q55_0 (ls' := [vR a0, vI (x1 + 1)]) rfl ?_
    refine a_goto dX5_accept_58 (tgt := 35) rfl ?_
    exact h


theorem dX5_place_0 : decode cX5_place 0 = .ok (.iload_n 1, 1) := by decide +kernel
theorem dX5_place_1 : decode cX5_place 1 = .ok (.aload_n 0, 1) := by decide +kernel
theorem dX5_place_2 : decode cX5_place 2 = .ok (.getfield 43, 3) := by decide +kernel
theorem dX5_place_5 : decode cX5_place 5 = .ok (.if_icmp .lt 8, 3) := by decide +kernel
theorem dX5_place_8 : decode cX5_place 8 = .ok (.aload_n 0, 1) := by decide +kernel
theorem dX5_place_9 : decode cX5_place 9 = .ok (.invokevirtual 95, 3) := by decide +kernel
theorem dX5_place_12 : decode cX5_place 12 = .ok (.return_, 1) := by decide +kernel
theorem dX5_place_13 : decode cX5_place 13 = .ok (.iload_n 1, 1) := by decide +kernel
theorem dX5_place_14 : decode cX5_place 14 = .ok (.aload_n 0, 1) := by decide +kernel
theorem dX5_place_15 : decode cX5_place 15 = .ok (.getfield 58, 3) := by decide +kernel
theorem dX5_place_18 : decode cX5_place 18 = .ok (.isub, 1) := by decide +kernel
theorem dX5_place_19 : decode cX5_place 19 = .ok (.istore_n 3, 1) := by decide +kernel
theorem dX5_place_20 : decode cX5_place 20 = .ok (.iload_n 3, 1) := by decide +kernel
theorem dX5_place_21 : decode cX5_place 21 = .ok (.ifCond .lt 15, 3) := by decide +kernel
theorem dX5_place_24 : decode cX5_place 24 = .ok (.iload_n 2, 1) := by decide +kernel
theorem dX5_place_25 : decode cX5_place 25 = .ok (.iload_n 3, 1) := by decide +kernel
theorem dX5_place_26 : decode cX5_place 26 = .ok (.ishr, 1) := by decide +kernel
theorem dX5_place_27 : decode cX5_place 27 = .ok (.iconst 1, 1) := by decide +kernel
theorem dX5_place_28 : decode cX5_place 28 = .ok (.iand, 1) := by decide +kernel
theorem dX5_place_29 : decode cX5_place 29 = .ok (.ifCond .ne 7, 3) := by decide +kernel
theorem dX5_place_32 : decode cX5_place 32 = .ok (.iconst 1, 1) := by decide +kernel
theorem dX5_place_33 : decode cX5_place 33 = .ok (.goto 4, 3) := by decide +kernel
theorem dX5_place_36 : decode cX5_place 36 = .ok (.iconst 0, 1) := by decide +kernel
theorem dX5_place_37 : decode cX5_place 37 = .ok (.istore 4, 2) := by decide +kernel
theorem dX5_place_39 : decode cX5_place 39 = .ok (.iconst 0, 1) := by decide +kernel
theorem dX5_place_40 : decode cX5_place 40 = .ok (.istore 5, 2) := by decide +kernel
theorem dX5_place_42 : decode cX5_place 42 = .ok (.iload 5, 2) := by decide +kernel
theorem dX5_place_44 : decode cX5_place 44 = .ok (.aload_n 0, 1) := by decide +kernel
theorem dX5_place_45 : decode cX5_place 45 = .ok (.getfield 43, 3) := by decide +kernel
theorem dX5_place_48 : decode cX5_place 48 = .ok (.if_icmp .ge 98, 3) := by decide +kernel
theorem dX5_place_51 : decode cX5_place 51 = .ok (.aload_n 0, 1) := by decide +kernel
theorem dX5_place_52 : decode cX5_place 52 = .ok (.getfield 9, 3) := by decide +kernel
theorem dX5_place_55 : decode cX5_place 55 = .ok (.iload 5, 2) := by decide +kernel
theorem dX5_place_57 : decode cX5_place 57 = .ok (.iaload, 1) := by decide +kernel
theorem dX5_place_58 : decode cX5_place 58 = .ok (.istore 6, 2) := by decide +kernel
theorem dX5_place_60 : decode cX5_place 60 = .ok (.iload_n 2, 1) := by decide +kernel
theorem dX5_place_61 : decode cX5_place 61 = .ok (.iload 6, 2) := by decide +kernel
theorem dX5_place_63 : decode cX5_place 63 = .ok (.ishr, 1) := by decide +kernel
theorem dX5_place_64 : decode cX5_place 64 = .ok (.iconst 1, 1) := by decide +kernel
theorem dX5_place_65 : decode cX5_place 65 = .ok (.iand, 1) := by decide +kernel
theorem dX5_place_66 : decode cX5_place 66 = .ok (.ifCond .ne 18, 3) := by decide +kernel
theorem dX5_place_69 : decode cX5_place 69 = .ok (.iload 6, 2) := by decide +kernel
theorem dX5_place_71 : decode cX5_place 71 = .ok (.iload_n 1, 1) := by decide +kernel
theorem dX5_place_72 : decode cX5_place 72 = .ok (.isub, 1) := by decide +kernel
theorem dX5_place_73 : decode cX5_place 73 = .ok (.aload_n 0, 1) := by decide +kernel
theorem dX5_place_74 : decode cX5_place 74 = .ok (.getfield 58, 3) := by decide +kernel
theorem dX5_place_77 : decode cX5_place 77 = .ok (.if_icmp .gt 7, 3) := by decide +kernel
theorem dX5_place_80 : decode cX5_place 80 = .ok (.iconst 1, 1) := by decide +kernel
theorem dX5_place_81 : decode cX5_place 81 = .ok (.goto 4, 3) := by decide +kernel
theorem dX5_place_84 : decode cX5_place 84 = .ok (.iconst 0, 1) := by decide +kernel
theorem dX5_place_85 : decode cX5_place 85 = .ok (.istore 7, 2) := by decide +kernel
theorem dX5_place_87 : decode cX5_place 87 = .ok (.iload 7, 2) := by decide +kernel
theorem dX5_place_89 : decode cX5_place 89 = .ok (.ifCond .eq 51, 3) := by decide +kernel
theorem dX5_place_92 : decode cX5_place 92 = .ok (.iload 6, 2) := by decide +kernel
theorem dX5_place_94 : decode cX5_place 94 = .ok (.iload_n 3, 1) := by decide +kernel
theorem dX5_place_95 : decode cX5_place 95 = .ok (.if_icmp .eq 8, 3) := by decide +kernel
theorem dX5_place_98 : decode cX5_place 98 = .ok (.iload 4, 2) := by decide +kernel
theorem dX5_place_100 : decode cX5_place 100 = .ok (.ifCond .ne 40, 3) := by decide +kernel
theorem dX5_place_103 : decode cX5_place 103 = .ok (.aload_n 0, 1) := by decide +kernel
theorem dX5_place_104 : decode cX5_place 104 = .ok (.iload 6, 2) := by decide +kernel
theorem dX5_place_106 : decode cX5_place 106 = .ok (.iload_n 1, 1) := by decide +kernel
theorem dX5_place_107 : decode cX5_place 107 = .ok (.iload_n 2, 1) := by decide +kernel
theorem dX5_place_108 : decode cX5_place 108 = .ok (.invokevirtual 80, 3) := by decide +kernel
theorem dX5_place_111 : decode cX5_place 111 = .ok (.aload_n 0, 1) := by decide +kernel
theorem dX5_place_112 : decode cX5_place 112 = .ok (.getfield 84, 3) := by decide +kernel
theorem dX5_place_115 : decode cX5_place 115 = .ok (.lcmp, 1) := by decide +kernel
theorem dX5_place_116 : decode cX5_place 116 = .ok (.ifCond .gt 24, 3) := by decide +kernel
theorem dX5_place_119 : decode cX5_place 119 = .ok (.aload_n 0, 1) := by decide +kernel
theorem dX5_place_120 : decode cX5_place 120 = .ok (.getfield 37, 3) := by decide +kernel
theorem dX5_place_123 : decode cX5_place 123 = .ok (.iload_n 1, 1) := by decide +kernel
theorem dX5_place_124 : decode cX5_place 124 = .ok (.iload 6, 2) := by decide +kernel
theorem dX5_place_126 : decode cX5_place 126 = .ok (.iastore, 1) := by decide +kernel
theorem dX5_place_127 : decode cX5_place 127 = .ok (.aload_n 0, 1) := by decide +kernel
theorem dX5_place_128 : decode cX5_place 128 = .ok (.iload_n 1, 1) := by decide +kernel
theorem dX5_place_129 : decode cX5_place 129 = .ok (.iconst 1, 1) := by decide +kernel
theorem dX5_place_130 : decode cX5_place 130 = .ok (.iadd, 1) := by decide +kernel
theorem dX5_place_131 : decode cX5_place 131 = .ok (.iload_n 2, 1) := by decide +kernel
theorem dX5_place_132 : decode cX5_place 132 = .ok (.iconst 1, 1) := by decide +kernel
theorem dX5_place_133 : decode cX5_place 133 = .ok (.iload 6, 2) := by decide +kernel
theorem dX5_place_135 : decode cX5_place 135 = .ok (.ishl, 1) := by decide +kernel
theorem dX5_place_136 : decode cX5_place 136 = .ok (.ior, 1) := by decide +kernel
theorem dX5_place_137 : decode cX5_place 137 = .ok (.invokestatic 88, 3) := by decide +kernel
theorem dX5_place_140 : decode cX5_place 140 = .ok (.iinc 5 1, 3) := by decide +kernel
theorem dX5_place_143 : decode cX5_place 143 = .ok (.goto (-101), 3) := by decide +kernel
theorem dX5_place_146 : decode cX5_place 146 = .ok (.return_, 1) := by decide +kernel
set_option maxRecDepth 20000 in
theorem s_X5_place_0 {l : Launch} {G : GT} {d : Nat} {Q : AV → AH → Prop} {H : AH} {a0 x1 x2 : Int} (h_r0 : Lay LSea H a0) (h : (x1 < (hg H a0 0) → (-2147483648 ≤ x1 - (hg H a0 1) ∧ x1 - (hg H a0 1) ≤ 2147483647) ∧ ((x1 - (hg H a0 1)) < 0 → AW l G mX5_place (d + 1) 0 0 Q 42 [vR a0, vI x1, vI x2, vI (x1 - (hg H a0 1)), vI 0, vI 0, vU, vU] [] 0 0 H) ∧ (0 ≤ (x1 - (hg H a0 1)) → (0 ≤ (x1 - (hg H a0 1)) ∧ (x1 - (hg H a0 1)) ≤ 31) ∧ (¬ ((shr x2 (x1 - (hg H a0 1))) % 2) = 0 → AW l G mX5_place (d + 1) 0 0 Q 42 [vR a0, vI x1, vI x2, vI (x1 - (hg H a0 1)), vI 0, vI 0, vU, vU] [] 0 0 H) ∧ (((shr x2 (x1 - (hg H a0 1))) % 2) = 0 → AW l G mX5_place (d + 1) 0 0 Q 42 [vR a0, vI x1, vI x2, vI (x1 - (hg H a0 1)), vI 1, vI 0, vU, vU] [] 0 0 H))) ∧ ((hg H a0 0) ≤ x1 → CL l G mX5_accept d 0 0 [vR a0] H (fun r9 H1 => Lay LSea H1 a0 ∧ r9 = vV ∧ Q vV H1))) : AW l G mX5_place (d + 1) 0 0 Q 0 [vR a0, vI x1, vI x2, vU, vU, vU, vU, vU] [] 0 0 H := by
  refine a_iload_n dX5_place_0 rfl rfl ?_
  refine a_aload_n dX5_place_1 rfl rfl ?_
  refine a_getI dX5_place_2 fw_RX5_43 rfl rfl (kSea_0 h_r0) ?_
  refine a_icmp_lt dX5_place_5 (tgt := 13) rfl (fun c5 => ?_) (fun c5 => ?_)
  · replace h := h.1 c5
    refine a_iload_n dX5_place_13 rfl rfl ?_
    refine a_aload_n dX5_place_14 rfl rfl ?_
    refine a_getI dX5_place_15 fw_RX5_58 rfl rfl (kSea_0 h_r0) ?_
    obtain ⟨q18_0, h⟩ := h
    refine a_isub dX5_place_18 q18_0 ?_
    refine a_istore_n dX5_place_19 rfl (Nat.le_of_ble_eq_true rfl) (ls' := [vR a0, vI x1, vI x2, vI (x1 - (hg H a0 1)), vU, vU, vU, vU]) rfl ?_
    refine a_iload_n dX5_place_20 rfl rfl ?_
    refine a_if_lt dX5_place_21 (tgt := 36) rfl (fun c21 => ?_) (fun c21 => ?_)
    · replace h := h.1 c21
      refine a_iconst dX5_place_36 ⟨by decide, by decide⟩ ?_
      refine a_istore dX5_place_37 (Nat.le_of_ble_eq_true rfl) (ls' := [vR a0, vI x1, vI x2, vI (x1 - (hg H a0 1)), vI 0, vU, vU, vU]) rfl ?_
      refine a_iconst dX5_place_39 ⟨by decide, by decide⟩ ?_
      refine a_istore dX5_place_40 (Nat.le_of_ble_eq_true rfl) (ls' := [vR a0, vI x1, vI x2, vI (x1 - (hg H a0 1)), vI 0, vI 0, vU, vU]) rfl ?_
      exact h
    · replace h := h.2 c21
      refine a_iload_n dX5_place_24 rfl rfl ?_
      refine a_iload_n dX5_place_25 rfl rfl ?_
      obtain ⟨q26_0, h⟩ := h
      refine a_ishr dX5_place_26 q26_0 ?_
      refine a_iconst dX5_place_27 ⟨by decide, by decide⟩ ?_
      refine a_iand1 dX5_place_28 ?_
      refine a_if_ne dX5_place_29 (tgt := 36) rfl (fun c29 => ?_) (fun c29 => ?_)
      · replace h := h.1 c29
        refine a_iconst dX5_place_36 ⟨by decide, by decide⟩ ?_
        refine a_istore dX5_place_37 (Nat.le_of_ble_eq_true rfl) (ls' := [vR a0, vI x1, vI x2, vI (x1 - (hg H a0 1)), vI 0, vU, vU, vU]) rfl ?_
        refine a_iconst dX5_place_39 ⟨by decide, by decide⟩ ?_
        refine a_istore dX5_place_40 (Nat.le_of_ble_eq_true rfl) (ls' := [vR a0, vI x1, vI x2, vI (x1 - (hg H a0 1)), vI 0, vI 0, vU, vU]) rfl ?_
        exact h
      · replace h := h.2 c29
        refine a_iconst dX5_place_32 ⟨by decide, by decide⟩ ?_
        refine a_goto dX5_place_33 (tgt := 37) rfl ?_
        refine a_istore dX5_place_37 (Nat.le_of_ble_eq_true rfl) (ls' := [vR a0, vI x1, vI x2, vI (x1 - (hg H a0 1)), vI 1, vU, vU, vU]) rfl ?_
        refine a_iconst dX5_place_39 ⟨by decide, by decide⟩ ?_
        refine a_istore dX5_place_40 (Nat.le_of_ble_eq_true rfl) (ls' := [vR a0, vI x1, vI x2, vI (x1 - (hg H a0 1)), vI 1, vI 0, vU, vU]) rfl ?_
        exact h
  · replace h := h.2 c5
    refine a_aload_n dX5_place_8 rfl rfl ?_
    refine a_callV dX5_place_9 cw_X5_place_9 (as := []) rfl rfl (kSea_0 h_r0) (Nat.le_refl _) (Nat.le_of_ble_eq_true rfl) (nocov rfl) (Nat.le_of_ble_eq_true rfl) (Nat.le_of_ble_eq_true rfl) (CL.mono h (fun r9 H1 h => ?_))
    obtain ⟨h_r0_1, e9, h⟩ := h
    rw [e9]
    show AW l G mX5_place (d + 1) 0 0 Q 12 [vR a0, vI x1, vI x2, vU, vU, vU, vU, vU] [] 0 0 H1
    exact a_vret dX5_place_12 rfl (Nat.le_of_ble_eq_true rfl) (Nat.le_of_ble_eq_true rfl) h

set_option maxRecDepth 20000 in
theorem s_X5_place_42 {l : Launch} {G : GT} {d : Nat} {Q : AV → AH → Prop} {H : AH} {a0 x1 x2 x3 x4 x5 : Int} (h_r0 : Lay LSea H a0) (h : ((hg H a0 0) ≤ x5 → Q vV H) ∧ (x5 < (hg H a0 0) → (0 ≤ x5 ∧ x5 < 7) ∧ (0 ≤ (hg H (a0 + 1) x5) ∧ (hg H (a0 + 1) x5) ≤ 31) ∧ (¬ ((shr x2 (hg H (a0 + 1) x5)) % 2) = 0 → (-2147483648 ≤ x5 + 1 ∧ x5 + 1 ≤ 2147483647) ∧ AW l G mX5_place (d + 1) 0 0 Q 42 [vR a0, vI x1, vI x2, vI x3, vI x4, vI (x5 + 1), vU, vU] [] 0 0 H) ∧ (((shr x2 (hg H (a0 + 1) x5)) % 2) = 0 → (-2147483648 ≤ (hg H (a0 + 1) x5) - x1 ∧ (hg H (a0 + 1) x5) - x1 ≤ 2147483647) ∧ ((hg H a0 1) < ((hg H (a0 + 1) x5) - x1) → (-2147483648 ≤ x5 + 1 ∧ x5 + 1 ≤ 2147483647) ∧ AW l G mX5_place (d + 1) 0 0 Q 42 [vR a0, vI x1, vI x2, vI x3, vI x4, vI (x5 + 1), vU, vU] [] 0 0 H) ∧ (((hg H (a0 + 1) x5) - x1) ≤ (hg H a0 1) → ((hg H (a0 + 1) x5) = x3 → CL l G mX5_put d 0 0 [vR a0, vI (hg H (a0 + 1) x5), vI x1, vI x2] H (fun r9 H1 => Lay LSea H1 a0 ∧ ∃ y1 : Int, r9 = vJ y1 ∧ ((hg H1 a0 12) < y1 → (-2147483648 ≤ x5 + 1 ∧ x5 + 1 ≤ 2147483647) ∧ AW l G mX5_place (d + 1) 0 0 Q 42 [vR a0, vI x1, vI x2, vI x3, vI x4, vI (x5 + 1), vU, vU] [] 0 0 H1) ∧ (y1 ≤ (hg H1 a0 12) → (0 ≤ x1 ∧ x1 < 7) ∧ ∀ H2 : AH, H2 = hs H1 (a0 + 9) x1 (hg H (a0 + 1) x5) → (-2147483648 ≤ x1 + 1 ∧ x1 + 1 ≤ 2147483647) ∧ (0 ≤ (hg H (a0 + 1) x5) ∧ (hg H (a0 + 1) x5) ≤ 30) ∧ (0 ≤ x2 ∧ 0 ≤ (pw (hg H (a0 + 1) x5))) ∧ CL l G mX5_place d 0 0 [vR a0, vI (x1 + 1), vI (ior x2 (pw (hg H (a0 + 1) x5)))] H2 (fun r9 H3 => Lay LSea H3 a0 ∧ r9 = vV ∧ (-2147483648 ≤ x5 + 1 ∧ x5 + 1 ≤ 2147483647) ∧ AW l G mX5_place (d + 1) 0 0 Q 42 [vR a0, vI x1, vI x2, vI x3, vI x4, vI (x5 + 1), vU, vU] [] 0 0 H3)))) ∧ (¬ (hg H (a0 + 1) x5) = x3 → (¬ x4 = 0 → (-2147483648 ≤ x5 + 1 ∧ x5 + 1 ≤ 2147483647) ∧ AW l G mX5_place (d + 1) 0 0 Q 42 [vR a0, vI x1, vI x2, vI x3, vI x4, vI (x5 + 1), vU, vU] [] 0 0 H) ∧ (x4 = 0 → CL l G mX5_put d 0 0 [vR a0, vI (hg H (a0 + 1) x5), vI x1, vI x2] H (fun r9 H1 => Lay LSea H1 a0 ∧ ∃ y1 : Int, r9 = vJ y1 ∧ ((hg H1 a0 12) < y1 → (-2147483648 ≤ x5 + 1 ∧ x5 + 1 ≤ 2147483647) ∧ AW l G mX5_place (d + 1) 0 0 Q 42 [vR a0, vI x1, vI x2, vI x3, vI x4, vI (x5 + 1), vU, vU] [] 0 0 H1) ∧ (y1 ≤ (hg H1 a0 12) → (0 ≤ x1 ∧ x1 < 7) ∧ ∀ H2 : AH, H2 = hs H1 (a0 + 9) x1 (hg H (a0 + 1) x5) → (-2147483648 ≤ x1 + 1 ∧ x1 + 1 ≤ 2147483647) ∧ (0 ≤ (hg H (a0 + 1) x5) ∧ (hg H (a0 + 1) x5) ≤ 30) ∧ (0 ≤ x2 ∧ 0 ≤ (pw (hg H (a0 + 1) x5))) ∧ CL l G mX5_place d 0 0 [vR a0, vI (x1 + 1), vI (ior x2 (pw (hg H (a0 + 1) x5)))] H2 (fun r9 H3 => Lay LSea H3 a0 ∧ r9 = vV ∧ (-2147483648 ≤ x5 + 1 ∧ x5 + 1 ≤ 2147483647) ∧ AW l G mX5_place (d + 1) 0 0 Q 42 [vR a0, vI x1, vI x2, vI x3, vI x4, vI (x5 + 1), vU, vU] [] 0 0 H3))))))))) : AW l G mX5_place (d + 1) 0 0 Q 42 [vR a0, vI x1, vI x2, vI x3, vI x4, vI x5, vU, vU] [] 0 0 H := by
  refine a_iload dX5_place_42 rfl ?_
  refine a_aload_n dX5_place_44 rfl rfl ?_
  refine a_getI dX5_place_45 fw_RX5_43 rfl rfl (kSea_0 h_r0) ?_
  refine a_icmp_ge dX5_place_48 (tgt := 146) rfl (fun c48 => ?_) (fun c48 => ?_)
  · replace h := h.1 c48
    exact a_vret dX5_place_146 rfl (Nat.le_of_ble_eq_true rfl) (Nat.le_of_ble_eq_true rfl) h
  · replace h := h.2 c48
    refine a_aload_n dX5_place_51 rfl rfl ?_
    refine a_getR dX5_place_52 fw_RX5_9 rfl rfl (kSea_0 h_r0) (rSea_0_2 h_r0) ?_
    refine a_iload dX5_place_55 rfl ?_
    obtain ⟨q57_0, h⟩ := h
    refine b_iald dX5_place_57 (kSea_1 h_r0) (nSea_1 h_r0) q57_0 ?_
    refine a_istore dX5_place_58 (Nat.le_of_ble_eq_true rfl) (ls' := [vR a0, vI x1, vI x2, vI x3, vI x4, vI x5, vI (hg H (a0 + 1) x5), vU]) rfl ?_
    refine a_iload_n dX5_place_60 rfl rfl ?_
    refine a_iload dX5_place_61 rfl ?_
    obtain ⟨q63_0, h⟩ := h
    refine a_ishr dX5_place_63 q63_0 ?_
    refine a_iconst dX5_place_64 ⟨by decide, by decide⟩ ?_
    refine a_iand1 dX5_place_65 ?_
    refine a_if_ne dX5_place_66 (tgt := 84) rfl (fun c66 => ?_) (fun c66 => ?_)
    · replace h := h.1 c66
      refine a_iconst dX5_place_84 ⟨by decide, by decide⟩ ?_
      refine a_istore dX5_place_85 (Nat.le_of_ble_eq_true rfl) (ls' := [vR a0, vI x1, vI x2, vI x3, vI x4, vI x5, vI (hg H (a0 + 1) x5), vI 0]) rfl ?_
      refine a_iload dX5_place_87 rfl ?_
      refine a_if_eq dX5_place_89 (tgt := 140) rfl (fun _ => ?_) (fun c9 => absurd c9 (by decide))
      obtain ⟨q140_0, h⟩ := h
      refine a_iinc dX5_place_140 rfl (Nat.le_of_ble_eq_true rfl) (by decide) q140_0 (ls' := [vR a0, vI x1, vI x2, vI x3, vI x4, vI (x5 + 1), vI (hg H (a0 + 1) x5), vI 0]) rfl ?_
      refine a_goto dX5_place_143 (tgt := 42) rfl ?_
      exact a_weak (wk_e (wk_e (wk_e (wk_e (wk_e (wk_e (wk_u (wk_u wk_n)))))))) h
    · replace h := h.2 c66
      refine a_iload dX5_place_69 rfl ?_
      refine a_iload_n dX5_place_71 rfl rfl ?_
      obtain ⟨q72_0, h⟩ := h
      refine a_isub dX5_place_72 q72_0 ?_
      refine a_aload_n dX5_place_73 rfl rfl ?_
      refine a_getI dX5_place_74 fw_RX5_58 rfl rfl (kSea_0 h_r0) ?_
      refine a_icmp_gt dX5_place_77 (tgt := 84) rfl (fun c77 => ?_) (fun c77 => ?_)
      · replace h := h.1 c77
        refine a_iconst dX5_place_84 ⟨by decide, by decide⟩ ?_
        refine a_istore dX5_place_85 (Nat.le_of_ble_eq_true rfl) (ls' := [vR a0, vI x1, vI x2, vI x3, vI x4, vI x5, vI (hg H (a0 + 1) x5), vI 0]) rfl ?_
        refine a_iload dX5_place_87 rfl ?_
        refine a_if_eq dX5_place_89 (tgt := 140) rfl (fun _ => ?_) (fun c9 => absurd c9 (by decide))
        obtain ⟨q140_0, h⟩ := h
        refine a_iinc dX5_place_140 rfl (Nat.le_of_ble_eq_true rfl) (by decide) q140_0 (ls' := [vR a0, vI x1, vI x2, vI x3, vI x4, vI (x5 + 1), vI (hg H (a0 + 1) x5), vI 0]) rfl ?_
        refine a_goto dX5_place_143 (tgt := 42) rfl ?_
        exact a_weak (wk_e (wk_e (wk_e (wk_e (wk_e (wk_e (wk_u (wk_u wk_n)))))))) h
      · replace h := h.2 c77
        refine a_iconst dX5_place_80 ⟨by decide, by decide⟩ ?_
        refine a_goto dX5_place_81 (tgt := 85) rfl ?_
        refine a_istore dX5_place_85 (Nat.le_of_ble_eq_true rfl) (ls' := [vR a0, vI x1, vI x2, vI x3, vI x4, vI x5, vI (hg H (a0 + 1) x5), vI 1]) rfl ?_
        refine a_iload dX5_place_87 rfl ?_
        refine a_if_eq dX5_place_89 (tgt := 140) rfl (fun c9 => absurd c9 (by decide)) (fun _ => ?_)
        refine a_iload dX5_place_92 rfl ?_
        refine a_iload_n dX5_place_94 rfl rfl ?_
        refine a_icmp_eq dX5_place_95 (tgt := 103) rfl (fun c95 => ?_) (fun c95 => ?_)
        · replace h := h.1 c95
          refine a_aload_n dX5_place_103 rfl rfl ?_
          refine a_iload dX5_place_104 rfl ?_
          refine a_iload_n dX5_place_106 rfl rfl ?_
          refine a_iload_n dX5_place_107 rfl rfl ?_
          refine a_callV dX5_place_108 cw_X5_place_108 (as := [vI (hg H (a0 + 1) x5), vI x1, vI x2]) rfl rfl (kSea_0 h_r0) (Nat.le_refl _) (Nat.le_of_ble_eq_true rfl) (nocov rfl) (Nat.le_of_ble_eq_true rfl) (Nat.le_of_ble_eq_true rfl) (CL.mono h (fun r9 H1 h => ?_))
          obtain ⟨h_r0_1, y1, e9, h⟩ := h
          rw [e9]
          show AW l G mX5_place (d + 1) 0 0 Q 111 [vR a0, vI x1, vI x2, vI x3, vI x4, vI x5, vI (hg H (a0 + 1) x5), vI 1] [vJ y1] 0 0 H1
          refine a_aload_n dX5_place_111 rfl rfl ?_
          refine a_getJ dX5_place_112 fw_RX5_84 rfl rfl (kSea_0 h_r0_1) ?_
          refine a_lcmp_gt dX5_place_115 dX5_place_116 (tgt := 140) rfl (fun c115 => ?_) (fun c115 => ?_)
          · replace h := h.1 c115
            obtain ⟨q140_0, h⟩ := h
            refine a_iinc dX5_place_140 rfl (Nat.le_of_ble_eq_true rfl) (by decide) q140_0 (ls' := [vR a0, vI x1, vI x2, vI x3, vI x4, vI (x5 + 1), vI (hg H (a0 + 1) x5), vI 1]) rfl ?_
            refine a_goto dX5_place_143 (tgt := 42) rfl ?_
            exact a_weak (wk_e (wk_e (wk_e (wk_e (wk_e (wk_e (wk_u (wk_u wk_n)))))))) h
          · replace h := h.2 c115
            refine a_aload_n dX5_place_119 rfl rfl ?_
            refine a_getR dX5_place_120 fw_RX5_37 rfl rfl (kSea_0 h_r0_1) (rSea_0_10 h_r0_1) ?_
            refine a_iload_n dX5_place_123 rfl rfl ?_
            refine a_iload dX5_place_124 rfl ?_
            obtain ⟨q126_0, h⟩ := h
            refine b_iast dX5_place_126 (kSea_9 h_r0_1) (nSea_9 h_r0_1) q126_0 ?_
            have h_r0_2 := Lay.wr h_r0_1 ok_Sea (nrf_arr (kSea_9 h_r0_1) (by decide) (by decide)) (i := x1) (x := (hg H (a0 + 1) x5))
            generalize e_H2 : hs H1 (a0 + 9) x1 (hg H (a0 + 1) x5) = H2 at h_r0_2 ⊢
            replace h := h H2 e_H2.symm
            refine a_aload_n dX5_place_127 rfl rfl ?_
            refine a_iload_n dX5_place_128 rfl rfl ?_
            refine a_iconst dX5_place_129 ⟨by decide, by decide⟩ ?_
            obtain ⟨q130_0, h⟩ := h
            refine a_iadd dX5_place_130 q130_0 ?_
            refine a_iload_n dX5_place_131 rfl rfl ?_
            refine a_iconst dX5_place_132 ⟨by decide, by decide⟩ ?_
            refine a_iload dX5_place_133 rfl ?_
            obtain ⟨q135_0, h⟩ := h
            refine a_ishl dX5_place_135 q135_0 ?_
            obtain ⟨q136_0, h⟩ := h
            refine a_ior dX5_place_136 q136_0 ?_
            refine a_callS dX5_place_137 cw_X5_place_137 (as := [vR a0, vI (x1 + 1), vI (ior x2 (pw (hg H (a0 + 1) x5)))]) rfl rfl (Nat.le_refl _) (Nat.le_of_ble_eq_true rfl) (nocov rfl) (Nat.le_of_ble_eq_true rfl) (Nat.le_of_ble_eq_true rfl) (CL.mono h (fun r9 H3 h => ?_))
            obtain ⟨h_r0_3, e9, h⟩ := h
            rw [e9]
            show AW l G mX5_place (d + 1) 0 0 Q 140 [vR a0, vI x1, vI x2, vI x3, vI x4, vI x5, vI (hg H (a0 + 1) x5), vI 1] [] 0 0 H3
            obtain ⟨q140_0, h⟩ := h
            refine a_iinc dX5_place_140 rfl (Nat.le_of_ble_eq_true rfl) (by decide) q140_0 (ls' := [vR a0, vI x1, vI x2, vI x3, vI x4, vI (x5 + 1), vI (hg H (a0 + 1) x5), vI 1]) rfl ?_
            refine a_goto dX5_place_143 (tgt := 42) rfl ?_
            exact a_weak (wk_e (wk_e (wk_e (wk_e (wk_e (wk_e (wk_u (wk_u wk_n)))))))) h
        · replace h := h.2 c95
          refine a_iload dX5_place_98 rfl ?_
          refine a_if_ne dX5_place_100 (tgt := 140) rfl (fun c100 => ?_) (fun c100 => ?_)
          · replace h := h.1 c100
            obtain ⟨q140_0, h⟩ := h
            refine a_iinc dX5_place_140 rfl (Nat.le_of_ble_eq_true rfl) (by decide) q140_0 (ls' := [vR a0, vI x1, vI x2, vI x3, vI x4, vI (x5 + 1), vI (hg H (a0 + 1) x5), vI 1]) rfl ?_
            refine a_goto dX5_place_143 (tgt := 42) rfl ?_
            exact a_weak (wk_e (wk_e (wk_e (wk_e (wk_e (wk_e (wk_u (wk_u wk_n)))))))) h
          · replace h := h.2 c100
            refine a_aload_n dX5_place_103 rfl rfl ?_
            refine a_iload dX5_place_104 rfl ?_
            refine a_iload_n dX5_place_106 rfl rfl ?_
            refine a_iload_n dX5_place_107 rfl rfl ?_
            refine a_callV dX5_place_108 cw_X5_place_108 (as := [vI (hg H (a0 + 1) x5), vI x1, vI x2]) rfl rfl (kSea_0 h_r0) (Nat.le_refl _) (Nat.le_of_ble_eq_true rfl) (nocov rfl) (Nat.le_of_ble_eq_true rfl) (Nat.le_of_ble_eq_true rfl) (CL.mono h (fun r9 H1 h => ?_))
            obtain ⟨h_r0_1, y1, e9, h⟩ := h
            rw [e9]
            show AW l G mX5_place (d + 1) 0 0 Q 111 [vR a0, vI x1, vI x2, vI x3, vI x4, vI x5, vI (hg H (a0 + 1) x5), vI 1] [vJ y1] 0 0 H1
            refine a_aload_n dX5_place_111 rfl rfl ?_
            refine a_getJ dX5_place_112 fw_RX5_84 rfl rfl (kSea_0 h_r0_1) ?_
            refine a_lcmp_gt dX5_place_115 dX5_place_116 (tgt := 140) rfl (fun c115 => ?_) (fun c115 => ?_)
            · replace h := h.1 c115
              obtain ⟨q140_0, h⟩ := h
              refine a_iinc dX5_place_140 rfl (Nat.le_of_ble_eq_true rfl) (by decide) q140_0 (ls' := [vR a0, vI x1, vI x2, vI x3, vI x4, vI (x5 + 1), vI (hg H (a0 + 1) x5), vI 1]) rfl ?_
              refine a_goto dX5_place_143 (tgt := 42) rfl ?_
              exact a_weak (wk_e (wk_e (wk_e (wk_e (wk_e (wk_e (wk_u (wk_u wk_n)))))))) h
            · replace h := h.2 c115
              refine a_aload_n dX5_place_119 rfl rfl ?_
              refine a_getR dX5_place_120 fw_RX5_37 rfl rfl (kSea_0 h_r0_1) (rSea_0_10 h_r0_1) ?_
              refine a_iload_n dX5_place_123 rfl rfl ?_
              refine a_iload dX5_place_124 rfl ?_
              obtain ⟨q126_0, h⟩ := h
              refine b_iast dX5_place_126 (kSea_9 h_r0_1) (nSea_9 h_r0_1) q126_0 ?_
              have h_r0_2 := Lay.wr h_r0_1 ok_Sea (nrf_arr (kSea_9 h_r0_1) (by decide) (by decide)) (i := x1) (x := (hg H (a0 + 1) x5))
              generalize e_H2 : hs H1 (a0 + 9) x1 (hg H (a0 + 1) x5) = H2 at h_r0_2 ⊢
              replace h := h H2 e_H2.symm
              refine a_aload_n dX5_place_127 rfl rfl ?_
              refine a_iload_n dX5_place_128 rfl rfl ?_
              refine a_iconst dX5_place_129 ⟨by decide, by decide⟩ ?_
              obtain ⟨q130_0, h⟩ := h
              refine a_iadd dX5_place_130 q130_0 ?_
              refine a_iload_n dX5_place_131 rfl rfl ?_
              refine a_iconst dX5_place_132 ⟨by decide, by decide⟩ ?_
              refine a_iload dX5_place_133 rfl ?_
              obtain ⟨q135_0, h⟩ := h
              refine a_ishl dX5_place_135 q135_0 ?_
              obtain ⟨q136_0, h⟩ := h
              refine a_ior dX5_place_136 q136_0 ?_
              refine a_callS dX5_place_137 cw_X5_place_137 (as := [vR a0, vI (x1 + 1), vI (ior x2 (pw (hg H (a0 + 1) x5)))]) rfl rfl (Nat.le_refl _) (Nat.le_of_ble_eq_true rfl) (nocov rfl) (Nat.le_of_ble_eq_true rfl) (Nat.le_of_ble_eq_true rfl) (CL.mono h (fun r9 H3 h => ?_))
              obtain ⟨h_r0_3, e9, h⟩ := h
              rw [e9]
              show AW l G mX5_place (d + 1) 0 0 Q 140 [vR a0, vI x1, vI x2, vI x3, vI x4, vI x5, vI (hg H (a0 + 1) x5), vI 1] [] 0 0 H3
              obtain ⟨q140_0, h⟩ := h
              refine a_iinc dX5_place_140 rfl (Nat.le_of_ble_eq_true rfl) (by decide) q140_0 (ls' := [vR a0, vI x1, vI x2, vI x3, vI x4, vI (x5 + 1), vI (hg H (a0 + 1) x5), vI 1]) rfl ?_
              refine a_goto dX5_place_143 (tgt := 42) rfl ?_
              exact a_weak (wk_e (wk_e (wk_e (wk_e (wk_e (wk_e (wk_u (wk_u wk_n)))))))) h


theorem dX5_findBest_0 : decode cX5_findBest 0 = .ok (.aload_n 0, 1) := by decide +kernel
theorem dX5_findBest_1 : decode cX5_findBest 1 = .ok (.iconst 0, 1) := by decide +kernel
theorem dX5_findBest_2 : decode cX5_findBest 2 = .ok (.putfield 76, 3) := by decide +kernel
theorem dX5_findBest_5 : decode cX5_findBest 5 = .ok (.iconst 0, 1) := by decide +kernel
theorem dX5_findBest_6 : decode cX5_findBest 6 = .ok (.istore_n 1, 1) := by decide +kernel
theorem dX5_findBest_7 : decode cX5_findBest 7 = .ok (.iload_n 1, 1) := by decide +kernel
theorem dX5_findBest_8 : decode cX5_findBest 8 = .ok (.aload_n 0, 1) := by decide +kernel
theorem dX5_findBest_9 : decode cX5_findBest 9 = .ok (.getfield 43, 3) := by decide +kernel
theorem dX5_findBest_12 : decode cX5_findBest 12 = .ok (.if_icmp .ge 21, 3) := by decide +kernel
theorem dX5_findBest_15 : decode cX5_findBest 15 = .ok (.aload_n 0, 1) := by decide +kernel
theorem dX5_findBest_16 : decode cX5_findBest 16 = .ok (.iload_n 1, 1) := by decide +kernel
theorem dX5_findBest_17 : decode cX5_findBest 17 = .ok (.iload_n 1, 1) := by decide +kernel
theorem dX5_findBest_18 : decode cX5_findBest 18 = .ok (.iconst 1, 1) := by decide +kernel
theorem dX5_findBest_19 : decode cX5_findBest 19 = .ok (.iload_n 1, 1) := by decide +kernel
theorem dX5_findBest_20 : decode cX5_findBest 20 = .ok (.ishl, 1) := by decide +kernel
theorem dX5_findBest_21 : decode cX5_findBest 21 = .ok (.iconst 1, 1) := by decide +kernel
theorem dX5_findBest_22 : decode cX5_findBest 22 = .ok (.isub, 1) := by decide +kernel
theorem dX5_findBest_23 : decode cX5_findBest 23 = .ok (.invokevirtual 80, 3) := by decide +kernel
theorem dX5_findBest_26 : decode cX5_findBest 26 = .ok (.pop2, 1) := by decide +kernel
theorem dX5_findBest_27 : decode cX5_findBest 27 = .ok (.iinc 1 1, 3) := by decide +kernel
theorem dX5_findBest_30 : decode cX5_findBest 30 = .ok (.goto (-23), 3) := by decide +kernel
theorem dX5_findBest_33 : decode cX5_findBest 33 = .ok (.aload_n 0, 1) := by decide +kernel
theorem dX5_findBest_34 : decode cX5_findBest 34 = .ok (.aload_n 0, 1) := by decide +kernel
theorem dX5_findBest_35 : decode cX5_findBest 35 = .ok (.getfield 33, 3) := by decide +kernel
theorem dX5_findBest_38 : decode cX5_findBest 38 = .ok (.aload_n 0, 1) := by decide +kernel
theorem dX5_findBest_39 : decode cX5_findBest 39 = .ok (.getfield 43, 3) := by decide +kernel
theorem dX5_findBest_42 : decode cX5_findBest 42 = .ok (.laload, 1) := by decide +kernel
theorem dX5_findBest_43 : decode cX5_findBest 43 = .ok (.putfield 84, 3) := by decide +kernel
theorem dX5_findBest_46 : decode cX5_findBest 46 = .ok (.aload_n 0, 1) := by decide +kernel
theorem dX5_findBest_47 : decode cX5_findBest 47 = .ok (.iconst 0, 1) := by decide +kernel
theorem dX5_findBest_48 : decode cX5_findBest 48 = .ok (.iconst 0, 1) := by decide +kernel
theorem dX5_findBest_49 : decode cX5_findBest 49 = .ok (.invokestatic 88, 3) := by decide +kernel
theorem dX5_findBest_52 : decode cX5_findBest 52 = .ok (.return_, 1) := by decide +kernel
set_option maxRecDepth 20000 in
theorem s_X5_findBest_0 {l : Launch} {G : GT} {d : Nat} {Q : AV → AH → Prop} {H : AH} {a0 : Int} (h_r0 : Lay LSea H a0) (h : ∀ H1 : AH, H1 = hs H a0 13 0 → AW l G mX5_findBest (d + 1) 0 0 Q 7 [vR a0, vI 0] [] 0 0 H1) : AW l G mX5_findBest (d + 1) 0 0 Q 0 [vR a0, vU] [] 0 0 H := by
  refine a_aload_n dX5_findBest_0 rfl rfl ?_
  refine a_iconst dX5_findBest_1 ⟨by decide, by decide⟩ ?_
  refine a_putZ dX5_findBest_2 fp_RX5_76 rfl rfl (kSea_0 h_r0) (by decide) ?_
  have h_r0_1 := Lay.wr h_r0 ok_Sea (nrf_fld 13 (kSea_0 h_r0) (by decide) (by decide)) (i := 13) (x := 0)
  generalize e_H1 : hs H a0 13 0 = H1 at h_r0_1 ⊢
  replace h := h H1 e_H1.symm
  refine a_iconst dX5_findBest_5 ⟨by decide, by decide⟩ ?_
  refine a_istore_n dX5_findBest_6 rfl (Nat.le_of_ble_eq_true rfl) (ls' := [vR a0, vI 0]) rfl ?_
  exact h

set_option maxRecDepth 20000 in
theorem s_X5_findBest_7 {l : Launch} {G : GT} {d : Nat} {Q : AV → AH → Prop} {H : AH} {a0 x1 : Int} (h_r0 : Lay LSea H a0) (h : ((hg H a0 0) ≤ x1 → (0 ≤ (hg H a0 0) ∧ (hg H a0 0) < 8) ∧ ∀ H1 : AH, H1 = hs H a0 12 (hg H (a0 + 8) (hg H a0 0)) → CL l G mX5_place d 0 0 [vR a0, vI 0, vI 0] H1 (fun r9 H2 => Lay LSea H2 a0 ∧ r9 = vV ∧ Q vV H2)) ∧ (x1 < (hg H a0 0) → (0 ≤ x1 ∧ x1 ≤ 30) ∧ (-2147483648 ≤ (pw x1) - 1 ∧ (pw x1) - 1 ≤ 2147483647) ∧ CL l G mX5_put d 0 0 [vR a0, vI x1, vI x1, vI ((pw x1) - 1)] H (fun r9 H1 => Lay LSea H1 a0 ∧ ∃ y1 : Int, r9 = vJ y1 ∧ (-2147483648 ≤ x1 + 1 ∧ x1 + 1 ≤ 2147483647) ∧ AW l G mX5_findBest (d + 1) 0 0 Q 7 [vR a0, vI (x1 + 1)] [] 0 0 H1))) : AW l G mX5_findBest (d + 1) 0 0 Q 7 [vR a0, vI x1] [] 0 0 H := by
  refine a_iload_n dX5_findBest_7 rfl rfl ?_
  refine a_aload_n dX5_findBest_8 rfl rfl ?_
  refine a_getI dX5_findBest_9 fw_RX5_43 rfl rfl (kSea_0 h_r0) ?_
  refine a_icmp_ge dX5_findBest_12 (tgt := 33) rfl (fun c12 => ?_) (fun c12 => ?_)
  · replace h := h.1 c12
    refine a_aload_n dX5_findBest_33 rfl rfl ?_
    refine a_aload_n dX5_findBest_34 rfl rfl ?_
    refine a_getR dX5_findBest_35 fw_RX5_33 rfl rfl (kSea_0 h_r0) (rSea_0_9 h_r0) ?_
    refine a_aload_n dX5_findBest_38 rfl rfl ?_
    refine a_getI dX5_findBest_39 fw_RX5_43 rfl rfl (kSea_0 h_r0) ?_
    obtain ⟨q42_0, h⟩ := h
    refine b_lald dX5_findBest_42 (kSea_8 h_r0) (nSea_8 h_r0) q42_0 ?_
    refine a_putJ dX5_findBest_43 fp_RX5_84 rfl rfl (kSea_0 h_r0) ?_
    have h_r0_1 := Lay.wr h_r0 ok_Sea (nrf_fld 12 (kSea_0 h_r0) (by decide) (by decide)) (i := 12) (x := (hg H (a0 + 8) (hg H a0 0)))
    generalize e_H1 : hs H a0 12 (hg H (a0 + 8) (hg H a0 0)) = H1 at h_r0_1 ⊢
    replace h := h H1 e_H1.symm
    refine a_aload_n dX5_findBest_46 rfl rfl ?_
    refine a_iconst dX5_findBest_47 ⟨by decide, by decide⟩ ?_
    refine a_iconst dX5_findBest_48 ⟨by decide, by decide⟩ ?_
    refine a_callS dX5_findBest_49 cw_X5_findBest_49 (as := [vR a0, vI 0, vI 0]) rfl rfl (Nat.le_refl _) (Nat.le_of_ble_eq_true rfl) (nocov rfl) (Nat.le_of_ble_eq_true rfl) (Nat.le_of_ble_eq_true rfl) (CL.mono h (fun r9 H2 h => ?_))
    obtain ⟨h_r0_2, e9, h⟩ := h
    rw [e9]
    show AW l G mX5_findBest (d + 1) 0 0 Q 52 [vR a0, vI x1] [] 0 0 H2
    exact a_vret dX5_findBest_52 rfl (Nat.le_of_ble_eq_true rfl) (Nat.le_of_ble_eq_true rfl) h
  · replace h := h.2 c12
    refine a_aload_n dX5_findBest_15 rfl rfl ?_
    refine a_iload_n dX5_findBest_16 rfl rfl ?_
    refine a_iload_n dX5_findBest_17 rfl rfl ?_
    refine a_iconst dX5_findBest_18 ⟨by decide, by decide⟩ ?_
    refine a_iload_n dX5_findBest_19 rfl rfl ?_
    obtain ⟨q20_0, h⟩ := h
    refine a_ishl dX5_findBest_20 q20_0 ?_
    refine a_iconst dX5_findBest_21 ⟨by decide, by decide⟩ ?_
    obtain ⟨q22_0, h⟩ := h
    refine a_isub dX5_findBest_22 q22_0 ?_
    refine a_callV dX5_findBest_23 cw_X5_findBest_23 (as := [vI x1, vI x1, vI ((pw x1) - 1)]) rfl rfl (kSea_0 h_r0) (Nat.le_refl _) (Nat.le_of_ble_eq_true rfl) (nocov rfl) (Nat.le_of_ble_eq_true rfl) (Nat.le_of_ble_eq_true rfl) (CL.mono h (fun r9 H1 h => ?_))
    obtain ⟨h_r0_1, y1, e9, h⟩ := h
    rw [e9]
    show AW l G mX5_findBest (d + 1) 0 0 Q 26 [vR a0, vI x1] [vJ y1] 0 0 H1
    refine a_pop2 dX5_findBest_26 rfl ?_
    obtain ⟨q27_0, h⟩ := h
    refine a_iinc dX5_findBest_27 rfl (Nat.le_of_ble_eq_true rfl) (by decide) q27_0 (ls' := [vR a0, vI (x1 + 1)]) rfl ?_
    refine a_goto dX5_findBest_30 (tgt := 7) rfl ?_
    exact h


theorem dX5_countAsGood_0 : decode cX5_countAsGood 0 = .ok (.aload_n 0, 1) := by decide +kernel
theorem dX5_countAsGood_1 : decode cX5_countAsGood 1 = .ok (.iconst 1, 1) := by decide +kernel
theorem dX5_countAsGood_2 : decode cX5_countAsGood 2 = .ok (.putfield 76, 3) := by decide +kernel
theorem dX5_countAsGood_5 : decode cX5_countAsGood 5 = .ok (.aload_n 0, 1) := by decide +kernel
theorem dX5_countAsGood_6 : decode cX5_countAsGood 6 = .ok (.iconst 0, 1) := by decide +kernel
theorem dX5_countAsGood_7 : decode cX5_countAsGood 7 = .ok (.putfield 92, 3) := by decide +kernel
theorem dX5_countAsGood_10 : decode cX5_countAsGood 10 = .ok (.aload_n 0, 1) := by decide +kernel
theorem dX5_countAsGood_11 : decode cX5_countAsGood 11 = .ok (.dup, 1) := by decide +kernel
theorem dX5_countAsGood_12 : decode cX5_countAsGood 12 = .ok (.getfield 84, 3) := by decide +kernel
theorem dX5_countAsGood_15 : decode cX5_countAsGood 15 = .ok (.lconst 1, 1) := by decide +kernel
theorem dX5_countAsGood_16 : decode cX5_countAsGood 16 = .ok (.ladd, 1) := by decide +kernel
theorem dX5_countAsGood_17 : decode cX5_countAsGood 17 = .ok (.putfield 84, 3) := by decide +kernel
theorem dX5_countAsGood_20 : decode cX5_countAsGood 20 = .ok (.aload_n 0, 1) := by decide +kernel
theorem dX5_countAsGood_21 : decode cX5_countAsGood 21 = .ok (.iconst 0, 1) := by decide +kernel
theorem dX5_countAsGood_22 : decode cX5_countAsGood 22 = .ok (.iconst 0, 1) := by decide +kernel
theorem dX5_countAsGood_23 : decode cX5_countAsGood 23 = .ok (.invokestatic 88, 3) := by decide +kernel
theorem dX5_countAsGood_26 : decode cX5_countAsGood 26 = .ok (.aload_n 0, 1) := by decide +kernel
theorem dX5_countAsGood_27 : decode cX5_countAsGood 27 = .ok (.getfield 92, 3) := by decide +kernel
theorem dX5_countAsGood_30 : decode cX5_countAsGood 30 = .ok (.ireturn, 1) := by decide +kernel
set_option maxRecDepth 20000 in
theorem s_X5_countAsGood_0 {l : Launch} {G : GT} {d : Nat} {Q : AV → AH → Prop} {H : AH} {a0 : Int} (h_r0 : Lay LSea H a0) (h : ∀ H1 : AH, H1 = hs H a0 13 1 → ∀ H2 : AH, H2 = hs H1 a0 14 0 → (-9223372036854775808 ≤ (hg H2 a0 12) + 1 ∧ (hg H2 a0 12) + 1 ≤ 9223372036854775807) ∧ ∀ H3 : AH, H3 = hs H2 a0 12 ((hg H2 a0 12) + 1) → CL l G mX5_place d 0 0 [vR a0, vI 0, vI 0] H3 (fun r9 H4 => Lay LSea H4 a0 ∧ r9 = vV ∧ Q (vI (hg H4 a0 14)) H4)) : AW l G mX5_countAsGood (d + 1) 0 0 Q 0 [vR a0] [] 0 0 H := by
  refine a_aload_n dX5_countAsGood_0 rfl rfl ?_
  refine a_iconst dX5_countAsGood_1 ⟨by decide, by decide⟩ ?_
  refine a_putZ dX5_countAsGood_2 fp_RX5_76 rfl rfl (kSea_0 h_r0) (by decide) ?_
  have h_r0_1 := Lay.wr h_r0 ok_Sea (nrf_fld 13 (kSea_0 h_r0) (by decide) (by decide)) (i := 13) (x := 1)
  generalize e_H1 : hs H a0 13 1 = H1 at h_r0_1 ⊢
  replace h := h H1 e_H1.symm
  refine a_aload_n dX5_countAsGood_5 rfl rfl ?_
  refine a_iconst dX5_countAsGood_6 ⟨by decide, by decide⟩ ?_
  refine a_putI dX5_countAsGood_7 fp_RX5_92 rfl rfl (kSea_0 h_r0_1) ?_
  have h_r0_2 := Lay.wr h_r0_1 ok_Sea (nrf_fld 14 (kSea_0 h_r0_1) (by decide) (by decide)) (i := 14) (x := 0)
  generalize e_H2 : hs H1 a0 14 0 = H2 at h_r0_2 ⊢
  replace h := h H2 e_H2.symm
  refine a_aload_n dX5_countAsGood_10 rfl rfl ?_
  refine a_dup dX5_countAsGood_11 rfl ?_
  refine a_getJ dX5_countAsGood_12 fw_RX5_84 rfl rfl (kSea_0 h_r0_2) ?_
  refine a_lconst dX5_countAsGood_15 ?_
  show AW l G mX5_countAsGood (d + 1) 0 0 Q 16 [vR a0] [vJ 1, vJ (hg H2 a0 12), vR a0] 0 0 H2
  obtain ⟨q16_0, h⟩ := h
  refine a_ladd dX5_countAsGood_16 q16_0 ?_
  refine a_putJ dX5_countAsGood_17 fp_RX5_84 rfl rfl (kSea_0 h_r0_2) ?_
  have h_r0_3 := Lay.wr h_r0_2 ok_Sea (nrf_fld 12 (kSea_0 h_r0_2) (by decide) (by decide)) (i := 12) (x := ((hg H2 a0 12) + 1))
  generalize e_H3 : hs H2 a0 12 ((hg H2 a0 12) + 1) = H3 at h_r0_3 ⊢
  replace h := h H3 e_H3.symm
  refine a_aload_n dX5_countAsGood_20 rfl rfl ?_
  refine a_iconst dX5_countAsGood_21 ⟨by decide, by decide⟩ ?_
  refine a_iconst dX5_countAsGood_22 ⟨by decide, by decide⟩ ?_
  refine a_callS dX5_countAsGood_23 cw_X5_countAsGood_23 (as := [vR a0, vI 0, vI 0]) rfl rfl (Nat.le_refl _) (Nat.le_of_ble_eq_true rfl) (nocov rfl) (Nat.le_of_ble_eq_true rfl) (Nat.le_of_ble_eq_true rfl) (CL.mono h (fun r9 H4 h => ?_))
  obtain ⟨h_r0_4, e9, h⟩ := h
  rw [e9]
  show AW l G mX5_countAsGood (d + 1) 0 0 Q 26 [vR a0] [] 0 0 H4
  refine a_aload_n dX5_countAsGood_26 rfl rfl ?_
  refine a_getI dX5_countAsGood_27 fw_RX5_92 rfl rfl (kSea_0 h_r0_4) ?_
  exact a_iret dX5_countAsGood_30 rfl (Nat.le_of_ble_eq_true rfl) (Nat.le_of_ble_eq_true rfl) h


theorem dX5_prepare_0 : decode cX5_prepare 0 = .ok (.aload_n 0, 1) := by decide +kernel
theorem dX5_prepare_1 : decode cX5_prepare 1 = .ok (.iload_n 3, 1) := by decide +kernel
theorem dX5_prepare_2 : decode cX5_prepare 2 = .ok (.bipush 7, 2) := by decide +kernel
theorem dX5_prepare_4 : decode cX5_prepare 4 = .ok (.if_icmp .ge 7, 3) := by decide +kernel
theorem dX5_prepare_7 : decode cX5_prepare 7 = .ok (.iload_n 3, 1) := by decide +kernel
theorem dX5_prepare_8 : decode cX5_prepare 8 = .ok (.goto 5, 3) := by decide +kernel
theorem dX5_prepare_11 : decode cX5_prepare 11 = .ok (.bipush 7, 2) := by decide +kernel
theorem dX5_prepare_13 : decode cX5_prepare 13 = .ok (.putfield 43, 3) := by decide +kernel
theorem dX5_prepare_16 : decode cX5_prepare 16 = .ok (.aload_n 0, 1) := by decide +kernel
theorem dX5_prepare_17 : decode cX5_prepare 17 = .ok (.aload_n 1, 1) := by decide +kernel
theorem dX5_prepare_18 : decode cX5_prepare 18 = .ok (.getfield 47, 3) := by decide +kernel
theorem dX5_prepare_21 : decode cX5_prepare 21 = .ok (.getfield 53, 3) := by decide +kernel
theorem dX5_prepare_24 : decode cX5_prepare 24 = .ok (.putfield 58, 3) := by decide +kernel
theorem dX5_prepare_27 : decode cX5_prepare 27 = .ok (.aload_n 0, 1) := by decide +kernel
theorem dX5_prepare_28 : decode cX5_prepare 28 = .ok (.getfield 33, 3) := by decide +kernel
theorem dX5_prepare_31 : decode cX5_prepare 31 = .ok (.iconst 0, 1) := by decide +kernel
theorem dX5_prepare_32 : decode cX5_prepare 32 = .ok (.lconst 0, 1) := by decide +kernel
theorem dX5_prepare_33 : decode cX5_prepare 33 = .ok (.lastore, 1) := by decide +kernel
theorem dX5_prepare_34 : decode cX5_prepare 34 = .ok (.iconst 0, 1) := by decide +kernel
theorem dX5_prepare_35 : decode cX5_prepare 35 = .ok (.istore 5, 2) := by decide +kernel
theorem dX5_prepare_37 : decode cX5_prepare 37 = .ok (.iload 5, 2) := by decide +kernel
theorem dX5_prepare_39 : decode cX5_prepare 39 = .ok (.aload_n 0, 1) := by decide +kernel
theorem dX5_prepare_40 : decode cX5_prepare 40 = .ok (.getfield 43, 3) := by decide +kernel
theorem dX5_prepare_43 : decode cX5_prepare 43 = .ok (.if_icmp .ge 204, 3) := by decide +kernel
theorem dX5_prepare_46 : decode cX5_prepare 46 = .ok (.aload_n 2, 1) := by decide +kernel
theorem dX5_prepare_47 : decode cX5_prepare 47 = .ok (.iload 5, 2) := by decide +kernel
theorem dX5_prepare_49 : decode cX5_prepare 49 = .ok (.iaload, 1) := by decide +kernel
theorem dX5_prepare_50 : decode cX5_prepare 50 = .ok (.istore 6, 2) := by decide +kernel
theorem dX5_prepare_52 : decode cX5_prepare 52 = .ok (.aload_n 1, 1) := by decide +kernel
theorem dX5_prepare_53 : decode cX5_prepare 53 = .ok (.getfield 59, 3) := by decide +kernel
theorem dX5_prepare_56 : decode cX5_prepare 56 = .ok (.getfield 63, 3) := by decide +kernel
theorem dX5_prepare_59 : decode cX5_prepare 59 = .ok (.iload 6, 2) := by decide +kernel
theorem dX5_prepare_61 : decode cX5_prepare 61 = .ok (.iaload, 1) := by decide +kernel
theorem dX5_prepare_62 : decode cX5_prepare 62 = .ok (.istore 7, 2) := by decide +kernel
theorem dX5_prepare_64 : decode cX5_prepare 64 = .ok (.aload_n 0, 1) := by decide +kernel
theorem dX5_prepare_65 : decode cX5_prepare 65 = .ok (.getfield 18, 3) := by decide +kernel
theorem dX5_prepare_68 : decode cX5_prepare 68 = .ok (.iload 5, 2) := by decide +kernel
theorem dX5_prepare_70 : decode cX5_prepare 70 = .ok (.aload_n 1, 1) := by decide +kernel
theorem dX5_prepare_71 : decode cX5_prepare 71 = .ok (.getfield 59, 3) := by decide +kernel
theorem dX5_prepare_74 : decode cX5_prepare 74 = .ok (.getfield 68, 3) := by decide +kernel
theorem dX5_prepare_77 : decode cX5_prepare 77 = .ok (.iload 6, 2) := by decide +kernel
theorem dX5_prepare_79 : decode cX5_prepare 79 = .ok (.iaload, 1) := by decide +kernel
theorem dX5_prepare_80 : decode cX5_prepare 80 = .ok (.iastore, 1) := by decide +kernel
theorem dX5_prepare_81 : decode cX5_prepare 81 = .ok (.aload_n 0, 1) := by decide +kernel
theorem dX5_prepare_82 : decode cX5_prepare 82 = .ok (.getfield 21, 3) := by decide +kernel
theorem dX5_prepare_85 : decode cX5_prepare 85 = .ok (.iload 5, 2) := by decide +kernel
theorem dX5_prepare_87 : decode cX5_prepare 87 = .ok (.aload_n 1, 1) := by decide +kernel
theorem dX5_prepare_88 : decode cX5_prepare 88 = .ok (.getfield 59, 3) := by decide +kernel
theorem dX5_prepare_91 : decode cX5_prepare 91 = .ok (.getfield 69, 3) := by decide +kernel
theorem dX5_prepare_94 : decode cX5_prepare 94 = .ok (.iload 6, 2) := by decide +kernel
theorem dX5_prepare_96 : decode cX5_prepare 96 = .ok (.iaload, 1) := by decide +kernel
theorem dX5_prepare_97 : decode cX5_prepare 97 = .ok (.iastore, 1) := by decide +kernel
theorem dX5_prepare_98 : decode cX5_prepare 98 = .ok (.aload_n 0, 1) := by decide +kernel
theorem dX5_prepare_99 : decode cX5_prepare 99 = .ok (.getfield 24, 3) := by decide +kernel
theorem dX5_prepare_102 : decode cX5_prepare 102 = .ok (.iload 5, 2) := by decide +kernel
theorem dX5_prepare_104 : decode cX5_prepare 104 = .ok (.aload_n 1, 1) := by decide +kernel
theorem dX5_prepare_105 : decode cX5_prepare 105 = .ok (.getfield 47, 3) := by decide +kernel
theorem dX5_prepare_108 : decode cX5_prepare 108 = .ok (.getfield 70, 3) := by decide +kernel
theorem dX5_prepare_111 : decode cX5_prepare 111 = .ok (.iload 7, 2) := by decide +kernel
theorem dX5_prepare_113 : decode cX5_prepare 113 = .ok (.iaload, 1) := by decide +kernel
theorem dX5_prepare_114 : decode cX5_prepare 114 = .ok (.iastore, 1) := by decide +kernel
theorem dX5_prepare_115 : decode cX5_prepare 115 = .ok (.aload_n 0, 1) := by decide +kernel
theorem dX5_prepare_116 : decode cX5_prepare 116 = .ok (.getfield 27, 3) := by decide +kernel
theorem dX5_prepare_119 : decode cX5_prepare 119 = .ok (.iload 5, 2) := by decide +kernel
theorem dX5_prepare_121 : decode cX5_prepare 121 = .ok (.aload_n 1, 1) := by decide +kernel
theorem dX5_prepare_122 : decode cX5_prepare 122 = .ok (.getfield 47, 3) := by decide +kernel
theorem dX5_prepare_125 : decode cX5_prepare 125 = .ok (.getfield 71, 3) := by decide +kernel
theorem dX5_prepare_128 : decode cX5_prepare 128 = .ok (.iload 7, 2) := by decide +kernel
theorem dX5_prepare_130 : decode cX5_prepare 130 = .ok (.iaload, 1) := by decide +kernel
theorem dX5_prepare_131 : decode cX5_prepare 131 = .ok (.iastore, 1) := by decide +kernel
theorem dX5_prepare_132 : decode cX5_prepare 132 = .ok (.aload_n 0, 1) := by decide +kernel
theorem dX5_prepare_133 : decode cX5_prepare 133 = .ok (.getfield 30, 3) := by decide +kernel
theorem dX5_prepare_136 : decode cX5_prepare 136 = .ok (.iload 5, 2) := by decide +kernel
theorem dX5_prepare_138 : decode cX5_prepare 138 = .ok (.aload 4, 2) := by decide +kernel
theorem dX5_prepare_140 : decode cX5_prepare 140 = .ok (.iload 6, 2) := by decide +kernel
theorem dX5_prepare_142 : decode cX5_prepare 142 = .ok (.iaload, 1) := by decide +kernel
theorem dX5_prepare_143 : decode cX5_prepare 143 = .ok (.iastore, 1) := by decide +kernel
theorem dX5_prepare_144 : decode cX5_prepare 144 = .ok (.iconst 0, 1) := by decide +kernel
theorem dX5_prepare_145 : decode cX5_prepare 145 = .ok (.istore 8, 2) := by decide +kernel
theorem dX5_prepare_147 : decode cX5_prepare 147 = .ok (.iload 8, 2) := by decide +kernel
theorem dX5_prepare_149 : decode cX5_prepare 149 = .ok (.aload_n 0, 1) := by decide +kernel
theorem dX5_prepare_150 : decode cX5_prepare 150 = .ok (.getfield 43, 3) := by decide +kernel
theorem dX5_prepare_153 : decode cX5_prepare 153 = .ok (.if_icmp .ge 32, 3) := by decide +kernel
theorem dX5_prepare_156 : decode cX5_prepare 156 = .ok (.aload_n 0, 1) := by decide +kernel
theorem dX5_prepare_157 : decode cX5_prepare 157 = .ok (.getfield 15, 3) := by decide +kernel
theorem dX5_prepare_160 : decode cX5_prepare 160 = .ok (.iload 5, 2) := by decide +kernel
theorem dX5_prepare_162 : decode cX5_prepare 162 = .ok (.bipush 7, 2) := by decide +kernel
theorem dX5_prepare_164 : decode cX5_prepare 164 = .ok (.imul, 1) := by decide +kernel
theorem dX5_prepare_165 : decode cX5_prepare 165 = .ok (.iload 8, 2) := by decide +kernel
theorem dX5_prepare_167 : decode cX5_prepare 167 = .ok (.iadd, 1) := by decide +kernel
theorem dX5_prepare_168 : decode cX5_prepare 168 = .ok (.aload_n 1, 1) := by decide +kernel
theorem dX5_prepare_169 : decode cX5_prepare 169 = .ok (.iload 6, 2) := by decide +kernel
theorem dX5_prepare_171 : decode cX5_prepare 171 = .ok (.aload_n 2, 1) := by decide +kernel
theorem dX5_prepare_172 : decode cX5_prepare 172 = .ok (.iload 8, 2) := by decide +kernel
theorem dX5_prepare_174 : decode cX5_prepare 174 = .ok (.iaload, 1) := by decide +kernel
theorem dX5_prepare_175 : decode cX5_prepare 175 = .ok (.invokevirtual 72, 3) := by decide +kernel
theorem dX5_prepare_178 : decode cX5_prepare 178 = .ok (.iastore, 1) := by decide +kernel
theorem dX5_prepare_179 : decode cX5_prepare 179 = .ok (.iinc 8 1, 3) := by decide +kernel
theorem dX5_prepare_182 : decode cX5_prepare 182 = .ok (.goto (-35), 3) := by decide +kernel
theorem dX5_prepare_185 : decode cX5_prepare 185 = .ok (.iload 5, 2) := by decide +kernel
theorem dX5_prepare_187 : decode cX5_prepare 187 = .ok (.istore 8, 2) := by decide +kernel
theorem dX5_prepare_189 : decode cX5_prepare 189 = .ok (.iload 8, 2) := by decide +kernel
theorem dX5_prepare_191 : decode cX5_prepare 191 = .ok (.ifCond .le 41, 3) := by decide +kernel
theorem dX5_prepare_194 : decode cX5_prepare 194 = .ok (.aload_n 2, 1) := by decide +kernel
theorem dX5_prepare_195 : decode cX5_prepare 195 = .ok (.aload_n 0, 1) := by decide +kernel
theorem dX5_prepare_196 : decode cX5_prepare 196 = .ok (.getfield 9, 3) := by decide +kernel
theorem dX5_prepare_199 : decode cX5_prepare 199 = .ok (.iload 8, 2) := by decide +kernel
theorem dX5_prepare_201 : decode cX5_prepare 201 = .ok (.iconst 1, 1) := by decide +kernel
theorem dX5_prepare_202 : decode cX5_prepare 202 = .ok (.isub, 1) := by decide +kernel
theorem dX5_prepare_203 : decode cX5_prepare 203 = .ok (.iaload, 1) := by decide +kernel
theorem dX5_prepare_204 : decode cX5_prepare 204 = .ok (.iaload, 1) := by decide +kernel
theorem dX5_prepare_205 : decode cX5_prepare 205 = .ok (.iload 6, 2) := by decide +kernel
theorem dX5_prepare_207 : decode cX5_prepare 207 = .ok (.if_icmp .le 25, 3) := by decide +kernel
theorem dX5_prepare_210 : decode cX5_prepare 210 = .ok (.aload_n 0, 1) := by decide +kernel
theorem dX5_prepare_211 : decode cX5_prepare 211 = .ok (.getfield 9, 3) := by decide +kernel
theorem dX5_prepare_214 : decode cX5_prepare 214 = .ok (.iload 8, 2) := by decide +kernel
theorem dX5_prepare_216 : decode cX5_prepare 216 = .ok (.aload_n 0, 1) := by decide +kernel
theorem dX5_prepare_217 : decode cX5_prepare 217 = .ok (.getfield 9, 3) := by decide +kernel
theorem dX5_prepare_220 : decode cX5_prepare 220 = .ok (.iload 8, 2) := by decide +kernel
theorem dX5_prepare_222 : decode cX5_prepare 222 = .ok (.iconst 1, 1) := by decide +kernel
theorem dX5_prepare_223 : decode cX5_prepare 223 = .ok (.isub, 1) := by decide +kernel
theorem dX5_prepare_224 : decode cX5_prepare 224 = .ok (.iaload, 1) := by decide +kernel
theorem dX5_prepare_225 : decode cX5_prepare 225 = .ok (.iastore, 1) := by decide +kernel
theorem dX5_prepare_226 : decode cX5_prepare 226 = .ok (.iinc 8 (-1), 3) := by decide +kernel
theorem dX5_prepare_229 : decode cX5_prepare 229 = .ok (.goto (-40), 3) := by decide +kernel
theorem dX5_prepare_232 : decode cX5_prepare 232 = .ok (.aload_n 0, 1) := by decide +kernel
theorem dX5_prepare_233 : decode cX5_prepare 233 = .ok (.getfield 9, 3) := by decide +kernel
theorem dX5_prepare_236 : decode cX5_prepare 236 = .ok (.iload 8, 2) := by decide +kernel
theorem dX5_prepare_238 : decode cX5_prepare 238 = .ok (.iload 5, 2) := by decide +kernel
theorem dX5_prepare_240 : decode cX5_prepare 240 = .ok (.iastore, 1) := by decide +kernel
theorem dX5_prepare_241 : decode cX5_prepare 241 = .ok (.iinc 5 1, 3) := by decide +kernel
theorem dX5_prepare_244 : decode cX5_prepare 244 = .ok (.goto (-207), 3) := by decide +kernel
theorem dX5_prepare_247 : decode cX5_prepare 247 = .ok (.return_, 1) := by decide +kernel
set_option maxRecDepth 20000 in
theorem s_X5_prepare_0 {l : Launch} {G : GT} {d : Nat} {Q : AV → AH → Prop} {H : AH} {a0 a1 a2 a4 x3 : Int} {M : Row} (hS : SK H a1 M) (h_r0 : Lay LSea H a0) (h_r2 : Lay (LArr 10 24) H a2) (h_r4 : Lay (LArr 10 24) H a4) (hsep : a1 + 23 ≤ a0 ∨ a0 + 11 ≤ a1) (h : (7 ≤ x3 → ∀ H1 : AH, H1 = hs H a0 0 7 → ∀ H2 : AH, H2 = hs H1 a0 1 (M 1) → ∀ H3 : AH, H3 = hs H2 (a0 + 8) 0 0 → AW l G mX5_prepare (d + 1) 0 0 Q 37 [vR a0, vR a1, vR a2, vI x3, vR a4, vI 0, vU, vU, vU] [] 0 0 H3) ∧ (x3 < 7 → ∀ H1 : AH, H1 = hs H a0 0 x3 → ∀ H2 : AH, H2 = hs H1 a0 1 (M 1) → ∀ H3 : AH, H3 = hs H2 (a0 + 8) 0 0 → AW l G mX5_prepare (d + 1) 0 0 Q 37 [vR a0, vR a1, vR a2, vI x3, vR a4, vI 0, vU, vU, vU] [] 0 0 H3)) : AW l G mX5_prepare (d + 1) 0 0 Q 0 [vR a0, vR a1, vR a2, vI x3, vR a4, vU, vU, vU, vU] [] 0 0 H := by
  refine a_aload_n dX5_prepare_0 rfl rfl ?_
  refine a_iload_n dX5_prepare_1 rfl rfl ?_
  refine a_bipush dX5_prepare_2 (by decide) ?_
  refine a_icmp_ge dX5_prepare_4 (tgt := 11) rfl (fun c4 => ?_) (fun c4 => ?_)
  · replace h := h.1 c4
    refine a_bipush dX5_prepare_11 (by decide) ?_
    refine a_putI dX5_prepare_13 fp_RX5_43 rfl rfl (kSea_0 h_r0) ?_
    have h_r0_1 := Lay.wr h_r0 ok_Sea (nrf_fld 0 (kSea_0 h_r0) (by decide) (by decide)) (i := 0) (x := 7)
    have h_r1_1 := Lay.wr hS.1 ok_Sta (nrf_fld 0 (kSea_0 h_r0) (by decide) (by decide)) (i := 0) (x := 7)
    have h_r2_1 := Lay.wr h_r2 ok_Arr (nrf_fld 0 (kSea_0 h_r0) (by decide) (by decide)) (i := 0) (x := 7)
    have h_r4_1 := Lay.wr h_r4 ok_Arr (nrf_fld 0 (kSea_0 h_r0) (by decide) (by decide)) (i := 0) (x := 7)
    generalize e_H1 : hs H a0 0 7 = H1 at h_r0_1 h_r1_1 h_r2_1 h_r4_1 ⊢
    replace h := h H1 e_H1.symm
    have hSr1_0_1 : SK H1 a1 M := by rw [← e_H1]; exact SK.wr hS (nrf_fld 0 (kSea_0 h_r0) (by decide) (by decide)) (by omega)
    refine a_aload_n dX5_prepare_16 rfl rfl ?_
    refine a_aload_n dX5_prepare_17 rfl rfl ?_
    refine a_getR dX5_prepare_18 fw_RX5_47 rfl rfl (kSta_0 h_r1_1) (rSta_0_0 h_r1_1) ?_
    refine a_getIV dX5_prepare_21 fw_RX5_53 rfl rfl (kSta_1 h_r1_1) (sk_1_2 hSr1_0_1) ?_
    refine a_putI dX5_prepare_24 fp_RX5_58 rfl rfl (kSea_0 h_r0_1) ?_
    have h_r0_2 := Lay.wr h_r0_1 ok_Sea (nrf_fld 1 (kSea_0 h_r0_1) (by decide) (by decide)) (i := 1) (x := (M 1))
    have h_r1_2 := Lay.wr h_r1_1 ok_Sta (nrf_fld 1 (kSea_0 h_r0_1) (by decide) (by decide)) (i := 1) (x := (M 1))
    have h_r2_2 := Lay.wr h_r2_1 ok_Arr (nrf_fld 1 (kSea_0 h_r0_1) (by decide) (by decide)) (i := 1) (x := (M 1))
    have h_r4_2 := Lay.wr h_r4_1 ok_Arr (nrf_fld 1 (kSea_0 h_r0_1) (by decide) (by decide)) (i := 1) (x := (M 1))
    generalize e_H2 : hs H1 a0 1 (M 1) = H2 at h_r0_2 h_r1_2 h_r2_2 h_r4_2 ⊢
    replace h := h H2 e_H2.symm
    have hSr1_0_2 : SK H2 a1 M := by rw [← e_H2]; exact SK.wr hSr1_0_1 (nrf_fld 1 (kSea_0 h_r0_1) (by decide) (by decide)) (by omega)
    refine a_aload_n dX5_prepare_27 rfl rfl ?_
    refine a_getR dX5_prepare_28 fw_RX5_33 rfl rfl (kSea_0 h_r0_2) (rSea_0_9 h_r0_2) ?_
    refine a_iconst dX5_prepare_31 ⟨by decide, by decide⟩ ?_
    refine a_lconst dX5_prepare_32 ?_
    show AW l G mX5_prepare (d + 1) 0 0 Q 33 [vR a0, vR a1, vR a2, vI x3, vR a4, vU, vU, vU, vU] [vJ 0, vI 0, vR (a0 + 8)] 0 0 H2
    refine b_last dX5_prepare_33 (kSea_8 h_r0_2) (nSea_8 h_r0_2) (⟨by decide, by decide⟩) ?_
    have h_r0_3 := Lay.wr h_r0_2 ok_Sea (nrf_arr (kSea_8 h_r0_2) (by decide) (by decide)) (i := 0) (x := 0)
    have h_r1_3 := Lay.wr h_r1_2 ok_Sta (nrf_arr (kSea_8 h_r0_2) (by decide) (by decide)) (i := 0) (x := 0)
    have h_r2_3 := Lay.wr h_r2_2 ok_Arr (nrf_arr (kSea_8 h_r0_2) (by decide) (by decide)) (i := 0) (x := 0)
    have h_r4_3 := Lay.wr h_r4_2 ok_Arr (nrf_arr (kSea_8 h_r0_2) (by decide) (by decide)) (i := 0) (x := 0)
    generalize e_H3 : hs H2 (a0 + 8) 0 0 = H3 at h_r0_3 h_r1_3 h_r2_3 h_r4_3 ⊢
    replace h := h H3 e_H3.symm
    have hSr1_0_3 : SK H3 a1 M := by rw [← e_H3]; exact SK.wr hSr1_0_2 (nrf_arr (kSea_8 h_r0_2) (by decide) (by decide)) (by omega)
    refine a_iconst dX5_prepare_34 ⟨by decide, by decide⟩ ?_
    refine a_istore dX5_prepare_35 (Nat.le_of_ble_eq_true rfl) (ls' := [vR a0, vR a1, vR a2, vI x3, vR a4, vI 0, vU, vU, vU]) rfl ?_
    exact h
  · replace h := h.2 c4
    refine a_iload_n dX5_prepare_7 rfl rfl ?_
    refine a_goto dX5_prepare_8 (tgt := 13) rfl ?_
    refine a_putI dX5_prepare_13 fp_RX5_43 rfl rfl (kSea_0 h_r0) ?_
    have h_r0_1 := Lay.wr h_r0 ok_Sea (nrf_fld 0 (kSea_0 h_r0) (by decide) (by decide)) (i := 0) (x := x3)
    have h_r1_1 := Lay.wr hS.1 ok_Sta (nrf_fld 0 (kSea_0 h_r0) (by decide) (by decide)) (i := 0) (x := x3)
    have h_r2_1 := Lay.wr h_r2 ok_Arr (nrf_fld 0 (kSea_0 h_r0) (by decide) (by decide)) (i := 0) (x := x3)
    have h_r4_1 := Lay.wr h_r4 ok_Arr (nrf_fld 0 (kSea_0 h_r0) (by decide) (by decide)) (i := 0) (x := x3)
    generalize e_H1 : hs H a0 0 x3 = H1 at h_r0_1 h_r1_1 h_r2_1 h_r4_1 ⊢
    replace h := h H1 e_H1.symm
    have hSr1_0_1 : SK H1 a1 M := by rw [← e_H1]; exact SK.wr hS (nrf_fld 0 (kSea_0 h_r0) (by decide) (by decide)) (by omega)
    refine a_aload_n dX5_prepare_16 rfl rfl ?_
    refine a_aload_n dX5_prepare_17 rfl rfl ?_
    refine a_getR dX5_prepare_18 fw_RX5_47 rfl rfl (kSta_0 h_r1_1) (rSta_0_0 h_r1_1) ?_
    refine a_getIV dX5_prepare_21 fw_RX5_53 rfl rfl (kSta_1 h_r1_1) (sk_1_2 hSr1_0_1) ?_
    refine a_putI dX5_prepare_24 fp_RX5_58 rfl rfl (kSea_0 h_r0_1) ?_
    have h_r0_2 := Lay.wr h_r0_1 ok_Sea (nrf_fld 1 (kSea_0 h_r0_1) (by decide) (by decide)) (i := 1) (x := (M 1))
    have h_r1_2 := Lay.wr h_r1_1 ok_Sta (nrf_fld 1 (kSea_0 h_r0_1) (by decide) (by decide)) (i := 1) (x := (M 1))
    have h_r2_2 := Lay.wr h_r2_1 ok_Arr (nrf_fld 1 (kSea_0 h_r0_1) (by decide) (by decide)) (i := 1) (x := (M 1))
    have h_r4_2 := Lay.wr h_r4_1 ok_Arr (nrf_fld 1 (kSea_0 h_r0_1) (by decide) (by decide)) (i := 1) (x := (M 1))
    generalize e_H2 : hs H1 a0 1 (M 1) = H2 at h_r0_2 h_r1_2 h_r2_2 h_r4_2 ⊢
    replace h := h H2 e_H2.symm
    have hSr1_0_2 : SK H2 a1 M := by rw [← e_H2]; exact SK.wr hSr1_0_1 (nrf_fld 1 (kSea_0 h_r0_1) (by decide) (by decide)) (by omega)
    refine a_aload_n dX5_prepare_27 rfl rfl ?_
    refine a_getR dX5_prepare_28 fw_RX5_33 rfl rfl (kSea_0 h_r0_2) (rSea_0_9 h_r0_2) ?_
    refine a_iconst dX5_prepare_31 ⟨by decide, by decide⟩ ?_
    refine a_lconst dX5_prepare_32 ?_
    show AW l G mX5_prepare (d + 1) 0 0 Q 33 [vR a0, vR a1, vR a2, vI x3, vR a4, vU, vU, vU, vU] [vJ 0, vI 0, vR (a0 + 8)] 0 0 H2
    refine b_last dX5_prepare_33 (kSea_8 h_r0_2) (nSea_8 h_r0_2) (⟨by decide, by decide⟩) ?_
    have h_r0_3 := Lay.wr h_r0_2 ok_Sea (nrf_arr (kSea_8 h_r0_2) (by decide) (by decide)) (i := 0) (x := 0)
    have h_r1_3 := Lay.wr h_r1_2 ok_Sta (nrf_arr (kSea_8 h_r0_2) (by decide) (by decide)) (i := 0) (x := 0)
    have h_r2_3 := Lay.wr h_r2_2 ok_Arr (nrf_arr (kSea_8 h_r0_2) (by decide) (by decide)) (i := 0) (x := 0)
    have h_r4_3 := Lay.wr h_r4_2 ok_Arr (nrf_arr (kSea_8 h_r0_2) (by decide) (by decide)) (i := 0) (x := 0)
    generalize e_H3 : hs H2 (a0 + 8) 0 0 = H3 at h_r0_3 h_r1_3 h_r2_3 h_r4_3 ⊢
    replace h := h H3 e_H3.symm
    have hSr1_0_3 : SK H3 a1 M := by rw [← e_H3]; exact SK.wr hSr1_0_2 (nrf_arr (kSea_8 h_r0_2) (by decide) (by decide)) (by omega)
    refine a_iconst dX5_prepare_34 ⟨by decide, by decide⟩ ?_
    refine a_istore dX5_prepare_35 (Nat.le_of_ble_eq_true rfl) (ls' := [vR a0, vR a1, vR a2, vI x3, vR a4, vI 0, vU, vU, vU]) rfl ?_
    exact h

set_option maxRecDepth 20000 in
theorem s_X5_prepare_37 {l : Launch} {G : GT} {d : Nat} {Q : AV → AH → Prop} {H : AH} {a0 a1 a2 a4 x3 x5 : Int} {M : Row} (hS : SK H a1 M) (h_r0 : Lay LSea H a0) (h_r2 : Lay (LArr 10 24) H a2) (h_r4 : Lay (LArr 10 24) H a4) (hsep : a1 + 23 ≤ a0 ∨ a0 + 11 ≤ a1) (h : ((hg H a0 0) ≤ x5 → Q vV H) ∧ (x5 < (hg H a0 0) → (0 ≤ x5 ∧ x5 < 24) ∧ (0 ≤ (hg H a2 x5) ∧ (hg H a2 x5) < M 6) ∧ (0 ≤ x5 ∧ x5 < 7) ∧ ∀ H1 : AH, H1 = hs H (a0 + 3) x5 (ofM M (hg H a2 x5) 3) → ∀ H2 : AH, H2 = hs H1 (a0 + 4) x5 (ofM M (hg H a2 x5) 4) → (0 ≤ (ofM M (hg H a2 x5) 1) ∧ (ofM M (hg H a2 x5) 1) < 4) ∧ ∀ H3 : AH, H3 = hs H2 (a0 + 5) x5 (M (24 + (ofM M (hg H a2 x5) 1))) → ∀ H4 : AH, H4 = hs H3 (a0 + 6) x5 (M (28 + (ofM M (hg H a2 x5) 1))) → (0 ≤ (hg H a2 x5) ∧ (hg H a2 x5) < 24) ∧ (0 ≤ x5 ∧ x5 < 56) ∧ ∀ H5 : AH, H5 = hs H4 (a0 + 7) x5 (hg H4 a4 (hg H a2 x5)) → AW l G mX5_prepare (d + 1) 0 0 Q 147 [vR a0, vR a1, vR a2, vI x3, vR a4, vI x5, vI (hg H a2 x5), vI (ofM M (hg H a2 x5) 1), vI 0] [] 0 0 H5)) : AW l G mX5_prepare (d + 1) 0 0 Q 37 [vR a0, vR a1, vR a2, vI x3, vR a4, vI x5, vU, vU, vU] [] 0 0 H := by
  refine a_iload dX5_prepare_37 rfl ?_
  refine a_aload_n dX5_prepare_39 rfl rfl ?_
  refine a_getI dX5_prepare_40 fw_RX5_43 rfl rfl (kSea_0 h_r0) ?_
  refine a_icmp_ge dX5_prepare_43 (tgt := 247) rfl (fun c43 => ?_) (fun c43 => ?_)
  · replace h := h.1 c43
    exact a_vret dX5_prepare_247 rfl (Nat.le_of_ble_eq_true rfl) (Nat.le_of_ble_eq_true rfl) h
  · replace h := h.2 c43
    refine a_aload_n dX5_prepare_46 rfl rfl ?_
    refine a_iload dX5_prepare_47 rfl ?_
    obtain ⟨q49_0, h⟩ := h
    refine b_iald dX5_prepare_49 (kArr_0 h_r2) (nArr_0 h_r2) q49_0 ?_
    refine a_istore dX5_prepare_50 (Nat.le_of_ble_eq_true rfl) (ls' := [vR a0, vR a1, vR a2, vI x3, vR a4, vI x5, vI (hg H a2 x5), vU, vU]) rfl ?_
    refine a_aload_n dX5_prepare_52 rfl rfl ?_
    refine a_getR dX5_prepare_53 fw_RX5_59 rfl rfl (kSta_0 hS.1) (rSta_0_1 hS.1) ?_
    refine a_getR dX5_prepare_56 fw_RX5_63 rfl rfl (kSta_5 hS.1) (rSta_5_4 hS.1) ?_
    refine a_iload dX5_prepare_59 rfl ?_
    obtain ⟨q61_0, h⟩ := h
    refine b_ialdV dX5_prepare_61 (kSta_9 hS.1) (nSta_9 hS.1) (sk_lt hS q61_0) (sk_9 hS q61_0) ?_
    refine a_istore dX5_prepare_62 (Nat.le_of_ble_eq_true rfl) (ls' := [vR a0, vR a1, vR a2, vI x3, vR a4, vI x5, vI (hg H a2 x5), vI (ofM M (hg H a2 x5) 1), vU]) rfl ?_
    refine a_aload_n dX5_prepare_64 rfl rfl ?_
    refine a_getR dX5_prepare_65 fw_RX5_18 rfl rfl (kSea_0 h_r0) (rSea_0_4 h_r0) ?_
    refine a_iload dX5_prepare_68 rfl ?_
    refine a_aload_n dX5_prepare_70 rfl rfl ?_
    refine a_getR dX5_prepare_71 fw_RX5_59 rfl rfl (kSta_0 hS.1) (rSta_0_1 hS.1) ?_
    refine a_getR dX5_prepare_74 fw_RX5_68 rfl rfl (kSta_5 hS.1) (rSta_5_6 hS.1) ?_
    refine a_iload dX5_prepare_77 rfl ?_
    refine b_ialdV dX5_prepare_79 (kSta_11 hS.1) (nSta_11 hS.1) (sk_lt hS q61_0) (sk_11 hS q61_0) ?_
    obtain ⟨q80_0, h⟩ := h
    refine b_iast dX5_prepare_80 (kSea_3 h_r0) (nSea_3 h_r0) q80_0 ?_
    have h_r0_1 := Lay.wr h_r0 ok_Sea (nrf_arr (kSea_3 h_r0) (by decide) (by decide)) (i := x5) (x := (ofM M (hg H a2 x5) 3))
    have h_r1_1 := Lay.wr hS.1 ok_Sta (nrf_arr (kSea_3 h_r0) (by decide) (by decide)) (i := x5) (x := (ofM M (hg H a2 x5) 3))
    have h_r2_1 := Lay.wr h_r2 ok_Arr (nrf_arr (kSea_3 h_r0) (by decide) (by decide)) (i := x5) (x := (ofM M (hg H a2 x5) 3))
    have h_r4_1 := Lay.wr h_r4 ok_Arr (nrf_arr (kSea_3 h_r0) (by decide) (by decide)) (i := x5) (x := (ofM M (hg H a2 x5) 3))
    generalize e_H1 : hs H (a0 + 3) x5 (ofM M (hg H a2 x5) 3) = H1 at h_r0_1 h_r1_1 h_r2_1 h_r4_1 ⊢
    replace h := h H1 e_H1.symm
    have hSr1_0_1 : SK H1 a1 M := by rw [← e_H1]; exact SK.wr hS (nrf_arr (kSea_3 h_r0) (by decide) (by decide)) (by omega)
    refine a_aload_n dX5_prepare_81 rfl rfl ?_
    refine a_getR dX5_prepare_82 fw_RX5_21 rfl rfl (kSea_0 h_r0_1) (rSea_0_5 h_r0_1) ?_
    refine a_iload dX5_prepare_85 rfl ?_
    refine a_aload_n dX5_prepare_87 rfl rfl ?_
    refine a_getR dX5_prepare_88 fw_RX5_59 rfl rfl (kSta_0 h_r1_1) (rSta_0_1 h_r1_1) ?_
    refine a_getR dX5_prepare_91 fw_RX5_69 rfl rfl (kSta_5 h_r1_1) (rSta_5_7 h_r1_1) ?_
    refine a_iload dX5_prepare_94 rfl ?_
    refine b_ialdV dX5_prepare_96 (kSta_12 h_r1_1) (nSta_12 h_r1_1) (sk_lt hSr1_0_1 q61_0) (sk_12 hSr1_0_1 q61_0) ?_
    refine b_iast dX5_prepare_97 (kSea_4 h_r0_1) (nSea_4 h_r0_1) q80_0 ?_
    have h_r0_2 := Lay.wr h_r0_1 ok_Sea (nrf_arr (kSea_4 h_r0_1) (by decide) (by decide)) (i := x5) (x := (ofM M (hg H a2 x5) 4))
    have h_r1_2 := Lay.wr h_r1_1 ok_Sta (nrf_arr (kSea_4 h_r0_1) (by decide) (by decide)) (i := x5) (x := (ofM M (hg H a2 x5) 4))
    have h_r2_2 := Lay.wr h_r2_1 ok_Arr (nrf_arr (kSea_4 h_r0_1) (by decide) (by decide)) (i := x5) (x := (ofM M (hg H a2 x5) 4))
    have h_r4_2 := Lay.wr h_r4_1 ok_Arr (nrf_arr (kSea_4 h_r0_1) (by decide) (by decide)) (i := x5) (x := (ofM M (hg H a2 x5) 4))
    generalize e_H2 : hs H1 (a0 + 4) x5 (ofM M (hg H a2 x5) 4) = H2 at h_r0_2 h_r1_2 h_r2_2 h_r4_2 ⊢
    replace h := h H2 e_H2.symm
    have hSr1_0_2 : SK H2 a1 M := by rw [← e_H2]; exact SK.wr hSr1_0_1 (nrf_arr (kSea_4 h_r0_1) (by decide) (by decide)) (by omega)
    refine a_aload_n dX5_prepare_98 rfl rfl ?_
    refine a_getR dX5_prepare_99 fw_RX5_24 rfl rfl (kSea_0 h_r0_2) (rSea_0_6 h_r0_2) ?_
    refine a_iload dX5_prepare_102 rfl ?_
    refine a_aload_n dX5_prepare_104 rfl rfl ?_
    refine a_getR dX5_prepare_105 fw_RX5_47 rfl rfl (kSta_0 h_r1_2) (rSta_0_0 h_r1_2) ?_
    refine a_getR dX5_prepare_108 fw_RX5_70 rfl rfl (kSta_1 h_r1_2) (rSta_1_6 h_r1_2) ?_
    refine a_iload dX5_prepare_111 rfl ?_
    obtain ⟨q113_0, h⟩ := h
    refine b_ialdV dX5_prepare_113 (kSta_3 h_r1_2) (nSta_3 h_r1_2) q113_0 (sk_3 hSr1_0_2 q113_0) ?_
    refine b_iast dX5_prepare_114 (kSea_5 h_r0_2) (nSea_5 h_r0_2) q80_0 ?_
    have h_r0_3 := Lay.wr h_r0_2 ok_Sea (nrf_arr (kSea_5 h_r0_2) (by decide) (by decide)) (i := x5) (x := (M (24 + (ofM M (hg H a2 x5) 1))))
    have h_r1_3 := Lay.wr h_r1_2 ok_Sta (nrf_arr (kSea_5 h_r0_2) (by decide) (by decide)) (i := x5) (x := (M (24 + (ofM M (hg H a2 x5) 1))))
    have h_r2_3 := Lay.wr h_r2_2 ok_Arr (nrf_arr (kSea_5 h_r0_2) (by decide) (by decide)) (i := x5) (x := (M (24 + (ofM M (hg H a2 x5) 1))))
    have h_r4_3 := Lay.wr h_r4_2 ok_Arr (nrf_arr (kSea_5 h_r0_2) (by decide) (by decide)) (i := x5) (x := (M (24 + (ofM M (hg H a2 x5) 1))))
    generalize e_H3 : hs H2 (a0 + 5) x5 (M (24 + (ofM M (hg H a2 x5) 1))) = H3 at h_r0_3 h_r1_3 h_r2_3 h_r4_3 ⊢
    replace h := h H3 e_H3.symm
    have hSr1_0_3 : SK H3 a1 M := by rw [← e_H3]; exact SK.wr hSr1_0_2 (nrf_arr (kSea_5 h_r0_2) (by decide) (by decide)) (by omega)
    refine a_aload_n dX5_prepare_115 rfl rfl ?_
    refine a_getR dX5_prepare_116 fw_RX5_27 rfl rfl (kSea_0 h_r0_3) (rSea_0_7 h_r0_3) ?_
    refine a_iload dX5_prepare_119 rfl ?_
    refine a_aload_n dX5_prepare_121 rfl rfl ?_
    refine a_getR dX5_prepare_122 fw_RX5_47 rfl rfl (kSta_0 h_r1_3) (rSta_0_0 h_r1_3) ?_
    refine a_getR dX5_prepare_125 fw_RX5_71 rfl rfl (kSta_1 h_r1_3) (rSta_1_7 h_r1_3) ?_
    refine a_iload dX5_prepare_128 rfl ?_
    refine b_ialdV dX5_prepare_130 (kSta_4 h_r1_3) (nSta_4 h_r1_3) q113_0 (sk_4 hSr1_0_3 q113_0) ?_
    refine b_iast dX5_prepare_131 (kSea_6 h_r0_3) (nSea_6 h_r0_3) q80_0 ?_
    have h_r0_4 := Lay.wr h_r0_3 ok_Sea (nrf_arr (kSea_6 h_r0_3) (by decide) (by decide)) (i := x5) (x := (M (28 + (ofM M (hg H a2 x5) 1))))
    have h_r1_4 := Lay.wr h_r1_3 ok_Sta (nrf_arr (kSea_6 h_r0_3) (by decide) (by decide)) (i := x5) (x := (M (28 + (ofM M (hg H a2 x5) 1))))
    have h_r2_4 := Lay.wr h_r2_3 ok_Arr (nrf_arr (kSea_6 h_r0_3) (by decide) (by decide)) (i := x5) (x := (M (28 + (ofM M (hg H a2 x5) 1))))
    have h_r4_4 := Lay.wr h_r4_3 ok_Arr (nrf_arr (kSea_6 h_r0_3) (by decide) (by decide)) (i := x5) (x := (M (28 + (ofM M (hg H a2 x5) 1))))
    generalize e_H4 : hs H3 (a0 + 6) x5 (M (28 + (ofM M (hg H a2 x5) 1))) = H4 at h_r0_4 h_r1_4 h_r2_4 h_r4_4 ⊢
    replace h := h H4 e_H4.symm
    have hSr1_0_4 : SK H4 a1 M := by rw [← e_H4]; exact SK.wr hSr1_0_3 (nrf_arr (kSea_6 h_r0_3) (by decide) (by decide)) (by omega)
    refine a_aload_n dX5_prepare_132 rfl rfl ?_
    refine a_getR dX5_prepare_133 fw_RX5_30 rfl rfl (kSea_0 h_r0_4) (rSea_0_8 h_r0_4) ?_
    refine a_iload dX5_prepare_136 rfl ?_
    refine a_aload dX5_prepare_138 rfl ?_
    refine a_iload dX5_prepare_140 rfl ?_
    obtain ⟨q142_0, h⟩ := h
    refine b_iald dX5_prepare_142 (kArr_0 h_r4_4) (nArr_0 h_r4_4) q142_0 ?_
    obtain ⟨q143_0, h⟩ := h
    refine b_iast dX5_prepare_143 (kSea_7 h_r0_4) (nSea_7 h_r0_4) q143_0 ?_
    have h_r0_5 := Lay.wr h_r0_4 ok_Sea (nrf_arr (kSea_7 h_r0_4) (by decide) (by decide)) (i := x5) (x := (hg H4 a4 (hg H a2 x5)))
    have h_r1_5 := Lay.wr h_r1_4 ok_Sta (nrf_arr (kSea_7 h_r0_4) (by decide) (by decide)) (i := x5) (x := (hg H4 a4 (hg H a2 x5)))
    have h_r2_5 := Lay.wr h_r2_4 ok_Arr (nrf_arr (kSea_7 h_r0_4) (by decide) (by decide)) (i := x5) (x := (hg H4 a4 (hg H a2 x5)))
    have h_r4_5 := Lay.wr h_r4_4 ok_Arr (nrf_arr (kSea_7 h_r0_4) (by decide) (by decide)) (i := x5) (x := (hg H4 a4 (hg H a2 x5)))
    generalize e_H5 : hs H4 (a0 + 7) x5 (hg H4 a4 (hg H a2 x5)) = H5 at h_r0_5 h_r1_5 h_r2_5 h_r4_5 ⊢
    replace h := h H5 e_H5.symm
    have hSr1_0_5 : SK H5 a1 M := by rw [← e_H5]; exact SK.wr hSr1_0_4 (nrf_arr (kSea_7 h_r0_4) (by decide) (by decide)) (by omega)
    refine a_iconst dX5_prepare_144 ⟨by decide, by decide⟩ ?_
    refine a_istore dX5_prepare_145 (Nat.le_of_ble_eq_true rfl) (ls' := [vR a0, vR a1, vR a2, vI x3, vR a4, vI x5, vI (hg H a2 x5), vI (ofM M (hg H a2 x5) 1), vI 0]) rfl ?_
    exact h

set_option maxRecDepth 20000 in
theorem s_X5_prepare_147 {l : Launch} {G : GT} {d : Nat} {Q : AV → AH → Prop} {H : AH} {a0 a1 a2 a4 x3 x5 x6 x7 x8 : Int} {M : Row} (hS : SK H a1 M) (h_r0 : Lay LSea H a0) (h_r2 : Lay (LArr 10 24) H a2) (h_r4 : Lay (LArr 10 24) H a4) (hsep : a1 + 23 ≤ a0 ∨ a0 + 11 ≤ a1) (h : ((hg H a0 0) ≤ x8 → AW l G mX5_prepare (d + 1) 0 0 Q 189 [vR a0, vR a1, vR a2, vI x3, vR a4, vI x5, vI x6, vI x7, vI x5] [] 0 0 H) ∧ (x8 < (hg H a0 0) → (-2147483648 ≤ x5 * 7 ∧ x5 * 7 ≤ 2147483647) ∧ (-2147483648 ≤ (x5 * 7) + x8 ∧ (x5 * 7) + x8 ≤ 2147483647) ∧ (0 ≤ x8 ∧ x8 < 24) ∧ (fl M x6) ∧ (fl M (hg H a2 x8)) ∧ (0 ≤ ((x5 * 7) + x8) ∧ ((x5 * 7) + x8) < 49) ∧ ∀ H1 : AH, H1 = hs H (a0 + 2) ((x5 * 7) + x8) (apartM M x6 (hg H a2 x8)) → (-2147483648 ≤ x8 + 1 ∧ x8 + 1 ≤ 2147483647) ∧ AW l G mX5_prepare (d + 1) 0 0 Q 147 [vR a0, vR a1, vR a2, vI x3, vR a4, vI x5, vI x6, vI x7, vI (x8 + 1)] [] 0 0 H1)) : AW l G mX5_prepare (d + 1) 0 0 Q 147 [vR a0, vR a1, vR a2, vI x3, vR a4, vI x5, vI x6, vI x7, vI x8] [] 0 0 H := by
  refine a_iload dX5_prepare_147 rfl ?_
  refine a_aload_n dX5_prepare_149 rfl rfl ?_
  refine a_getI dX5_prepare_150 fw_RX5_43 rfl rfl (kSea_0 h_r0) ?_
  refine a_icmp_ge dX5_prepare_153 (tgt := 185) rfl (fun c153 => ?_) (fun c153 => ?_)
  · replace h := h.1 c153
    refine a_iload dX5_prepare_185 rfl ?_
    refine a_istore dX5_prepare_187 (Nat.le_of_ble_eq_true rfl) (ls' := [vR a0, vR a1, vR a2, vI x3, vR a4, vI x5, vI x6, vI x7, vI x5]) rfl ?_
    exact h
  · replace h := h.2 c153
    refine a_aload_n dX5_prepare_156 rfl rfl ?_
    refine a_getR dX5_prepare_157 fw_RX5_15 rfl rfl (kSea_0 h_r0) (rSea_0_3 h_r0) ?_
    refine a_iload dX5_prepare_160 rfl ?_
    refine a_bipush dX5_prepare_162 (by decide) ?_
    obtain ⟨q164_0, h⟩ := h
    refine a_imul dX5_prepare_164 q164_0 ?_
    refine a_iload dX5_prepare_165 rfl ?_
    obtain ⟨q167_0, h⟩ := h
    refine a_iadd dX5_prepare_167 q167_0 ?_
    refine a_aload_n dX5_prepare_168 rfl rfl ?_
    refine a_iload dX5_prepare_169 rfl ?_
    refine a_aload_n dX5_prepare_171 rfl rfl ?_
    refine a_iload dX5_prepare_172 rfl ?_
    obtain ⟨q174_0, h⟩ := h
    refine b_iald dX5_prepare_174 (kArr_0 h_r2) (nArr_0 h_r2) q174_0 ?_
    obtain ⟨q175_0, h⟩ := h
    obtain ⟨q175_1, h⟩ := h
    refine a_callV dX5_prepare_175 cw_X5_prepare_175 (as := [vI x6, vI (hg H a2 x8)]) rfl rfl (kSta_0 hS.1) (Nat.le_refl _) (Nat.le_of_ble_eq_true rfl) (nocov rfl) (Nat.le_of_ble_eq_true rfl) (Nat.le_of_ble_eq_true rfl) (CL.mono (k_gapOf hS  q175_0 q175_1) (fun r9 H9 h9 => ?_))
    rw [h9.1, h9.2]
    show AW l G mX5_prepare (d + 1) 0 0 Q 178 [vR a0, vR a1, vR a2, vI x3, vR a4, vI x5, vI x6, vI x7, vI x8] [vI (apartM M x6 (hg H a2 x8)), vI ((x5 * 7) + x8), vR (a0 + 2)] 0 0 H
    obtain ⟨q178_0, h⟩ := h
    refine b_iast dX5_prepare_178 (kSea_2 h_r0) (nSea_2 h_r0) q178_0 ?_
    have h_r0_1 := Lay.wr h_r0 ok_Sea (nrf_arr (kSea_2 h_r0) (by decide) (by decide)) (i := ((x5 * 7) + x8)) (x := (apartM M x6 (hg H a2 x8)))
    have h_r1_1 := Lay.wr hS.1 ok_Sta (nrf_arr (kSea_2 h_r0) (by decide) (by decide)) (i := ((x5 * 7) + x8)) (x := (apartM M x6 (hg H a2 x8)))
    have h_r2_1 := Lay.wr h_r2 ok_Arr (nrf_arr (kSea_2 h_r0) (by decide) (by decide)) (i := ((x5 * 7) + x8)) (x := (apartM M x6 (hg H a2 x8)))
    have h_r4_1 := Lay.wr h_r4 ok_Arr (nrf_arr (kSea_2 h_r0) (by decide) (by decide)) (i := ((x5 * 7) + x8)) (x := (apartM M x6 (hg H a2 x8)))
    generalize e_H1 : hs H (a0 + 2) ((x5 * 7) + x8) (apartM M x6 (hg H a2 x8)) = H1 at h_r0_1 h_r1_1 h_r2_1 h_r4_1 ⊢
    replace h := h H1 e_H1.symm
    have hSr1_0_1 : SK H1 a1 M := by rw [← e_H1]; exact SK.wr hS (nrf_arr (kSea_2 h_r0) (by decide) (by decide)) (by omega)
    obtain ⟨q179_0, h⟩ := h
    refine a_iinc dX5_prepare_179 rfl (Nat.le_of_ble_eq_true rfl) (by decide) q179_0 (ls' := [vR a0, vR a1, vR a2, vI x3, vR a4, vI x5, vI x6, vI x7, vI (x8 + 1)]) rfl ?_
    refine a_goto dX5_prepare_182 (tgt := 147) rfl ?_
    exact h

set_option maxRecDepth 20000 in
theorem s_X5_prepare_189 {l : Launch} {G : GT} {d : Nat} {Q : AV → AH → Prop} {H : AH} {a0 a1 a2 a4 x3 x5 x6 x7 x8 : Int} {M : Row} (hS : SK H a1 M) (h_r0 : Lay LSea H a0) (h_r2 : Lay (LArr 10 24) H a2) (h_r4 : Lay (LArr 10 24) H a4) (hsep : a1 + 23 ≤ a0 ∨ a0 + 11 ≤ a1) (h : (x8 ≤ 0 → (0 ≤ x8 ∧ x8 < 7) ∧ ∀ H1 : AH, H1 = hs H (a0 + 1) x8 x5 → (-2147483648 ≤ x5 + 1 ∧ x5 + 1 ≤ 2147483647) ∧ AW l G mX5_prepare (d + 1) 0 0 Q 37 [vR a0, vR a1, vR a2, vI x3, vR a4, vI (x5 + 1), vU, vU, vU] [] 0 0 H1) ∧ (0 < x8 → (-2147483648 ≤ x8 - 1 ∧ x8 - 1 ≤ 2147483647) ∧ (0 ≤ (x8 - 1) ∧ (x8 - 1) < 7) ∧ (0 ≤ (hg H (a0 + 1) (x8 - 1)) ∧ (hg H (a0 + 1) (x8 - 1)) < 24) ∧ ((hg H a2 (hg H (a0 + 1) (x8 - 1))) ≤ x6 → (0 ≤ x8 ∧ x8 < 7) ∧ ∀ H1 : AH, H1 = hs H (a0 + 1) x8 x5 → (-2147483648 ≤ x5 + 1 ∧ x5 + 1 ≤ 2147483647) ∧ AW l G mX5_prepare (d + 1) 0 0 Q 37 [vR a0, vR a1, vR a2, vI x3, vR a4, vI (x5 + 1), vU, vU, vU] [] 0 0 H1) ∧ (x6 < (hg H a2 (hg H (a0 + 1) (x8 - 1))) → (0 ≤ x8 ∧ x8 < 7) ∧ ∀ H1 : AH, H1 = hs H (a0 + 1) x8 (hg H (a0 + 1) (x8 - 1)) → (-2147483648 ≤ x8 + (-1) ∧ x8 + (-1) ≤ 2147483647) ∧ AW l G mX5_prepare (d + 1) 0 0 Q 189 [vR a0, vR a1, vR a2, vI x3, vR a4, vI x5, vI x6, vI x7, vI (x8 + (-1))] [] 0 0 H1))) : AW l G mX5_prepare (d + 1) 0 0 Q 189 [vR a0, vR a1, vR a2, vI x3, vR a4, vI x5, vI x6, vI x7, vI x8] [] 0 0 H := by
  refine a_iload dX5_prepare_189 rfl ?_
  refine a_if_le dX5_prepare_191 (tgt := 232) rfl (fun c191 => ?_) (fun c191 => ?_)
  · replace h := h.1 c191
    refine a_aload_n dX5_prepare_232 rfl rfl ?_
    refine a_getR dX5_prepare_233 fw_RX5_9 rfl rfl (kSea_0 h_r0) (rSea_0_2 h_r0) ?_
    refine a_iload dX5_prepare_236 rfl ?_
    refine a_iload dX5_prepare_238 rfl ?_
    obtain ⟨q240_0, h⟩ := h
    refine b_iast dX5_prepare_240 (kSea_1 h_r0) (nSea_1 h_r0) q240_0 ?_
    have h_r0_1 := Lay.wr h_r0 ok_Sea (nrf_arr (kSea_1 h_r0) (by decide) (by decide)) (i := x8) (x := x5)
    have h_r1_1 := Lay.wr hS.1 ok_Sta (nrf_arr (kSea_1 h_r0) (by decide) (by decide)) (i := x8) (x := x5)
    have h_r2_1 := Lay.wr h_r2 ok_Arr (nrf_arr (kSea_1 h_r0) (by decide) (by decide)) (i := x8) (x := x5)
    have h_r4_1 := Lay.wr h_r4 ok_Arr (nrf_arr (kSea_1 h_r0) (by decide) (by decide)) (i := x8) (x := x5)
    generalize e_H1 : hs H (a0 + 1) x8 x5 = H1 at h_r0_1 h_r1_1 h_r2_1 h_r4_1 ⊢
    replace h := h H1 e_H1.symm
    have hSr1_0_1 : SK H1 a1 M := by rw [← e_H1]; exact SK.wr hS (nrf_arr (kSea_1 h_r0) (by decide) (by decide)) (by omega)
    obtain ⟨q241_0, h⟩ := h
    refine a_iinc dX5_prepare_241 rfl (Nat.le_of_ble_eq_true rfl) (by decide) q241_0 (ls' := [vR a0, vR a1, vR a2, vI x3, vR a4, vI (x5 + 1), vI x6, vI x7, vI x8]) rfl ?_
    refine a_goto dX5_prepare_244 (tgt := 37) rfl ?_
    exact a_weak (wk_e (wk_e (wk_e (wk_e (wk_e (wk_e (wk_u (wk_u (wk_u wk_n))))))))) h
  · replace h := h.2 c191
    refine a_aload_n dX5_prepare_194 rfl rfl ?_
    refine a_aload_n dX5_prepare_195 rfl rfl ?_
    refine a_getR dX5_prepare_196 fw_RX5_9 rfl rfl (kSea_0 h_r0) (rSea_0_2 h_r0) ?_
    refine a_iload dX5_prepare_199 rfl ?_
    refine a_iconst dX5_prepare_201 ⟨by decide, by decide⟩ ?_
    obtain ⟨q202_0, h⟩ := h
    refine a_isub dX5_prepare_202 q202_0 ?_
    obtain ⟨q203_0, h⟩ := h
    refine b_iald dX5_prepare_203 (kSea_1 h_r0) (nSea_1 h_r0) q203_0 ?_
    obtain ⟨q204_0, h⟩ := h
    refine b_iald dX5_prepare_204 (kArr_0 h_r2) (nArr_0 h_r2) q204_0 ?_
    refine a_iload dX5_prepare_205 rfl ?_
    refine a_icmp_le dX5_prepare_207 (tgt := 232) rfl (fun c207 => ?_) (fun c207 => ?_)
    · replace h := h.1 c207
      refine a_aload_n dX5_prepare_232 rfl rfl ?_
      refine a_getR dX5_prepare_233 fw_RX5_9 rfl rfl (kSea_0 h_r0) (rSea_0_2 h_r0) ?_
      refine a_iload dX5_prepare_236 rfl ?_
      refine a_iload dX5_prepare_238 rfl ?_
      obtain ⟨q240_0, h⟩ := h
      refine b_iast dX5_prepare_240 (kSea_1 h_r0) (nSea_1 h_r0) q240_0 ?_
      have h_r0_1 := Lay.wr h_r0 ok_Sea (nrf_arr (kSea_1 h_r0) (by decide) (by decide)) (i := x8) (x := x5)
      have h_r1_1 := Lay.wr hS.1 ok_Sta (nrf_arr (kSea_1 h_r0) (by decide) (by decide)) (i := x8) (x := x5)
      have h_r2_1 := Lay.wr h_r2 ok_Arr (nrf_arr (kSea_1 h_r0) (by decide) (by decide)) (i := x8) (x := x5)
      have h_r4_1 := Lay.wr h_r4 ok_Arr (nrf_arr (kSea_1 h_r0) (by decide) (by decide)) (i := x8) (x := x5)
      generalize e_H1 : hs H (a0 + 1) x8 x5 = H1 at h_r0_1 h_r1_1 h_r2_1 h_r4_1 ⊢
      replace h := h H1 e_H1.symm
      have hSr1_0_1 : SK H1 a1 M := by rw [← e_H1]; exact SK.wr hS (nrf_arr (kSea_1 h_r0) (by decide) (by decide)) (by omega)
      obtain ⟨q241_0, h⟩ := h
      refine a_iinc dX5_prepare_241 rfl (Nat.le_of_ble_eq_true rfl) (by decide) q241_0 (ls' := [vR a0, vR a1, vR a2, vI x3, vR a4, vI (x5 + 1), vI x6, vI x7, vI x8]) rfl ?_
      refine a_goto dX5_prepare_244 (tgt := 37) rfl ?_
      exact a_weak (wk_e (wk_e (wk_e (wk_e (wk_e (wk_e (wk_u (wk_u (wk_u wk_n))))))))) h
    · replace h := h.2 c207
      refine a_aload_n dX5_prepare_210 rfl rfl ?_
      refine a_getR dX5_prepare_211 fw_RX5_9 rfl rfl (kSea_0 h_r0) (rSea_0_2 h_r0) ?_
      refine a_iload dX5_prepare_214 rfl ?_
      refine a_aload_n dX5_prepare_216 rfl rfl ?_
      refine a_getR dX5_prepare_217 fw_RX5_9 rfl rfl (kSea_0 h_r0) (rSea_0_2 h_r0) ?_
      refine a_iload dX5_prepare_220 rfl ?_
      refine a_iconst dX5_prepare_222 ⟨by decide, by decide⟩ ?_
      refine a_isub dX5_prepare_223 q202_0 ?_
      refine b_iald dX5_prepare_224 (kSea_1 h_r0) (nSea_1 h_r0) q203_0 ?_
      obtain ⟨q225_0, h⟩ := h
      refine b_iast dX5_prepare_225 (kSea_1 h_r0) (nSea_1 h_r0) q225_0 ?_
      have h_r0_1 := Lay.wr h_r0 ok_Sea (nrf_arr (kSea_1 h_r0) (by decide) (by decide)) (i := x8) (x := (hg H (a0 + 1) (x8 - 1)))
      have h_r1_1 := Lay.wr hS.1 ok_Sta (nrf_arr (kSea_1 h_r0) (by decide) (by decide)) (i := x8) (x := (hg H (a0 + 1) (x8 - 1)))
      have h_r2_1 := Lay.wr h_r2 ok_Arr (nrf_arr (kSea_1 h_r0) (by decide) (by decide)) (i := x8) (x := (hg H (a0 + 1) (x8 - 1)))
      have h_r4_1 := Lay.wr h_r4 ok_Arr (nrf_arr (kSea_1 h_r0) (by decide) (by decide)) (i := x8) (x := (hg H (a0 + 1) (x8 - 1)))
      generalize e_H1 : hs H (a0 + 1) x8 (hg H (a0 + 1) (x8 - 1)) = H1 at h_r0_1 h_r1_1 h_r2_1 h_r4_1 ⊢
      replace h := h H1 e_H1.symm
      have hSr1_0_1 : SK H1 a1 M := by rw [← e_H1]; exact SK.wr hS (nrf_arr (kSea_1 h_r0) (by decide) (by decide)) (by omega)
      obtain ⟨q226_0, h⟩ := h
      refine a_iinc dX5_prepare_226 rfl (Nat.le_of_ble_eq_true rfl) (by decide) q226_0 (ls' := [vR a0, vR a1, vR a2, vI x3, vR a4, vI x5, vI x6, vI x7, vI (x8 + (-1))]) rfl ?_
      refine a_goto dX5_prepare_229 (tgt := 189) rfl ?_
      exact h


