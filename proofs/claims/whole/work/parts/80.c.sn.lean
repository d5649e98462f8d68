/-! the class: snapshots -/
theorem dX7_saveSnapshot_0 : decode cX7_saveSnapshot 0 = .ok (.iload_n 1, 1) := by decide +kernel
theorem dX7_saveSnapshot_1 : decode cX7_saveSnapshot 1 = .ok (.invokestatic 296, 3) := by decide +kernel
theorem dX7_saveSnapshot_4 : decode cX7_saveSnapshot 4 = .ok (.aload_n 0, 1) := by decide +kernel
theorem dX7_saveSnapshot_5 : decode cX7_saveSnapshot 5 = .ok (.getfield 33, 3) := by decide +kernel
theorem dX7_saveSnapshot_8 : decode cX7_saveSnapshot 8 = .ok (.iload_n 1, 1) := by decide +kernel
theorem dX7_saveSnapshot_9 : decode cX7_saveSnapshot 9 = .ok (.aaload, 1) := by decide +kernel
theorem dX7_saveSnapshot_10 : decode cX7_saveSnapshot 10 = .ok (.astore_n 2, 1) := by decide +kernel
theorem dX7_saveSnapshot_11 : decode cX7_saveSnapshot 11 = .ok (.aload_n 2, 1) := by decide +kernel
theorem dX7_saveSnapshot_12 : decode cX7_saveSnapshot 12 = .ok (.ifnonnull 18, 3) := by decide +kernel
theorem dX7_saveSnapshot_15 : decode cX7_saveSnapshot 15 = .ok (.new 23, 3) := by decide +kernel
theorem dX7_saveSnapshot_18 : decode cX7_saveSnapshot 18 = .ok (.dup, 1) := by decide +kernel
theorem dX7_saveSnapshot_19 : decode cX7_saveSnapshot 19 = .ok (.invokespecial 25, 3) := by decide +kernel
theorem dX7_saveSnapshot_22 : decode cX7_saveSnapshot 22 = .ok (.astore_n 2, 1) := by decide +kernel
theorem dX7_saveSnapshot_23 : decode cX7_saveSnapshot 23 = .ok (.aload_n 0, 1) := by decide +kernel
theorem dX7_saveSnapshot_24 : decode cX7_saveSnapshot 24 = .ok (.getfield 33, 3) := by decide +kernel
theorem dX7_saveSnapshot_27 : decode cX7_saveSnapshot 27 = .ok (.iload_n 1, 1) := by decide +kernel
theorem dX7_saveSnapshot_28 : decode cX7_saveSnapshot 28 = .ok (.aload_n 2, 1) := by decide +kernel
theorem dX7_saveSnapshot_29 : decode cX7_saveSnapshot 29 = .ok (.aastore, 1) := by decide +kernel
theorem dX7_saveSnapshot_30 : decode cX7_saveSnapshot 30 = .ok (.aload_n 2, 1) := by decide +kernel
theorem dX7_saveSnapshot_31 : decode cX7_saveSnapshot 31 = .ok (.aload_n 0, 1) := by decide +kernel
theorem dX7_saveSnapshot_32 : decode cX7_saveSnapshot 32 = .ok (.getfield 26, 3) := by decide +kernel
theorem dX7_saveSnapshot_35 : decode cX7_saveSnapshot 35 = .ok (.invokevirtual 73, 3) := by decide +kernel
theorem dX7_saveSnapshot_38 : decode cX7_saveSnapshot 38 = .ok (.aload_n 0, 1) := by decide +kernel
theorem dX7_saveSnapshot_39 : decode cX7_saveSnapshot 39 = .ok (.getfield 26, 3) := by decide +kernel
theorem dX7_saveSnapshot_42 : decode cX7_saveSnapshot 42 = .ok (.getfield 135, 3) := by decide +kernel
theorem dX7_saveSnapshot_45 : decode cX7_saveSnapshot 45 = .ok (.ireturn, 1) := by decide +kernel
theorem dX7_restoreSnapshot_0 : decode cX7_restoreSnapshot 0 = .ok (.iload_n 1, 1) := by decide +kernel
theorem dX7_restoreSnapshot_1 : decode cX7_restoreSnapshot 1 = .ok (.invokestatic 296, 3) := by decide +kernel
theorem dX7_restoreSnapshot_4 : decode cX7_restoreSnapshot 4 = .ok (.aload_n 0, 1) := by decide +kernel
theorem dX7_restoreSnapshot_5 : decode cX7_restoreSnapshot 5 = .ok (.getfield 33, 3) := by decide +kernel
theorem dX7_restoreSnapshot_8 : decode cX7_restoreSnapshot 8 = .ok (.iload_n 1, 1) := by decide +kernel
theorem dX7_restoreSnapshot_9 : decode cX7_restoreSnapshot 9 = .ok (.aaload, 1) := by decide +kernel
theorem dX7_restoreSnapshot_10 : decode cX7_restoreSnapshot 10 = .ok (.astore_n 2, 1) := by decide +kernel
theorem dX7_restoreSnapshot_11 : decode cX7_restoreSnapshot 11 = .ok (.aload_n 2, 1) := by decide +kernel
theorem dX7_restoreSnapshot_12 : decode cX7_restoreSnapshot 12 = .ok (.ifnonnull 5, 3) := by decide +kernel
theorem dX7_restoreSnapshot_15 : decode cX7_restoreSnapshot 15 = .ok (.iconst (-1), 1) := by decide +kernel
theorem dX7_restoreSnapshot_16 : decode cX7_restoreSnapshot 16 = .ok (.ireturn, 1) := by decide +kernel
theorem dX7_restoreSnapshot_17 : decode cX7_restoreSnapshot 17 = .ok (.aload_n 0, 1) := by decide +kernel
theorem dX7_restoreSnapshot_18 : decode cX7_restoreSnapshot 18 = .ok (.getfield 26, 3) := by decide +kernel
theorem dX7_restoreSnapshot_21 : decode cX7_restoreSnapshot 21 = .ok (.aload_n 2, 1) := by decide +kernel
theorem dX7_restoreSnapshot_22 : decode cX7_restoreSnapshot 22 = .ok (.invokevirtual 73, 3) := by decide +kernel
theorem dX7_restoreSnapshot_25 : decode cX7_restoreSnapshot 25 = .ok (.aload_n 0, 1) := by decide +kernel
theorem dX7_restoreSnapshot_26 : decode cX7_restoreSnapshot 26 = .ok (.getfield 26, 3) := by decide +kernel
theorem dX7_restoreSnapshot_29 : decode cX7_restoreSnapshot 29 = .ok (.getfield 135, 3) := by decide +kernel
theorem dX7_restoreSnapshot_32 : decode cX7_restoreSnapshot 32 = .ok (.ireturn, 1) := by decide +kernel
section
variable {l : Launch} {G : GT} {H : AH} {x : Int} {M N : Row} {d : Nat} {s : Int}
/-- a snapshot is kept in the slot s -/
def svP (x s : Int) (M : Row) (H H' : AH) : Prop := ∃ y : Int, hg H' (x + 66) s = y ∧ SX H' y M ∧ NM H' y M ∧ ((hg H (x + 66) s = y ∧ y ≠ 0 ∧ only H H' (pSt y)) ∨ (hg H (x + 66) s = 0 ∧ y = H.1 + 1 ∧ (H'.1 : Int) = H.1 + 23 ∧ ∀ b : Int, b ≤ H.1 → H'.2.1 b = H.2.1 b ∧ ∀ i, ¬ (b = x + 66 ∧ i = s) → hg H' b i = hg H b i))
set_option maxHeartbeats 1000000 in
theorem k_saveSnapshot (hG : GX l G) (hN : gN G) (hx : 0 < x ∧ x + 66 ≤ H.1) (hR : RX H x M) (hY : okSl s → hg H (x + 66) s = 0 ∨ (SB H (hg H (x + 66) s) ∧ x + 67 ≤ hg H (x + 66) s)) (hd : 7 ≤ d := by omega) : CL l G mX7_saveSnapshot d 24 600 [vR x, vI s] H (fun r H' => (¬ okSl s → r = vT 0 ∧ H' = H) ∧ (okSl s → r = vI (M 0) ∧ svP x s M H H')) := by
  obtain ⟨d, rfl⟩ : ∃ k, d = k + 1 := ⟨d - 1, by omega⟩
  have hL := hR.la
  refine CL.of (by decide) rfl (Nat.le_of_ble_eq_true rfl) ?_
  show AW l G mX7_saveSnapshot (d + 1) 24 600 _ 0 [vR x, vI s, vU] [] 0 0 H
  refine a_iload_n dX7_saveSnapshot_0 rfl rfl ?_
  refine a_callS dX7_saveSnapshot_1 cw_X7_saveSnapshot_1 (as := [vI s]) rfl rfl (Nat.le_refl _) (Nat.le_of_ble_eq_true rfl) (nocov rfl) (Nat.le_of_ble_eq_true rfl) (Nat.le_of_ble_eq_true rfl) (CL.mono (k_checkSlot hG) ?_)
  rintro r9 H9 ⟨rfl, ⟨c, rfl⟩ | ⟨c, rfl⟩⟩
  · exact ⟨fun _ => ⟨rfl, rfl⟩, fun w => absurd w c⟩
  show AW l G mX7_saveSnapshot (d + 1) 24 600 _ 4 [vR x, vI s, vU] [] 1 6 H9
  obtain ⟨y, hy⟩ : ∃ y, hg H9 (x + 66) s = y := ⟨_, rfl⟩
  have hY := hY c
  rw [hy] at hY
  refine a_aload_n dX7_saveSnapshot_4 rfl rfl ?_
  refine a_getR dX7_saveSnapshot_5 fw_RX7_33 rfl rfl (kRun_0 hL) (rRun_0_4 hL) ?_
  refine a_iload_n dX7_saveSnapshot_8 rfl rfl ?_
  refine b_qald dX7_saveSnapshot_9 (kRun_66 hL) (nRun_66 hL) (by omega) ?_
  rw [hy]
  refine a_astore_n dX7_saveSnapshot_10 rfl (by decide) rfl ?_
  show AW l G mX7_saveSnapshot (d + 1) 24 600 _ 11 [vR x, vI s, vR y] [] 1 6 H9
  have rest : ∀ (HA : AH) (y9 : Int) (cs sl : Nat), cs ≤ 24 → sl ≤ 600 → RX HA x M → SB HA y9 → x + 67 ≤ y9 → hg HA (x + 66) s = y9 → (∀ HB, only HA HB (pSt y9) → hg HB (x + 66) s = y9 → SX HB y9 M → NM HB y9 M → svP x s M H9 HB) → AW l G mX7_saveSnapshot (d + 1) 24 600 (fun r H' => (¬ okSl s → r = vT 0 ∧ H' = H9) ∧ (okSl s → r = vI (M 0) ∧ svP x s M H9 H')) 30 [vR x, vI s, vR y9] [] cs sl HA := by
    intro HA y9 cs sl hcs hsl RA BA hy9 ey hQ
    have LA := RA.la
    refine a_aload_n dX7_saveSnapshot_30 rfl rfl ?_
    refine a_aload_n dX7_saveSnapshot_31 rfl rfl ?_
    refine a_getR dX7_saveSnapshot_32 fw_RX7_26 rfl rfl (kRun_0 LA) (rRun_0_2 LA) ?_
    refine a_callV dX7_saveSnapshot_35 cw_X7_saveSnapshot_35 (as := [vR (x + 20)]) rfl rfl (kSta_0 BA.1) (Nat.le_refl _) (Nat.le_of_ble_eq_true rfl) (nocov rfl) hcs hsl (CL.mono (k_copyState RA.sx RA.2.1.2 BA (by omega)) ?_)
    rintro r8 HB ⟨rfl, o8, X8, N8⟩
    show AW l G mX7_saveSnapshot (d + 1) 24 600 _ 38 [vR x, vI s, vR y9] [] cs sl HB
    have e8 : agr HA HB x (x + 66) := o8.agr (fun c i w => by have := pSt_in w; omega)
    have RB : RX HB x M := RA.agr (e8.sub (Int.le_refl _) (by omega)) (e8.k (by omega) (by omega))
    refine a_aload_n dX7_saveSnapshot_38 rfl rfl ?_
    refine a_getR dX7_saveSnapshot_39 fw_RX7_26 rfl rfl (kRun_0 RB.la) (rRun_0_2 RB.la) ?_
    refine a_getIV dX7_saveSnapshot_42 fw_RX7_135 rfl rfl (kRun_20 RB.la) (sko (by omega) (sk_0_2 RB.sk)) ?_
    exact a_iret dX7_saveSnapshot_45 rfl hcs hsl ⟨fun w => absurd c w, fun _ => ⟨rfl, hQ HB o8 ((e8.g s (by omega) (by omega)).trans ey) X8 N8⟩⟩
  refine a_aload_n dX7_saveSnapshot_11 rfl rfl ?_
  refine a_ifnonnull dX7_saveSnapshot_12 (tgt := 30) rfl (fun c2 => ?_) (fun c2 => ?_)
  · rcases hY with hY | ⟨hY1, hY2⟩
    · exact absurd hY c2
    · exact rest H9 y 1 6 (by decide) (by decide) hR hY1 hY2 hy (fun HB o8 e8 X8 N8 => ⟨y, e8, X8, N8, Or.inl ⟨hy, c2, o8⟩⟩)
  · subst c2
    show AW l G mX7_saveSnapshot (d + 1) 24 600 _ 15 [vR x, vI s, vR 0] [] 1 6 H9
    obtain ⟨y9, hy9⟩ : ∃ y9 : Int, y9 = H9.1 + 1 := ⟨_, rfl⟩
    refine a_new dX7_saveSnapshot_15 nw_RX7_23 (Nat.le_of_ble_eq_true rfl) (Nat.le_of_ble_eq_true rfl) (AW.st1 (y := y9) (by omega) ?_)
    show AW l G mX7_saveSnapshot (d + 1) 24 600 _ 18 [vR x, vI s, vR 0] [vR y9] 2 19 (hnew H9 5 0)
    refine a_dup dX7_saveSnapshot_18 rfl ?_
    refine a_callN (host := "RunwaySequencer") dX7_saveSnapshot_19 cw_X7_saveSnapshot_19 (nn_RX7_25 hN) (as := []) rfl rfl (by omega) (Nat.le_refl _) (Nat.le_of_ble_eq_true rfl) (nocov rfl) (Nat.le_of_ble_eq_true rfl) (Nat.le_of_ble_eq_true rfl) (CL.mono (i_X6 hN (hk_at (by omega)) (show ((H9.1 + 1 : Nat) : Int) = y9 by omega) (hz_at (by omega)) (by omega)) ?_)
    rintro r8 H2 ⟨rfl, Ps⟩
    show AW l G mX7_saveSnapshot (d + 1) 24 600 _ 22 [vR x, vI s, vR 0] [vR y9] 24 573 H2
    have lo : ∀ b : Int, b ≤ H9.1 → H2.2.1 b = H9.2.1 b ∧ ∀ i, hg H2 b i = hg H9 b i := fun b hb => by
      have q := Ps.2.2.1 b (by omega)
      refine ⟨?_, fun i => ?_⟩
      · rw [q.1, hk_new, if_neg (by omega)]
      · rw [q.2 i, hg_new, if_neg (by omega)]
    have n2 : (H2.1 : Int) = H9.1 + 23 := by have := Ps.1; omega
    have L2 : Lay LSta H2 y9 := Ps.lay
    have e2 : agr H9 H2 x (x + 66) := fun b b1 b2 => lo b (by omega)
    have R2 : RX H2 x M := hR.agr (e2.sub (Int.le_refl _) (by omega)) (e2.k (by omega) (by omega))
    refine a_astore_n dX7_saveSnapshot_22 rfl (by decide) rfl ?_
    show AW l G mX7_saveSnapshot (d + 1) 24 600 _ 23 [vR x, vI s, vR y9] [] 24 573 H2
    refine a_aload_n dX7_saveSnapshot_23 rfl rfl ?_
    refine a_getR dX7_saveSnapshot_24 fw_RX7_33 rfl rfl (kRun_0 R2.la) (rRun_0_4 R2.la) ?_
    refine a_iload_n dX7_saveSnapshot_27 rfl rfl ?_
    refine a_aload_n dX7_saveSnapshot_28 rfl rfl ?_
    refine a_qast dX7_saveSnapshot_29 (kRun_66 R2.la) (by rw [nRun_66 R2.la]; omega) (kSta_0 L2) ?_
    show AW l G mX7_saveSnapshot (d + 1) 24 600 _ 30 [vR x, vI s, vR y9] [] 24 573 (hs H2 (x + 66) s y9)
    have ne : ∀ b i, ¬ (b = x + 66 ∧ i = s) → hg (hs H2 (x + 66) s y9) b i = hg H2 b i := fun b i w => hg_ne _ (by omega)
    have R3 : RX (hs H2 (x + 66) s y9) x M := R2.agr (agr_hs (by omega)) rfl
    have zz : ∀ i, hg H2 (y9 + 16) i = 0 := fun i => Ps.2.2.2.2.2 _ _ (by omega) (by omega) (fun e9 he9 w9 => absurd (show e9.1 = 16 by omega) ((by decide : ∀ e ∈ LSta.2, e.1 ≠ 16) e9 he9))
    have e3 : agr H2 (hs H2 (x + 66) s y9) y9 (y9 + 22) := agr_hs (by omega)
    have B2 : SB H2 y9 := ⟨L2, fun i _ => by rw [zz i]; omega⟩
    refine rest _ y9 24 573 (by decide) (by decide) R3 (B2.agr e3) (by omega) (hg_same _ _ _ _) (fun HB o8 e8 X8 N8 => ⟨y9, e8, X8, N8, Or.inr ⟨hy, hy9, ?_, fun b hb => ⟨?_, fun i hi => ?_⟩⟩⟩)
    · rw [o8.1]; exact n2
    · rw [o8.2.1]; exact (lo b hb).1
    · rw [o8.2.2 b i (fun w => by have := pSt_in w; omega), ne b i hi]; exact (lo b hb).2 i
/-- a snapshot comes back from the slot s -/
theorem k_restoreSnapshot (hG : GX l G) (hR : RX H x M) (hY : okSl s → hg H (x + 66) s = 0 ∨ (hg H (x + 66) s ≠ 0 ∧ SX H (hg H (x + 66) s) N ∧ NM H (hg H (x + 66) s) N ∧ x + 67 ≤ hg H (x + 66) s)) (hd : 7 ≤ d := by omega) : CL l G mX7_restoreSnapshot d 4 24 [vR x, vI s] H (xQ (pSt (x + 20)) x (if okSl s ∧ ¬ hg H (x + 66) s = 0 then N else M) (1 - bi (decide (okSl s))) 0 (vI (if okSl s then (if hg H (x + 66) s = 0 then -1 else N 0) else 0)) H) := by
  obtain ⟨d, rfl⟩ : ∃ k, d = k + 1 := ⟨d - 1, by omega⟩
  have hL := hR.la
  refine CL.of (by decide) rfl (Nat.le_of_ble_eq_true rfl) ?_
  show AW l G mX7_restoreSnapshot (d + 1) 4 24 _ 0 [vR x, vI s, vU] [] 0 0 H
  refine a_iload_n dX7_restoreSnapshot_0 rfl rfl ?_
  refine a_callS dX7_restoreSnapshot_1 cw_X7_restoreSnapshot_1 (as := [vI s]) rfl rfl (Nat.le_refl _) (Nat.le_of_ble_eq_true rfl) (nocov rfl) (Nat.le_of_ble_eq_true rfl) (Nat.le_of_ble_eq_true rfl) (CL.mono (k_checkSlot hG) ?_)
  rintro r9 H9 ⟨rfl, ⟨c, rfl⟩ | ⟨c, rfl⟩⟩
  · show xQ (pSt (x + 20)) x _ _ 0 _ H9 (vT 0) H9
    rw [if_neg (fun w => c w.1)]
    exact ⟨(ans_f c).symm, only.rf, hR⟩
  show AW l G mX7_restoreSnapshot (d + 1) 4 24 _ 4 [vR x, vI s, vU] [] 1 6 H9
  obtain ⟨y, hy⟩ : ∃ y, hg H9 (x + 66) s = y := ⟨_, rfl⟩
  have hY := hY c
  have c9 : okSl s := c
  rw [hy] at hY ⊢
  refine a_aload_n dX7_restoreSnapshot_4 rfl rfl ?_
  refine a_getR dX7_restoreSnapshot_5 fw_RX7_33 rfl rfl (kRun_0 hL) (rRun_0_4 hL) ?_
  refine a_iload_n dX7_restoreSnapshot_8 rfl rfl ?_
  refine b_qald dX7_restoreSnapshot_9 (kRun_66 hL) (nRun_66 hL) (by omega) ?_
  rw [hy]
  refine a_astore_n dX7_restoreSnapshot_10 rfl (by decide) rfl ?_
  show AW l G mX7_restoreSnapshot (d + 1) 4 24 _ 11 [vR x, vI s, vR y] [] 1 6 H9
  refine a_aload_n dX7_restoreSnapshot_11 rfl rfl ?_
  refine a_ifnonnull dX7_restoreSnapshot_12 (tgt := 17) rfl (fun c2 => ?_) (fun c2 => ?_)
  · rcases hY with hY | ⟨-, hY1, hY2, hY3⟩
    · exact absurd hY c2
    · rw [if_pos ⟨c9, c2⟩, if_pos c9, if_neg c2]
      refine a_aload_n dX7_restoreSnapshot_17 rfl rfl ?_
      refine a_getR dX7_restoreSnapshot_18 fw_RX7_26 rfl rfl (kRun_0 hL) (rRun_0_2 hL) ?_
      refine a_aload_n dX7_restoreSnapshot_21 rfl rfl ?_
      refine a_callV dX7_restoreSnapshot_22 cw_X7_restoreSnapshot_22 (as := [vR y]) rfl rfl (kRun_20 hL) (Nat.le_refl _) (Nat.le_of_ble_eq_true rfl) (nocov rfl) (Nat.le_of_ble_eq_true rfl) (Nat.le_of_ble_eq_true rfl) (CL.mono (k_copyState hY1 hY2 hR.sx.sb (by omega)) ?_)
      rintro r8 HB ⟨rfl, o8, X8, N8⟩
      show AW l G mX7_restoreSnapshot (d + 1) 4 24 _ 25 [vR x, vI s, vR y] [] 1 6 HB
      have LB : Lay LRun HB x := hL.only ok_Run o8 (pSt_nrf (s_Run_Sta_20 hL))
      have e8 : agr H9 HB (x + 43) (x + 65) := o8.agr (fun c i w => by have := pSt_in w; omega)
      refine a_aload_n dX7_restoreSnapshot_25 rfl rfl ?_
      refine a_getR dX7_restoreSnapshot_26 fw_RX7_26 rfl rfl (kRun_0 LB) (rRun_0_2 LB) ?_
      refine a_getIV dX7_restoreSnapshot_29 fw_RX7_135 rfl rfl (kRun_20 LB) (sko (by omega) (sk_0_2 X8.1)) ?_
      exact a_iret dX7_restoreSnapshot_32 rfl (by decide) (by decide) ⟨(ans_t c9).symm, o8, LB, ⟨X8, N8⟩, hR.2.2.agr (e8.sub (by omega) (by omega))⟩
  · rw [if_neg (fun w => w.2 c2), if_pos c9, if_pos c2]
    refine a_iconst dX7_restoreSnapshot_15 ⟨by decide, by decide⟩ ?_
    exact a_iret dX7_restoreSnapshot_16 rfl (by decide) (by decide) ⟨(ans_t c9).symm, only.rf, hR⟩
end
