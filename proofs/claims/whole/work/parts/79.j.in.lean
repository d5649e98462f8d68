/-! the constructor of the class -/
theorem dX7_init_0 : decode cX7_init 0 = .ok (.aload_n 0, 1) := by decide +kernel
theorem dX7_init_1 : decode cX7_init 1 = .ok (.invokespecial 1, 3) := by decide +kernel
theorem dX7_init_4 : decode cX7_init 4 = .ok (.aload_n 0, 1) := by decide +kernel
theorem dX7_init_5 : decode cX7_init 5 = .ok (.new 7, 3) := by decide +kernel
theorem dX7_init_8 : decode cX7_init 8 = .ok (.dup, 1) := by decide +kernel
theorem dX7_init_9 : decode cX7_init 9 = .ok (.invokespecial 9, 3) := by decide +kernel
theorem dX7_init_12 : decode cX7_init 12 = .ok (.putfield 10, 3) := by decide +kernel
theorem dX7_init_15 : decode cX7_init 15 = .ok (.aload_n 0, 1) := by decide +kernel
theorem dX7_init_16 : decode cX7_init 16 = .ok (.new 16, 3) := by decide +kernel
theorem dX7_init_19 : decode cX7_init 19 = .ok (.dup, 1) := by decide +kernel
theorem dX7_init_20 : decode cX7_init 20 = .ok (.invokespecial 18, 3) := by decide +kernel
theorem dX7_init_23 : decode cX7_init 23 = .ok (.putfield 19, 3) := by decide +kernel
theorem dX7_init_26 : decode cX7_init 26 = .ok (.aload_n 0, 1) := by decide +kernel
theorem dX7_init_27 : decode cX7_init 27 = .ok (.new 23, 3) := by decide +kernel
theorem dX7_init_30 : decode cX7_init 30 = .ok (.dup, 1) := by decide +kernel
theorem dX7_init_31 : decode cX7_init 31 = .ok (.invokespecial 25, 3) := by decide +kernel
theorem dX7_init_34 : decode cX7_init 34 = .ok (.putfield 26, 3) := by decide +kernel
theorem dX7_init_37 : decode cX7_init 37 = .ok (.aload_n 0, 1) := by decide +kernel
theorem dX7_init_38 : decode cX7_init 38 = .ok (.new 23, 3) := by decide +kernel
theorem dX7_init_41 : decode cX7_init 41 = .ok (.dup, 1) := by decide +kernel
theorem dX7_init_42 : decode cX7_init 42 = .ok (.invokespecial 25, 3) := by decide +kernel
theorem dX7_init_45 : decode cX7_init 45 = .ok (.putfield 30, 3) := by decide +kernel
theorem dX7_init_48 : decode cX7_init 48 = .ok (.aload_n 0, 1) := by decide +kernel
theorem dX7_init_49 : decode cX7_init 49 = .ok (.iconst 2, 1) := by decide +kernel
theorem dX7_init_50 : decode cX7_init 50 = .ok (.anewarray 23, 3) := by decide +kernel
theorem dX7_init_53 : decode cX7_init 53 = .ok (.putfield 33, 3) := by decide +kernel
theorem dX7_init_56 : decode cX7_init 56 = .ok (.aload_n 0, 1) := by decide +kernel
theorem dX7_init_57 : decode cX7_init 57 = .ok (.iconst 0, 1) := by decide +kernel
theorem dX7_init_58 : decode cX7_init 58 = .ok (.putfield 37, 3) := by decide +kernel
theorem dX7_init_61 : decode cX7_init 61 = .ok (.aload_n 0, 1) := by decide +kernel
theorem dX7_init_62 : decode cX7_init 62 = .ok (.getfield 26, 3) := by decide +kernel
theorem dX7_init_65 : decode cX7_init 65 = .ok (.invokevirtual 41, 3) := by decide +kernel
theorem dX7_init_68 : decode cX7_init 68 = .ok (.return_, 1) := by decide +kernel
theorem i_X7 {l : Launch} {G : GT} {H : AH} {a : Int} {d : Nat} (hN : gN G) (hA : gA G) (hk9 : H.2.1 a = (6, 0)) (h1 : (H.1 : Int) = a) (hz : ∀ i, hg H a i = 0) (ha : 0 < a) (hd : 4 ≤ d := by omega) : CL l G mX7_init d 66 2450 [vR a] H (fun v H' => v = vV ∧ RX H' a (begM 1) ∧ hg H' (a + 1) 1 = 0 ∧ hg H' a 5 = 0 ∧ (∀ i, hg H' (a + 66) i = 0) ∧ (H'.1 : Int) = a + 66 ∧ ∀ b, b < a → H'.2.1 b = H.2.1 b ∧ ∀ i, hg H' b i = hg H b i) := by
  obtain ⟨d, rfl⟩ : ∃ k, d = k + 1 := ⟨d - 1, by omega⟩
  refine CL.of (by decide) rfl (Nat.le_of_ble_eq_true rfl) ?_
  have P0 : PL H H a 0 [(0, 6, 0)] [] := PL.born hk9 h1 hz
  have c0 : (H.1 : Int) = a + 0 := P0.1
  show AW l G mX7_init (d + 1) 66 2450 _ 0 [vR a] [] 0 0 H
  refine a_aload_n dX7_init_0 rfl rfl ?_
  refine a_obj dX7_init_1 (w_mem 27 (by decide +kernel) (by decide +kernel)) (by omega) (by omega) (Nat.le_of_ble_eq_true rfl) ?_
  refine a_aload_n dX7_init_4 rfl rfl ?_
  refine a_new dX7_init_5 nw_RX7_7 (Nat.le_of_ble_eq_true rfl) (Nat.le_of_ble_eq_true rfl) (AW.st1 (y := a + 1) (by omega) ?_)
  show AW l G mX7_init (d + 1) 66 2450 _ 8 [vR a] [vR (a + 1), vR a] 1 7 (hnew H 1 0)
  refine a_dup dX7_init_8 rfl ?_
  refine a_callN (host := "RunwaySequencer") dX7_init_9 cw_X7_init_9 (nn_RX7_9 hN) (as := []) rfl rfl (by omega) (Nat.le_refl _) (Nat.le_of_ble_eq_true rfl) (nocov rfl) (Nat.le_of_ble_eq_true rfl) (Nat.le_of_ble_eq_true rfl) (CL.mono (i_X1 (hk_at (by omega)) (show ((H.1 + 1 : Nat) : Int) = a + 1 by omega) (hz_at (by omega)) (by omega)) ?_)
  rintro v9 H1 ⟨rfl, Ps⟩
  have P1 : PL H H1 a 2 [(0, 6, 0), (1, 1, 0), (2, 10, 900)] [(1, 0, 2)] := P0.sub Ps
  show AW l G mX7_init (d + 1) 66 2450 _ 12 [vR a] [vR (a + 1), vR a] 2 907 H1
  have c1 : (H1.1 : Int) = a + 2 := P1.1
  clear Ps P0 c0
  refine a_putRF dX7_init_12 fq_RX7_10 rfl rfl (P1.kd (List.Mem.head _)) ?_
  have P2 : PL H (hs H1 a 0 (a + 1)) a 2 [(0, 6, 0), (1, 1, 0), (2, 10, 900)] [(1, 0, 2), (0, 0, 1)] := P1.put (by decide) (by decide)
  show AW l G mX7_init (d + 1) 66 2450 _ 15 [vR a] [] 2 907 (hs H1 a 0 (a + 1))
  generalize hs H1 a 0 (a + 1) = H2 at P2 ⊢
  have c2 : (H2.1 : Int) = a + 2 := P2.1
  clear P1 c1
  refine a_aload_n dX7_init_15 rfl rfl ?_
  refine a_new dX7_init_16 nw_RX7_16 (Nat.le_of_ble_eq_true rfl) (Nat.le_of_ble_eq_true rfl) (AW.st1 (y := a + 3) (by omega) ?_)
  show AW l G mX7_init (d + 1) 66 2450 _ 19 [vR a] [vR (a + 3), vR a] 3 913 (hnew H2 2 0)
  refine a_dup dX7_init_19 rfl ?_
  refine a_callN (host := "RunwaySequencer") dX7_init_20 cw_X7_init_20 (nn_RX7_18 hN) (as := []) rfl rfl (by omega) (Nat.le_refl _) (Nat.le_of_ble_eq_true rfl) (nocov rfl) (Nat.le_of_ble_eq_true rfl) (Nat.le_of_ble_eq_true rfl) (CL.mono (i_X2 hN (hk_at (by omega)) (show ((H2.1 + 1 : Nat) : Int) = a + 3 by omega) (hz_at (by omega)) (by omega)) ?_)
  rintro v9 H3 ⟨rfl, Ps⟩
  have P3 : PL H H3 a 19 [(0, 6, 0), (1, 1, 0), (2, 10, 900), (3, 2, 0), (4, 4, 0), (5, 10, 7), (6, 10, 49), (7, 10, 7), (8, 10, 7), (9, 10, 7), (10, 10, 7), (11, 10, 56), (12, 13, 8), (13, 10, 7), (14, 10, 7), (15, 10, 24), (16, 10, 24), (17, 10, 24), (18, 10, 24), (19, 10, 128)] [(1, 0, 2), (0, 0, 1), (4, 2, 5), (4, 3, 6), (4, 4, 7), (4, 5, 8), (4, 6, 9), (4, 7, 10), (4, 8, 11), (4, 9, 12), (4, 10, 13), (4, 11, 14), (3, 0, 4), (3, 1, 15), (3, 2, 16), (3, 3, 17), (3, 4, 18), (3, 5, 19)] := P2.sub Ps
  show AW l G mX7_init (d + 1) 66 2450 _ 23 [vR a] [vR (a + 3), vR a] 19 1314 H3
  have c3 : (H3.1 : Int) = a + 19 := P3.1
  clear Ps P2 c2
  refine a_putRF dX7_init_23 fq_RX7_19 rfl rfl (P3.kd (List.Mem.head _)) ?_
  have P4 : PL H (hs H3 a 1 (a + 3)) a 19 [(0, 6, 0), (1, 1, 0), (2, 10, 900), (3, 2, 0), (4, 4, 0), (5, 10, 7), (6, 10, 49), (7, 10, 7), (8, 10, 7), (9, 10, 7), (10, 10, 7), (11, 10, 56), (12, 13, 8), (13, 10, 7), (14, 10, 7), (15, 10, 24), (16, 10, 24), (17, 10, 24), (18, 10, 24), (19, 10, 128)] [(1, 0, 2), (0, 0, 1), (4, 2, 5), (4, 3, 6), (4, 4, 7), (4, 5, 8), (4, 6, 9), (4, 7, 10), (4, 8, 11), (4, 9, 12), (4, 10, 13), (4, 11, 14), (3, 0, 4), (3, 1, 15), (3, 2, 16), (3, 3, 17), (3, 4, 18), (3, 5, 19), (0, 1, 3)] := P3.put (by decide) (by decide)
  show AW l G mX7_init (d + 1) 66 2450 _ 26 [vR a] [] 19 1314 (hs H3 a 1 (a + 3))
  generalize hs H3 a 1 (a + 3) = H4 at P4 ⊢
  have c4 : (H4.1 : Int) = a + 19 := P4.1
  clear P3 c3
  refine a_aload_n dX7_init_26 rfl rfl ?_
  refine a_new dX7_init_27 nw_RX7_23 (Nat.le_of_ble_eq_true rfl) (Nat.le_of_ble_eq_true rfl) (AW.st1 (y := a + 20) (by omega) ?_)
  show AW l G mX7_init (d + 1) 66 2450 _ 30 [vR a] [vR (a + 20), vR a] 20 1327 (hnew H4 5 0)
  refine a_dup dX7_init_30 rfl ?_
  refine a_callN (host := "RunwaySequencer") dX7_init_31 cw_X7_init_31 (nn_RX7_25 hN) (as := []) rfl rfl (by omega) (Nat.le_refl _) (Nat.le_of_ble_eq_true rfl) (nocov rfl) (Nat.le_of_ble_eq_true rfl) (Nat.le_of_ble_eq_true rfl) (CL.mono (i_X6 hN (hk_at (by omega)) (show ((H4.1 + 1 : Nat) : Int) = a + 20 by omega) (hz_at (by omega)) (by omega)) ?_)
  rintro v9 H5 ⟨rfl, Ps⟩
  have P5 : PL H H5 a 42 [(0, 6, 0), (1, 1, 0), (2, 10, 900), (3, 2, 0), (4, 4, 0), (5, 10, 7), (6, 10, 49), (7, 10, 7), (8, 10, 7), (9, 10, 7), (10, 10, 7), (11, 10, 56), (12, 13, 8), (13, 10, 7), (14, 10, 7), (15, 10, 24), (16, 10, 24), (17, 10, 24), (18, 10, 24), (19, 10, 128), (20, 5, 0), (21, 3, 0), (22, 10, 16), (23, 10, 4), (24, 10, 4), (25, 0, 0), (26, 10, 144), (27, 10, 24), (28, 11, 24), (29, 10, 24), (30, 10, 24), (31, 10, 24), (32, 10, 24), (33, 10, 24), (34, 10, 24), (35, 10, 24), (36, 10, 24), (37, 10, 24), (38, 10, 24), (39, 10, 72), (40, 10, 3), (41, 11, 3), (42, 10, 3)] [(1, 0, 2), (0, 0, 1), (4, 2, 5), (4, 3, 6), (4, 4, 7), (4, 5, 8), (4, 6, 9), (4, 7, 10), (4, 8, 11), (4, 9, 12), (4, 10, 13), (4, 11, 14), (3, 0, 4), (3, 1, 15), (3, 2, 16), (3, 3, 17), (3, 4, 18), (3, 5, 19), (0, 1, 3), (21, 5, 22), (21, 6, 23), (21, 7, 24), (20, 0, 21), (25, 1, 26), (25, 2, 27), (25, 3, 28), (25, 4, 29), (25, 5, 30), (25, 6, 31), (25, 7, 32), (25, 8, 33), (20, 1, 25), (20, 3, 34), (20, 4, 35), (20, 5, 36), (20, 6, 37), (20, 7, 38), (20, 9, 39), (20, 10, 40), (20, 11, 41), (20, 12, 42)] := P4.sub Ps
  show AW l G mX7_init (d + 1) 66 2450 _ 34 [vR a] [vR (a + 20), vR a] 42 1881 H5
  have c5 : (H5.1 : Int) = a + 42 := P5.1
  clear Ps P4 c4
  refine a_putRF dX7_init_34 fq_RX7_26 rfl rfl (P5.kd (List.Mem.head _)) ?_
  have P6 : PL H (hs H5 a 2 (a + 20)) a 42 [(0, 6, 0), (1, 1, 0), (2, 10, 900), (3, 2, 0), (4, 4, 0), (5, 10, 7), (6, 10, 49), (7, 10, 7), (8, 10, 7), (9, 10, 7), (10, 10, 7), (11, 10, 56), (12, 13, 8), (13, 10, 7), (14, 10, 7), (15, 10, 24), (16, 10, 24), (17, 10, 24), (18, 10, 24), (19, 10, 128), (20, 5, 0), (21, 3, 0), (22, 10, 16), (23, 10, 4), (24, 10, 4), (25, 0, 0), (26, 10, 144), (27, 10, 24), (28, 11, 24), (29, 10, 24), (30, 10, 24), (31, 10, 24), (32, 10, 24), (33, 10, 24), (34, 10, 24), (35, 10, 24), (36, 10, 24), (37, 10, 24), (38, 10, 24), (39, 10, 72), (40, 10, 3), (41, 11, 3), (42, 10, 3)] [(1, 0, 2), (0, 0, 1), (4, 2, 5), (4, 3, 6), (4, 4, 7), (4, 5, 8), (4, 6, 9), (4, 7, 10), (4, 8, 11), (4, 9, 12), (4, 10, 13), (4, 11, 14), (3, 0, 4), (3, 1, 15), (3, 2, 16), (3, 3, 17), (3, 4, 18), (3, 5, 19), (0, 1, 3), (21, 5, 22), (21, 6, 23), (21, 7, 24), (20, 0, 21), (25, 1, 26), (25, 2, 27), (25, 3, 28), (25, 4, 29), (25, 5, 30), (25, 6, 31), (25, 7, 32), (25, 8, 33), (20, 1, 25), (20, 3, 34), (20, 4, 35), (20, 5, 36), (20, 6, 37), (20, 7, 38), (20, 9, 39), (20, 10, 40), (20, 11, 41), (20, 12, 42), (0, 2, 20)] := P5.put (by decide) (by decide)
  show AW l G mX7_init (d + 1) 66 2450 _ 37 [vR a] [] 42 1881 (hs H5 a 2 (a + 20))
  generalize hs H5 a 2 (a + 20) = H6 at P6 ⊢
  have c6 : (H6.1 : Int) = a + 42 := P6.1
  clear P5 c5
  refine a_aload_n dX7_init_37 rfl rfl ?_
  refine a_new dX7_init_38 nw_RX7_23 (Nat.le_of_ble_eq_true rfl) (Nat.le_of_ble_eq_true rfl) (AW.st1 (y := a + 43) (by omega) ?_)
  show AW l G mX7_init (d + 1) 66 2450 _ 41 [vR a] [vR (a + 43), vR a] 43 1894 (hnew H6 5 0)
  refine a_dup dX7_init_41 rfl ?_
  refine a_callN (host := "RunwaySequencer") dX7_init_42 cw_X7_init_42 (nn_RX7_25 hN) (as := []) rfl rfl (by omega) (Nat.le_refl _) (Nat.le_of_ble_eq_true rfl) (nocov rfl) (Nat.le_of_ble_eq_true rfl) (Nat.le_of_ble_eq_true rfl) (CL.mono (i_X6 hN (hk_at (by omega)) (show ((H6.1 + 1 : Nat) : Int) = a + 43 by omega) (hz_at (by omega)) (by omega)) ?_)
  rintro v9 H7 ⟨rfl, Ps⟩
  have P7 : PL H H7 a 65 [(0, 6, 0), (1, 1, 0), (2, 10, 900), (3, 2, 0), (4, 4, 0), (5, 10, 7), (6, 10, 49), (7, 10, 7), (8, 10, 7), (9, 10, 7), (10, 10, 7), (11, 10, 56), (12, 13, 8), (13, 10, 7), (14, 10, 7), (15, 10, 24), (16, 10, 24), (17, 10, 24), (18, 10, 24), (19, 10, 128), (20, 5, 0), (21, 3, 0), (22, 10, 16), (23, 10, 4), (24, 10, 4), (25, 0, 0), (26, 10, 144), (27, 10, 24), (28, 11, 24), (29, 10, 24), (30, 10, 24), (31, 10, 24), (32, 10, 24), (33, 10, 24), (34, 10, 24), (35, 10, 24), (36, 10, 24), (37, 10, 24), (38, 10, 24), (39, 10, 72), (40, 10, 3), (41, 11, 3), (42, 10, 3), (43, 5, 0), (44, 3, 0), (45, 10, 16), (46, 10, 4), (47, 10, 4), (48, 0, 0), (49, 10, 144), (50, 10, 24), (51, 11, 24), (52, 10, 24), (53, 10, 24), (54, 10, 24), (55, 10, 24), (56, 10, 24), (57, 10, 24), (58, 10, 24), (59, 10, 24), (60, 10, 24), (61, 10, 24), (62, 10, 72), (63, 10, 3), (64, 11, 3), (65, 10, 3)] [(1, 0, 2), (0, 0, 1), (4, 2, 5), (4, 3, 6), (4, 4, 7), (4, 5, 8), (4, 6, 9), (4, 7, 10), (4, 8, 11), (4, 9, 12), (4, 10, 13), (4, 11, 14), (3, 0, 4), (3, 1, 15), (3, 2, 16), (3, 3, 17), (3, 4, 18), (3, 5, 19), (0, 1, 3), (21, 5, 22), (21, 6, 23), (21, 7, 24), (20, 0, 21), (25, 1, 26), (25, 2, 27), (25, 3, 28), (25, 4, 29), (25, 5, 30), (25, 6, 31), (25, 7, 32), (25, 8, 33), (20, 1, 25), (20, 3, 34), (20, 4, 35), (20, 5, 36), (20, 6, 37), (20, 7, 38), (20, 9, 39), (20, 10, 40), (20, 11, 41), (20, 12, 42), (0, 2, 20), (44, 5, 45), (44, 6, 46), (44, 7, 47), (43, 0, 44), (48, 1, 49), (48, 2, 50), (48, 3, 51), (48, 4, 52), (48, 5, 53), (48, 6, 54), (48, 7, 55), (48, 8, 56), (43, 1, 48), (43, 3, 57), (43, 4, 58), (43, 5, 59), (43, 6, 60), (43, 7, 61), (43, 9, 62), (43, 10, 63), (43, 11, 64), (43, 12, 65)] := P6.sub Ps
  show AW l G mX7_init (d + 1) 66 2450 _ 45 [vR a] [vR (a + 43), vR a] 65 2448 H7
  have c7 : (H7.1 : Int) = a + 65 := P7.1
  clear Ps P6 c6
  refine a_putRF dX7_init_45 fq_RX7_30 rfl rfl (P7.kd (List.Mem.head _)) ?_
  have P8 : PL H (hs H7 a 3 (a + 43)) a 65 [(0, 6, 0), (1, 1, 0), (2, 10, 900), (3, 2, 0), (4, 4, 0), (5, 10, 7), (6, 10, 49), (7, 10, 7), (8, 10, 7), (9, 10, 7), (10, 10, 7), (11, 10, 56), (12, 13, 8), (13, 10, 7), (14, 10, 7), (15, 10, 24), (16, 10, 24), (17, 10, 24), (18, 10, 24), (19, 10, 128), (20, 5, 0), (21, 3, 0), (22, 10, 16), (23, 10, 4), (24, 10, 4), (25, 0, 0), (26, 10, 144), (27, 10, 24), (28, 11, 24), (29, 10, 24), (30, 10, 24), (31, 10, 24), (32, 10, 24), (33, 10, 24), (34, 10, 24), (35, 10, 24), (36, 10, 24), (37, 10, 24), (38, 10, 24), (39, 10, 72), (40, 10, 3), (41, 11, 3), (42, 10, 3), (43, 5, 0), (44, 3, 0), (45, 10, 16), (46, 10, 4), (47, 10, 4), (48, 0, 0), (49, 10, 144), (50, 10, 24), (51, 11, 24), (52, 10, 24), (53, 10, 24), (54, 10, 24), (55, 10, 24), (56, 10, 24), (57, 10, 24), (58, 10, 24), (59, 10, 24), (60, 10, 24), (61, 10, 24), (62, 10, 72), (63, 10, 3), (64, 11, 3), (65, 10, 3)] [(1, 0, 2), (0, 0, 1), (4, 2, 5), (4, 3, 6), (4, 4, 7), (4, 5, 8), (4, 6, 9), (4, 7, 10), (4, 8, 11), (4, 9, 12), (4, 10, 13), (4, 11, 14), (3, 0, 4), (3, 1, 15), (3, 2, 16), (3, 3, 17), (3, 4, 18), (3, 5, 19), (0, 1, 3), (21, 5, 22), (21, 6, 23), (21, 7, 24), (20, 0, 21), (25, 1, 26), (25, 2, 27), (25, 3, 28), (25, 4, 29), (25, 5, 30), (25, 6, 31), (25, 7, 32), (25, 8, 33), (20, 1, 25), (20, 3, 34), (20, 4, 35), (20, 5, 36), (20, 6, 37), (20, 7, 38), (20, 9, 39), (20, 10, 40), (20, 11, 41), (20, 12, 42), (0, 2, 20), (44, 5, 45), (44, 6, 46), (44, 7, 47), (43, 0, 44), (48, 1, 49), (48, 2, 50), (48, 3, 51), (48, 4, 52), (48, 5, 53), (48, 6, 54), (48, 7, 55), (48, 8, 56), (43, 1, 48), (43, 3, 57), (43, 4, 58), (43, 5, 59), (43, 6, 60), (43, 7, 61), (43, 9, 62), (43, 10, 63), (43, 11, 64), (43, 12, 65), (0, 3, 43)] := P7.put (by decide) (by decide)
  show AW l G mX7_init (d + 1) 66 2450 _ 48 [vR a] [] 65 2448 (hs H7 a 3 (a + 43))
  generalize hs H7 a 3 (a + 43) = H8 at P8 ⊢
  have c8 : (H8.1 : Int) = a + 65 := P8.1
  clear P7 c7
  refine a_aload_n dX7_init_48 rfl rfl ?_
  refine a_iconst dX7_init_49 ⟨by decide, by decide⟩ ?_
  refine a_newaQ (n := 2) hA dX7_init_50 (w_mem 148 (by decide +kernel) (by decide +kernel)) (by decide) (by decide) (by decide) (AW.st1 (y := a + 66) (by omega) ?_)
  have P9 : PL H (hnew H8 15 2) a 66 [(0, 6, 0), (1, 1, 0), (2, 10, 900), (3, 2, 0), (4, 4, 0), (5, 10, 7), (6, 10, 49), (7, 10, 7), (8, 10, 7), (9, 10, 7), (10, 10, 7), (11, 10, 56), (12, 13, 8), (13, 10, 7), (14, 10, 7), (15, 10, 24), (16, 10, 24), (17, 10, 24), (18, 10, 24), (19, 10, 128), (20, 5, 0), (21, 3, 0), (22, 10, 16), (23, 10, 4), (24, 10, 4), (25, 0, 0), (26, 10, 144), (27, 10, 24), (28, 11, 24), (29, 10, 24), (30, 10, 24), (31, 10, 24), (32, 10, 24), (33, 10, 24), (34, 10, 24), (35, 10, 24), (36, 10, 24), (37, 10, 24), (38, 10, 24), (39, 10, 72), (40, 10, 3), (41, 11, 3), (42, 10, 3), (43, 5, 0), (44, 3, 0), (45, 10, 16), (46, 10, 4), (47, 10, 4), (48, 0, 0), (49, 10, 144), (50, 10, 24), (51, 11, 24), (52, 10, 24), (53, 10, 24), (54, 10, 24), (55, 10, 24), (56, 10, 24), (57, 10, 24), (58, 10, 24), (59, 10, 24), (60, 10, 24), (61, 10, 24), (62, 10, 72), (63, 10, 3), (64, 11, 3), (65, 10, 3), (66, 15, 2)] [(1, 0, 2), (0, 0, 1), (4, 2, 5), (4, 3, 6), (4, 4, 7), (4, 5, 8), (4, 6, 9), (4, 7, 10), (4, 8, 11), (4, 9, 12), (4, 10, 13), (4, 11, 14), (3, 0, 4), (3, 1, 15), (3, 2, 16), (3, 3, 17), (3, 4, 18), (3, 5, 19), (0, 1, 3), (21, 5, 22), (21, 6, 23), (21, 7, 24), (20, 0, 21), (25, 1, 26), (25, 2, 27), (25, 3, 28), (25, 4, 29), (25, 5, 30), (25, 6, 31), (25, 7, 32), (25, 8, 33), (20, 1, 25), (20, 3, 34), (20, 4, 35), (20, 5, 36), (20, 6, 37), (20, 7, 38), (20, 9, 39), (20, 10, 40), (20, 11, 41), (20, 12, 42), (0, 2, 20), (44, 5, 45), (44, 6, 46), (44, 7, 47), (43, 0, 44), (48, 1, 49), (48, 2, 50), (48, 3, 51), (48, 4, 52), (48, 5, 53), (48, 6, 54), (48, 7, 55), (48, 8, 56), (43, 1, 48), (43, 3, 57), (43, 4, 58), (43, 5, 59), (43, 6, 60), (43, 7, 61), (43, 9, 62), (43, 10, 63), (43, 11, 64), (43, 12, 65), (0, 3, 43)] := P8.new
  show AW l G mX7_init (d + 1) 66 2450 _ 53 [vR a] [vR (a + 66), vR a] 66 2450 (hnew H8 15 2)
  generalize hnew H8 15 2 = H9 at P9 ⊢
  have c9 : (H9.1 : Int) = a + 66 := P9.1
  clear P8 c8
  refine a_putRF dX7_init_53 fq_RX7_33 rfl rfl (P9.kd (List.Mem.head _)) ?_
  have P10 : PL H (hs H9 a 4 (a + 66)) a 66 [(0, 6, 0), (1, 1, 0), (2, 10, 900), (3, 2, 0), (4, 4, 0), (5, 10, 7), (6, 10, 49), (7, 10, 7), (8, 10, 7), (9, 10, 7), (10, 10, 7), (11, 10, 56), (12, 13, 8), (13, 10, 7), (14, 10, 7), (15, 10, 24), (16, 10, 24), (17, 10, 24), (18, 10, 24), (19, 10, 128), (20, 5, 0), (21, 3, 0), (22, 10, 16), (23, 10, 4), (24, 10, 4), (25, 0, 0), (26, 10, 144), (27, 10, 24), (28, 11, 24), (29, 10, 24), (30, 10, 24), (31, 10, 24), (32, 10, 24), (33, 10, 24), (34, 10, 24), (35, 10, 24), (36, 10, 24), (37, 10, 24), (38, 10, 24), (39, 10, 72), (40, 10, 3), (41, 11, 3), (42, 10, 3), (43, 5, 0), (44, 3, 0), (45, 10, 16), (46, 10, 4), (47, 10, 4), (48, 0, 0), (49, 10, 144), (50, 10, 24), (51, 11, 24), (52, 10, 24), (53, 10, 24), (54, 10, 24), (55, 10, 24), (56, 10, 24), (57, 10, 24), (58, 10, 24), (59, 10, 24), (60, 10, 24), (61, 10, 24), (62, 10, 72), (63, 10, 3), (64, 11, 3), (65, 10, 3), (66, 15, 2)] [(1, 0, 2), (0, 0, 1), (4, 2, 5), (4, 3, 6), (4, 4, 7), (4, 5, 8), (4, 6, 9), (4, 7, 10), (4, 8, 11), (4, 9, 12), (4, 10, 13), (4, 11, 14), (3, 0, 4), (3, 1, 15), (3, 2, 16), (3, 3, 17), (3, 4, 18), (3, 5, 19), (0, 1, 3), (21, 5, 22), (21, 6, 23), (21, 7, 24), (20, 0, 21), (25, 1, 26), (25, 2, 27), (25, 3, 28), (25, 4, 29), (25, 5, 30), (25, 6, 31), (25, 7, 32), (25, 8, 33), (20, 1, 25), (20, 3, 34), (20, 4, 35), (20, 5, 36), (20, 6, 37), (20, 7, 38), (20, 9, 39), (20, 10, 40), (20, 11, 41), (20, 12, 42), (0, 2, 20), (44, 5, 45), (44, 6, 46), (44, 7, 47), (43, 0, 44), (48, 1, 49), (48, 2, 50), (48, 3, 51), (48, 4, 52), (48, 5, 53), (48, 6, 54), (48, 7, 55), (48, 8, 56), (43, 1, 48), (43, 3, 57), (43, 4, 58), (43, 5, 59), (43, 6, 60), (43, 7, 61), (43, 9, 62), (43, 10, 63), (43, 11, 64), (43, 12, 65), (0, 3, 43), (0, 4, 66)] := P9.put (by decide) (by decide)
  show AW l G mX7_init (d + 1) 66 2450 _ 56 [vR a] [] 66 2450 (hs H9 a 4 (a + 66))
  generalize hs H9 a 4 (a + 66) = H10 at P10 ⊢
  have c10 : (H10.1 : Int) = a + 66 := P10.1
  clear P9 c9
  have PR : PL H H10 a 66 LRun.1 LRun.2 := P10
  have LR : Lay LRun H10 a := PR.lay
  refine a_aload_n dX7_init_56 rfl rfl ?_
  refine a_iconst dX7_init_57 ⟨by decide, by decide⟩ ?_
  refine a_putI dX7_init_58 fp_RX7_37 rfl rfl (kRun_0 LR) ?_
  show AW l G mX7_init (d + 1) 66 2450 _ 61 [vR a] [] 66 2450 (hs H10 a 5 0)
  have LS : Lay LRun (hs H10 a 5 0) a := LR.wr ok_Run (nrf_fld 5 (kRun_0 LR) (by decide) (by decide))
  have zz : ∀ b i, a < b → b ≤ a + 66 → (∀ e ∈ LRun.2, ¬ (b = a + e.1 ∧ i = e.2.1)) → hg (hs H10 a 5 0) b i = 0 := fun b i b1 b2 hn => (hg_ne _ (by omega)).trans (PR.2.2.2.2.2 b i (by omega) b2 hn)
  have z5 : hg (hs H10 a 5 0) a 5 = 0 := hg_same _ _ _ _
  have lo : ∀ b, b < a → (hs H10 a 5 0).2.1 b = H.2.1 b ∧ ∀ i, hg (hs H10 a 5 0) b i = hg H b i := fun b hb => ⟨(PR.2.2.1 b hb).1, fun i => (hg_ne _ (by omega)).trans ((PR.2.2.1 b hb).2 i)⟩
  have n1 : ((hs H10 a 5 0).1 : Int) = a + 66 := PR.1
  generalize hs H10 a 5 0 = HS at LS zz z5 lo n1 ⊢
  refine a_aload_n dX7_init_61 rfl rfl ?_
  refine a_getR dX7_init_62 fw_RX7_26 rfl rfl (kRun_0 LS) (rRun_0_2 LS) ?_
  refine a_callV dX7_init_65 cw_X7_init_65 (as := []) rfl rfl (kRun_20 LS) (Nat.le_refl _) (Nat.le_of_ble_eq_true rfl) (nocov rfl) (Nat.le_of_ble_eq_true rfl) (Nat.le_of_ble_eq_true rfl) (CL.mono (k_clear2 ⟨s_Run_Sta_20 LS, fun i hi => by rw [zz _ _ (by omega) (by omega) (fun e9 he9 w9 => absurd (show e9.1 = 36 by omega) ((by decide : ∀ e ∈ LRun.2, e.1 ≠ 36) e9 he9))]; omega⟩) ?_)
  rintro v9 HT ⟨rfl, o9, X9, -⟩
  show AW l G mX7_init (d + 1) 66 2450 _ 68 [vR a] [] 66 2450 HT
  have ee : ∀ b i, (b < a + 20 ∨ a + 42 < b) → hg HT b i = hg HS b i := fun b i hb => o9.2.2 b i (fun w9 => by have := pSt_in w9.1; omega)
  have LT : Lay LRun HT a := LS.only ok_Run o9 (fun c i w9 => pSt_nrf (s_Run_Sta_20 LS) c i w9.1)
  refine a_vret dX7_init_68 rfl (Nat.le_of_ble_eq_true rfl) (Nat.le_of_ble_eq_true rfl) ⟨rfl, ⟨LT, ⟨X9, NM_none rfl⟩, s_Run_Sta_43 LT, fun i hi => ?_⟩, ?_, (ee _ _ (by omega)).trans z5, fun i => ?_, ?_, fun b hb => ⟨?_, fun i => (ee _ _ (by omega)).trans ((lo b hb).2 i)⟩⟩
  · rw [ee _ _ (by omega), zz _ _ (by omega) (by omega) (fun e9 he9 w9 => absurd (show e9.1 = 59 by omega) ((by decide : ∀ e ∈ LRun.2, e.1 ≠ 59) e9 he9))]; omega
  · rw [ee _ _ (by omega), zz _ _ (by omega) (by omega) (fun e9 he9 w9 => absurd (show e9.1 = 1 ∧ e9.2.1 = 1 by omega) ((by decide : ∀ e ∈ LRun.2, ¬ (e.1 = 1 ∧ e.2.1 = 1)) e9 he9))]
  · rw [ee _ _ (by omega), zz _ _ (by omega) (by omega) (fun e9 he9 w9 => absurd (show e9.1 = 66 by omega) ((by decide : ∀ e ∈ LRun.2, e.1 ≠ 66) e9 he9))]
  · rw [show HT.1 = HS.1 from o9.1]; exact n1
  · rw [show HT.2.1 = HS.2.1 from o9.2.1]; exact (lo b hb).1
