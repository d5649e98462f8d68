/-! constructors that make objects -/
theorem dX2_init_0 : decode cX2_init 0 = .ok (.aload_n 0, 1) := by decide +kernel
theorem dX2_init_1 : decode cX2_init 1 = .ok (.invokespecial 3, 3) := by decide +kernel
theorem dX2_init_4 : decode cX2_init 4 = .ok (.aload_n 0, 1) := by decide +kernel
theorem dX2_init_5 : decode cX2_init 5 = .ok (.new 9, 3) := by decide +kernel
theorem dX2_init_8 : decode cX2_init 8 = .ok (.dup, 1) := by decide +kernel
theorem dX2_init_9 : decode cX2_init 9 = .ok (.invokespecial 11, 3) := by decide +kernel
theorem dX2_init_12 : decode cX2_init 12 = .ok (.putfield 12, 3) := by decide +kernel
theorem dX2_init_15 : decode cX2_init 15 = .ok (.aload_n 0, 1) := by decide +kernel
theorem dX2_init_16 : decode cX2_init 16 = .ok (.bipush 24, 2) := by decide +kernel
theorem dX2_init_18 : decode cX2_init 18 = .ok (.newarray .int, 2) := by decide +kernel
theorem dX2_init_20 : decode cX2_init 20 = .ok (.putfield 18, 3) := by decide +kernel
theorem dX2_init_23 : decode cX2_init 23 = .ok (.aload_n 0, 1) := by decide +kernel
theorem dX2_init_24 : decode cX2_init 24 = .ok (.bipush 24, 2) := by decide +kernel
theorem dX2_init_26 : decode cX2_init 26 = .ok (.newarray .int, 2) := by decide +kernel
theorem dX2_init_28 : decode cX2_init 28 = .ok (.putfield 22, 3) := by decide +kernel
theorem dX2_init_31 : decode cX2_init 31 = .ok (.aload_n 0, 1) := by decide +kernel
theorem dX2_init_32 : decode cX2_init 32 = .ok (.bipush 24, 2) := by decide +kernel
theorem dX2_init_34 : decode cX2_init 34 = .ok (.newarray .int, 2) := by decide +kernel
theorem dX2_init_36 : decode cX2_init 36 = .ok (.putfield 25, 3) := by decide +kernel
theorem dX2_init_39 : decode cX2_init 39 = .ok (.aload_n 0, 1) := by decide +kernel
theorem dX2_init_40 : decode cX2_init 40 = .ok (.bipush 24, 2) := by decide +kernel
theorem dX2_init_42 : decode cX2_init 42 = .ok (.newarray .int, 2) := by decide +kernel
theorem dX2_init_44 : decode cX2_init 44 = .ok (.putfield 28, 3) := by decide +kernel
theorem dX2_init_47 : decode cX2_init 47 = .ok (.aload_n 0, 1) := by decide +kernel
theorem dX2_init_48 : decode cX2_init 48 = .ok (.sipush 128, 3) := by decide +kernel
theorem dX2_init_51 : decode cX2_init 51 = .ok (.newarray .int, 2) := by decide +kernel
theorem dX2_init_53 : decode cX2_init 53 = .ok (.putfield 31, 3) := by decide +kernel
theorem dX2_init_56 : decode cX2_init 56 = .ok (.return_, 1) := by decide +kernel
theorem i_X2 {l : Launch} {G : GT} {H : AH} {a : Int} {d : Nat} (hN : gN G) (hk9 : H.2.1 a = (2, 0)) (h1 : (H.1 : Int) = a) (hz : ∀ i, hg H a i = 0) (ha : 0 < a) (hd : 2 ≤ d := by omega) : CL l G mX2_init d 16 401 [vR a] H (fun v H' => v = vV ∧ PL H H' a 16 LPla.1 LPla.2) := by
  obtain ⟨d, rfl⟩ : ∃ k, d = k + 1 := ⟨d - 1, by omega⟩
  refine CL.of (by decide) rfl (Nat.le_of_ble_eq_true rfl) ?_
  have P0 : PL H H a 0 [(0, 2, 0)] [] := PL.born hk9 h1 hz
  have c0 : (H.1 : Int) = a + 0 := P0.1
  show AW l G mX2_init (d + 1) 16 401 _ 0 [vR a] [] 0 0 H
  refine a_aload_n dX2_init_0 rfl rfl ?_
  refine a_obj dX2_init_1 (w_mem 73 (by decide +kernel) (by decide +kernel)) (by omega) (by omega) (Nat.le_of_ble_eq_true rfl) ?_
  refine a_aload_n dX2_init_4 rfl rfl ?_
  refine a_new dX2_init_5 nw_RX2_9 (Nat.le_of_ble_eq_true rfl) (Nat.le_of_ble_eq_true rfl) (AW.st1 (y := a + 1) (by omega) ?_)
  show AW l G mX2_init (d + 1) 16 401 _ 8 [vR a] [vR (a + 1), vR a] 1 15 (hnew H 4 0)
  refine a_dup dX2_init_8 rfl ?_
  refine a_callN (host := "RunwaySequencer") dX2_init_9 cw_X2_init_9 (nn_RX2_11 hN) (as := []) rfl rfl (by omega) (Nat.le_refl _) (Nat.le_of_ble_eq_true rfl) (nocov rfl) (Nat.le_of_ble_eq_true rfl) (Nat.le_of_ble_eq_true rfl) (CL.mono (i_X5 (hk_at (by omega)) (show ((H.1 + 1 : Nat) : Int) = a + 1 by omega) (hz_at (by omega)) (by omega)) ?_)
  rintro v9 H1 ⟨rfl, Ps⟩
  have P1 : PL H H1 a 11 [(0, 2, 0), (1, 4, 0), (2, 10, 7), (3, 10, 49), (4, 10, 7), (5, 10, 7), (6, 10, 7), (7, 10, 7), (8, 10, 56), (9, 13, 8), (10, 10, 7), (11, 10, 7)] [(1, 2, 2), (1, 3, 3), (1, 4, 4), (1, 5, 5), (1, 6, 6), (1, 7, 7), (1, 8, 8), (1, 9, 9), (1, 10, 10), (1, 11, 11)] := P0.sub Ps
  show AW l G mX2_init (d + 1) 16 401 _ 12 [vR a] [vR (a + 1), vR a] 11 177 H1
  have c1 : (H1.1 : Int) = a + 11 := P1.1
  clear Ps P0 c0
  refine a_putRF dX2_init_12 fq_RX2_12 rfl rfl (P1.kd (List.Mem.head _)) ?_
  have P2 : PL H (hs H1 a 0 (a + 1)) a 11 [(0, 2, 0), (1, 4, 0), (2, 10, 7), (3, 10, 49), (4, 10, 7), (5, 10, 7), (6, 10, 7), (7, 10, 7), (8, 10, 56), (9, 13, 8), (10, 10, 7), (11, 10, 7)] [(1, 2, 2), (1, 3, 3), (1, 4, 4), (1, 5, 5), (1, 6, 6), (1, 7, 7), (1, 8, 8), (1, 9, 9), (1, 10, 10), (1, 11, 11), (0, 0, 1)] := P1.put (by decide) (by decide)
  show AW l G mX2_init (d + 1) 16 401 _ 15 [vR a] [] 11 177 (hs H1 a 0 (a + 1))
  generalize hs H1 a 0 (a + 1) = H2 at P2 ⊢
  have c2 : (H2.1 : Int) = a + 11 := P2.1
  clear P1 c1
  refine a_aload_n dX2_init_15 rfl rfl ?_
  refine a_bipush dX2_init_16 (by decide) ?_
  refine a_newaI (j := 0) (n := 24) dX2_init_18 rfl (w_mem 67 (by decide +kernel) (by decide +kernel)) (fun _ => rfl) (by decide) rfl (fun _ _ h => h) (by decide) (by decide) (by decide) (by decide) (AW.st1 (y := a + 12) (by omega) ?_)
  have P3 : PL H (hnew H2 10 24) a 12 [(0, 2, 0), (1, 4, 0), (2, 10, 7), (3, 10, 49), (4, 10, 7), (5, 10, 7), (6, 10, 7), (7, 10, 7), (8, 10, 56), (9, 13, 8), (10, 10, 7), (11, 10, 7), (12, 10, 24)] [(1, 2, 2), (1, 3, 3), (1, 4, 4), (1, 5, 5), (1, 6, 6), (1, 7, 7), (1, 8, 8), (1, 9, 9), (1, 10, 10), (1, 11, 11), (0, 0, 1)] := P2.new
  show AW l G mX2_init (d + 1) 16 401 _ 20 [vR a] [vR (a + 12), vR a] 12 201 (hnew H2 10 24)
  generalize hnew H2 10 24 = H3 at P3 ⊢
  have c3 : (H3.1 : Int) = a + 12 := P3.1
  clear P2 c2
  refine a_putRF dX2_init_20 fq_RX2_18 rfl rfl (P3.kd (List.Mem.head _)) ?_
  have P4 : PL H (hs H3 a 1 (a + 12)) a 12 [(0, 2, 0), (1, 4, 0), (2, 10, 7), (3, 10, 49), (4, 10, 7), (5, 10, 7), (6, 10, 7), (7, 10, 7), (8, 10, 56), (9, 13, 8), (10, 10, 7), (11, 10, 7), (12, 10, 24)] [(1, 2, 2), (1, 3, 3), (1, 4, 4), (1, 5, 5), (1, 6, 6), (1, 7, 7), (1, 8, 8), (1, 9, 9), (1, 10, 10), (1, 11, 11), (0, 0, 1), (0, 1, 12)] := P3.put (by decide) (by decide)
  show AW l G mX2_init (d + 1) 16 401 _ 23 [vR a] [] 12 201 (hs H3 a 1 (a + 12))
  generalize hs H3 a 1 (a + 12) = H4 at P4 ⊢
  have c4 : (H4.1 : Int) = a + 12 := P4.1
  clear P3 c3
  refine a_aload_n dX2_init_23 rfl rfl ?_
  refine a_bipush dX2_init_24 (by decide) ?_
  refine a_newaI (j := 0) (n := 24) dX2_init_26 rfl (w_mem 67 (by decide +kernel) (by decide +kernel)) (fun _ => rfl) (by decide) rfl (fun _ _ h => h) (by decide) (by decide) (by decide) (by decide) (AW.st1 (y := a + 13) (by omega) ?_)
  have P5 : PL H (hnew H4 10 24) a 13 [(0, 2, 0), (1, 4, 0), (2, 10, 7), (3, 10, 49), (4, 10, 7), (5, 10, 7), (6, 10, 7), (7, 10, 7), (8, 10, 56), (9, 13, 8), (10, 10, 7), (11, 10, 7), (12, 10, 24), (13, 10, 24)] [(1, 2, 2), (1, 3, 3), (1, 4, 4), (1, 5, 5), (1, 6, 6), (1, 7, 7), (1, 8, 8), (1, 9, 9), (1, 10, 10), (1, 11, 11), (0, 0, 1), (0, 1, 12)] := P4.new
  show AW l G mX2_init (d + 1) 16 401 _ 28 [vR a] [vR (a + 13), vR a] 13 225 (hnew H4 10 24)
  generalize hnew H4 10 24 = H5 at P5 ⊢
  have c5 : (H5.1 : Int) = a + 13 := P5.1
  clear P4 c4
  refine a_putRF dX2_init_28 fq_RX2_22 rfl rfl (P5.kd (List.Mem.head _)) ?_
  have P6 : PL H (hs H5 a 2 (a + 13)) a 13 [(0, 2, 0), (1, 4, 0), (2, 10, 7), (3, 10, 49), (4, 10, 7), (5, 10, 7), (6, 10, 7), (7, 10, 7), (8, 10, 56), (9, 13, 8), (10, 10, 7), (11, 10, 7), (12, 10, 24), (13, 10, 24)] [(1, 2, 2), (1, 3, 3), (1, 4, 4), (1, 5, 5), (1, 6, 6), (1, 7, 7), (1, 8, 8), (1, 9, 9), (1, 10, 10), (1, 11, 11), (0, 0, 1), (0, 1, 12), (0, 2, 13)] := P5.put (by decide) (by decide)
  show AW l G mX2_init (d + 1) 16 401 _ 31 [vR a] [] 13 225 (hs H5 a 2 (a + 13))
  generalize hs H5 a 2 (a + 13) = H6 at P6 ⊢
  have c6 : (H6.1 : Int) = a + 13 := P6.1
  clear P5 c5
  refine a_aload_n dX2_init_31 rfl rfl ?_
  refine a_bipush dX2_init_32 (by decide) ?_
  refine a_newaI (j := 0) (n := 24) dX2_init_34 rfl (w_mem 67 (by decide +kernel) (by decide +kernel)) (fun _ => rfl) (by decide) rfl (fun _ _ h => h) (by decide) (by decide) (by decide) (by decide) (AW.st1 (y := a + 14) (by omega) ?_)
  have P7 : PL H (hnew H6 10 24) a 14 [(0, 2, 0), (1, 4, 0), (2, 10, 7), (3, 10, 49), (4, 10, 7), (5, 10, 7), (6, 10, 7), (7, 10, 7), (8, 10, 56), (9, 13, 8), (10, 10, 7), (11, 10, 7), (12, 10, 24), (13, 10, 24), (14, 10, 24)] [(1, 2, 2), (1, 3, 3), (1, 4, 4), (1, 5, 5), (1, 6, 6), (1, 7, 7), (1, 8, 8), (1, 9, 9), (1, 10, 10), (1, 11, 11), (0, 0, 1), (0, 1, 12), (0, 2, 13)] := P6.new
  show AW l G mX2_init (d + 1) 16 401 _ 36 [vR a] [vR (a + 14), vR a] 14 249 (hnew H6 10 24)
  generalize hnew H6 10 24 = H7 at P7 ⊢
  have c7 : (H7.1 : Int) = a + 14 := P7.1
  clear P6 c6
  refine a_putRF dX2_init_36 fq_RX2_25 rfl rfl (P7.kd (List.Mem.head _)) ?_
  have P8 : PL H (hs H7 a 3 (a + 14)) a 14 [(0, 2, 0), (1, 4, 0), (2, 10, 7), (3, 10, 49), (4, 10, 7), (5, 10, 7), (6, 10, 7), (7, 10, 7), (8, 10, 56), (9, 13, 8), (10, 10, 7), (11, 10, 7), (12, 10, 24), (13, 10, 24), (14, 10, 24)] [(1, 2, 2), (1, 3, 3), (1, 4, 4), (1, 5, 5), (1, 6, 6), (1, 7, 7), (1, 8, 8), (1, 9, 9), (1, 10, 10), (1, 11, 11), (0, 0, 1), (0, 1, 12), (0, 2, 13), (0, 3, 14)] := P7.put (by decide) (by decide)
  show AW l G mX2_init (d + 1) 16 401 _ 39 [vR a] [] 14 249 (hs H7 a 3 (a + 14))
  generalize hs H7 a 3 (a + 14) = H8 at P8 ⊢
  have c8 : (H8.1 : Int) = a + 14 := P8.1
  clear P7 c7
  refine a_aload_n dX2_init_39 rfl rfl ?_
  refine a_bipush dX2_init_40 (by decide) ?_
  refine a_newaI (j := 0) (n := 24) dX2_init_42 rfl (w_mem 67 (by decide +kernel) (by decide +kernel)) (fun _ => rfl) (by decide) rfl (fun _ _ h => h) (by decide) (by decide) (by decide) (by decide) (AW.st1 (y := a + 15) (by omega) ?_)
  have P9 : PL H (hnew H8 10 24) a 15 [(0, 2, 0), (1, 4, 0), (2, 10, 7), (3, 10, 49), (4, 10, 7), (5, 10, 7), (6, 10, 7), (7, 10, 7), (8, 10, 56), (9, 13, 8), (10, 10, 7), (11, 10, 7), (12, 10, 24), (13, 10, 24), (14, 10, 24), (15, 10, 24)] [(1, 2, 2), (1, 3, 3), (1, 4, 4), (1, 5, 5), (1, 6, 6), (1, 7, 7), (1, 8, 8), (1, 9, 9), (1, 10, 10), (1, 11, 11), (0, 0, 1), (0, 1, 12), (0, 2, 13), (0, 3, 14)] := P8.new
  show AW l G mX2_init (d + 1) 16 401 _ 44 [vR a] [vR (a + 15), vR a] 15 273 (hnew H8 10 24)
  generalize hnew H8 10 24 = H9 at P9 ⊢
  have c9 : (H9.1 : Int) = a + 15 := P9.1
  clear P8 c8
  refine a_putRF dX2_init_44 fq_RX2_28 rfl rfl (P9.kd (List.Mem.head _)) ?_
  have P10 : PL H (hs H9 a 4 (a + 15)) a 15 [(0, 2, 0), (1, 4, 0), (2, 10, 7), (3, 10, 49), (4, 10, 7), (5, 10, 7), (6, 10, 7), (7, 10, 7), (8, 10, 56), (9, 13, 8), (10, 10, 7), (11, 10, 7), (12, 10, 24), (13, 10, 24), (14, 10, 24), (15, 10, 24)] [(1, 2, 2), (1, 3, 3), (1, 4, 4), (1, 5, 5), (1, 6, 6), (1, 7, 7), (1, 8, 8), (1, 9, 9), (1, 10, 10), (1, 11, 11), (0, 0, 1), (0, 1, 12), (0, 2, 13), (0, 3, 14), (0, 4, 15)] := P9.put (by decide) (by decide)
  show AW l G mX2_init (d + 1) 16 401 _ 47 [vR a] [] 15 273 (hs H9 a 4 (a + 15))
  generalize hs H9 a 4 (a + 15) = H10 at P10 ⊢
  have c10 : (H10.1 : Int) = a + 15 := P10.1
  clear P9 c9
  refine a_aload_n dX2_init_47 rfl rfl ?_
  refine a_sipush dX2_init_48 (by decide) ?_
  refine a_newaI (j := 0) (n := 128) dX2_init_51 rfl (w_mem 67 (by decide +kernel) (by decide +kernel)) (fun _ => rfl) (by decide) rfl (fun _ _ h => h) (by decide) (by decide) (by decide) (by decide) (AW.st1 (y := a + 16) (by omega) ?_)
  have P11 : PL H (hnew H10 10 128) a 16 [(0, 2, 0), (1, 4, 0), (2, 10, 7), (3, 10, 49), (4, 10, 7), (5, 10, 7), (6, 10, 7), (7, 10, 7), (8, 10, 56), (9, 13, 8), (10, 10, 7), (11, 10, 7), (12, 10, 24), (13, 10, 24), (14, 10, 24), (15, 10, 24), (16, 10, 128)] [(1, 2, 2), (1, 3, 3), (1, 4, 4), (1, 5, 5), (1, 6, 6), (1, 7, 7), (1, 8, 8), (1, 9, 9), (1, 10, 10), (1, 11, 11), (0, 0, 1), (0, 1, 12), (0, 2, 13), (0, 3, 14), (0, 4, 15)] := P10.new
  show AW l G mX2_init (d + 1) 16 401 _ 53 [vR a] [vR (a + 16), vR a] 16 401 (hnew H10 10 128)
  generalize hnew H10 10 128 = H11 at P11 ⊢
  have c11 : (H11.1 : Int) = a + 16 := P11.1
  clear P10 c10
  refine a_putRF dX2_init_53 fq_RX2_31 rfl rfl (P11.kd (List.Mem.head _)) ?_
  have P12 : PL H (hs H11 a 5 (a + 16)) a 16 [(0, 2, 0), (1, 4, 0), (2, 10, 7), (3, 10, 49), (4, 10, 7), (5, 10, 7), (6, 10, 7), (7, 10, 7), (8, 10, 56), (9, 13, 8), (10, 10, 7), (11, 10, 7), (12, 10, 24), (13, 10, 24), (14, 10, 24), (15, 10, 24), (16, 10, 128)] [(1, 2, 2), (1, 3, 3), (1, 4, 4), (1, 5, 5), (1, 6, 6), (1, 7, 7), (1, 8, 8), (1, 9, 9), (1, 10, 10), (1, 11, 11), (0, 0, 1), (0, 1, 12), (0, 2, 13), (0, 3, 14), (0, 4, 15), (0, 5, 16)] := P11.put (by decide) (by decide)
  show AW l G mX2_init (d + 1) 16 401 _ 56 [vR a] [] 16 401 (hs H11 a 5 (a + 16))
  generalize hs H11 a 5 (a + 16) = H12 at P12 ⊢
  have c12 : (H12.1 : Int) = a + 16 := P12.1
  clear P11 c11
  exact a_vret dX2_init_56 rfl (Nat.le_of_ble_eq_true rfl) (Nat.le_of_ble_eq_true rfl) ⟨rfl, P12⟩
theorem dX6_init_0 : decode cX6_init 0 = .ok (.aload_n 0, 1) := by decide +kernel
theorem dX6_init_1 : decode cX6_init 1 = .ok (.invokespecial 3, 3) := by decide +kernel
theorem dX6_init_4 : decode cX6_init 4 = .ok (.aload_n 0, 1) := by decide +kernel
theorem dX6_init_5 : decode cX6_init 5 = .ok (.new 9, 3) := by decide +kernel
theorem dX6_init_8 : decode cX6_init 8 = .ok (.dup, 1) := by decide +kernel
theorem dX6_init_9 : decode cX6_init 9 = .ok (.invokespecial 11, 3) := by decide +kernel
theorem dX6_init_12 : decode cX6_init 12 = .ok (.putfield 12, 3) := by decide +kernel
theorem dX6_init_15 : decode cX6_init 15 = .ok (.aload_n 0, 1) := by decide +kernel
theorem dX6_init_16 : decode cX6_init 16 = .ok (.new 18, 3) := by decide +kernel
theorem dX6_init_19 : decode cX6_init 19 = .ok (.dup, 1) := by decide +kernel
theorem dX6_init_20 : decode cX6_init 20 = .ok (.invokespecial 20, 3) := by decide +kernel
theorem dX6_init_23 : decode cX6_init 23 = .ok (.putfield 21, 3) := by decide +kernel
theorem dX6_init_26 : decode cX6_init 26 = .ok (.aload_n 0, 1) := by decide +kernel
theorem dX6_init_27 : decode cX6_init 27 = .ok (.bipush 24, 2) := by decide +kernel
theorem dX6_init_29 : decode cX6_init 29 = .ok (.newarray .int, 2) := by decide +kernel
theorem dX6_init_31 : decode cX6_init 31 = .ok (.putfield 25, 3) := by decide +kernel
theorem dX6_init_34 : decode cX6_init 34 = .ok (.aload_n 0, 1) := by decide +kernel
theorem dX6_init_35 : decode cX6_init 35 = .ok (.bipush 24, 2) := by decide +kernel
theorem dX6_init_37 : decode cX6_init 37 = .ok (.newarray .int, 2) := by decide +kernel
theorem dX6_init_39 : decode cX6_init 39 = .ok (.putfield 29, 3) := by decide +kernel
theorem dX6_init_42 : decode cX6_init 42 = .ok (.aload_n 0, 1) := by decide +kernel
theorem dX6_init_43 : decode cX6_init 43 = .ok (.bipush 24, 2) := by decide +kernel
theorem dX6_init_45 : decode cX6_init 45 = .ok (.newarray .int, 2) := by decide +kernel
theorem dX6_init_47 : decode cX6_init 47 = .ok (.putfield 32, 3) := by decide +kernel
theorem dX6_init_50 : decode cX6_init 50 = .ok (.aload_n 0, 1) := by decide +kernel
theorem dX6_init_51 : decode cX6_init 51 = .ok (.bipush 24, 2) := by decide +kernel
theorem dX6_init_53 : decode cX6_init 53 = .ok (.newarray .int, 2) := by decide +kernel
theorem dX6_init_55 : decode cX6_init 55 = .ok (.putfield 35, 3) := by decide +kernel
theorem dX6_init_58 : decode cX6_init 58 = .ok (.aload_n 0, 1) := by decide +kernel
theorem dX6_init_59 : decode cX6_init 59 = .ok (.bipush 24, 2) := by decide +kernel
theorem dX6_init_61 : decode cX6_init 61 = .ok (.newarray .int, 2) := by decide +kernel
theorem dX6_init_63 : decode cX6_init 63 = .ok (.putfield 38, 3) := by decide +kernel
theorem dX6_init_66 : decode cX6_init 66 = .ok (.aload_n 0, 1) := by decide +kernel
theorem dX6_init_67 : decode cX6_init 67 = .ok (.bipush 72, 2) := by decide +kernel
theorem dX6_init_69 : decode cX6_init 69 = .ok (.newarray .int, 2) := by decide +kernel
theorem dX6_init_71 : decode cX6_init 71 = .ok (.putfield 41, 3) := by decide +kernel
theorem dX6_init_74 : decode cX6_init 74 = .ok (.aload_n 0, 1) := by decide +kernel
theorem dX6_init_75 : decode cX6_init 75 = .ok (.iconst 3, 1) := by decide +kernel
theorem dX6_init_76 : decode cX6_init 76 = .ok (.newarray .int, 2) := by decide +kernel
theorem dX6_init_78 : decode cX6_init 78 = .ok (.putfield 44, 3) := by decide +kernel
theorem dX6_init_81 : decode cX6_init 81 = .ok (.aload_n 0, 1) := by decide +kernel
theorem dX6_init_82 : decode cX6_init 82 = .ok (.iconst 3, 1) := by decide +kernel
theorem dX6_init_83 : decode cX6_init 83 = .ok (.newarray .boolean, 2) := by decide +kernel
theorem dX6_init_85 : decode cX6_init 85 = .ok (.putfield 47, 3) := by decide +kernel
theorem dX6_init_88 : decode cX6_init 88 = .ok (.aload_n 0, 1) := by decide +kernel
theorem dX6_init_89 : decode cX6_init 89 = .ok (.iconst 3, 1) := by decide +kernel
theorem dX6_init_90 : decode cX6_init 90 = .ok (.newarray .int, 2) := by decide +kernel
theorem dX6_init_92 : decode cX6_init 92 = .ok (.putfield 51, 3) := by decide +kernel
theorem dX6_init_95 : decode cX6_init 95 = .ok (.return_, 1) := by decide +kernel
theorem i_X6 {l : Launch} {G : GT} {H : AH} {a : Int} {d : Nat} (hN : gN G) (hk9 : H.2.1 a = (5, 0)) (h1 : (H.1 : Int) = a) (hz : ∀ i, hg H a i = 0) (ha : 0 < a) (hd : 2 ≤ d := by omega) : CL l G mX6_init d 22 554 [vR a] H (fun v H' => v = vV ∧ PL H H' a 22 LSta.1 LSta.2) := by
  obtain ⟨d, rfl⟩ : ∃ k, d = k + 1 := ⟨d - 1, by omega⟩
  refine CL.of (by decide) rfl (Nat.le_of_ble_eq_true rfl) ?_
  have P0 : PL H H a 0 [(0, 5, 0)] [] := PL.born hk9 h1 hz
  have c0 : (H.1 : Int) = a + 0 := P0.1
  show AW l G mX6_init (d + 1) 22 554 _ 0 [vR a] [] 0 0 H
  refine a_aload_n dX6_init_0 rfl rfl ?_
  refine a_obj dX6_init_1 (w_mem 153 (by decide +kernel) (by decide +kernel)) (by omega) (by omega) (Nat.le_of_ble_eq_true rfl) ?_
  refine a_aload_n dX6_init_4 rfl rfl ?_
  refine a_new dX6_init_5 nw_RX6_9 (Nat.le_of_ble_eq_true rfl) (Nat.le_of_ble_eq_true rfl) (AW.st1 (y := a + 1) (by omega) ?_)
  show AW l G mX6_init (d + 1) 22 554 _ 8 [vR a] [vR (a + 1), vR a] 1 8 (hnew H 3 0)
  refine a_dup dX6_init_8 rfl ?_
  refine a_callN (host := "RunwaySequencer") dX6_init_9 cw_X6_init_9 (nn_RX6_11 hN) (as := []) rfl rfl (by omega) (Nat.le_refl _) (Nat.le_of_ble_eq_true rfl) (nocov rfl) (Nat.le_of_ble_eq_true rfl) (Nat.le_of_ble_eq_true rfl) (CL.mono (i_X4 (hk_at (by omega)) (show ((H.1 + 1 : Nat) : Int) = a + 1 by omega) (hz_at (by omega)) (by omega)) ?_)
  rintro v9 H1 ⟨rfl, Ps⟩
  have P1 : PL H H1 a 4 [(0, 5, 0), (1, 3, 0), (2, 10, 16), (3, 10, 4), (4, 10, 4)] [(1, 5, 2), (1, 6, 3), (1, 7, 4)] := P0.sub Ps
  show AW l G mX6_init (d + 1) 22 554 _ 12 [vR a] [vR (a + 1), vR a] 4 32 H1
  have c1 : (H1.1 : Int) = a + 4 := P1.1
  clear Ps P0 c0
  refine a_putRF dX6_init_12 fq_RX6_12 rfl rfl (P1.kd (List.Mem.head _)) ?_
  have P2 : PL H (hs H1 a 0 (a + 1)) a 4 [(0, 5, 0), (1, 3, 0), (2, 10, 16), (3, 10, 4), (4, 10, 4)] [(1, 5, 2), (1, 6, 3), (1, 7, 4), (0, 0, 1)] := P1.put (by decide) (by decide)
  show AW l G mX6_init (d + 1) 22 554 _ 15 [vR a] [] 4 32 (hs H1 a 0 (a + 1))
  generalize hs H1 a 0 (a + 1) = H2 at P2 ⊢
  have c2 : (H2.1 : Int) = a + 4 := P2.1
  clear P1 c1
  refine a_aload_n dX6_init_15 rfl rfl ?_
  refine a_new dX6_init_16 nw_RX6_18 (Nat.le_of_ble_eq_true rfl) (Nat.le_of_ble_eq_true rfl) (AW.st1 (y := a + 5) (by omega) ?_)
  show AW l G mX6_init (d + 1) 22 554 _ 19 [vR a] [vR (a + 5), vR a] 5 41 (hnew H2 0 0)
  refine a_dup dX6_init_19 rfl ?_
  refine a_callN (host := "RunwaySequencer") dX6_init_20 cw_X6_init_20 (nn_RX6_20 hN) (as := []) rfl rfl (by omega) (Nat.le_refl _) (Nat.le_of_ble_eq_true rfl) (nocov rfl) (Nat.le_of_ble_eq_true rfl) (Nat.le_of_ble_eq_true rfl) (CL.mono (i_X0 (hk_at (by omega)) (show ((H2.1 + 1 : Nat) : Int) = a + 5 by omega) (hz_at (by omega)) (by omega)) ?_)
  rintro v9 H3 ⟨rfl, Ps⟩
  have P3 : PL H H3 a 13 [(0, 5, 0), (1, 3, 0), (2, 10, 16), (3, 10, 4), (4, 10, 4), (5, 0, 0), (6, 10, 144), (7, 10, 24), (8, 11, 24), (9, 10, 24), (10, 10, 24), (11, 10, 24), (12, 10, 24), (13, 10, 24)] [(1, 5, 2), (1, 6, 3), (1, 7, 4), (0, 0, 1), (5, 1, 6), (5, 2, 7), (5, 3, 8), (5, 4, 9), (5, 5, 10), (5, 6, 11), (5, 7, 12), (5, 8, 13)] := P2.sub Ps
  show AW l G mX6_init (d + 1) 22 554 _ 23 [vR a] [vR (a + 5), vR a] 13 353 H3
  have c3 : (H3.1 : Int) = a + 13 := P3.1
  clear Ps P2 c2
  refine a_putRF dX6_init_23 fq_RX6_21 rfl rfl (P3.kd (List.Mem.head _)) ?_
  have P4 : PL H (hs H3 a 1 (a + 5)) a 13 [(0, 5, 0), (1, 3, 0), (2, 10, 16), (3, 10, 4), (4, 10, 4), (5, 0, 0), (6, 10, 144), (7, 10, 24), (8, 11, 24), (9, 10, 24), (10, 10, 24), (11, 10, 24), (12, 10, 24), (13, 10, 24)] [(1, 5, 2), (1, 6, 3), (1, 7, 4), (0, 0, 1), (5, 1, 6), (5, 2, 7), (5, 3, 8), (5, 4, 9), (5, 5, 10), (5, 6, 11), (5, 7, 12), (5, 8, 13), (0, 1, 5)] := P3.put (by decide) (by decide)
  show AW l G mX6_init (d + 1) 22 554 _ 26 [vR a] [] 13 353 (hs H3 a 1 (a + 5))
  generalize hs H3 a 1 (a + 5) = H4 at P4 ⊢
  have c4 : (H4.1 : Int) = a + 13 := P4.1
  clear P3 c3
  refine a_aload_n dX6_init_26 rfl rfl ?_
  refine a_bipush dX6_init_27 (by decide) ?_
  refine a_newaI (j := 0) (n := 24) dX6_init_29 rfl (w_mem 67 (by decide +kernel) (by decide +kernel)) (fun _ => rfl) (by decide) rfl (fun _ _ h => h) (by decide) (by decide) (by decide) (by decide) (AW.st1 (y := a + 14) (by omega) ?_)
  have P5 : PL H (hnew H4 10 24) a 14 [(0, 5, 0), (1, 3, 0), (2, 10, 16), (3, 10, 4), (4, 10, 4), (5, 0, 0), (6, 10, 144), (7, 10, 24), (8, 11, 24), (9, 10, 24), (10, 10, 24), (11, 10, 24), (12, 10, 24), (13, 10, 24), (14, 10, 24)] [(1, 5, 2), (1, 6, 3), (1, 7, 4), (0, 0, 1), (5, 1, 6), (5, 2, 7), (5, 3, 8), (5, 4, 9), (5, 5, 10), (5, 6, 11), (5, 7, 12), (5, 8, 13), (0, 1, 5)] := P4.new
  show AW l G mX6_init (d + 1) 22 554 _ 31 [vR a] [vR (a + 14), vR a] 14 377 (hnew H4 10 24)
  generalize hnew H4 10 24 = H5 at P5 ⊢
  have c5 : (H5.1 : Int) = a + 14 := P5.1
  clear P4 c4
  refine a_putRF dX6_init_31 fq_RX6_25 rfl rfl (P5.kd (List.Mem.head _)) ?_
  have P6 : PL H (hs H5 a 3 (a + 14)) a 14 [(0, 5, 0), (1, 3, 0), (2, 10, 16), (3, 10, 4), (4, 10, 4), (5, 0, 0), (6, 10, 144), (7, 10, 24), (8, 11, 24), (9, 10, 24), (10, 10, 24), (11, 10, 24), (12, 10, 24), (13, 10, 24), (14, 10, 24)] [(1, 5, 2), (1, 6, 3), (1, 7, 4), (0, 0, 1), (5, 1, 6), (5, 2, 7), (5, 3, 8), (5, 4, 9), (5, 5, 10), (5, 6, 11), (5, 7, 12), (5, 8, 13), (0, 1, 5), (0, 3, 14)] := P5.put (by decide) (by decide)
  show AW l G mX6_init (d + 1) 22 554 _ 34 [vR a] [] 14 377 (hs H5 a 3 (a + 14))
  generalize hs H5 a 3 (a + 14) = H6 at P6 ⊢
  have c6 : (H6.1 : Int) = a + 14 := P6.1
  clear P5 c5
  refine a_aload_n dX6_init_34 rfl rfl ?_
  refine a_bipush dX6_init_35 (by decide) ?_
  refine a_newaI (j := 0) (n := 24) dX6_init_37 rfl (w_mem 67 (by decide +kernel) (by decide +kernel)) (fun _ => rfl) (by decide) rfl (fun _ _ h => h) (by decide) (by decide) (by decide) (by decide) (AW.st1 (y := a + 15) (by omega) ?_)
  have P7 : PL H (hnew H6 10 24) a 15 [(0, 5, 0), (1, 3, 0), (2, 10, 16), (3, 10, 4), (4, 10, 4), (5, 0, 0), (6, 10, 144), (7, 10, 24), (8, 11, 24), (9, 10, 24), (10, 10, 24), (11, 10, 24), (12, 10, 24), (13, 10, 24), (14, 10, 24), (15, 10, 24)] [(1, 5, 2), (1, 6, 3), (1, 7, 4), (0, 0, 1), (5, 1, 6), (5, 2, 7), (5, 3, 8), (5, 4, 9), (5, 5, 10), (5, 6, 11), (5, 7, 12), (5, 8, 13), (0, 1, 5), (0, 3, 14)] := P6.new
  show AW l G mX6_init (d + 1) 22 554 _ 39 [vR a] [vR (a + 15), vR a] 15 401 (hnew H6 10 24)
  generalize hnew H6 10 24 = H7 at P7 ⊢
  have c7 : (H7.1 : Int) = a + 15 := P7.1
  clear P6 c6
  refine a_putRF dX6_init_39 fq_RX6_29 rfl rfl (P7.kd (List.Mem.head _)) ?_
  have P8 : PL H (hs H7 a 4 (a + 15)) a 15 [(0, 5, 0), (1, 3, 0), (2, 10, 16), (3, 10, 4), (4, 10, 4), (5, 0, 0), (6, 10, 144), (7, 10, 24), (8, 11, 24), (9, 10, 24), (10, 10, 24), (11, 10, 24), (12, 10, 24), (13, 10, 24), (14, 10, 24), (15, 10, 24)] [(1, 5, 2), (1, 6, 3), (1, 7, 4), (0, 0, 1), (5, 1, 6), (5, 2, 7), (5, 3, 8), (5, 4, 9), (5, 5, 10), (5, 6, 11), (5, 7, 12), (5, 8, 13), (0, 1, 5), (0, 3, 14), (0, 4, 15)] := P7.put (by decide) (by decide)
  show AW l G mX6_init (d + 1) 22 554 _ 42 [vR a] [] 15 401 (hs H7 a 4 (a + 15))
  generalize hs H7 a 4 (a + 15) = H8 at P8 ⊢
  have c8 : (H8.1 : Int) = a + 15 := P8.1
  clear P7 c7
  refine a_aload_n dX6_init_42 rfl rfl ?_
  refine a_bipush dX6_init_43 (by decide) ?_
  refine a_newaI (j := 0) (n := 24) dX6_init_45 rfl (w_mem 67 (by decide +kernel) (by decide +kernel)) (fun _ => rfl) (by decide) rfl (fun _ _ h => h) (by decide) (by decide) (by decide) (by decide) (AW.st1 (y := a + 16) (by omega) ?_)
  have P9 : PL H (hnew H8 10 24) a 16 [(0, 5, 0), (1, 3, 0), (2, 10, 16), (3, 10, 4), (4, 10, 4), (5, 0, 0), (6, 10, 144), (7, 10, 24), (8, 11, 24), (9, 10, 24), (10, 10, 24), (11, 10, 24), (12, 10, 24), (13, 10, 24), (14, 10, 24), (15, 10, 24), (16, 10, 24)] [(1, 5, 2), (1, 6, 3), (1, 7, 4), (0, 0, 1), (5, 1, 6), (5, 2, 7), (5, 3, 8), (5, 4, 9), (5, 5, 10), (5, 6, 11), (5, 7, 12), (5, 8, 13), (0, 1, 5), (0, 3, 14), (0, 4, 15)] := P8.new
  show AW l G mX6_init (d + 1) 22 554 _ 47 [vR a] [vR (a + 16), vR a] 16 425 (hnew H8 10 24)
  generalize hnew H8 10 24 = H9 at P9 ⊢
  have c9 : (H9.1 : Int) = a + 16 := P9.1
  clear P8 c8
  refine a_putRF dX6_init_47 fq_RX6_32 rfl rfl (P9.kd (List.Mem.head _)) ?_
  have P10 : PL H (hs H9 a 5 (a + 16)) a 16 [(0, 5, 0), (1, 3, 0), (2, 10, 16), (3, 10, 4), (4, 10, 4), (5, 0, 0), (6, 10, 144), (7, 10, 24), (8, 11, 24), (9, 10, 24), (10, 10, 24), (11, 10, 24), (12, 10, 24), (13, 10, 24), (14, 10, 24), (15, 10, 24), (16, 10, 24)] [(1, 5, 2), (1, 6, 3), (1, 7, 4), (0, 0, 1), (5, 1, 6), (5, 2, 7), (5, 3, 8), (5, 4, 9), (5, 5, 10), (5, 6, 11), (5, 7, 12), (5, 8, 13), (0, 1, 5), (0, 3, 14), (0, 4, 15), (0, 5, 16)] := P9.put (by decide) (by decide)
  show AW l G mX6_init (d + 1) 22 554 _ 50 [vR a] [] 16 425 (hs H9 a 5 (a + 16))
  generalize hs H9 a 5 (a + 16) = H10 at P10 ⊢
  have c10 : (H10.1 : Int) = a + 16 := P10.1
  clear P9 c9
  refine a_aload_n dX6_init_50 rfl rfl ?_
  refine a_bipush dX6_init_51 (by decide) ?_
  refine a_newaI (j := 0) (n := 24) dX6_init_53 rfl (w_mem 67 (by decide +kernel) (by decide +kernel)) (fun _ => rfl) (by decide) rfl (fun _ _ h => h) (by decide) (by decide) (by decide) (by decide) (AW.st1 (y := a + 17) (by omega) ?_)
  have P11 : PL H (hnew H10 10 24) a 17 [(0, 5, 0), (1, 3, 0), (2, 10, 16), (3, 10, 4), (4, 10, 4), (5, 0, 0), (6, 10, 144), (7, 10, 24), (8, 11, 24), (9, 10, 24), (10, 10, 24), (11, 10, 24), (12, 10, 24), (13, 10, 24), (14, 10, 24), (15, 10, 24), (16, 10, 24), (17, 10, 24)] [(1, 5, 2), (1, 6, 3), (1, 7, 4), (0, 0, 1), (5, 1, 6), (5, 2, 7), (5, 3, 8), (5, 4, 9), (5, 5, 10), (5, 6, 11), (5, 7, 12), (5, 8, 13), (0, 1, 5), (0, 3, 14), (0, 4, 15), (0, 5, 16)] := P10.new
  show AW l G mX6_init (d + 1) 22 554 _ 55 [vR a] [vR (a + 17), vR a] 17 449 (hnew H10 10 24)
  generalize hnew H10 10 24 = H11 at P11 ⊢
  have c11 : (H11.1 : Int) = a + 17 := P11.1
  clear P10 c10
  refine a_putRF dX6_init_55 fq_RX6_35 rfl rfl (P11.kd (List.Mem.head _)) ?_
  have P12 : PL H (hs H11 a 6 (a + 17)) a 17 [(0, 5, 0), (1, 3, 0), (2, 10, 16), (3, 10, 4), (4, 10, 4), (5, 0, 0), (6, 10, 144), (7, 10, 24), (8, 11, 24), (9, 10, 24), (10, 10, 24), (11, 10, 24), (12, 10, 24), (13, 10, 24), (14, 10, 24), (15, 10, 24), (16, 10, 24), (17, 10, 24)] [(1, 5, 2), (1, 6, 3), (1, 7, 4), (0, 0, 1), (5, 1, 6), (5, 2, 7), (5, 3, 8), (5, 4, 9), (5, 5, 10), (5, 6, 11), (5, 7, 12), (5, 8, 13), (0, 1, 5), (0, 3, 14), (0, 4, 15), (0, 5, 16), (0, 6, 17)] := P11.put (by decide) (by decide)
  show AW l G mX6_init (d + 1) 22 554 _ 58 [vR a] [] 17 449 (hs H11 a 6 (a + 17))
  generalize hs H11 a 6 (a + 17) = H12 at P12 ⊢
  have c12 : (H12.1 : Int) = a + 17 := P12.1
  clear P11 c11
  refine a_aload_n dX6_init_58 rfl rfl ?_
  refine a_bipush dX6_init_59 (by decide) ?_
  refine a_newaI (j := 0) (n := 24) dX6_init_61 rfl (w_mem 67 (by decide +kernel) (by decide +kernel)) (fun _ => rfl) (by decide) rfl (fun _ _ h => h) (by decide) (by decide) (by decide) (by decide) (AW.st1 (y := a + 18) (by omega) ?_)
  have P13 : PL H (hnew H12 10 24) a 18 [(0, 5, 0), (1, 3, 0), (2, 10, 16), (3, 10, 4), (4, 10, 4), (5, 0, 0), (6, 10, 144), (7, 10, 24), (8, 11, 24), (9, 10, 24), (10, 10, 24), (11, 10, 24), (12, 10, 24), (13, 10, 24), (14, 10, 24), (15, 10, 24), (16, 10, 24), (17, 10, 24), (18, 10, 24)] [(1, 5, 2), (1, 6, 3), (1, 7, 4), (0, 0, 1), (5, 1, 6), (5, 2, 7), (5, 3, 8), (5, 4, 9), (5, 5, 10), (5, 6, 11), (5, 7, 12), (5, 8, 13), (0, 1, 5), (0, 3, 14), (0, 4, 15), (0, 5, 16), (0, 6, 17)] := P12.new
  show AW l G mX6_init (d + 1) 22 554 _ 63 [vR a] [vR (a + 18), vR a] 18 473 (hnew H12 10 24)
  generalize hnew H12 10 24 = H13 at P13 ⊢
  have c13 : (H13.1 : Int) = a + 18 := P13.1
  clear P12 c12
  refine a_putRF dX6_init_63 fq_RX6_38 rfl rfl (P13.kd (List.Mem.head _)) ?_
  have P14 : PL H (hs H13 a 7 (a + 18)) a 18 [(0, 5, 0), (1, 3, 0), (2, 10, 16), (3, 10, 4), (4, 10, 4), (5, 0, 0), (6, 10, 144), (7, 10, 24), (8, 11, 24), (9, 10, 24), (10, 10, 24), (11, 10, 24), (12, 10, 24), (13, 10, 24), (14, 10, 24), (15, 10, 24), (16, 10, 24), (17, 10, 24), (18, 10, 24)] [(1, 5, 2), (1, 6, 3), (1, 7, 4), (0, 0, 1), (5, 1, 6), (5, 2, 7), (5, 3, 8), (5, 4, 9), (5, 5, 10), (5, 6, 11), (5, 7, 12), (5, 8, 13), (0, 1, 5), (0, 3, 14), (0, 4, 15), (0, 5, 16), (0, 6, 17), (0, 7, 18)] := P13.put (by decide) (by decide)
  show AW l G mX6_init (d + 1) 22 554 _ 66 [vR a] [] 18 473 (hs H13 a 7 (a + 18))
  generalize hs H13 a 7 (a + 18) = H14 at P14 ⊢
  have c14 : (H14.1 : Int) = a + 18 := P14.1
  clear P13 c13
  refine a_aload_n dX6_init_66 rfl rfl ?_
  refine a_bipush dX6_init_67 (by decide) ?_
  refine a_newaI (j := 0) (n := 72) dX6_init_69 rfl (w_mem 67 (by decide +kernel) (by decide +kernel)) (fun _ => rfl) (by decide) rfl (fun _ _ h => h) (by decide) (by decide) (by decide) (by decide) (AW.st1 (y := a + 19) (by omega) ?_)
  have P15 : PL H (hnew H14 10 72) a 19 [(0, 5, 0), (1, 3, 0), (2, 10, 16), (3, 10, 4), (4, 10, 4), (5, 0, 0), (6, 10, 144), (7, 10, 24), (8, 11, 24), (9, 10, 24), (10, 10, 24), (11, 10, 24), (12, 10, 24), (13, 10, 24), (14, 10, 24), (15, 10, 24), (16, 10, 24), (17, 10, 24), (18, 10, 24), (19, 10, 72)] [(1, 5, 2), (1, 6, 3), (1, 7, 4), (0, 0, 1), (5, 1, 6), (5, 2, 7), (5, 3, 8), (5, 4, 9), (5, 5, 10), (5, 6, 11), (5, 7, 12), (5, 8, 13), (0, 1, 5), (0, 3, 14), (0, 4, 15), (0, 5, 16), (0, 6, 17), (0, 7, 18)] := P14.new
  show AW l G mX6_init (d + 1) 22 554 _ 71 [vR a] [vR (a + 19), vR a] 19 545 (hnew H14 10 72)
  generalize hnew H14 10 72 = H15 at P15 ⊢
  have c15 : (H15.1 : Int) = a + 19 := P15.1
  clear P14 c14
  refine a_putRF dX6_init_71 fq_RX6_41 rfl rfl (P15.kd (List.Mem.head _)) ?_
  have P16 : PL H (hs H15 a 9 (a + 19)) a 19 [(0, 5, 0), (1, 3, 0), (2, 10, 16), (3, 10, 4), (4, 10, 4), (5, 0, 0), (6, 10, 144), (7, 10, 24), (8, 11, 24), (9, 10, 24), (10, 10, 24), (11, 10, 24), (12, 10, 24), (13, 10, 24), (14, 10, 24), (15, 10, 24), (16, 10, 24), (17, 10, 24), (18, 10, 24), (19, 10, 72)] [(1, 5, 2), (1, 6, 3), (1, 7, 4), (0, 0, 1), (5, 1, 6), (5, 2, 7), (5, 3, 8), (5, 4, 9), (5, 5, 10), (5, 6, 11), (5, 7, 12), (5, 8, 13), (0, 1, 5), (0, 3, 14), (0, 4, 15), (0, 5, 16), (0, 6, 17), (0, 7, 18), (0, 9, 19)] := P15.put (by decide) (by decide)
  show AW l G mX6_init (d + 1) 22 554 _ 74 [vR a] [] 19 545 (hs H15 a 9 (a + 19))
  generalize hs H15 a 9 (a + 19) = H16 at P16 ⊢
  have c16 : (H16.1 : Int) = a + 19 := P16.1
  clear P15 c15
  refine a_aload_n dX6_init_74 rfl rfl ?_
  refine a_iconst dX6_init_75 ⟨by decide, by decide⟩ ?_
  refine a_newaI (j := 0) (n := 3) dX6_init_76 rfl (w_mem 67 (by decide +kernel) (by decide +kernel)) (fun _ => rfl) (by decide) rfl (fun _ _ h => h) (by decide) (by decide) (by decide) (by decide) (AW.st1 (y := a + 20) (by omega) ?_)
  have P17 : PL H (hnew H16 10 3) a 20 [(0, 5, 0), (1, 3, 0), (2, 10, 16), (3, 10, 4), (4, 10, 4), (5, 0, 0), (6, 10, 144), (7, 10, 24), (8, 11, 24), (9, 10, 24), (10, 10, 24), (11, 10, 24), (12, 10, 24), (13, 10, 24), (14, 10, 24), (15, 10, 24), (16, 10, 24), (17, 10, 24), (18, 10, 24), (19, 10, 72), (20, 10, 3)] [(1, 5, 2), (1, 6, 3), (1, 7, 4), (0, 0, 1), (5, 1, 6), (5, 2, 7), (5, 3, 8), (5, 4, 9), (5, 5, 10), (5, 6, 11), (5, 7, 12), (5, 8, 13), (0, 1, 5), (0, 3, 14), (0, 4, 15), (0, 5, 16), (0, 6, 17), (0, 7, 18), (0, 9, 19)] := P16.new
  show AW l G mX6_init (d + 1) 22 554 _ 78 [vR a] [vR (a + 20), vR a] 20 548 (hnew H16 10 3)
  generalize hnew H16 10 3 = H17 at P17 ⊢
  have c17 : (H17.1 : Int) = a + 20 := P17.1
  clear P16 c16
  refine a_putRF dX6_init_78 fq_RX6_44 rfl rfl (P17.kd (List.Mem.head _)) ?_
  have P18 : PL H (hs H17 a 10 (a + 20)) a 20 [(0, 5, 0), (1, 3, 0), (2, 10, 16), (3, 10, 4), (4, 10, 4), (5, 0, 0), (6, 10, 144), (7, 10, 24), (8, 11, 24), (9, 10, 24), (10, 10, 24), (11, 10, 24), (12, 10, 24), (13, 10, 24), (14, 10, 24), (15, 10, 24), (16, 10, 24), (17, 10, 24), (18, 10, 24), (19, 10, 72), (20, 10, 3)] [(1, 5, 2), (1, 6, 3), (1, 7, 4), (0, 0, 1), (5, 1, 6), (5, 2, 7), (5, 3, 8), (5, 4, 9), (5, 5, 10), (5, 6, 11), (5, 7, 12), (5, 8, 13), (0, 1, 5), (0, 3, 14), (0, 4, 15), (0, 5, 16), (0, 6, 17), (0, 7, 18), (0, 9, 19), (0, 10, 20)] := P17.put (by decide) (by decide)
  show AW l G mX6_init (d + 1) 22 554 _ 81 [vR a] [] 20 548 (hs H17 a 10 (a + 20))
  generalize hs H17 a 10 (a + 20) = H18 at P18 ⊢
  have c18 : (H18.1 : Int) = a + 20 := P18.1
  clear P17 c17
  refine a_aload_n dX6_init_81 rfl rfl ?_
  refine a_iconst dX6_init_82 ⟨by decide, by decide⟩ ?_
  refine a_newaI (j := 1) (n := 3) dX6_init_83 rfl (w_mem 268 (by decide +kernel) (by decide +kernel)) (fun _ => rfl) (by decide) rfl (fun _ _ h => h) (by decide) (by decide) (by decide) (by decide) (AW.st1 (y := a + 21) (by omega) ?_)
  have P19 : PL H (hnew H18 11 3) a 21 [(0, 5, 0), (1, 3, 0), (2, 10, 16), (3, 10, 4), (4, 10, 4), (5, 0, 0), (6, 10, 144), (7, 10, 24), (8, 11, 24), (9, 10, 24), (10, 10, 24), (11, 10, 24), (12, 10, 24), (13, 10, 24), (14, 10, 24), (15, 10, 24), (16, 10, 24), (17, 10, 24), (18, 10, 24), (19, 10, 72), (20, 10, 3), (21, 11, 3)] [(1, 5, 2), (1, 6, 3), (1, 7, 4), (0, 0, 1), (5, 1, 6), (5, 2, 7), (5, 3, 8), (5, 4, 9), (5, 5, 10), (5, 6, 11), (5, 7, 12), (5, 8, 13), (0, 1, 5), (0, 3, 14), (0, 4, 15), (0, 5, 16), (0, 6, 17), (0, 7, 18), (0, 9, 19), (0, 10, 20)] := P18.new
  show AW l G mX6_init (d + 1) 22 554 _ 85 [vR a] [vR (a + 21), vR a] 21 551 (hnew H18 11 3)
  generalize hnew H18 11 3 = H19 at P19 ⊢
  have c19 : (H19.1 : Int) = a + 21 := P19.1
  clear P18 c18
  refine a_putRF dX6_init_85 fq_RX6_47 rfl rfl (P19.kd (List.Mem.head _)) ?_
  have P20 : PL H (hs H19 a 11 (a + 21)) a 21 [(0, 5, 0), (1, 3, 0), (2, 10, 16), (3, 10, 4), (4, 10, 4), (5, 0, 0), (6, 10, 144), (7, 10, 24), (8, 11, 24), (9, 10, 24), (10, 10, 24), (11, 10, 24), (12, 10, 24), (13, 10, 24), (14, 10, 24), (15, 10, 24), (16, 10, 24), (17, 10, 24), (18, 10, 24), (19, 10, 72), (20, 10, 3), (21, 11, 3)] [(1, 5, 2), (1, 6, 3), (1, 7, 4), (0, 0, 1), (5, 1, 6), (5, 2, 7), (5, 3, 8), (5, 4, 9), (5, 5, 10), (5, 6, 11), (5, 7, 12), (5, 8, 13), (0, 1, 5), (0, 3, 14), (0, 4, 15), (0, 5, 16), (0, 6, 17), (0, 7, 18), (0, 9, 19), (0, 10, 20), (0, 11, 21)] := P19.put (by decide) (by decide)
  show AW l G mX6_init (d + 1) 22 554 _ 88 [vR a] [] 21 551 (hs H19 a 11 (a + 21))
  generalize hs H19 a 11 (a + 21) = H20 at P20 ⊢
  have c20 : (H20.1 : Int) = a + 21 := P20.1
  clear P19 c19
  refine a_aload_n dX6_init_88 rfl rfl ?_
  refine a_iconst dX6_init_89 ⟨by decide, by decide⟩ ?_
  refine a_newaI (j := 0) (n := 3) dX6_init_90 rfl (w_mem 67 (by decide +kernel) (by decide +kernel)) (fun _ => rfl) (by decide) rfl (fun _ _ h => h) (by decide) (by decide) (by decide) (by decide) (AW.st1 (y := a + 22) (by omega) ?_)
  have P21 : PL H (hnew H20 10 3) a 22 [(0, 5, 0), (1, 3, 0), (2, 10, 16), (3, 10, 4), (4, 10, 4), (5, 0, 0), (6, 10, 144), (7, 10, 24), (8, 11, 24), (9, 10, 24), (10, 10, 24), (11, 10, 24), (12, 10, 24), (13, 10, 24), (14, 10, 24), (15, 10, 24), (16, 10, 24), (17, 10, 24), (18, 10, 24), (19, 10, 72), (20, 10, 3), (21, 11, 3), (22, 10, 3)] [(1, 5, 2), (1, 6, 3), (1, 7, 4), (0, 0, 1), (5, 1, 6), (5, 2, 7), (5, 3, 8), (5, 4, 9), (5, 5, 10), (5, 6, 11), (5, 7, 12), (5, 8, 13), (0, 1, 5), (0, 3, 14), (0, 4, 15), (0, 5, 16), (0, 6, 17), (0, 7, 18), (0, 9, 19), (0, 10, 20), (0, 11, 21)] := P20.new
  show AW l G mX6_init (d + 1) 22 554 _ 92 [vR a] [vR (a + 22), vR a] 22 554 (hnew H20 10 3)
  generalize hnew H20 10 3 = H21 at P21 ⊢
  have c21 : (H21.1 : Int) = a + 22 := P21.1
  clear P20 c20
  refine a_putRF dX6_init_92 fq_RX6_51 rfl rfl (P21.kd (List.Mem.head _)) ?_
  have P22 : PL H (hs H21 a 12 (a + 22)) a 22 [(0, 5, 0), (1, 3, 0), (2, 10, 16), (3, 10, 4), (4, 10, 4), (5, 0, 0), (6, 10, 144), (7, 10, 24), (8, 11, 24), (9, 10, 24), (10, 10, 24), (11, 10, 24), (12, 10, 24), (13, 10, 24), (14, 10, 24), (15, 10, 24), (16, 10, 24), (17, 10, 24), (18, 10, 24), (19, 10, 72), (20, 10, 3), (21, 11, 3), (22, 10, 3)] [(1, 5, 2), (1, 6, 3), (1, 7, 4), (0, 0, 1), (5, 1, 6), (5, 2, 7), (5, 3, 8), (5, 4, 9), (5, 5, 10), (5, 6, 11), (5, 7, 12), (5, 8, 13), (0, 1, 5), (0, 3, 14), (0, 4, 15), (0, 5, 16), (0, 6, 17), (0, 7, 18), (0, 9, 19), (0, 10, 20), (0, 11, 21), (0, 12, 22)] := P21.put (by decide) (by decide)
  show AW l G mX6_init (d + 1) 22 554 _ 95 [vR a] [] 22 554 (hs H21 a 12 (a + 22))
  generalize hs H21 a 12 (a + 22) = H22 at P22 ⊢
  have c22 : (H22.1 : Int) = a + 22 := P22.1
  clear P21 c21
  exact a_vret dX6_init_95 rfl (Nat.le_of_ble_eq_true rfl) (Nat.le_of_ble_eq_true rfl) ⟨rfl, P22⟩
