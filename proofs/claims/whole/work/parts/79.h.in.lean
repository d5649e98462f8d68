/-! the constructor of the reference -/
theorem dX8_init_0 : decode cX8_init 0 = .ok (.aload_n 0, 1) := by decide +kernel
theorem dX8_init_1 : decode cX8_init 1 = .ok (.invokespecial 3, 3) := by decide +kernel
theorem dX8_init_4 : decode cX8_init 4 = .ok (.aload_n 0, 1) := by decide +kernel
theorem dX8_init_5 : decode cX8_init 5 = .ok (.sipush 440, 3) := by decide +kernel
theorem dX8_init_8 : decode cX8_init 8 = .ok (.newarray .int, 2) := by decide +kernel
theorem dX8_init_10 : decode cX8_init 10 = .ok (.putfield 9, 3) := by decide +kernel
theorem dX8_init_13 : decode cX8_init 13 = .ok (.aload_n 0, 1) := by decide +kernel
theorem dX8_init_14 : decode cX8_init 14 = .ok (.sipush 440, 3) := by decide +kernel
theorem dX8_init_17 : decode cX8_init 17 = .ok (.newarray .int, 2) := by decide +kernel
theorem dX8_init_19 : decode cX8_init 19 = .ok (.putfield 13, 3) := by decide +kernel
theorem dX8_init_22 : decode cX8_init 22 = .ok (.aload_n 0, 1) := by decide +kernel
theorem dX8_init_23 : decode cX8_init 23 = .ok (.sipush 440, 3) := by decide +kernel
theorem dX8_init_26 : decode cX8_init 26 = .ok (.newarray .int, 2) := by decide +kernel
theorem dX8_init_28 : decode cX8_init 28 = .ok (.putfield 16, 3) := by decide +kernel
theorem dX8_init_31 : decode cX8_init 31 = .ok (.aload_n 0, 1) := by decide +kernel
theorem dX8_init_32 : decode cX8_init 32 = .ok (.sipush 880, 3) := by decide +kernel
theorem dX8_init_35 : decode cX8_init 35 = .ok (.newarray .int, 2) := by decide +kernel
theorem dX8_init_37 : decode cX8_init 37 = .ok (.putfield 19, 3) := by decide +kernel
theorem dX8_init_40 : decode cX8_init 40 = .ok (.aload_n 0, 1) := by decide +kernel
theorem dX8_init_41 : decode cX8_init 41 = .ok (.iconst 2, 1) := by decide +kernel
theorem dX8_init_42 : decode cX8_init 42 = .ok (.newarray .boolean, 2) := by decide +kernel
theorem dX8_init_44 : decode cX8_init 44 = .ok (.putfield 22, 3) := by decide +kernel
theorem dX8_init_47 : decode cX8_init 47 = .ok (.aload_n 0, 1) := by decide +kernel
theorem dX8_init_48 : decode cX8_init 48 = .ok (.sipush 900, 3) := by decide +kernel
theorem dX8_init_51 : decode cX8_init 51 = .ok (.newarray .byte, 2) := by decide +kernel
theorem dX8_init_53 : decode cX8_init 53 = .ok (.putfield 26, 3) := by decide +kernel
theorem dX8_init_56 : decode cX8_init 56 = .ok (.aload_n 0, 1) := by decide +kernel
theorem dX8_init_57 : decode cX8_init 57 = .ok (.iconst 3, 1) := by decide +kernel
theorem dX8_init_58 : decode cX8_init 58 = .ok (.newarray .int, 2) := by decide +kernel
theorem dX8_init_60 : decode cX8_init 60 = .ok (.putfield 30, 3) := by decide +kernel
theorem dX8_init_63 : decode cX8_init 63 = .ok (.aload_n 0, 1) := by decide +kernel
theorem dX8_init_64 : decode cX8_init 64 = .ok (.bipush 72, 2) := by decide +kernel
theorem dX8_init_66 : decode cX8_init 66 = .ok (.newarray .int, 2) := by decide +kernel
theorem dX8_init_68 : decode cX8_init 68 = .ok (.putfield 33, 3) := by decide +kernel
theorem dX8_init_71 : decode cX8_init 71 = .ok (.aload_n 0, 1) := by decide +kernel
theorem dX8_init_72 : decode cX8_init 72 = .ok (.bipush 72, 2) := by decide +kernel
theorem dX8_init_74 : decode cX8_init 74 = .ok (.newarray .int, 2) := by decide +kernel
theorem dX8_init_76 : decode cX8_init 76 = .ok (.putfield 36, 3) := by decide +kernel
theorem dX8_init_79 : decode cX8_init 79 = .ok (.aload_n 0, 1) := by decide +kernel
theorem dX8_init_80 : decode cX8_init 80 = .ok (.bipush 24, 2) := by decide +kernel
theorem dX8_init_82 : decode cX8_init 82 = .ok (.newarray .int, 2) := by decide +kernel
theorem dX8_init_84 : decode cX8_init 84 = .ok (.putfield 39, 3) := by decide +kernel
theorem dX8_init_87 : decode cX8_init 87 = .ok (.aload_n 0, 1) := by decide +kernel
theorem dX8_init_88 : decode cX8_init 88 = .ok (.bipush 24, 2) := by decide +kernel
theorem dX8_init_90 : decode cX8_init 90 = .ok (.newarray .int, 2) := by decide +kernel
theorem dX8_init_92 : decode cX8_init 92 = .ok (.putfield 42, 3) := by decide +kernel
theorem dX8_init_95 : decode cX8_init 95 = .ok (.aload_n 0, 1) := by decide +kernel
theorem dX8_init_96 : decode cX8_init 96 = .ok (.bipush 24, 2) := by decide +kernel
theorem dX8_init_98 : decode cX8_init 98 = .ok (.newarray .int, 2) := by decide +kernel
theorem dX8_init_100 : decode cX8_init 100 = .ok (.putfield 45, 3) := by decide +kernel
theorem dX8_init_103 : decode cX8_init 103 = .ok (.aload_n 0, 1) := by decide +kernel
theorem dX8_init_104 : decode cX8_init 104 = .ok (.bipush 24, 2) := by decide +kernel
theorem dX8_init_106 : decode cX8_init 106 = .ok (.newarray .int, 2) := by decide +kernel
theorem dX8_init_108 : decode cX8_init 108 = .ok (.putfield 48, 3) := by decide +kernel
theorem dX8_init_111 : decode cX8_init 111 = .ok (.aload_n 0, 1) := by decide +kernel
theorem dX8_init_112 : decode cX8_init 112 = .ok (.getfield 9, 3) := by decide +kernel
theorem dX8_init_115 : decode cX8_init 115 = .ok (.iconst 1, 1) := by decide +kernel
theorem dX8_init_116 : decode cX8_init 116 = .ok (.invokestatic 51, 3) := by decide +kernel
theorem dX8_init_119 : decode cX8_init 119 = .ok (.return_, 1) := by decide +kernel
theorem i_X8 {l : Launch} {G : GT} {H : AH} {a : Int} {d : Nat} (hk9 : H.2.1 a = (7, 0)) (h1 : (H.1 : Int) = a) (hz : ∀ i, hg H a i = 0) (ha : 0 < a) (hd : 2 ≤ d := by omega) : CL l G mX8_init d 13 3345 [vR a] H (fun v H' => v = vV ∧ ∃ H9 : AH, PL H H9 a 13 LMod.1 LMod.2 ∧ only H9 H' (fun c _ => c = a + 1) ∧ RR H' (a + 1) (begM 1)) := by
  obtain ⟨d, rfl⟩ : ∃ k, d = k + 1 := ⟨d - 1, by omega⟩
  refine CL.of (by decide) rfl (Nat.le_of_ble_eq_true rfl) ?_
  have P0 : PL H H a 0 [(0, 7, 0)] [] := PL.born hk9 h1 hz
  have c0 : (H.1 : Int) = a + 0 := P0.1
  show AW l G mX8_init (d + 1) 13 3345 _ 0 [vR a] [] 0 0 H
  refine a_aload_n dX8_init_0 rfl rfl ?_
  refine a_obj dX8_init_1 (w_mem 1204 (by decide +kernel) (by decide +kernel)) (by omega) (by omega) (Nat.le_of_ble_eq_true rfl) ?_
  refine a_aload_n dX8_init_4 rfl rfl ?_
  refine a_sipush dX8_init_5 (by decide) ?_
  refine a_newaI (j := 0) (n := 440) dX8_init_8 rfl (w_mem 67 (by decide +kernel) (by decide +kernel)) (fun _ => rfl) (by decide) rfl (fun _ _ h => h) (by decide) (by decide) (by decide) (by decide) (AW.st1 (y := a + 1) (by omega) ?_)
  have P1 : PL H (hnew H 10 440) a 1 [(0, 7, 0), (1, 10, 440)] [] := P0.new
  show AW l G mX8_init (d + 1) 13 3345 _ 10 [vR a] [vR (a + 1), vR a] 1 440 (hnew H 10 440)
  generalize hnew H 10 440 = H1 at P1 ⊢
  have c1 : (H1.1 : Int) = a + 1 := P1.1
  clear P0 c0
  refine a_putRF dX8_init_10 fq_RX8_9 rfl rfl (P1.kd (List.Mem.head _)) ?_
  have P2 : PL H (hs H1 a 0 (a + 1)) a 1 [(0, 7, 0), (1, 10, 440)] [(0, 0, 1)] := P1.put (by decide) (by decide)
  show AW l G mX8_init (d + 1) 13 3345 _ 13 [vR a] [] 1 440 (hs H1 a 0 (a + 1))
  generalize hs H1 a 0 (a + 1) = H2 at P2 ⊢
  have c2 : (H2.1 : Int) = a + 1 := P2.1
  clear P1 c1
  refine a_aload_n dX8_init_13 rfl rfl ?_
  refine a_sipush dX8_init_14 (by decide) ?_
  refine a_newaI (j := 0) (n := 440) dX8_init_17 rfl (w_mem 67 (by decide +kernel) (by decide +kernel)) (fun _ => rfl) (by decide) rfl (fun _ _ h => h) (by decide) (by decide) (by decide) (by decide) (AW.st1 (y := a + 2) (by omega) ?_)
  have P3 : PL H (hnew H2 10 440) a 2 [(0, 7, 0), (1, 10, 440), (2, 10, 440)] [(0, 0, 1)] := P2.new
  show AW l G mX8_init (d + 1) 13 3345 _ 19 [vR a] [vR (a + 2), vR a] 2 880 (hnew H2 10 440)
  generalize hnew H2 10 440 = H3 at P3 ⊢
  have c3 : (H3.1 : Int) = a + 2 := P3.1
  clear P2 c2
  refine a_putRF dX8_init_19 fq_RX8_13 rfl rfl (P3.kd (List.Mem.head _)) ?_
  have P4 : PL H (hs H3 a 1 (a + 2)) a 2 [(0, 7, 0), (1, 10, 440), (2, 10, 440)] [(0, 0, 1), (0, 1, 2)] := P3.put (by decide) (by decide)
  show AW l G mX8_init (d + 1) 13 3345 _ 22 [vR a] [] 2 880 (hs H3 a 1 (a + 2))
  generalize hs H3 a 1 (a + 2) = H4 at P4 ⊢
  have c4 : (H4.1 : Int) = a + 2 := P4.1
  clear P3 c3
  refine a_aload_n dX8_init_22 rfl rfl ?_
  refine a_sipush dX8_init_23 (by decide) ?_
  refine a_newaI (j := 0) (n := 440) dX8_init_26 rfl (w_mem 67 (by decide +kernel) (by decide +kernel)) (fun _ => rfl) (by decide) rfl (fun _ _ h => h) (by decide) (by decide) (by decide) (by decide) (AW.st1 (y := a + 3) (by omega) ?_)
  have P5 : PL H (hnew H4 10 440) a 3 [(0, 7, 0), (1, 10, 440), (2, 10, 440), (3, 10, 440)] [(0, 0, 1), (0, 1, 2)] := P4.new
  show AW l G mX8_init (d + 1) 13 3345 _ 28 [vR a] [vR (a + 3), vR a] 3 1320 (hnew H4 10 440)
  generalize hnew H4 10 440 = H5 at P5 ⊢
  have c5 : (H5.1 : Int) = a + 3 := P5.1
  clear P4 c4
  refine a_putRF dX8_init_28 fq_RX8_16 rfl rfl (P5.kd (List.Mem.head _)) ?_
  have P6 : PL H (hs H5 a 2 (a + 3)) a 3 [(0, 7, 0), (1, 10, 440), (2, 10, 440), (3, 10, 440)] [(0, 0, 1), (0, 1, 2), (0, 2, 3)] := P5.put (by decide) (by decide)
  show AW l G mX8_init (d + 1) 13 3345 _ 31 [vR a] [] 3 1320 (hs H5 a 2 (a + 3))
  generalize hs H5 a 2 (a + 3) = H6 at P6 ⊢
  have c6 : (H6.1 : Int) = a + 3 := P6.1
  clear P5 c5
  refine a_aload_n dX8_init_31 rfl rfl ?_
  refine a_sipush dX8_init_32 (by decide) ?_
  refine a_newaI (j := 0) (n := 880) dX8_init_35 rfl (w_mem 67 (by decide +kernel) (by decide +kernel)) (fun _ => rfl) (by decide) rfl (fun _ _ h => h) (by decide) (by decide) (by decide) (by decide) (AW.st1 (y := a + 4) (by omega) ?_)
  have P7 : PL H (hnew H6 10 880) a 4 [(0, 7, 0), (1, 10, 440), (2, 10, 440), (3, 10, 440), (4, 10, 880)] [(0, 0, 1), (0, 1, 2), (0, 2, 3)] := P6.new
  show AW l G mX8_init (d + 1) 13 3345 _ 37 [vR a] [vR (a + 4), vR a] 4 2200 (hnew H6 10 880)
  generalize hnew H6 10 880 = H7 at P7 ⊢
  have c7 : (H7.1 : Int) = a + 4 := P7.1
  clear P6 c6
  refine a_putRF dX8_init_37 fq_RX8_19 rfl rfl (P7.kd (List.Mem.head _)) ?_
  have P8 : PL H (hs H7 a 3 (a + 4)) a 4 [(0, 7, 0), (1, 10, 440), (2, 10, 440), (3, 10, 440), (4, 10, 880)] [(0, 0, 1), (0, 1, 2), (0, 2, 3), (0, 3, 4)] := P7.put (by decide) (by decide)
  show AW l G mX8_init (d + 1) 13 3345 _ 40 [vR a] [] 4 2200 (hs H7 a 3 (a + 4))
  generalize hs H7 a 3 (a + 4) = H8 at P8 ⊢
  have c8 : (H8.1 : Int) = a + 4 := P8.1
  clear P7 c7
  refine a_aload_n dX8_init_40 rfl rfl ?_
  refine a_iconst dX8_init_41 ⟨by decide, by decide⟩ ?_
  refine a_newaI (j := 1) (n := 2) dX8_init_42 rfl (w_mem 268 (by decide +kernel) (by decide +kernel)) (fun _ => rfl) (by decide) rfl (fun _ _ h => h) (by decide) (by decide) (by decide) (by decide) (AW.st1 (y := a + 5) (by omega) ?_)
  have P9 : PL H (hnew H8 11 2) a 5 [(0, 7, 0), (1, 10, 440), (2, 10, 440), (3, 10, 440), (4, 10, 880), (5, 11, 2)] [(0, 0, 1), (0, 1, 2), (0, 2, 3), (0, 3, 4)] := P8.new
  show AW l G mX8_init (d + 1) 13 3345 _ 44 [vR a] [vR (a + 5), vR a] 5 2202 (hnew H8 11 2)
  generalize hnew H8 11 2 = H9 at P9 ⊢
  have c9 : (H9.1 : Int) = a + 5 := P9.1
  clear P8 c8
  refine a_putRF dX8_init_44 fq_RX8_22 rfl rfl (P9.kd (List.Mem.head _)) ?_
  have P10 : PL H (hs H9 a 4 (a + 5)) a 5 [(0, 7, 0), (1, 10, 440), (2, 10, 440), (3, 10, 440), (4, 10, 880), (5, 11, 2)] [(0, 0, 1), (0, 1, 2), (0, 2, 3), (0, 3, 4), (0, 4, 5)] := P9.put (by decide) (by decide)
  show AW l G mX8_init (d + 1) 13 3345 _ 47 [vR a] [] 5 2202 (hs H9 a 4 (a + 5))
  generalize hs H9 a 4 (a + 5) = H10 at P10 ⊢
  have c10 : (H10.1 : Int) = a + 5 := P10.1
  clear P9 c9
  refine a_aload_n dX8_init_47 rfl rfl ?_
  refine a_sipush dX8_init_48 (by decide) ?_
  refine a_newaI (j := 2) (n := 900) dX8_init_51 rfl (w_mem 539 (by decide +kernel) (by decide +kernel)) (fun _ => rfl) (by decide) rfl (fun _ _ h => h) (by decide) (by decide) (by decide) (by decide) (AW.st1 (y := a + 6) (by omega) ?_)
  have P11 : PL H (hnew H10 12 900) a 6 [(0, 7, 0), (1, 10, 440), (2, 10, 440), (3, 10, 440), (4, 10, 880), (5, 11, 2), (6, 12, 900)] [(0, 0, 1), (0, 1, 2), (0, 2, 3), (0, 3, 4), (0, 4, 5)] := P10.new
  show AW l G mX8_init (d + 1) 13 3345 _ 53 [vR a] [vR (a + 6), vR a] 6 3102 (hnew H10 12 900)
  generalize hnew H10 12 900 = H11 at P11 ⊢
  have c11 : (H11.1 : Int) = a + 6 := P11.1
  clear P10 c10
  refine a_putRF dX8_init_53 fq_RX8_26 rfl rfl (P11.kd (List.Mem.head _)) ?_
  have P12 : PL H (hs H11 a 6 (a + 6)) a 6 [(0, 7, 0), (1, 10, 440), (2, 10, 440), (3, 10, 440), (4, 10, 880), (5, 11, 2), (6, 12, 900)] [(0, 0, 1), (0, 1, 2), (0, 2, 3), (0, 3, 4), (0, 4, 5), (0, 6, 6)] := P11.put (by decide) (by decide)
  show AW l G mX8_init (d + 1) 13 3345 _ 56 [vR a] [] 6 3102 (hs H11 a 6 (a + 6))
  generalize hs H11 a 6 (a + 6) = H12 at P12 ⊢
  have c12 : (H12.1 : Int) = a + 6 := P12.1
  clear P11 c11
  refine a_aload_n dX8_init_56 rfl rfl ?_
  refine a_iconst dX8_init_57 ⟨by decide, by decide⟩ ?_
  refine a_newaI (j := 0) (n := 3) dX8_init_58 rfl (w_mem 67 (by decide +kernel) (by decide +kernel)) (fun _ => rfl) (by decide) rfl (fun _ _ h => h) (by decide) (by decide) (by decide) (by decide) (AW.st1 (y := a + 7) (by omega) ?_)
  have P13 : PL H (hnew H12 10 3) a 7 [(0, 7, 0), (1, 10, 440), (2, 10, 440), (3, 10, 440), (4, 10, 880), (5, 11, 2), (6, 12, 900), (7, 10, 3)] [(0, 0, 1), (0, 1, 2), (0, 2, 3), (0, 3, 4), (0, 4, 5), (0, 6, 6)] := P12.new
  show AW l G mX8_init (d + 1) 13 3345 _ 60 [vR a] [vR (a + 7), vR a] 7 3105 (hnew H12 10 3)
  generalize hnew H12 10 3 = H13 at P13 ⊢
  have c13 : (H13.1 : Int) = a + 7 := P13.1
  clear P12 c12
  refine a_putRF dX8_init_60 fq_RX8_30 rfl rfl (P13.kd (List.Mem.head _)) ?_
  have P14 : PL H (hs H13 a 14 (a + 7)) a 7 [(0, 7, 0), (1, 10, 440), (2, 10, 440), (3, 10, 440), (4, 10, 880), (5, 11, 2), (6, 12, 900), (7, 10, 3)] [(0, 0, 1), (0, 1, 2), (0, 2, 3), (0, 3, 4), (0, 4, 5), (0, 6, 6), (0, 14, 7)] := P13.put (by decide) (by decide)
  show AW l G mX8_init (d + 1) 13 3345 _ 63 [vR a] [] 7 3105 (hs H13 a 14 (a + 7))
  generalize hs H13 a 14 (a + 7) = H14 at P14 ⊢
  have c14 : (H14.1 : Int) = a + 7 := P14.1
  clear P13 c13
  refine a_aload_n dX8_init_63 rfl rfl ?_
  refine a_bipush dX8_init_64 (by decide) ?_
  refine a_newaI (j := 0) (n := 72) dX8_init_66 rfl (w_mem 67 (by decide +kernel) (by decide +kernel)) (fun _ => rfl) (by decide) rfl (fun _ _ h => h) (by decide) (by decide) (by decide) (by decide) (AW.st1 (y := a + 8) (by omega) ?_)
  have P15 : PL H (hnew H14 10 72) a 8 [(0, 7, 0), (1, 10, 440), (2, 10, 440), (3, 10, 440), (4, 10, 880), (5, 11, 2), (6, 12, 900), (7, 10, 3), (8, 10, 72)] [(0, 0, 1), (0, 1, 2), (0, 2, 3), (0, 3, 4), (0, 4, 5), (0, 6, 6), (0, 14, 7)] := P14.new
  show AW l G mX8_init (d + 1) 13 3345 _ 68 [vR a] [vR (a + 8), vR a] 8 3177 (hnew H14 10 72)
  generalize hnew H14 10 72 = H15 at P15 ⊢
  have c15 : (H15.1 : Int) = a + 8 := P15.1
  clear P14 c14
  refine a_putRF dX8_init_68 fq_RX8_33 rfl rfl (P15.kd (List.Mem.head _)) ?_
  have P16 : PL H (hs H15 a 15 (a + 8)) a 8 [(0, 7, 0), (1, 10, 440), (2, 10, 440), (3, 10, 440), (4, 10, 880), (5, 11, 2), (6, 12, 900), (7, 10, 3), (8, 10, 72)] [(0, 0, 1), (0, 1, 2), (0, 2, 3), (0, 3, 4), (0, 4, 5), (0, 6, 6), (0, 14, 7), (0, 15, 8)] := P15.put (by decide) (by decide)
  show AW l G mX8_init (d + 1) 13 3345 _ 71 [vR a] [] 8 3177 (hs H15 a 15 (a + 8))
  generalize hs H15 a 15 (a + 8) = H16 at P16 ⊢
  have c16 : (H16.1 : Int) = a + 8 := P16.1
  clear P15 c15
  refine a_aload_n dX8_init_71 rfl rfl ?_
  refine a_bipush dX8_init_72 (by decide) ?_
  refine a_newaI (j := 0) (n := 72) dX8_init_74 rfl (w_mem 67 (by decide +kernel) (by decide +kernel)) (fun _ => rfl) (by decide) rfl (fun _ _ h => h) (by decide) (by decide) (by decide) (by decide) (AW.st1 (y := a + 9) (by omega) ?_)
  have P17 : PL H (hnew H16 10 72) a 9 [(0, 7, 0), (1, 10, 440), (2, 10, 440), (3, 10, 440), (4, 10, 880), (5, 11, 2), (6, 12, 900), (7, 10, 3), (8, 10, 72), (9, 10, 72)] [(0, 0, 1), (0, 1, 2), (0, 2, 3), (0, 3, 4), (0, 4, 5), (0, 6, 6), (0, 14, 7), (0, 15, 8)] := P16.new
  show AW l G mX8_init (d + 1) 13 3345 _ 76 [vR a] [vR (a + 9), vR a] 9 3249 (hnew H16 10 72)
  generalize hnew H16 10 72 = H17 at P17 ⊢
  have c17 : (H17.1 : Int) = a + 9 := P17.1
  clear P16 c16
  refine a_putRF dX8_init_76 fq_RX8_36 rfl rfl (P17.kd (List.Mem.head _)) ?_
  have P18 : PL H (hs H17 a 16 (a + 9)) a 9 [(0, 7, 0), (1, 10, 440), (2, 10, 440), (3, 10, 440), (4, 10, 880), (5, 11, 2), (6, 12, 900), (7, 10, 3), (8, 10, 72), (9, 10, 72)] [(0, 0, 1), (0, 1, 2), (0, 2, 3), (0, 3, 4), (0, 4, 5), (0, 6, 6), (0, 14, 7), (0, 15, 8), (0, 16, 9)] := P17.put (by decide) (by decide)
  show AW l G mX8_init (d + 1) 13 3345 _ 79 [vR a] [] 9 3249 (hs H17 a 16 (a + 9))
  generalize hs H17 a 16 (a + 9) = H18 at P18 ⊢
  have c18 : (H18.1 : Int) = a + 9 := P18.1
  clear P17 c17
  refine a_aload_n dX8_init_79 rfl rfl ?_
  refine a_bipush dX8_init_80 (by decide) ?_
  refine a_newaI (j := 0) (n := 24) dX8_init_82 rfl (w_mem 67 (by decide +kernel) (by decide +kernel)) (fun _ => rfl) (by decide) rfl (fun _ _ h => h) (by decide) (by decide) (by decide) (by decide) (AW.st1 (y := a + 10) (by omega) ?_)
  have P19 : PL H (hnew H18 10 24) a 10 [(0, 7, 0), (1, 10, 440), (2, 10, 440), (3, 10, 440), (4, 10, 880), (5, 11, 2), (6, 12, 900), (7, 10, 3), (8, 10, 72), (9, 10, 72), (10, 10, 24)] [(0, 0, 1), (0, 1, 2), (0, 2, 3), (0, 3, 4), (0, 4, 5), (0, 6, 6), (0, 14, 7), (0, 15, 8), (0, 16, 9)] := P18.new
  show AW l G mX8_init (d + 1) 13 3345 _ 84 [vR a] [vR (a + 10), vR a] 10 3273 (hnew H18 10 24)
  generalize hnew H18 10 24 = H19 at P19 ⊢
  have c19 : (H19.1 : Int) = a + 10 := P19.1
  clear P18 c18
  refine a_putRF dX8_init_84 fq_RX8_39 rfl rfl (P19.kd (List.Mem.head _)) ?_
  have P20 : PL H (hs H19 a 17 (a + 10)) a 10 [(0, 7, 0), (1, 10, 440), (2, 10, 440), (3, 10, 440), (4, 10, 880), (5, 11, 2), (6, 12, 900), (7, 10, 3), (8, 10, 72), (9, 10, 72), (10, 10, 24)] [(0, 0, 1), (0, 1, 2), (0, 2, 3), (0, 3, 4), (0, 4, 5), (0, 6, 6), (0, 14, 7), (0, 15, 8), (0, 16, 9), (0, 17, 10)] := P19.put (by decide) (by decide)
  show AW l G mX8_init (d + 1) 13 3345 _ 87 [vR a] [] 10 3273 (hs H19 a 17 (a + 10))
  generalize hs H19 a 17 (a + 10) = H20 at P20 ⊢
  have c20 : (H20.1 : Int) = a + 10 := P20.1
  clear P19 c19
  refine a_aload_n dX8_init_87 rfl rfl ?_
  refine a_bipush dX8_init_88 (by decide) ?_
  refine a_newaI (j := 0) (n := 24) dX8_init_90 rfl (w_mem 67 (by decide +kernel) (by decide +kernel)) (fun _ => rfl) (by decide) rfl (fun _ _ h => h) (by decide) (by decide) (by decide) (by decide) (AW.st1 (y := a + 11) (by omega) ?_)
  have P21 : PL H (hnew H20 10 24) a 11 [(0, 7, 0), (1, 10, 440), (2, 10, 440), (3, 10, 440), (4, 10, 880), (5, 11, 2), (6, 12, 900), (7, 10, 3), (8, 10, 72), (9, 10, 72), (10, 10, 24), (11, 10, 24)] [(0, 0, 1), (0, 1, 2), (0, 2, 3), (0, 3, 4), (0, 4, 5), (0, 6, 6), (0, 14, 7), (0, 15, 8), (0, 16, 9), (0, 17, 10)] := P20.new
  show AW l G mX8_init (d + 1) 13 3345 _ 92 [vR a] [vR (a + 11), vR a] 11 3297 (hnew H20 10 24)
  generalize hnew H20 10 24 = H21 at P21 ⊢
  have c21 : (H21.1 : Int) = a + 11 := P21.1
  clear P20 c20
  refine a_putRF dX8_init_92 fq_RX8_42 rfl rfl (P21.kd (List.Mem.head _)) ?_
  have P22 : PL H (hs H21 a 18 (a + 11)) a 11 [(0, 7, 0), (1, 10, 440), (2, 10, 440), (3, 10, 440), (4, 10, 880), (5, 11, 2), (6, 12, 900), (7, 10, 3), (8, 10, 72), (9, 10, 72), (10, 10, 24), (11, 10, 24)] [(0, 0, 1), (0, 1, 2), (0, 2, 3), (0, 3, 4), (0, 4, 5), (0, 6, 6), (0, 14, 7), (0, 15, 8), (0, 16, 9), (0, 17, 10), (0, 18, 11)] := P21.put (by decide) (by decide)
  show AW l G mX8_init (d + 1) 13 3345 _ 95 [vR a] [] 11 3297 (hs H21 a 18 (a + 11))
  generalize hs H21 a 18 (a + 11) = H22 at P22 ⊢
  have c22 : (H22.1 : Int) = a + 11 := P22.1
  clear P21 c21
  refine a_aload_n dX8_init_95 rfl rfl ?_
  refine a_bipush dX8_init_96 (by decide) ?_
  refine a_newaI (j := 0) (n := 24) dX8_init_98 rfl (w_mem 67 (by decide +kernel) (by decide +kernel)) (fun _ => rfl) (by decide) rfl (fun _ _ h => h) (by decide) (by decide) (by decide) (by decide) (AW.st1 (y := a + 12) (by omega) ?_)
  have P23 : PL H (hnew H22 10 24) a 12 [(0, 7, 0), (1, 10, 440), (2, 10, 440), (3, 10, 440), (4, 10, 880), (5, 11, 2), (6, 12, 900), (7, 10, 3), (8, 10, 72), (9, 10, 72), (10, 10, 24), (11, 10, 24), (12, 10, 24)] [(0, 0, 1), (0, 1, 2), (0, 2, 3), (0, 3, 4), (0, 4, 5), (0, 6, 6), (0, 14, 7), (0, 15, 8), (0, 16, 9), (0, 17, 10), (0, 18, 11)] := P22.new
  show AW l G mX8_init (d + 1) 13 3345 _ 100 [vR a] [vR (a + 12), vR a] 12 3321 (hnew H22 10 24)
  generalize hnew H22 10 24 = H23 at P23 ⊢
  have c23 : (H23.1 : Int) = a + 12 := P23.1
  clear P22 c22
  refine a_putRF dX8_init_100 fq_RX8_45 rfl rfl (P23.kd (List.Mem.head _)) ?_
  have P24 : PL H (hs H23 a 19 (a + 12)) a 12 [(0, 7, 0), (1, 10, 440), (2, 10, 440), (3, 10, 440), (4, 10, 880), (5, 11, 2), (6, 12, 900), (7, 10, 3), (8, 10, 72), (9, 10, 72), (10, 10, 24), (11, 10, 24), (12, 10, 24)] [(0, 0, 1), (0, 1, 2), (0, 2, 3), (0, 3, 4), (0, 4, 5), (0, 6, 6), (0, 14, 7), (0, 15, 8), (0, 16, 9), (0, 17, 10), (0, 18, 11), (0, 19, 12)] := P23.put (by decide) (by decide)
  show AW l G mX8_init (d + 1) 13 3345 _ 103 [vR a] [] 12 3321 (hs H23 a 19 (a + 12))
  generalize hs H23 a 19 (a + 12) = H24 at P24 ⊢
  have c24 : (H24.1 : Int) = a + 12 := P24.1
  clear P23 c23
  refine a_aload_n dX8_init_103 rfl rfl ?_
  refine a_bipush dX8_init_104 (by decide) ?_
  refine a_newaI (j := 0) (n := 24) dX8_init_106 rfl (w_mem 67 (by decide +kernel) (by decide +kernel)) (fun _ => rfl) (by decide) rfl (fun _ _ h => h) (by decide) (by decide) (by decide) (by decide) (AW.st1 (y := a + 13) (by omega) ?_)
  have P25 : PL H (hnew H24 10 24) a 13 [(0, 7, 0), (1, 10, 440), (2, 10, 440), (3, 10, 440), (4, 10, 880), (5, 11, 2), (6, 12, 900), (7, 10, 3), (8, 10, 72), (9, 10, 72), (10, 10, 24), (11, 10, 24), (12, 10, 24), (13, 10, 24)] [(0, 0, 1), (0, 1, 2), (0, 2, 3), (0, 3, 4), (0, 4, 5), (0, 6, 6), (0, 14, 7), (0, 15, 8), (0, 16, 9), (0, 17, 10), (0, 18, 11), (0, 19, 12)] := P24.new
  show AW l G mX8_init (d + 1) 13 3345 _ 108 [vR a] [vR (a + 13), vR a] 13 3345 (hnew H24 10 24)
  generalize hnew H24 10 24 = H25 at P25 ⊢
  have c25 : (H25.1 : Int) = a + 13 := P25.1
  clear P24 c24
  refine a_putRF dX8_init_108 fq_RX8_48 rfl rfl (P25.kd (List.Mem.head _)) ?_
  have P26 : PL H (hs H25 a 20 (a + 13)) a 13 [(0, 7, 0), (1, 10, 440), (2, 10, 440), (3, 10, 440), (4, 10, 880), (5, 11, 2), (6, 12, 900), (7, 10, 3), (8, 10, 72), (9, 10, 72), (10, 10, 24), (11, 10, 24), (12, 10, 24), (13, 10, 24)] [(0, 0, 1), (0, 1, 2), (0, 2, 3), (0, 3, 4), (0, 4, 5), (0, 6, 6), (0, 14, 7), (0, 15, 8), (0, 16, 9), (0, 17, 10), (0, 18, 11), (0, 19, 12), (0, 20, 13)] := P25.put (by decide) (by decide)
  show AW l G mX8_init (d + 1) 13 3345 _ 111 [vR a] [] 13 3345 (hs H25 a 20 (a + 13))
  generalize hs H25 a 20 (a + 13) = H26 at P26 ⊢
  have c26 : (H26.1 : Int) = a + 13 := P26.1
  clear P25 c25
  have LM : Lay LMod H26 a := P26.lay
  refine a_aload_n dX8_init_111 rfl rfl ?_
  refine a_getR dX8_init_112 fw_RX8_9 rfl rfl (kMod_0 LM) (rMod_0_0 LM) ?_
  refine a_iconst dX8_init_115 ⟨by decide, by decide⟩ ?_
  refine a_callS dX8_init_116 cw_X8_init_116 (as := [vR (a + 1), vI 1]) rfl rfl (Nat.le_refl _) (Nat.le_of_ble_eq_true rfl) (nocov rfl) (Nat.le_of_ble_eq_true rfl) (Nat.le_of_ble_eq_true rfl) (CL.mono (c_begins (sA_Mod_1 LM)) ?_)
  rintro v9 H99 ⟨rfl, o9, r9⟩
  show AW l G mX8_init (d + 1) 13 3345 _ 119 [vR a] [] 13 3345 H99
  exact a_vret dX8_init_119 rfl (Nat.le_of_ble_eq_true rfl) (Nat.le_of_ble_eq_true rfl) ⟨rfl, H26, P26, o9, r9⟩
