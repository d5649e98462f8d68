/-! constructors that make arrays -/
theorem AW.st1 {l : Launch} {G : GT} {M : MI} {d mc ms : Nat} {Q : AV → AH → Prop} {pc : Nat} {ls st : List AV} {cs sl : Nat} {H : AH} {x y : Int} (e : x = y) (h : AW l G M d mc ms Q pc ls (vR y :: st) cs sl H) : AW l G M d mc ms Q pc ls (vR x :: st) cs sl H := by rw [e]; exact h
theorem PL.kd {H0 H : AH} {a m : Int} {ci : Nat} {cs : List (Int × Nat × Int)} {rs : List (Int × Int × Int)} (h : PL H0 H a m cs rs) (he : ((0 : Int), ci, (0 : Int)) ∈ cs) : hk H a = ci := by
  have := (h.2.2.2.1 _ he).2
  rw [show a + ((0 : Int), ci, (0 : Int)).1 = a from Int.add_zero a] at this
  exact congrArg Prod.fst this
theorem dX4_init_0 : decode cX4_init 0 = .ok (.aload_n 0, 1) := by decide +kernel
theorem dX4_init_1 : decode cX4_init 1 = .ok (.invokespecial 3, 3) := by decide +kernel
theorem dX4_init_4 : decode cX4_init 4 = .ok (.aload_n 0, 1) := by decide +kernel
theorem dX4_init_5 : decode cX4_init 5 = .ok (.bipush 16, 2) := by decide +kernel
theorem dX4_init_7 : decode cX4_init 7 = .ok (.newarray .int, 2) := by decide +kernel
theorem dX4_init_9 : decode cX4_init 9 = .ok (.putfield 9, 3) := by decide +kernel
theorem dX4_init_12 : decode cX4_init 12 = .ok (.aload_n 0, 1) := by decide +kernel
theorem dX4_init_13 : decode cX4_init 13 = .ok (.iconst 4, 1) := by decide +kernel
theorem dX4_init_14 : decode cX4_init 14 = .ok (.newarray .int, 2) := by decide +kernel
theorem dX4_init_16 : decode cX4_init 16 = .ok (.putfield 15, 3) := by decide +kernel
theorem dX4_init_19 : decode cX4_init 19 = .ok (.aload_n 0, 1) := by decide +kernel
theorem dX4_init_20 : decode cX4_init 20 = .ok (.iconst 4, 1) := by decide +kernel
theorem dX4_init_21 : decode cX4_init 21 = .ok (.newarray .int, 2) := by decide +kernel
theorem dX4_init_23 : decode cX4_init 23 = .ok (.putfield 18, 3) := by decide +kernel
theorem dX4_init_26 : decode cX4_init 26 = .ok (.return_, 1) := by decide +kernel
theorem i_X4 {l : Launch} {G : GT} {H : AH} {a : Int} {d : Nat} (hk9 : H.2.1 a = (3, 0)) (h1 : (H.1 : Int) = a) (hz : ∀ i, hg H a i = 0) (ha : a ≠ 0) (hd : 1 ≤ d := by omega) : CL l G mX4_init d 3 24 [vR a] H (fun v H' => v = vV ∧ PL H H' a 3 LRul.1 LRul.2) := by
  refine CL.of (by decide) rfl (Nat.le_of_ble_eq_true rfl) ?_
  have P0 : PL H H a 0 [(0, 3, 0)] [] := PL.born hk9 h1 hz
  have c0 : (H.1 : Int) = a + 0 := P0.1
  show AW l G mX4_init d 3 24 _ 0 [vR a] [] 0 0 H
  refine a_aload_n dX4_init_0 rfl rfl ?_
  refine a_obj dX4_init_1 (w_mem 159 (by decide +kernel) (by decide +kernel)) ha (by omega) (Nat.le_of_ble_eq_true rfl) ?_
  refine a_aload_n dX4_init_4 rfl rfl ?_
  refine a_bipush dX4_init_5 (by decide) ?_
  refine a_newaI (j := 0) (n := 16) dX4_init_7 rfl (w_mem 67 (by decide +kernel) (by decide +kernel)) (fun _ => rfl) (by decide) rfl (fun _ _ h => h) (by decide) (by decide) (by decide) (by decide) (AW.st1 (y := a + 1) (by omega) ?_)
  have P1 : PL H (hnew H 10 16) a 1 [(0, 3, 0), (1, 10, 16)] [] := P0.new
  show AW l G mX4_init d 3 24 _ 9 [vR a] [vR (a + 1), vR a] 1 16 (hnew H 10 16)
  generalize hnew H 10 16 = H1 at P1 ⊢
  have c1 : (H1.1 : Int) = a + 1 := P1.1
  clear P0 c0
  refine a_putRF dX4_init_9 fq_RX4_9 rfl rfl (P1.kd (List.Mem.head _)) ?_
  have P2 : PL H (hs H1 a 5 (a + 1)) a 1 [(0, 3, 0), (1, 10, 16)] [(0, 5, 1)] := P1.put (by decide) (by decide)
  show AW l G mX4_init d 3 24 _ 12 [vR a] [] 1 16 (hs H1 a 5 (a + 1))
  generalize hs H1 a 5 (a + 1) = H2 at P2 ⊢
  have c2 : (H2.1 : Int) = a + 1 := P2.1
  clear P1 c1
  refine a_aload_n dX4_init_12 rfl rfl ?_
  refine a_iconst dX4_init_13 ⟨by decide, by decide⟩ ?_
  refine a_newaI (j := 0) (n := 4) dX4_init_14 rfl (w_mem 67 (by decide +kernel) (by decide +kernel)) (fun _ => rfl) (by decide) rfl (fun _ _ h => h) (by decide) (by decide) (by decide) (by decide) (AW.st1 (y := a + 2) (by omega) ?_)
  have P3 : PL H (hnew H2 10 4) a 2 [(0, 3, 0), (1, 10, 16), (2, 10, 4)] [(0, 5, 1)] := P2.new
  show AW l G mX4_init d 3 24 _ 16 [vR a] [vR (a + 2), vR a] 2 20 (hnew H2 10 4)
  generalize hnew H2 10 4 = H3 at P3 ⊢
  have c3 : (H3.1 : Int) = a + 2 := P3.1
  clear P2 c2
  refine a_putRF dX4_init_16 fq_RX4_15 rfl rfl (P3.kd (List.Mem.head _)) ?_
  have P4 : PL H (hs H3 a 6 (a + 2)) a 2 [(0, 3, 0), (1, 10, 16), (2, 10, 4)] [(0, 5, 1), (0, 6, 2)] := P3.put (by decide) (by decide)
  show AW l G mX4_init d 3 24 _ 19 [vR a] [] 2 20 (hs H3 a 6 (a + 2))
  generalize hs H3 a 6 (a + 2) = H4 at P4 ⊢
  have c4 : (H4.1 : Int) = a + 2 := P4.1
  clear P3 c3
  refine a_aload_n dX4_init_19 rfl rfl ?_
  refine a_iconst dX4_init_20 ⟨by decide, by decide⟩ ?_
  refine a_newaI (j := 0) (n := 4) dX4_init_21 rfl (w_mem 67 (by decide +kernel) (by decide +kernel)) (fun _ => rfl) (by decide) rfl (fun _ _ h => h) (by decide) (by decide) (by decide) (by decide) (AW.st1 (y := a + 3) (by omega) ?_)
  have P5 : PL H (hnew H4 10 4) a 3 [(0, 3, 0), (1, 10, 16), (2, 10, 4), (3, 10, 4)] [(0, 5, 1), (0, 6, 2)] := P4.new
  show AW l G mX4_init d 3 24 _ 23 [vR a] [vR (a + 3), vR a] 3 24 (hnew H4 10 4)
  generalize hnew H4 10 4 = H5 at P5 ⊢
  have c5 : (H5.1 : Int) = a + 3 := P5.1
  clear P4 c4
  refine a_putRF dX4_init_23 fq_RX4_18 rfl rfl (P5.kd (List.Mem.head _)) ?_
  have P6 : PL H (hs H5 a 7 (a + 3)) a 3 [(0, 3, 0), (1, 10, 16), (2, 10, 4), (3, 10, 4)] [(0, 5, 1), (0, 6, 2), (0, 7, 3)] := P5.put (by decide) (by decide)
  show AW l G mX4_init d 3 24 _ 26 [vR a] [] 3 24 (hs H5 a 7 (a + 3))
  generalize hs H5 a 7 (a + 3) = H6 at P6 ⊢
  have c6 : (H6.1 : Int) = a + 3 := P6.1
  clear P5 c5
  exact a_vret dX4_init_26 rfl (Nat.le_of_ble_eq_true rfl) (Nat.le_of_ble_eq_true rfl) ⟨rfl, P6⟩
theorem dX1_init_0 : decode cX1_init 0 = .ok (.aload_n 0, 1) := by decide +kernel
theorem dX1_init_1 : decode cX1_init 1 = .ok (.invokespecial 3, 3) := by decide +kernel
theorem dX1_init_4 : decode cX1_init 4 = .ok (.aload_n 0, 1) := by decide +kernel
theorem dX1_init_5 : decode cX1_init 5 = .ok (.sipush 900, 3) := by decide +kernel
theorem dX1_init_8 : decode cX1_init 8 = .ok (.newarray .int, 2) := by decide +kernel
theorem dX1_init_10 : decode cX1_init 10 = .ok (.putfield 9, 3) := by decide +kernel
theorem dX1_init_13 : decode cX1_init 13 = .ok (.return_, 1) := by decide +kernel
theorem i_X1 {l : Launch} {G : GT} {H : AH} {a : Int} {d : Nat} (hk9 : H.2.1 a = (1, 0)) (h1 : (H.1 : Int) = a) (hz : ∀ i, hg H a i = 0) (ha : a ≠ 0) (hd : 1 ≤ d := by omega) : CL l G mX1_init d 1 900 [vR a] H (fun v H' => v = vV ∧ PL H H' a 1 LInp.1 LInp.2) := by
  refine CL.of (by decide) rfl (Nat.le_of_ble_eq_true rfl) ?_
  have P0 : PL H H a 0 [(0, 1, 0)] [] := PL.born hk9 h1 hz
  have c0 : (H.1 : Int) = a + 0 := P0.1
  show AW l G mX1_init d 1 900 _ 0 [vR a] [] 0 0 H
  refine a_aload_n dX1_init_0 rfl rfl ?_
  refine a_obj dX1_init_1 (w_mem 35 (by decide +kernel) (by decide +kernel)) ha (by omega) (Nat.le_of_ble_eq_true rfl) ?_
  refine a_aload_n dX1_init_4 rfl rfl ?_
  refine a_sipush dX1_init_5 (by decide) ?_
  refine a_newaI (j := 0) (n := 900) dX1_init_8 rfl (w_mem 67 (by decide +kernel) (by decide +kernel)) (fun _ => rfl) (by decide) rfl (fun _ _ h => h) (by decide) (by decide) (by decide) (by decide) (AW.st1 (y := a + 1) (by omega) ?_)
  have P1 : PL H (hnew H 10 900) a 1 [(0, 1, 0), (1, 10, 900)] [] := P0.new
  show AW l G mX1_init d 1 900 _ 10 [vR a] [vR (a + 1), vR a] 1 900 (hnew H 10 900)
  generalize hnew H 10 900 = H1 at P1 ⊢
  have c1 : (H1.1 : Int) = a + 1 := P1.1
  clear P0 c0
  refine a_putRF dX1_init_10 fq_RX1_9 rfl rfl (P1.kd (List.Mem.head _)) ?_
  have P2 : PL H (hs H1 a 0 (a + 1)) a 1 [(0, 1, 0), (1, 10, 900)] [(0, 0, 1)] := P1.put (by decide) (by decide)
  show AW l G mX1_init d 1 900 _ 13 [vR a] [] 1 900 (hs H1 a 0 (a + 1))
  generalize hs H1 a 0 (a + 1) = H2 at P2 ⊢
  have c2 : (H2.1 : Int) = a + 1 := P2.1
  clear P1 c1
  exact a_vret dX1_init_13 rfl (Nat.le_of_ble_eq_true rfl) (Nat.le_of_ble_eq_true rfl) ⟨rfl, P2⟩
theorem dX0_init_0 : decode cX0_init 0 = .ok (.aload_n 0, 1) := by decide +kernel
theorem dX0_init_1 : decode cX0_init 1 = .ok (.invokespecial 3, 3) := by decide +kernel
theorem dX0_init_4 : decode cX0_init 4 = .ok (.aload_n 0, 1) := by decide +kernel
theorem dX0_init_5 : decode cX0_init 5 = .ok (.sipush 144, 3) := by decide +kernel
theorem dX0_init_8 : decode cX0_init 8 = .ok (.newarray .int, 2) := by decide +kernel
theorem dX0_init_10 : decode cX0_init 10 = .ok (.putfield 9, 3) := by decide +kernel
theorem dX0_init_13 : decode cX0_init 13 = .ok (.aload_n 0, 1) := by decide +kernel
theorem dX0_init_14 : decode cX0_init 14 = .ok (.bipush 24, 2) := by decide +kernel
theorem dX0_init_16 : decode cX0_init 16 = .ok (.newarray .int, 2) := by decide +kernel
theorem dX0_init_18 : decode cX0_init 18 = .ok (.putfield 15, 3) := by decide +kernel
theorem dX0_init_21 : decode cX0_init 21 = .ok (.aload_n 0, 1) := by decide +kernel
theorem dX0_init_22 : decode cX0_init 22 = .ok (.bipush 24, 2) := by decide +kernel
theorem dX0_init_24 : decode cX0_init 24 = .ok (.newarray .boolean, 2) := by decide +kernel
theorem dX0_init_26 : decode cX0_init 26 = .ok (.putfield 18, 3) := by decide +kernel
theorem dX0_init_29 : decode cX0_init 29 = .ok (.aload_n 0, 1) := by decide +kernel
theorem dX0_init_30 : decode cX0_init 30 = .ok (.bipush 24, 2) := by decide +kernel
theorem dX0_init_32 : decode cX0_init 32 = .ok (.newarray .int, 2) := by decide +kernel
theorem dX0_init_34 : decode cX0_init 34 = .ok (.putfield 22, 3) := by decide +kernel
theorem dX0_init_37 : decode cX0_init 37 = .ok (.aload_n 0, 1) := by decide +kernel
theorem dX0_init_38 : decode cX0_init 38 = .ok (.bipush 24, 2) := by decide +kernel
theorem dX0_init_40 : decode cX0_init 40 = .ok (.newarray .int, 2) := by decide +kernel
theorem dX0_init_42 : decode cX0_init 42 = .ok (.putfield 25, 3) := by decide +kernel
theorem dX0_init_45 : decode cX0_init 45 = .ok (.aload_n 0, 1) := by decide +kernel
theorem dX0_init_46 : decode cX0_init 46 = .ok (.bipush 24, 2) := by decide +kernel
theorem dX0_init_48 : decode cX0_init 48 = .ok (.newarray .int, 2) := by decide +kernel
theorem dX0_init_50 : decode cX0_init 50 = .ok (.putfield 28, 3) := by decide +kernel
theorem dX0_init_53 : decode cX0_init 53 = .ok (.aload_n 0, 1) := by decide +kernel
theorem dX0_init_54 : decode cX0_init 54 = .ok (.bipush 24, 2) := by decide +kernel
theorem dX0_init_56 : decode cX0_init 56 = .ok (.newarray .int, 2) := by decide +kernel
theorem dX0_init_58 : decode cX0_init 58 = .ok (.putfield 31, 3) := by decide +kernel
theorem dX0_init_61 : decode cX0_init 61 = .ok (.aload_n 0, 1) := by decide +kernel
theorem dX0_init_62 : decode cX0_init 62 = .ok (.bipush 24, 2) := by decide +kernel
theorem dX0_init_64 : decode cX0_init 64 = .ok (.newarray .int, 2) := by decide +kernel
theorem dX0_init_66 : decode cX0_init 66 = .ok (.putfield 34, 3) := by decide +kernel
theorem dX0_init_69 : decode cX0_init 69 = .ok (.return_, 1) := by decide +kernel
theorem i_X0 {l : Launch} {G : GT} {H : AH} {a : Int} {d : Nat} (hk9 : H.2.1 a = (0, 0)) (h1 : (H.1 : Int) = a) (hz : ∀ i, hg H a i = 0) (ha : a ≠ 0) (hd : 1 ≤ d := by omega) : CL l G mX0_init d 8 312 [vR a] H (fun v H' => v = vV ∧ PL H H' a 8 LFli.1 LFli.2) := by
  refine CL.of (by decide) rfl (Nat.le_of_ble_eq_true rfl) ?_
  have P0 : PL H H a 0 [(0, 0, 0)] [] := PL.born hk9 h1 hz
  have c0 : (H.1 : Int) = a + 0 := P0.1
  show AW l G mX0_init d 8 312 _ 0 [vR a] [] 0 0 H
  refine a_aload_n dX0_init_0 rfl rfl ?_
  refine a_obj dX0_init_1 (w_mem 213 (by decide +kernel) (by decide +kernel)) ha (by omega) (Nat.le_of_ble_eq_true rfl) ?_
  refine a_aload_n dX0_init_4 rfl rfl ?_
  refine a_sipush dX0_init_5 (by decide) ?_
  refine a_newaI (j := 0) (n := 144) dX0_init_8 rfl (w_mem 67 (by decide +kernel) (by decide +kernel)) (fun _ => rfl) (by decide) rfl (fun _ _ h => h) (by decide) (by decide) (by decide) (by decide) (AW.st1 (y := a + 1) (by omega) ?_)
  have P1 : PL H (hnew H 10 144) a 1 [(0, 0, 0), (1, 10, 144)] [] := P0.new
  show AW l G mX0_init d 8 312 _ 10 [vR a] [vR (a + 1), vR a] 1 144 (hnew H 10 144)
  generalize hnew H 10 144 = H1 at P1 ⊢
  have c1 : (H1.1 : Int) = a + 1 := P1.1
  clear P0 c0
  refine a_putRF dX0_init_10 fq_RX0_9 rfl rfl (P1.kd (List.Mem.head _)) ?_
  have P2 : PL H (hs H1 a 1 (a + 1)) a 1 [(0, 0, 0), (1, 10, 144)] [(0, 1, 1)] := P1.put (by decide) (by decide)
  show AW l G mX0_init d 8 312 _ 13 [vR a] [] 1 144 (hs H1 a 1 (a + 1))
  generalize hs H1 a 1 (a + 1) = H2 at P2 ⊢
  have c2 : (H2.1 : Int) = a + 1 := P2.1
  clear P1 c1
  refine a_aload_n dX0_init_13 rfl rfl ?_
  refine a_bipush dX0_init_14 (by decide) ?_
  refine a_newaI (j := 0) (n := 24) dX0_init_16 rfl (w_mem 67 (by decide +kernel) (by decide +kernel)) (fun _ => rfl) (by decide) rfl (fun _ _ h => h) (by decide) (by decide) (by decide) (by decide) (AW.st1 (y := a + 2) (by omega) ?_)
  have P3 : PL H (hnew H2 10 24) a 2 [(0, 0, 0), (1, 10, 144), (2, 10, 24)] [(0, 1, 1)] := P2.new
  show AW l G mX0_init d 8 312 _ 18 [vR a] [vR (a + 2), vR a] 2 168 (hnew H2 10 24)
  generalize hnew H2 10 24 = H3 at P3 ⊢
  have c3 : (H3.1 : Int) = a + 2 := P3.1
  clear P2 c2
  refine a_putRF dX0_init_18 fq_RX0_15 rfl rfl (P3.kd (List.Mem.head _)) ?_
  have P4 : PL H (hs H3 a 2 (a + 2)) a 2 [(0, 0, 0), (1, 10, 144), (2, 10, 24)] [(0, 1, 1), (0, 2, 2)] := P3.put (by decide) (by decide)
  show AW l G mX0_init d 8 312 _ 21 [vR a] [] 2 168 (hs H3 a 2 (a + 2))
  generalize hs H3 a 2 (a + 2) = H4 at P4 ⊢
  have c4 : (H4.1 : Int) = a + 2 := P4.1
  clear P3 c3
  refine a_aload_n dX0_init_21 rfl rfl ?_
  refine a_bipush dX0_init_22 (by decide) ?_
  refine a_newaI (j := 1) (n := 24) dX0_init_24 rfl (w_mem 268 (by decide +kernel) (by decide +kernel)) (fun _ => rfl) (by decide) rfl (fun _ _ h => h) (by decide) (by decide) (by decide) (by decide) (AW.st1 (y := a + 3) (by omega) ?_)
  have P5 : PL H (hnew H4 11 24) a 3 [(0, 0, 0), (1, 10, 144), (2, 10, 24), (3, 11, 24)] [(0, 1, 1), (0, 2, 2)] := P4.new
  show AW l G mX0_init d 8 312 _ 26 [vR a] [vR (a + 3), vR a] 3 192 (hnew H4 11 24)
  generalize hnew H4 11 24 = H5 at P5 ⊢
  have c5 : (H5.1 : Int) = a + 3 := P5.1
  clear P4 c4
  refine a_putRF dX0_init_26 fq_RX0_18 rfl rfl (P5.kd (List.Mem.head _)) ?_
  have P6 : PL H (hs H5 a 3 (a + 3)) a 3 [(0, 0, 0), (1, 10, 144), (2, 10, 24), (3, 11, 24)] [(0, 1, 1), (0, 2, 2), (0, 3, 3)] := P5.put (by decide) (by decide)
  show AW l G mX0_init d 8 312 _ 29 [vR a] [] 3 192 (hs H5 a 3 (a + 3))
  generalize hs H5 a 3 (a + 3) = H6 at P6 ⊢
  have c6 : (H6.1 : Int) = a + 3 := P6.1
  clear P5 c5
  refine a_aload_n dX0_init_29 rfl rfl ?_
  refine a_bipush dX0_init_30 (by decide) ?_
  refine a_newaI (j := 0) (n := 24) dX0_init_32 rfl (w_mem 67 (by decide +kernel) (by decide +kernel)) (fun _ => rfl) (by decide) rfl (fun _ _ h => h) (by decide) (by decide) (by decide) (by decide) (AW.st1 (y := a + 4) (by omega) ?_)
  have P7 : PL H (hnew H6 10 24) a 4 [(0, 0, 0), (1, 10, 144), (2, 10, 24), (3, 11, 24), (4, 10, 24)] [(0, 1, 1), (0, 2, 2), (0, 3, 3)] := P6.new
  show AW l G mX0_init d 8 312 _ 34 [vR a] [vR (a + 4), vR a] 4 216 (hnew H6 10 24)
  generalize hnew H6 10 24 = H7 at P7 ⊢
  have c7 : (H7.1 : Int) = a + 4 := P7.1
  clear P6 c6
  refine a_putRF dX0_init_34 fq_RX0_22 rfl rfl (P7.kd (List.Mem.head _)) ?_
  have P8 : PL H (hs H7 a 4 (a + 4)) a 4 [(0, 0, 0), (1, 10, 144), (2, 10, 24), (3, 11, 24), (4, 10, 24)] [(0, 1, 1), (0, 2, 2), (0, 3, 3), (0, 4, 4)] := P7.put (by decide) (by decide)
  show AW l G mX0_init d 8 312 _ 37 [vR a] [] 4 216 (hs H7 a 4 (a + 4))
  generalize hs H7 a 4 (a + 4) = H8 at P8 ⊢
  have c8 : (H8.1 : Int) = a + 4 := P8.1
  clear P7 c7
  refine a_aload_n dX0_init_37 rfl rfl ?_
  refine a_bipush dX0_init_38 (by decide) ?_
  refine a_newaI (j := 0) (n := 24) dX0_init_40 rfl (w_mem 67 (by decide +kernel) (by decide +kernel)) (fun _ => rfl) (by decide) rfl (fun _ _ h => h) (by decide) (by decide) (by decide) (by decide) (AW.st1 (y := a + 5) (by omega) ?_)
  have P9 : PL H (hnew H8 10 24) a 5 [(0, 0, 0), (1, 10, 144), (2, 10, 24), (3, 11, 24), (4, 10, 24), (5, 10, 24)] [(0, 1, 1), (0, 2, 2), (0, 3, 3), (0, 4, 4)] := P8.new
  show AW l G mX0_init d 8 312 _ 42 [vR a] [vR (a + 5), vR a] 5 240 (hnew H8 10 24)
  generalize hnew H8 10 24 = H9 at P9 ⊢
  have c9 : (H9.1 : Int) = a + 5 := P9.1
  clear P8 c8
  refine a_putRF dX0_init_42 fq_RX0_25 rfl rfl (P9.kd (List.Mem.head _)) ?_
  have P10 : PL H (hs H9 a 5 (a + 5)) a 5 [(0, 0, 0), (1, 10, 144), (2, 10, 24), (3, 11, 24), (4, 10, 24), (5, 10, 24)] [(0, 1, 1), (0, 2, 2), (0, 3, 3), (0, 4, 4), (0, 5, 5)] := P9.put (by decide) (by decide)
  show AW l G mX0_init d 8 312 _ 45 [vR a] [] 5 240 (hs H9 a 5 (a + 5))
  generalize hs H9 a 5 (a + 5) = H10 at P10 ⊢
  have c10 : (H10.1 : Int) = a + 5 := P10.1
  clear P9 c9
  refine a_aload_n dX0_init_45 rfl rfl ?_
  refine a_bipush dX0_init_46 (by decide) ?_
  refine a_newaI (j := 0) (n := 24) dX0_init_48 rfl (w_mem 67 (by decide +kernel) (by decide +kernel)) (fun _ => rfl) (by decide) rfl (fun _ _ h => h) (by decide) (by decide) (by decide) (by decide) (AW.st1 (y := a + 6) (by omega) ?_)
  have P11 : PL H (hnew H10 10 24) a 6 [(0, 0, 0), (1, 10, 144), (2, 10, 24), (3, 11, 24), (4, 10, 24), (5, 10, 24), (6, 10, 24)] [(0, 1, 1), (0, 2, 2), (0, 3, 3), (0, 4, 4), (0, 5, 5)] := P10.new
  show AW l G mX0_init d 8 312 _ 50 [vR a] [vR (a + 6), vR a] 6 264 (hnew H10 10 24)
  generalize hnew H10 10 24 = H11 at P11 ⊢
  have c11 : (H11.1 : Int) = a + 6 := P11.1
  clear P10 c10
  refine a_putRF dX0_init_50 fq_RX0_28 rfl rfl (P11.kd (List.Mem.head _)) ?_
  have P12 : PL H (hs H11 a 6 (a + 6)) a 6 [(0, 0, 0), (1, 10, 144), (2, 10, 24), (3, 11, 24), (4, 10, 24), (5, 10, 24), (6, 10, 24)] [(0, 1, 1), (0, 2, 2), (0, 3, 3), (0, 4, 4), (0, 5, 5), (0, 6, 6)] := P11.put (by decide) (by decide)
  show AW l G mX0_init d 8 312 _ 53 [vR a] [] 6 264 (hs H11 a 6 (a + 6))
  generalize hs H11 a 6 (a + 6) = H12 at P12 ⊢
  have c12 : (H12.1 : Int) = a + 6 := P12.1
  clear P11 c11
  refine a_aload_n dX0_init_53 rfl rfl ?_
  refine a_bipush dX0_init_54 (by decide) ?_
  refine a_newaI (j := 0) (n := 24) dX0_init_56 rfl (w_mem 67 (by decide +kernel) (by decide +kernel)) (fun _ => rfl) (by decide) rfl (fun _ _ h => h) (by decide) (by decide) (by decide) (by decide) (AW.st1 (y := a + 7) (by omega) ?_)
  have P13 : PL H (hnew H12 10 24) a 7 [(0, 0, 0), (1, 10, 144), (2, 10, 24), (3, 11, 24), (4, 10, 24), (5, 10, 24), (6, 10, 24), (7, 10, 24)] [(0, 1, 1), (0, 2, 2), (0, 3, 3), (0, 4, 4), (0, 5, 5), (0, 6, 6)] := P12.new
  show AW l G mX0_init d 8 312 _ 58 [vR a] [vR (a + 7), vR a] 7 288 (hnew H12 10 24)
  generalize hnew H12 10 24 = H13 at P13 ⊢
  have c13 : (H13.1 : Int) = a + 7 := P13.1
  clear P12 c12
  refine a_putRF dX0_init_58 fq_RX0_31 rfl rfl (P13.kd (List.Mem.head _)) ?_
  have P14 : PL H (hs H13 a 7 (a + 7)) a 7 [(0, 0, 0), (1, 10, 144), (2, 10, 24), (3, 11, 24), (4, 10, 24), (5, 10, 24), (6, 10, 24), (7, 10, 24)] [(0, 1, 1), (0, 2, 2), (0, 3, 3), (0, 4, 4), (0, 5, 5), (0, 6, 6), (0, 7, 7)] := P13.put (by decide) (by decide)
  show AW l G mX0_init d 8 312 _ 61 [vR a] [] 7 288 (hs H13 a 7 (a + 7))
  generalize hs H13 a 7 (a + 7) = H14 at P14 ⊢
  have c14 : (H14.1 : Int) = a + 7 := P14.1
  clear P13 c13
  refine a_aload_n dX0_init_61 rfl rfl ?_
  refine a_bipush dX0_init_62 (by decide) ?_
  refine a_newaI (j := 0) (n := 24) dX0_init_64 rfl (w_mem 67 (by decide +kernel) (by decide +kernel)) (fun _ => rfl) (by decide) rfl (fun _ _ h => h) (by decide) (by decide) (by decide) (by decide) (AW.st1 (y := a + 8) (by omega) ?_)
  have P15 : PL H (hnew H14 10 24) a 8 [(0, 0, 0), (1, 10, 144), (2, 10, 24), (3, 11, 24), (4, 10, 24), (5, 10, 24), (6, 10, 24), (7, 10, 24), (8, 10, 24)] [(0, 1, 1), (0, 2, 2), (0, 3, 3), (0, 4, 4), (0, 5, 5), (0, 6, 6), (0, 7, 7)] := P14.new
  show AW l G mX0_init d 8 312 _ 66 [vR a] [vR (a + 8), vR a] 8 312 (hnew H14 10 24)
  generalize hnew H14 10 24 = H15 at P15 ⊢
  have c15 : (H15.1 : Int) = a + 8 := P15.1
  clear P14 c14
  refine a_putRF dX0_init_66 fq_RX0_34 rfl rfl (P15.kd (List.Mem.head _)) ?_
  have P16 : PL H (hs H15 a 8 (a + 8)) a 8 [(0, 0, 0), (1, 10, 144), (2, 10, 24), (3, 11, 24), (4, 10, 24), (5, 10, 24), (6, 10, 24), (7, 10, 24), (8, 10, 24)] [(0, 1, 1), (0, 2, 2), (0, 3, 3), (0, 4, 4), (0, 5, 5), (0, 6, 6), (0, 7, 7), (0, 8, 8)] := P15.put (by decide) (by decide)
  show AW l G mX0_init d 8 312 _ 69 [vR a] [] 8 312 (hs H15 a 8 (a + 8))
  generalize hs H15 a 8 (a + 8) = H16 at P16 ⊢
  have c16 : (H16.1 : Int) = a + 8 := P16.1
  clear P15 c15
  exact a_vret dX0_init_69 rfl (Nat.le_of_ble_eq_true rfl) (Nat.le_of_ble_eq_true rfl) ⟨rfl, P16⟩
theorem dX5_init_0 : decode cX5_init 0 = .ok (.aload_n 0, 1) := by decide +kernel
theorem dX5_init_1 : decode cX5_init 1 = .ok (.invokespecial 3, 3) := by decide +kernel
theorem dX5_init_4 : decode cX5_init 4 = .ok (.aload_n 0, 1) := by decide +kernel
theorem dX5_init_5 : decode cX5_init 5 = .ok (.bipush 7, 2) := by decide +kernel
theorem dX5_init_7 : decode cX5_init 7 = .ok (.newarray .int, 2) := by decide +kernel
theorem dX5_init_9 : decode cX5_init 9 = .ok (.putfield 9, 3) := by decide +kernel
theorem dX5_init_12 : decode cX5_init 12 = .ok (.aload_n 0, 1) := by decide +kernel
theorem dX5_init_13 : decode cX5_init 13 = .ok (.bipush 49, 2) := by decide +kernel
theorem dX5_init_15 : decode cX5_init 15 = .ok (.newarray .int, 2) := by decide +kernel
theorem dX5_init_17 : decode cX5_init 17 = .ok (.putfield 15, 3) := by decide +kernel
theorem dX5_init_20 : decode cX5_init 20 = .ok (.aload_n 0, 1) := by decide +kernel
theorem dX5_init_21 : decode cX5_init 21 = .ok (.bipush 7, 2) := by decide +kernel
theorem dX5_init_23 : decode cX5_init 23 = .ok (.newarray .int, 2) := by decide +kernel
theorem dX5_init_25 : decode cX5_init 25 = .ok (.putfield 18, 3) := by decide +kernel
theorem dX5_init_28 : decode cX5_init 28 = .ok (.aload_n 0, 1) := by decide +kernel
theorem dX5_init_29 : decode cX5_init 29 = .ok (.bipush 7, 2) := by decide +kernel
theorem dX5_init_31 : decode cX5_init 31 = .ok (.newarray .int, 2) := by decide +kernel
theorem dX5_init_33 : decode cX5_init 33 = .ok (.putfield 21, 3) := by decide +kernel
theorem dX5_init_36 : decode cX5_init 36 = .ok (.aload_n 0, 1) := by decide +kernel
theorem dX5_init_37 : decode cX5_init 37 = .ok (.bipush 7, 2) := by decide +kernel
theorem dX5_init_39 : decode cX5_init 39 = .ok (.newarray .int, 2) := by decide +kernel
theorem dX5_init_41 : decode cX5_init 41 = .ok (.putfield 24, 3) := by decide +kernel
theorem dX5_init_44 : decode cX5_init 44 = .ok (.aload_n 0, 1) := by decide +kernel
theorem dX5_init_45 : decode cX5_init 45 = .ok (.bipush 7, 2) := by decide +kernel
theorem dX5_init_47 : decode cX5_init 47 = .ok (.newarray .int, 2) := by decide +kernel
theorem dX5_init_49 : decode cX5_init 49 = .ok (.putfield 27, 3) := by decide +kernel
theorem dX5_init_52 : decode cX5_init 52 = .ok (.aload_n 0, 1) := by decide +kernel
theorem dX5_init_53 : decode cX5_init 53 = .ok (.bipush 56, 2) := by decide +kernel
theorem dX5_init_55 : decode cX5_init 55 = .ok (.newarray .int, 2) := by decide +kernel
theorem dX5_init_57 : decode cX5_init 57 = .ok (.putfield 30, 3) := by decide +kernel
theorem dX5_init_60 : decode cX5_init 60 = .ok (.aload_n 0, 1) := by decide +kernel
theorem dX5_init_61 : decode cX5_init 61 = .ok (.bipush 8, 2) := by decide +kernel
theorem dX5_init_63 : decode cX5_init 63 = .ok (.newarray .long, 2) := by decide +kernel
theorem dX5_init_65 : decode cX5_init 65 = .ok (.putfield 33, 3) := by decide +kernel
theorem dX5_init_68 : decode cX5_init 68 = .ok (.aload_n 0, 1) := by decide +kernel
theorem dX5_init_69 : decode cX5_init 69 = .ok (.bipush 7, 2) := by decide +kernel
theorem dX5_init_71 : decode cX5_init 71 = .ok (.newarray .int, 2) := by decide +kernel
theorem dX5_init_73 : decode cX5_init 73 = .ok (.putfield 37, 3) := by decide +kernel
theorem dX5_init_76 : decode cX5_init 76 = .ok (.aload_n 0, 1) := by decide +kernel
theorem dX5_init_77 : decode cX5_init 77 = .ok (.bipush 7, 2) := by decide +kernel
theorem dX5_init_79 : decode cX5_init 79 = .ok (.newarray .int, 2) := by decide +kernel
theorem dX5_init_81 : decode cX5_init 81 = .ok (.putfield 40, 3) := by decide +kernel
theorem dX5_init_84 : decode cX5_init 84 = .ok (.return_, 1) := by decide +kernel
theorem i_X5 {l : Launch} {G : GT} {H : AH} {a : Int} {d : Nat} (hk9 : H.2.1 a = (4, 0)) (h1 : (H.1 : Int) = a) (hz : ∀ i, hg H a i = 0) (ha : a ≠ 0) (hd : 1 ≤ d := by omega) : CL l G mX5_init d 10 162 [vR a] H (fun v H' => v = vV ∧ PL H H' a 10 LSea.1 LSea.2) := by
  refine CL.of (by decide) rfl (Nat.le_of_ble_eq_true rfl) ?_
  have P0 : PL H H a 0 [(0, 4, 0)] [] := PL.born hk9 h1 hz
  have c0 : (H.1 : Int) = a + 0 := P0.1
  show AW l G mX5_init d 10 162 _ 0 [vR a] [] 0 0 H
  refine a_aload_n dX5_init_0 rfl rfl ?_
  refine a_obj dX5_init_1 (w_mem 79 (by decide +kernel) (by decide +kernel)) ha (by omega) (Nat.le_of_ble_eq_true rfl) ?_
  refine a_aload_n dX5_init_4 rfl rfl ?_
  refine a_bipush dX5_init_5 (by decide) ?_
  refine a_newaI (j := 0) (n := 7) dX5_init_7 rfl (w_mem 67 (by decide +kernel) (by decide +kernel)) (fun _ => rfl) (by decide) rfl (fun _ _ h => h) (by decide) (by decide) (by decide) (by decide) (AW.st1 (y := a + 1) (by omega) ?_)
  have P1 : PL H (hnew H 10 7) a 1 [(0, 4, 0), (1, 10, 7)] [] := P0.new
  show AW l G mX5_init d 10 162 _ 9 [vR a] [vR (a + 1), vR a] 1 7 (hnew H 10 7)
  generalize hnew H 10 7 = H1 at P1 ⊢
  have c1 : (H1.1 : Int) = a + 1 := P1.1
  clear P0 c0
  refine a_putRF dX5_init_9 fq_RX5_9 rfl rfl (P1.kd (List.Mem.head _)) ?_
  have P2 : PL H (hs H1 a 2 (a + 1)) a 1 [(0, 4, 0), (1, 10, 7)] [(0, 2, 1)] := P1.put (by decide) (by decide)
  show AW l G mX5_init d 10 162 _ 12 [vR a] [] 1 7 (hs H1 a 2 (a + 1))
  generalize hs H1 a 2 (a + 1) = H2 at P2 ⊢
  have c2 : (H2.1 : Int) = a + 1 := P2.1
  clear P1 c1
  refine a_aload_n dX5_init_12 rfl rfl ?_
  refine a_bipush dX5_init_13 (by decide) ?_
  refine a_newaI (j := 0) (n := 49) dX5_init_15 rfl (w_mem 67 (by decide +kernel) (by decide +kernel)) (fun _ => rfl) (by decide) rfl (fun _ _ h => h) (by decide) (by decide) (by decide) (by decide) (AW.st1 (y := a + 2) (by omega) ?_)
  have P3 : PL H (hnew H2 10 49) a 2 [(0, 4, 0), (1, 10, 7), (2, 10, 49)] [(0, 2, 1)] := P2.new
  show AW l G mX5_init d 10 162 _ 17 [vR a] [vR (a + 2), vR a] 2 56 (hnew H2 10 49)
  generalize hnew H2 10 49 = H3 at P3 ⊢
  have c3 : (H3.1 : Int) = a + 2 := P3.1
  clear P2 c2
  refine a_putRF dX5_init_17 fq_RX5_15 rfl rfl (P3.kd (List.Mem.head _)) ?_
  have P4 : PL H (hs H3 a 3 (a + 2)) a 2 [(0, 4, 0), (1, 10, 7), (2, 10, 49)] [(0, 2, 1), (0, 3, 2)] := P3.put (by decide) (by decide)
  show AW l G mX5_init d 10 162 _ 20 [vR a] [] 2 56 (hs H3 a 3 (a + 2))
  generalize hs H3 a 3 (a + 2) = H4 at P4 ⊢
  have c4 : (H4.1 : Int) = a + 2 := P4.1
  clear P3 c3
  refine a_aload_n dX5_init_20 rfl rfl ?_
  refine a_bipush dX5_init_21 (by decide) ?_
  refine a_newaI (j := 0) (n := 7) dX5_init_23 rfl (w_mem 67 (by decide +kernel) (by decide +kernel)) (fun _ => rfl) (by decide) rfl (fun _ _ h => h) (by decide) (by decide) (by decide) (by decide) (AW.st1 (y := a + 3) (by omega) ?_)
  have P5 : PL H (hnew H4 10 7) a 3 [(0, 4, 0), (1, 10, 7), (2, 10, 49), (3, 10, 7)] [(0, 2, 1), (0, 3, 2)] := P4.new
  show AW l G mX5_init d 10 162 _ 25 [vR a] [vR (a + 3), vR a] 3 63 (hnew H4 10 7)
  generalize hnew H4 10 7 = H5 at P5 ⊢
  have c5 : (H5.1 : Int) = a + 3 := P5.1
  clear P4 c4
  refine a_putRF dX5_init_25 fq_RX5_18 rfl rfl (P5.kd (List.Mem.head _)) ?_
  have P6 : PL H (hs H5 a 4 (a + 3)) a 3 [(0, 4, 0), (1, 10, 7), (2, 10, 49), (3, 10, 7)] [(0, 2, 1), (0, 3, 2), (0, 4, 3)] := P5.put (by decide) (by decide)
  show AW l G mX5_init d 10 162 _ 28 [vR a] [] 3 63 (hs H5 a 4 (a + 3))
  generalize hs H5 a 4 (a + 3) = H6 at P6 ⊢
  have c6 : (H6.1 : Int) = a + 3 := P6.1
  clear P5 c5
  refine a_aload_n dX5_init_28 rfl rfl ?_
  refine a_bipush dX5_init_29 (by decide) ?_
  refine a_newaI (j := 0) (n := 7) dX5_init_31 rfl (w_mem 67 (by decide +kernel) (by decide +kernel)) (fun _ => rfl) (by decide) rfl (fun _ _ h => h) (by decide) (by decide) (by decide) (by decide) (AW.st1 (y := a + 4) (by omega) ?_)
  have P7 : PL H (hnew H6 10 7) a 4 [(0, 4, 0), (1, 10, 7), (2, 10, 49), (3, 10, 7), (4, 10, 7)] [(0, 2, 1), (0, 3, 2), (0, 4, 3)] := P6.new
  show AW l G mX5_init d 10 162 _ 33 [vR a] [vR (a + 4), vR a] 4 70 (hnew H6 10 7)
  generalize hnew H6 10 7 = H7 at P7 ⊢
  have c7 : (H7.1 : Int) = a + 4 := P7.1
  clear P6 c6
  refine a_putRF dX5_init_33 fq_RX5_21 rfl rfl (P7.kd (List.Mem.head _)) ?_
  have P8 : PL H (hs H7 a 5 (a + 4)) a 4 [(0, 4, 0), (1, 10, 7), (2, 10, 49), (3, 10, 7), (4, 10, 7)] [(0, 2, 1), (0, 3, 2), (0, 4, 3), (0, 5, 4)] := P7.put (by decide) (by decide)
  show AW l G mX5_init d 10 162 _ 36 [vR a] [] 4 70 (hs H7 a 5 (a + 4))
  generalize hs H7 a 5 (a + 4) = H8 at P8 ⊢
  have c8 : (H8.1 : Int) = a + 4 := P8.1
  clear P7 c7
  refine a_aload_n dX5_init_36 rfl rfl ?_
  refine a_bipush dX5_init_37 (by decide) ?_
  refine a_newaI (j := 0) (n := 7) dX5_init_39 rfl (w_mem 67 (by decide +kernel) (by decide +kernel)) (fun _ => rfl) (by decide) rfl (fun _ _ h => h) (by decide) (by decide) (by decide) (by decide) (AW.st1 (y := a + 5) (by omega) ?_)
  have P9 : PL H (hnew H8 10 7) a 5 [(0, 4, 0), (1, 10, 7), (2, 10, 49), (3, 10, 7), (4, 10, 7), (5, 10, 7)] [(0, 2, 1), (0, 3, 2), (0, 4, 3), (0, 5, 4)] := P8.new
  show AW l G mX5_init d 10 162 _ 41 [vR a] [vR (a + 5), vR a] 5 77 (hnew H8 10 7)
  generalize hnew H8 10 7 = H9 at P9 ⊢
  have c9 : (H9.1 : Int) = a + 5 := P9.1
  clear P8 c8
  refine a_putRF dX5_init_41 fq_RX5_24 rfl rfl (P9.kd (List.Mem.head _)) ?_
  have P10 : PL H (hs H9 a 6 (a + 5)) a 5 [(0, 4, 0), (1, 10, 7), (2, 10, 49), (3, 10, 7), (4, 10, 7), (5, 10, 7)] [(0, 2, 1), (0, 3, 2), (0, 4, 3), (0, 5, 4), (0, 6, 5)] := P9.put (by decide) (by decide)
  show AW l G mX5_init d 10 162 _ 44 [vR a] [] 5 77 (hs H9 a 6 (a + 5))
  generalize hs H9 a 6 (a + 5) = H10 at P10 ⊢
  have c10 : (H10.1 : Int) = a + 5 := P10.1
  clear P9 c9
  refine a_aload_n dX5_init_44 rfl rfl ?_
  refine a_bipush dX5_init_45 (by decide) ?_
  refine a_newaI (j := 0) (n := 7) dX5_init_47 rfl (w_mem 67 (by decide +kernel) (by decide +kernel)) (fun _ => rfl) (by decide) rfl (fun _ _ h => h) (by decide) (by decide) (by decide) (by decide) (AW.st1 (y := a + 6) (by omega) ?_)
  have P11 : PL H (hnew H10 10 7) a 6 [(0, 4, 0), (1, 10, 7), (2, 10, 49), (3, 10, 7), (4, 10, 7), (5, 10, 7), (6, 10, 7)] [(0, 2, 1), (0, 3, 2), (0, 4, 3), (0, 5, 4), (0, 6, 5)] := P10.new
  show AW l G mX5_init d 10 162 _ 49 [vR a] [vR (a + 6), vR a] 6 84 (hnew H10 10 7)
  generalize hnew H10 10 7 = H11 at P11 ⊢
  have c11 : (H11.1 : Int) = a + 6 := P11.1
  clear P10 c10
  refine a_putRF dX5_init_49 fq_RX5_27 rfl rfl (P11.kd (List.Mem.head _)) ?_
  have P12 : PL H (hs H11 a 7 (a + 6)) a 6 [(0, 4, 0), (1, 10, 7), (2, 10, 49), (3, 10, 7), (4, 10, 7), (5, 10, 7), (6, 10, 7)] [(0, 2, 1), (0, 3, 2), (0, 4, 3), (0, 5, 4), (0, 6, 5), (0, 7, 6)] := P11.put (by decide) (by decide)
  show AW l G mX5_init d 10 162 _ 52 [vR a] [] 6 84 (hs H11 a 7 (a + 6))
  generalize hs H11 a 7 (a + 6) = H12 at P12 ⊢
  have c12 : (H12.1 : Int) = a + 6 := P12.1
  clear P11 c11
  refine a_aload_n dX5_init_52 rfl rfl ?_
  refine a_bipush dX5_init_53 (by decide) ?_
  refine a_newaI (j := 0) (n := 56) dX5_init_55 rfl (w_mem 67 (by decide +kernel) (by decide +kernel)) (fun _ => rfl) (by decide) rfl (fun _ _ h => h) (by decide) (by decide) (by decide) (by decide) (AW.st1 (y := a + 7) (by omega) ?_)
  have P13 : PL H (hnew H12 10 56) a 7 [(0, 4, 0), (1, 10, 7), (2, 10, 49), (3, 10, 7), (4, 10, 7), (5, 10, 7), (6, 10, 7), (7, 10, 56)] [(0, 2, 1), (0, 3, 2), (0, 4, 3), (0, 5, 4), (0, 6, 5), (0, 7, 6)] := P12.new
  show AW l G mX5_init d 10 162 _ 57 [vR a] [vR (a + 7), vR a] 7 140 (hnew H12 10 56)
  generalize hnew H12 10 56 = H13 at P13 ⊢
  have c13 : (H13.1 : Int) = a + 7 := P13.1
  clear P12 c12
  refine a_putRF dX5_init_57 fq_RX5_30 rfl rfl (P13.kd (List.Mem.head _)) ?_
  have P14 : PL H (hs H13 a 8 (a + 7)) a 7 [(0, 4, 0), (1, 10, 7), (2, 10, 49), (3, 10, 7), (4, 10, 7), (5, 10, 7), (6, 10, 7), (7, 10, 56)] [(0, 2, 1), (0, 3, 2), (0, 4, 3), (0, 5, 4), (0, 6, 5), (0, 7, 6), (0, 8, 7)] := P13.put (by decide) (by decide)
  show AW l G mX5_init d 10 162 _ 60 [vR a] [] 7 140 (hs H13 a 8 (a + 7))
  generalize hs H13 a 8 (a + 7) = H14 at P14 ⊢
  have c14 : (H14.1 : Int) = a + 7 := P14.1
  clear P13 c13
  refine a_aload_n dX5_init_60 rfl rfl ?_
  refine a_bipush dX5_init_61 (by decide) ?_
  refine a_newaJ (n := 8) dX5_init_63 (w_mem 128 (by decide +kernel) (by decide +kernel)) (by decide) (by decide) (by decide) (by decide) (AW.st1 (y := a + 8) (by omega) ?_)
  have P15 : PL H (hnew H14 13 8) a 8 [(0, 4, 0), (1, 10, 7), (2, 10, 49), (3, 10, 7), (4, 10, 7), (5, 10, 7), (6, 10, 7), (7, 10, 56), (8, 13, 8)] [(0, 2, 1), (0, 3, 2), (0, 4, 3), (0, 5, 4), (0, 6, 5), (0, 7, 6), (0, 8, 7)] := P14.new
  show AW l G mX5_init d 10 162 _ 65 [vR a] [vR (a + 8), vR a] 8 148 (hnew H14 13 8)
  generalize hnew H14 13 8 = H15 at P15 ⊢
  have c15 : (H15.1 : Int) = a + 8 := P15.1
  clear P14 c14
  refine a_putRF dX5_init_65 fq_RX5_33 rfl rfl (P15.kd (List.Mem.head _)) ?_
  have P16 : PL H (hs H15 a 9 (a + 8)) a 8 [(0, 4, 0), (1, 10, 7), (2, 10, 49), (3, 10, 7), (4, 10, 7), (5, 10, 7), (6, 10, 7), (7, 10, 56), (8, 13, 8)] [(0, 2, 1), (0, 3, 2), (0, 4, 3), (0, 5, 4), (0, 6, 5), (0, 7, 6), (0, 8, 7), (0, 9, 8)] := P15.put (by decide) (by decide)
  show AW l G mX5_init d 10 162 _ 68 [vR a] [] 8 148 (hs H15 a 9 (a + 8))
  generalize hs H15 a 9 (a + 8) = H16 at P16 ⊢
  have c16 : (H16.1 : Int) = a + 8 := P16.1
  clear P15 c15
  refine a_aload_n dX5_init_68 rfl rfl ?_
  refine a_bipush dX5_init_69 (by decide) ?_
  refine a_newaI (j := 0) (n := 7) dX5_init_71 rfl (w_mem 67 (by decide +kernel) (by decide +kernel)) (fun _ => rfl) (by decide) rfl (fun _ _ h => h) (by decide) (by decide) (by decide) (by decide) (AW.st1 (y := a + 9) (by omega) ?_)
  have P17 : PL H (hnew H16 10 7) a 9 [(0, 4, 0), (1, 10, 7), (2, 10, 49), (3, 10, 7), (4, 10, 7), (5, 10, 7), (6, 10, 7), (7, 10, 56), (8, 13, 8), (9, 10, 7)] [(0, 2, 1), (0, 3, 2), (0, 4, 3), (0, 5, 4), (0, 6, 5), (0, 7, 6), (0, 8, 7), (0, 9, 8)] := P16.new
  show AW l G mX5_init d 10 162 _ 73 [vR a] [vR (a + 9), vR a] 9 155 (hnew H16 10 7)
  generalize hnew H16 10 7 = H17 at P17 ⊢
  have c17 : (H17.1 : Int) = a + 9 := P17.1
  clear P16 c16
  refine a_putRF dX5_init_73 fq_RX5_37 rfl rfl (P17.kd (List.Mem.head _)) ?_
  have P18 : PL H (hs H17 a 10 (a + 9)) a 9 [(0, 4, 0), (1, 10, 7), (2, 10, 49), (3, 10, 7), (4, 10, 7), (5, 10, 7), (6, 10, 7), (7, 10, 56), (8, 13, 8), (9, 10, 7)] [(0, 2, 1), (0, 3, 2), (0, 4, 3), (0, 5, 4), (0, 6, 5), (0, 7, 6), (0, 8, 7), (0, 9, 8), (0, 10, 9)] := P17.put (by decide) (by decide)
  show AW l G mX5_init d 10 162 _ 76 [vR a] [] 9 155 (hs H17 a 10 (a + 9))
  generalize hs H17 a 10 (a + 9) = H18 at P18 ⊢
  have c18 : (H18.1 : Int) = a + 9 := P18.1
  clear P17 c17
  refine a_aload_n dX5_init_76 rfl rfl ?_
  refine a_bipush dX5_init_77 (by decide) ?_
  refine a_newaI (j := 0) (n := 7) dX5_init_79 rfl (w_mem 67 (by decide +kernel) (by decide +kernel)) (fun _ => rfl) (by decide) rfl (fun _ _ h => h) (by decide) (by decide) (by decide) (by decide) (AW.st1 (y := a + 10) (by omega) ?_)
  have P19 : PL H (hnew H18 10 7) a 10 [(0, 4, 0), (1, 10, 7), (2, 10, 49), (3, 10, 7), (4, 10, 7), (5, 10, 7), (6, 10, 7), (7, 10, 56), (8, 13, 8), (9, 10, 7), (10, 10, 7)] [(0, 2, 1), (0, 3, 2), (0, 4, 3), (0, 5, 4), (0, 6, 5), (0, 7, 6), (0, 8, 7), (0, 9, 8), (0, 10, 9)] := P18.new
  show AW l G mX5_init d 10 162 _ 81 [vR a] [vR (a + 10), vR a] 10 162 (hnew H18 10 7)
  generalize hnew H18 10 7 = H19 at P19 ⊢
  have c19 : (H19.1 : Int) = a + 10 := P19.1
  clear P18 c18
  refine a_putRF dX5_init_81 fq_RX5_40 rfl rfl (P19.kd (List.Mem.head _)) ?_
  have P20 : PL H (hs H19 a 11 (a + 10)) a 10 [(0, 4, 0), (1, 10, 7), (2, 10, 49), (3, 10, 7), (4, 10, 7), (5, 10, 7), (6, 10, 7), (7, 10, 56), (8, 13, 8), (9, 10, 7), (10, 10, 7)] [(0, 2, 1), (0, 3, 2), (0, 4, 3), (0, 5, 4), (0, 6, 5), (0, 7, 6), (0, 8, 7), (0, 9, 8), (0, 10, 9), (0, 11, 10)] := P19.put (by decide) (by decide)
  show AW l G mX5_init d 10 162 _ 84 [vR a] [] 10 162 (hs H19 a 11 (a + 10))
  generalize hs H19 a 11 (a + 10) = H20 at P20 ⊢
  have c20 : (H20.1 : Int) = a + 10 := P20.1
  clear P19 c19
  exact a_vret dX5_init_84 rfl (Nat.le_of_ble_eq_true rfl) (Nat.le_of_ble_eq_true rfl) ⟨rfl, P20⟩
