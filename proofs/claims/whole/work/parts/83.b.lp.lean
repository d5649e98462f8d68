/-! the law: its loop, its start -/
theorem dL_law_0 : decode code 0 = .ok (.new 8, 3) := by decide +kernel
theorem dL_law_3 : decode code 3 = .ok (.dup, 1) := by decide +kernel
theorem dL_law_4 : decode code 4 = .ok (.invokespecial 144, 3) := by decide +kernel
theorem dL_law_7 : decode code 7 = .ok (.astore_n 1, 1) := by decide +kernel
theorem dL_law_8 : decode code 8 = .ok (.new 145, 3) := by decide +kernel
theorem dL_law_11 : decode code 11 = .ok (.dup, 1) := by decide +kernel
theorem dL_law_12 : decode code 12 = .ok (.invokespecial 147, 3) := by decide +kernel
theorem dL_law_15 : decode code 15 = .ok (.astore_n 2, 1) := by decide +kernel
theorem dL_law_16 : decode code 16 = .ok (.iconst 1, 1) := by decide +kernel
theorem dL_law_17 : decode code 17 = .ok (.newarray .long, 2) := by decide +kernel
theorem dL_law_19 : decode code 19 = .ok (.astore_n 3, 1) := by decide +kernel
theorem dL_law_20 : decode code 20 = .ok (.iconst 1, 1) := by decide +kernel
theorem dL_law_21 : decode code 21 = .ok (.newarray .double, 2) := by decide +kernel
theorem dL_law_23 : decode code 23 = .ok (.astore 4, 2) := by decide +kernel
theorem dL_law_25 : decode code 25 = .ok (.iconst 0, 1) := by decide +kernel
theorem dL_law_26 : decode code 26 = .ok (.istore 5, 2) := by decide +kernel
theorem dL_law_28 : decode code 28 = .ok (.iload 5, 2) := by decide +kernel
theorem dL_law_30 : decode code 30 = .ok (.aload_n 0, 1) := by decide +kernel
theorem dL_law_31 : decode code 31 = .ok (.arraylength, 1) := by decide +kernel
theorem dL_law_32 : decode code 32 = .ok (.iconst 5, 1) := by decide +kernel
theorem dL_law_33 : decode code 33 = .ok (.isub, 1) := by decide +kernel
theorem dL_law_34 : decode code 34 = .ok (.if_icmp .gt 3011, 3) := by decide +kernel
theorem dL_law_37 : decode code 37 = .ok (.aload_n 0, 1) := by decide +kernel
theorem dL_law_38 : decode code 38 = .ok (.iload 5, 2) := by decide +kernel
theorem dL_law_40 : decode code 40 = .ok (.iaload, 1) := by decide +kernel
theorem dL_law_41 : decode code 41 = .ok (.bipush 63, 2) := by decide +kernel
theorem dL_law_43 : decode code 43 = .ok (.iand, 1) := by decide +kernel
theorem dL_law_44 : decode code 44 = .ok (.tableswitch 2995 0 57 #[248, 304, 317, 330, 343, 356, 369, 437, 500, 556, 612, 668, 724, 792, 860, 873, 886, 942, 955, 1011, 1091, 1147, 1215, 1271, 1327, 1383, 1439, 1495, 1551, 1619, 1675, 1738, 1816, 1830, 1885, 1940, 1983, 1996, 2052, 2108, 2164, 2220, 2233, 2289, 2302, 2327, 2383, 2396, 2451, 2464, 2531, 2587, 2600, 2655, 2711, 2791, 2883, 2939], 248) := by decide +kernel
theorem dL_law_3039 : decode code 3039 = .ok (.iinc 5 5, 3) := by decide +kernel
theorem dL_law_3042 : decode code 3042 = .ok (.goto (-3014), 3) := by decide +kernel
theorem dL_law_3045 : decode code 3045 = .ok (.iconst 1, 1) := by decide +kernel
theorem dL_law_3046 : decode code 3046 = .ok (.ireturn, 1) := by decide +kernel
theorem w_all {l : Launch} {G : GT} {b L : Nat} {xs : Nat → Int32} {x a o v u q i : Int} {cs sl : Nat} {H : AH} (C : LC l G b L xs x a o v u q i cs sl) (h : LI H x a o v u q) {j : Int} (hj : 0 ≤ j) : LA l G b x a o v i 44 vU vU vU vU [vI j] cs sl H := by
  obtain ⟨M, B, n, er, T, S, Y, W0, h3, hS⟩ := id h
  by_cases h0 : j = 0
  · subst h0
    exact a_tabIn dL_law_44 (off := 248) (tgt := 292) (by decide) (by decide) (by decide) (by decide) (w_law_0 C W0 h3 hS)
  have hj : 1 ≤ j := by omega
  clear h0
  by_cases h1 : j = 1
  · subst h1
    exact a_tabIn dL_law_44 (off := 304) (tgt := 348) (by decide) (by decide) (by decide) (by decide) (w_law_1 C W0 h3 hS)
  have hj : 2 ≤ j := by omega
  clear h1
  by_cases h2 : j = 2
  · subst h2
    exact a_tabIn dL_law_44 (off := 317) (tgt := 361) (by decide) (by decide) (by decide) (by decide) (w_law_2 C W0 h3 hS)
  have hj : 3 ≤ j := by omega
  clear h2
  by_cases h3 : j = 3
  · subst h3
    exact a_tabIn dL_law_44 (off := 330) (tgt := 374) (by decide) (by decide) (by decide) (by decide) (w_law_3 C W0 h3 hS)
  have hj : 4 ≤ j := by omega
  clear h3
  by_cases h4 : j = 4
  · subst h4
    exact a_tabIn dL_law_44 (off := 343) (tgt := 387) (by decide) (by decide) (by decide) (by decide) (w_law_4 C W0 h3 hS)
  have hj : 5 ≤ j := by omega
  clear h4
  by_cases h5 : j = 5
  · subst h5
    exact a_tabIn dL_law_44 (off := 356) (tgt := 400) (by decide) (by decide) (by decide) (by decide) (w_law_5 C W0 h3 hS)
  have hj : 6 ≤ j := by omega
  clear h5
  by_cases h6 : j = 6
  · subst h6
    exact a_tabIn dL_law_44 (off := 369) (tgt := 413) (by decide) (by decide) (by decide) (by decide) (w_law_6 C W0 h3 hS)
  have hj : 7 ≤ j := by omega
  clear h6
  by_cases h7 : j = 7
  · subst h7
    exact a_tabIn dL_law_44 (off := 437) (tgt := 481) (by decide) (by decide) (by decide) (by decide) (w_law_7 C W0 h3 hS)
  have hj : 8 ≤ j := by omega
  clear h7
  by_cases h8 : j = 8
  · subst h8
    exact a_tabIn dL_law_44 (off := 500) (tgt := 544) (by decide) (by decide) (by decide) (by decide) (w_law_8 C W0 h3 hS)
  have hj : 9 ≤ j := by omega
  clear h8
  by_cases h9 : j = 9
  · subst h9
    exact a_tabIn dL_law_44 (off := 556) (tgt := 600) (by decide) (by decide) (by decide) (by decide) (w_law_9 C W0 h3 hS)
  have hj : 10 ≤ j := by omega
  clear h9
  by_cases h10 : j = 10
  · subst h10
    exact a_tabIn dL_law_44 (off := 612) (tgt := 656) (by decide) (by decide) (by decide) (by decide) (w_law_10 C W0 h3 hS)
  have hj : 11 ≤ j := by omega
  clear h10
  by_cases h11 : j = 11
  · subst h11
    exact a_tabIn dL_law_44 (off := 668) (tgt := 712) (by decide) (by decide) (by decide) (by decide) (w_law_11 C W0 h3 hS)
  have hj : 12 ≤ j := by omega
  clear h11
  by_cases h12 : j = 12
  · subst h12
    exact a_tabIn dL_law_44 (off := 724) (tgt := 768) (by decide) (by decide) (by decide) (by decide) (w_law_12 C W0 h3 hS)
  have hj : 13 ≤ j := by omega
  clear h12
  by_cases h13 : j = 13
  · subst h13
    exact a_tabIn dL_law_44 (off := 792) (tgt := 836) (by decide) (by decide) (by decide) (by decide) (w_law_13 C W0 h3 hS)
  have hj : 14 ≤ j := by omega
  clear h13
  by_cases h14 : j = 14
  · subst h14
    exact a_tabIn dL_law_44 (off := 860) (tgt := 904) (by decide) (by decide) (by decide) (by decide) (w_law_14 C W0 h3 hS)
  have hj : 15 ≤ j := by omega
  clear h14
  by_cases h15 : j = 15
  · subst h15
    exact a_tabIn dL_law_44 (off := 873) (tgt := 917) (by decide) (by decide) (by decide) (by decide) (w_law_15 C W0 h3 hS)
  have hj : 16 ≤ j := by omega
  clear h15
  by_cases h16 : j = 16
  · subst h16
    exact a_tabIn dL_law_44 (off := 886) (tgt := 930) (by decide) (by decide) (by decide) (by decide) (w_law_16 C W0 h3 hS)
  have hj : 17 ≤ j := by omega
  clear h16
  by_cases h17 : j = 17
  · subst h17
    exact a_tabIn dL_law_44 (off := 942) (tgt := 986) (by decide) (by decide) (by decide) (by decide) (w_law_17 C W0 h3 hS)
  have hj : 18 ≤ j := by omega
  clear h17
  by_cases h18 : j = 18
  · subst h18
    exact a_tabIn dL_law_44 (off := 955) (tgt := 999) (by decide) (by decide) (by decide) (by decide) (w_law_18 C W0 h3 hS)
  have hj : 19 ≤ j := by omega
  clear h18
  by_cases h19 : j = 19
  · subst h19
    exact a_tabIn dL_law_44 (off := 1011) (tgt := 1055) (by decide) (by decide) (by decide) (by decide) (w_law_19 C W0 h3 hS)
  have hj : 20 ≤ j := by omega
  clear h19
  by_cases h20 : j = 20
  · subst h20
    exact a_tabIn dL_law_44 (off := 1091) (tgt := 1135) (by decide) (by decide) (by decide) (by decide) (w_law_20 C W0 h3 hS)
  have hj : 21 ≤ j := by omega
  clear h20
  by_cases h21 : j = 21
  · subst h21
    exact a_tabIn dL_law_44 (off := 1147) (tgt := 1191) (by decide) (by decide) (by decide) (by decide) (w_law_21 C W0 h3 hS)
  have hj : 22 ≤ j := by omega
  clear h21
  by_cases h22 : j = 22
  · subst h22
    exact a_tabIn dL_law_44 (off := 1215) (tgt := 1259) (by decide) (by decide) (by decide) (by decide) (w_law_22 C W0 h3 hS)
  have hj : 23 ≤ j := by omega
  clear h22
  by_cases h23 : j = 23
  · subst h23
    exact a_tabIn dL_law_44 (off := 1271) (tgt := 1315) (by decide) (by decide) (by decide) (by decide) (w_law_23 C W0 h3 hS)
  have hj : 24 ≤ j := by omega
  clear h23
  by_cases h24 : j = 24
  · subst h24
    exact a_tabIn dL_law_44 (off := 1327) (tgt := 1371) (by decide) (by decide) (by decide) (by decide) (w_law_24 C W0 h3 hS)
  have hj : 25 ≤ j := by omega
  clear h24
  by_cases h25 : j = 25
  · subst h25
    exact a_tabIn dL_law_44 (off := 1383) (tgt := 1427) (by decide) (by decide) (by decide) (by decide) (w_law_25 C W0 h3 hS)
  have hj : 26 ≤ j := by omega
  clear h25
  by_cases h26 : j = 26
  · subst h26
    exact a_tabIn dL_law_44 (off := 1439) (tgt := 1483) (by decide) (by decide) (by decide) (by decide) (w_law_26 C W0 h3 hS)
  have hj : 27 ≤ j := by omega
  clear h26
  by_cases h27 : j = 27
  · subst h27
    exact a_tabIn dL_law_44 (off := 1495) (tgt := 1539) (by decide) (by decide) (by decide) (by decide) (w_law_27 C W0 h3 hS)
  have hj : 28 ≤ j := by omega
  clear h27
  by_cases h28 : j = 28
  · subst h28
    exact a_tabIn dL_law_44 (off := 1551) (tgt := 1595) (by decide) (by decide) (by decide) (by decide) (w_law_28 C W0 h3 hS)
  have hj : 29 ≤ j := by omega
  clear h28
  by_cases h29 : j = 29
  · subst h29
    exact a_tabIn dL_law_44 (off := 1619) (tgt := 1663) (by decide) (by decide) (by decide) (by decide) (w_law_29 C W0 h3 hS)
  have hj : 30 ≤ j := by omega
  clear h29
  by_cases h30 : j = 30
  · subst h30
    exact a_tabIn dL_law_44 (off := 1675) (tgt := 1719) (by decide) (by decide) (by decide) (by decide) (w_law_30 C W0 h3 hS)
  have hj : 31 ≤ j := by omega
  clear h30
  by_cases h31 : j = 31
  · subst h31
    exact a_tabIn dL_law_44 (off := 1738) (tgt := 1782) (by decide) (by decide) (by decide) (by decide) (w_law_31 C W0 h3 hS)
  have hj : 32 ≤ j := by omega
  clear h31
  by_cases h32 : j = 32
  · subst h32
    exact a_tabIn dL_law_44 (off := 1816) (tgt := 1860) (by decide) (by decide) (by decide) (by decide) (w_law_32 C W0 h3 hS)
  have hj : 33 ≤ j := by omega
  clear h32
  by_cases h33 : j = 33
  · subst h33
    exact a_tabIn dL_law_44 (off := 1830) (tgt := 1874) (by decide) (by decide) (by decide) (by decide) (w_law_33 C W0 h3 hS)
  have hj : 34 ≤ j := by omega
  clear h33
  by_cases h34 : j = 34
  · subst h34
    exact a_tabIn dL_law_44 (off := 1885) (tgt := 1929) (by decide) (by decide) (by decide) (by decide) (w_law_34 C W0 h3 hS)
  have hj : 35 ≤ j := by omega
  clear h34
  by_cases h35 : j = 35
  · subst h35
    exact a_tabIn dL_law_44 (off := 1940) (tgt := 1984) (by decide) (by decide) (by decide) (by decide) (w_law_35 C W0 h3 hS)
  have hj : 36 ≤ j := by omega
  clear h35
  by_cases h36 : j = 36
  · subst h36
    exact a_tabIn dL_law_44 (off := 1983) (tgt := 2027) (by decide) (by decide) (by decide) (by decide) (w_law_36 C W0 h3 hS)
  have hj : 37 ≤ j := by omega
  clear h36
  by_cases h37 : j = 37
  · subst h37
    exact a_tabIn dL_law_44 (off := 1996) (tgt := 2040) (by decide) (by decide) (by decide) (by decide) (w_law_37 C W0 h3 hS)
  have hj : 38 ≤ j := by omega
  clear h37
  by_cases h38 : j = 38
  · subst h38
    exact a_tabIn dL_law_44 (off := 2052) (tgt := 2096) (by decide) (by decide) (by decide) (by decide) (w_law_38 C W0 h3 hS)
  have hj : 39 ≤ j := by omega
  clear h38
  by_cases h39 : j = 39
  · subst h39
    exact a_tabIn dL_law_44 (off := 2108) (tgt := 2152) (by decide) (by decide) (by decide) (by decide) (w_law_39 C W0 h3 hS)
  have hj : 40 ≤ j := by omega
  clear h39
  by_cases h40 : j = 40
  · subst h40
    exact a_tabIn dL_law_44 (off := 2164) (tgt := 2208) (by decide) (by decide) (by decide) (by decide) (w_law_40 C W0 h3 hS)
  have hj : 41 ≤ j := by omega
  clear h40
  by_cases h41 : j = 41
  · subst h41
    exact a_tabIn dL_law_44 (off := 2220) (tgt := 2264) (by decide) (by decide) (by decide) (by decide) (w_law_41 C W0 h3 hS)
  have hj : 42 ≤ j := by omega
  clear h41
  by_cases h42 : j = 42
  · subst h42
    exact a_tabIn dL_law_44 (off := 2233) (tgt := 2277) (by decide) (by decide) (by decide) (by decide) (w_law_42 C W0 h3 hS)
  have hj : 43 ≤ j := by omega
  clear h42
  by_cases h43 : j = 43
  · subst h43
    exact a_tabIn dL_law_44 (off := 2289) (tgt := 2333) (by decide) (by decide) (by decide) (by decide) (w_law_43 C W0 h3 hS)
  have hj : 44 ≤ j := by omega
  clear h43
  by_cases h44 : j = 44
  · subst h44
    exact a_tabIn dL_law_44 (off := 2302) (tgt := 2346) (by decide) (by decide) (by decide) (by decide) (w_law_44 C W0 h3 hS)
  have hj : 45 ≤ j := by omega
  clear h44
  by_cases h45 : j = 45
  · subst h45
    exact a_tabIn dL_law_44 (off := 2327) (tgt := 2371) (by decide) (by decide) (by decide) (by decide) (w_law_45 C W0 h3 hS)
  have hj : 46 ≤ j := by omega
  clear h45
  by_cases h46 : j = 46
  · subst h46
    exact a_tabIn dL_law_44 (off := 2383) (tgt := 2427) (by decide) (by decide) (by decide) (by decide) (w_law_46 C W0 h3 hS)
  have hj : 47 ≤ j := by omega
  clear h46
  by_cases h47 : j = 47
  · subst h47
    exact a_tabIn dL_law_44 (off := 2396) (tgt := 2440) (by decide) (by decide) (by decide) (by decide) (w_law_47 C W0 h3 hS)
  have hj : 48 ≤ j := by omega
  clear h47
  by_cases h48 : j = 48
  · subst h48
    exact a_tabIn dL_law_44 (off := 2451) (tgt := 2495) (by decide) (by decide) (by decide) (by decide) (w_law_48 C W0 h3 hS)
  have hj : 49 ≤ j := by omega
  clear h48
  by_cases h49 : j = 49
  · subst h49
    exact a_tabIn dL_law_44 (off := 2464) (tgt := 2508) (by decide) (by decide) (by decide) (by decide) (w_law_49 C W0 h3 hS)
  have hj : 50 ≤ j := by omega
  clear h49
  by_cases h50 : j = 50
  · subst h50
    exact a_tabIn dL_law_44 (off := 2531) (tgt := 2575) (by decide) (by decide) (by decide) (by decide) (w_law_50 C W0 h3 hS)
  have hj : 51 ≤ j := by omega
  clear h50
  by_cases h51 : j = 51
  · subst h51
    exact a_tabIn dL_law_44 (off := 2587) (tgt := 2631) (by decide) (by decide) (by decide) (by decide) (w_law_51 C W0 h3 hS)
  have hj : 52 ≤ j := by omega
  clear h51
  by_cases h52 : j = 52
  · subst h52
    exact a_tabIn dL_law_44 (off := 2600) (tgt := 2644) (by decide) (by decide) (by decide) (by decide) (w_law_52 C W0 h3 hS)
  have hj : 53 ≤ j := by omega
  clear h52
  by_cases h53 : j = 53
  · subst h53
    exact a_tabIn dL_law_44 (off := 2655) (tgt := 2699) (by decide) (by decide) (by decide) (by decide) (w_law_53 C W0 h3 hS)
  have hj : 54 ≤ j := by omega
  clear h53
  by_cases h54 : j = 54
  · subst h54
    exact a_tabIn dL_law_44 (off := 2711) (tgt := 2755) (by decide) (by decide) (by decide) (by decide) (w_law_54 C W0 h3 hS)
  have hj : 55 ≤ j := by omega
  clear h54
  by_cases h55 : j = 55
  · subst h55
    exact a_tabIn dL_law_44 (off := 2791) (tgt := 2835) (by decide) (by decide) (by decide) (by decide) (w_law_55 C W0 h3 hS)
  have hj : 56 ≤ j := by omega
  clear h55
  by_cases h56 : j = 56
  · subst h56
    exact a_tabIn dL_law_44 (off := 2883) (tgt := 2927) (by decide) (by decide) (by decide) (by decide) (w_law_56 C W0 h3 hS)
  have hj : 57 ≤ j := by omega
  clear h56
  by_cases h57 : j = 57
  · subst h57
    exact a_tabIn dL_law_44 (off := 2939) (tgt := 2983) (by decide) (by decide) (by decide) (by decide) (w_law_57 C W0 h3 hS)
  have hj : 58 ≤ j := by omega
  clear h57
  exact a_tabOut dL_law_44 (tgt := 3039) (Or.inr (by omega)) (by decide) (C.2.2.2.2.2 H _ _ _ _ _ _ ⟨M, B, n, er, T, S, Y, W0, h3.up (by omega), fun k k1 k2 t => (hS k k1 k2 t).up (by omega)⟩ (by omega) (by omega))
theorem w_loop {l : Launch} {G : GT} {b L : Nat} {xs : Nat → Int32} {x a o v u : Int} (hgg : GX l G ∧ gT G ∧ gN G ∧ gNc G) (hX : gX G b L xs) (hA : AD x a o v u) (hL : L ≤ 2560) : ∀ (n : Nat) (q i : Int) (H : AH) (cs sl : Nat), 0 ≤ q → i = 5 * q → (L : Int) ≤ 5 * (q + n) → q + n ≤ 600 → cs + 30 * n ≤ 601024 → sl + 1000 * n ≤ 7293034 → LI H x a o v u q → LA l G b x a o v i 28 vU vU vU vU [] cs sl H := by
  intro n
  induction n with
  | zero =>
    intro q i H cs sl hq hi hn hn2 hc hs h
    refine a_iload dL_law_28 rfl ?_
    refine a_xload_n dL_law_30 rfl rfl ?_
    refine a_slen hX hL dL_law_31 ?_
    refine a_iconst dL_law_32 ⟨by decide, by decide⟩ ?_
    refine a_isub dL_law_33 (by unfold inI; omega) ?_
    refine a_icmp_gt dL_law_34 (tgt := 3045) rfl (fun _ => ?_) (fun c => absurd c (by omega))
    refine a_iconst dL_law_3045 ⟨by decide, by decide⟩ ?_
    exact a_zret dL_law_3046 rfl (Or.inr rfl) (by omega) (by omega) rfl
  | succ n ih =>
    intro q i H cs sl hq hi hn hn2 hc hs h
    refine a_iload dL_law_28 rfl ?_
    refine a_xload_n dL_law_30 rfl rfl ?_
    refine a_slen hX hL dL_law_31 ?_
    refine a_iconst dL_law_32 ⟨by decide, by decide⟩ ?_
    refine a_isub dL_law_33 (by unfold inI; omega) ?_
    refine a_icmp_gt dL_law_34 (tgt := 3045) rfl (fun _ => ?_) (fun c => ?_)
    · refine a_iconst dL_law_3045 ⟨by decide, by decide⟩ ?_
      exact a_zret dL_law_3046 rfl (Or.inr rfl) (by omega) (by omega) rfl
    refine a_xload_n dL_law_37 rfl rfl ?_
    refine a_iload dL_law_38 rfl ?_
    refine a_sld hX dL_law_40 (by omega) ?_
    refine a_bipush dL_law_41 (by decide) ?_
    refine a_iand63 dL_law_43 ?_
    have k1 : 0 ≤ i := by omega
    have k2 : i + 5 ≤ L := by omega
    have k3 : q ≤ 1000 := by omega
    have k4 : cs + 30 ≤ 601024 := by omega
    have k5 : sl + 1000 ≤ 7293034 := Nat.le_trans (Nat.add_le_add_left (Nat.le_mul_of_pos_right 1000 (Nat.succ_pos n)) sl) hs
    refine w_all (q := q) ⟨hgg, hX, hA, ⟨hL, k1, k2, hq, k3⟩, ⟨k4, k5⟩, ?_⟩ h (Int.emod_nonneg _ (by decide))
    intro H' l6 l7 l8 l9 cs' sl' h' hc' hs'
    refine a_weak (ls' := [vX b, vR x, vR a, vR o, vR v, vI i, vU, vU, vU, vU]) (wk_e (wk_e (wk_e (wk_e (wk_e (wk_e (wk_u (wk_u (wk_u (wk_u wk_n)))))))))) ?_
    refine a_iinc dL_law_3039 rfl (by decide) (by decide) (by unfold inI; omega) rfl ?_
    refine a_goto dL_law_3042 (tgt := 28) rfl ?_
    show LA l G b x a o v (i + 5) 28 vU vU vU vU [] cs' sl' H'
    exact ih (q + 1) (i + 5) H' cs' sl' (by omega) (by omega) (by omega) (by omega) (by omega) (by omega) h'
/-- the empty world -/
def H00 : AH := (0, fun _ => (99, 0), fun _ _ => 0)
set_option maxHeartbeats 1000000 in
theorem w_start {l : Launch} {G : GT} {b L : Nat} {xs : Nat → Int32} (hgg : GX l G ∧ gT G ∧ gN G ∧ gNc G) (hA9 : gA G) (hX : gX G b L xs) (hL : L ≤ 2560) : AW l G mL_law 1000 601024 7293034 (fun r _ => r = vI 1) 0 [vX b, vU, vU, vU, vU, vU, vU, vU, vU, vU] [] 0 0 H00 := by
  obtain ⟨x, hx⟩ : ∃ x : Int, x = 1 := ⟨_, rfl⟩
  obtain ⟨a, ha⟩ : ∃ a : Int, a = x + 67 := ⟨_, rfl⟩
  obtain ⟨o, ho⟩ : ∃ o : Int, o = x + 81 := ⟨_, rfl⟩
  obtain ⟨v, hv⟩ : ∃ v : Int, v = x + 82 := ⟨_, rfl⟩
  have e0 : ((H00.1 : Nat) : Int) = 0 := rfl
  refine a_new dL_law_0 nw_RL_8 (Nat.le_of_ble_eq_true rfl) (Nat.le_of_ble_eq_true rfl) (AW.st1 (y := x) (by omega) ?_)
  show AW l G mL_law 1000 601024 7293034 _ 3 [vX b, vU, vU, vU, vU, vU, vU, vU, vU, vU] [vR x] 1 6 (hnew H00 6 0)
  refine a_dup dL_law_3 rfl ?_
  refine a_callI (d' := 999) dL_law_4 lc_144 (as := []) rfl rfl (by omega) (Nat.le_refl _) (Nat.le_of_ble_eq_true rfl) (nocov rfl) (Nat.le_of_ble_eq_true rfl) (Nat.le_of_ble_eq_true rfl) (CL.mono (i_X7 hgg.2.2.1 hA9 (hk_at (by omega)) (show ((H00.1 + 1 : Nat) : Int) = x by omega) (hz_at (by omega)) (by omega)) ?_)
  rintro r1 H2 ⟨rfl, R2, z1, z5, z66, n2, -⟩
  show AW l G mL_law 1000 601024 7293034 _ 7 [vX b, vU, vU, vU, vU, vU, vU, vU, vU, vU] [vR x] 67 2456 H2
  refine a_astore_n dL_law_7 rfl (by decide) rfl ?_
  show AW l G mL_law 1000 601024 7293034 _ 8 [vX b, vR x, vU, vU, vU, vU, vU, vU, vU, vU] [] 67 2456 H2
  refine a_new dL_law_8 nw_RL_145 (Nat.le_of_ble_eq_true rfl) (Nat.le_of_ble_eq_true rfl) (AW.st1 (y := a) (by omega) ?_)
  show AW l G mL_law 1000 601024 7293034 _ 11 [vX b, vR x, vU, vU, vU, vU, vU, vU, vU, vU] [vR a] 68 2482 (hnew H2 7 0)
  refine a_dup dL_law_11 rfl ?_
  refine a_callI (d' := 999) dL_law_12 lc_147 (as := []) rfl rfl (by omega) (Nat.le_refl _) (Nat.le_of_ble_eq_true rfl) (nocov rfl) (Nat.le_of_ble_eq_true rfl) (Nat.le_of_ble_eq_true rfl) (CL.mono (i_X8w (hk_at (by omega)) (show ((H2.1 + 1 : Nat) : Int) = a by omega) (hz_at (by omega)) (by omega)) ?_)
  rintro r2 H4 ⟨rfl, W4, ⟨y7, y12, y5⟩, n4, lo4⟩
  show AW l G mL_law 1000 601024 7293034 _ 15 [vX b, vR x, vU, vU, vU, vU, vU, vU, vU, vU] [vR a] 81 5827 H4
  refine a_astore_n dL_law_15 rfl (by decide) rfl ?_
  show AW l G mL_law 1000 601024 7293034 _ 16 [vX b, vR x, vR a, vU, vU, vU, vU, vU, vU, vU] [] 81 5827 H4
  refine a_iconst dL_law_16 ⟨by decide, by decide⟩ ?_
  refine a_newaJ (n := 1) dL_law_17 (w_mem 128 (by decide +kernel) (by decide +kernel)) (by decide) (by decide) (Nat.le_of_ble_eq_true rfl) (Nat.le_of_ble_eq_true rfl) (AW.st1 (y := o) (by omega) ?_)
  show AW l G mL_law 1000 601024 7293034 _ 19 [vX b, vR x, vR a, vU, vU, vU, vU, vU, vU, vU] [vR o] 82 5828 (hnew H4 13 1)
  refine a_astore_n dL_law_19 rfl (by decide) rfl ?_
  show AW l G mL_law 1000 601024 7293034 _ 20 [vX b, vR x, vR a, vR o, vU, vU, vU, vU, vU, vU] [] 82 5828 (hnew H4 13 1)
  refine a_iconst dL_law_20 ⟨by decide, by decide⟩ ?_
  refine a_newaD (n := 1) dL_law_21 (w_mem 1815 (by decide +kernel) (by decide +kernel)) (by decide) (by decide) (Nat.le_of_ble_eq_true rfl) (Nat.le_of_ble_eq_true rfl) (AW.st1 (y := v) (show (((H4.1 + 1 : Nat)) : Int) + 1 = v by omega) ?_)
  show AW l G mL_law 1000 601024 7293034 _ 23 [vX b, vR x, vR a, vR o, vU, vU, vU, vU, vU, vU] [vR v] 83 5829 (hnew (hnew H4 13 1) 14 1)
  refine a_astore dL_law_23 (by decide) rfl ?_
  show AW l G mL_law 1000 601024 7293034 _ 25 [vX b, vR x, vR a, vR o, vR v, vU, vU, vU, vU, vU] [] 83 5829 (hnew (hnew H4 13 1) 14 1)
  refine a_iconst dL_law_25 ⟨by decide, by decide⟩ ?_
  refine a_istore dL_law_26 (by decide) rfl ?_
  show LA l G b x a o v 0 28 vU vU vU vU [] 83 5829 (hnew (hnew H4 13 1) 14 1)
  have hA : AD x a o v (x + 83) := ⟨by omega, ha, ho, hv, rfl⟩
  have n5 : (((H4.1 + 1 : Nat)) : Int) = a + 14 := by omega
  have st : ∀ b9, b9 ≤ a + 13 → (hnew (hnew H4 13 1) 14 1).2.1 b9 = H4.2.1 b9 ∧ ∀ j, hg (hnew (hnew H4 13 1) 14 1) b9 j = hg H4 b9 j := fun b9 h9 => by
    have q1 : ¬ b9 = ((hnew H4 13 1).1 : Int) + 1 := by show ¬ b9 = (((H4.1 + 1 : Nat)) : Int) + 1; omega
    have q2 : ¬ b9 = (H4.1 : Int) + 1 := by omega
    exact ⟨by rw [hk_new, if_neg q1, hk_new, if_neg q2], fun j => by rw [hg_new, if_neg q1, hg_new, if_neg q2]⟩
  have e4 : agr H2 (hnew (hnew H4 13 1) 14 1) x (x + 66) := fun b9 b1 b2 => by
    have q1 := st b9 (by omega)
    have q2 := lo4 b9 (by omega)
    have q3 : ¬ b9 = (H2.1 : Int) + 1 := by omega
    exact ⟨by rw [q1.1, q2.1, hk_new, if_neg q3], fun j => by rw [q1.2 j, q2.2 j, hg_new, if_neg q3]⟩
  have e5 : agr H4 (hnew (hnew H4 13 1) 14 1) a (a + 13) := fun b9 b1 b2 => st b9 b2
  refine w_loop hgg hX hA hL 513 0 0 _ 83 5829 (by omega) (by omega) (by omega) (by omega) (by omega) (by omega) ⟨begM 1, fun _ => 0, 0, 0, fun _ => false, fun _ => begM 1, fun _ => 0, ⟨⟨R2.agr (e4.sub (by omega) (by omega)) (e4.k (by omega) (by omega)), ⟨(e4.g 1 (by omega) (by omega)).trans z1, by omega, fun j j1 j2 => by omega⟩, (e4.g 5 (by omega) (by omega)).trans z5⟩, ⟨W4.agr e5, (e5.g 7 (by omega) (by omega)).trans y7, fun j j1 j2 => by omega, (e5.g 12 (by omega) (by omega)).trans y12⟩, ⟨fun k k1 k2 => ⟨fun _ => (e4.g k (by omega) (by omega)).trans (z66 k), fun w => absurd (show false = true from w) (by decide)⟩, fun w => absurd (show false = true from w) (by decide)⟩, fun k k1 k2 => ⟨(e5.g k (by omega) (by omega)).trans (y5 k), fun w => absurd (show false = true from w) (by decide)⟩, ?_, ?_, ?_⟩, ok3_beg, fun k k1 k2 w => absurd (show false = true from w) (by decide)⟩
  · rw [hk_new, if_neg (show ¬ o = ((hnew H4 13 1).1 : Int) + 1 by show ¬ o = (((H4.1 + 1 : Nat)) : Int) + 1; omega), hk_new, if_pos (by omega)]
  · rw [hk_new, if_pos (show v = ((hnew H4 13 1).1 : Int) + 1 by show v = (((H4.1 + 1 : Nat)) : Int) + 1; omega)]
  · show x + 83 ≤ ((H4.1 + 1 + 1 : Nat) : Int) + 1
    omega
