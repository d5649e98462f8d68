/-! the law: reading, and times -/
theorem dL_law_292 : decode code 292 = .ok (.aload_n 1, 1) := by decide +kernel
theorem dL_law_293 : decode code 293 = .ok (.aload_n 0, 1) := by decide +kernel
theorem dL_law_294 : decode code 294 = .ok (.iload 5, 2) := by decide +kernel
theorem dL_law_296 : decode code 296 = .ok (.iconst 1, 1) := by decide +kernel
theorem dL_law_297 : decode code 297 = .ok (.iadd, 1) := by decide +kernel
theorem dL_law_298 : decode code 298 = .ok (.iaload, 1) := by decide +kernel
theorem dL_law_299 : decode code 299 = .ok (.aload_n 3, 1) := by decide +kernel
theorem dL_law_300 : decode code 300 = .ok (.invokestatic 148, 3) := by decide +kernel
theorem dL_law_303 : decode code 303 = .ok (.istore 6, 2) := by decide +kernel
theorem dL_law_305 : decode code 305 = .ok (.aload_n 2, 1) := by decide +kernel
theorem dL_law_306 : decode code 306 = .ok (.aload_n 0, 1) := by decide +kernel
theorem dL_law_307 : decode code 307 = .ok (.iload 5, 2) := by decide +kernel
theorem dL_law_309 : decode code 309 = .ok (.iconst 1, 1) := by decide +kernel
theorem dL_law_310 : decode code 310 = .ok (.iadd, 1) := by decide +kernel
theorem dL_law_311 : decode code 311 = .ok (.iaload, 1) := by decide +kernel
theorem dL_law_312 : decode code 312 = .ok (.invokevirtual 153, 3) := by decide +kernel
theorem dL_law_315 : decode code 315 = .ok (.istore 7, 2) := by decide +kernel
theorem dL_law_317 : decode code 317 = .ok (.aload_n 2, 1) := by decide +kernel
theorem dL_law_318 : decode code 318 = .ok (.invokevirtual 154, 3) := by decide +kernel
theorem dL_law_321 : decode code 321 = .ok (.iload 6, 2) := by decide +kernel
theorem dL_law_323 : decode code 323 = .ok (.if_icmp .eq 5, 3) := by decide +kernel
theorem dL_law_328 : decode code 328 = .ok (.iload 6, 2) := by decide +kernel
theorem dL_law_330 : decode code 330 = .ok (.ifCond .ne 15, 3) := by decide +kernel
theorem dL_law_333 : decode code 333 = .ok (.aload_n 3, 1) := by decide +kernel
theorem dL_law_334 : decode code 334 = .ok (.iconst 0, 1) := by decide +kernel
theorem dL_law_335 : decode code 335 = .ok (.laload, 1) := by decide +kernel
theorem dL_law_336 : decode code 336 = .ok (.iload 7, 2) := by decide +kernel
theorem dL_law_338 : decode code 338 = .ok (.i2l, 1) := by decide +kernel
theorem dL_law_339 : decode code 339 = .ok (.lcmp, 1) := by decide +kernel
theorem dL_law_340 : decode code 340 = .ok (.ifCond .eq 5, 3) := by decide +kernel
theorem dL_law_345 : decode code 345 = .ok (.goto 2694, 3) := by decide +kernel
theorem dL_law_348 : decode code 348 = .ok (.aload_n 1, 1) := by decide +kernel
theorem dL_law_349 : decode code 349 = .ok (.invokevirtual 158, 3) := by decide +kernel
theorem dL_law_352 : decode code 352 = .ok (.aload_n 2, 1) := by decide +kernel
theorem dL_law_353 : decode code 353 = .ok (.invokevirtual 161, 3) := by decide +kernel
theorem dL_law_356 : decode code 356 = .ok (.if_icmp .eq 2683, 3) := by decide +kernel
theorem dL_law_361 : decode code 361 = .ok (.aload_n 1, 1) := by decide +kernel
theorem dL_law_362 : decode code 362 = .ok (.invokevirtual 162, 3) := by decide +kernel
theorem dL_law_365 : decode code 365 = .ok (.aload_n 2, 1) := by decide +kernel
theorem dL_law_366 : decode code 366 = .ok (.invokevirtual 165, 3) := by decide +kernel
theorem dL_law_369 : decode code 369 = .ok (.if_icmp .eq 2670, 3) := by decide +kernel
theorem dL_law_374 : decode code 374 = .ok (.aload_n 1, 1) := by decide +kernel
theorem dL_law_375 : decode code 375 = .ok (.invokevirtual 166, 3) := by decide +kernel
theorem dL_law_378 : decode code 378 = .ok (.aload_n 2, 1) := by decide +kernel
theorem dL_law_379 : decode code 379 = .ok (.invokevirtual 169, 3) := by decide +kernel
theorem dL_law_382 : decode code 382 = .ok (.if_icmp .eq 2657, 3) := by decide +kernel
theorem dL_law_2755 : decode code 2755 = .ok (.aload_n 1, 1) := by decide +kernel
theorem dL_law_2756 : decode code 2756 = .ok (.aload_n 0, 1) := by decide +kernel
theorem dL_law_2757 : decode code 2757 = .ok (.iload 5, 2) := by decide +kernel
theorem dL_law_2759 : decode code 2759 = .ok (.iconst 1, 1) := by decide +kernel
theorem dL_law_2760 : decode code 2760 = .ok (.iadd, 1) := by decide +kernel
theorem dL_law_2761 : decode code 2761 = .ok (.iaload, 1) := by decide +kernel
theorem dL_law_2762 : decode code 2762 = .ok (.aload_n 0, 1) := by decide +kernel
theorem dL_law_2763 : decode code 2763 = .ok (.iload 5, 2) := by decide +kernel
theorem dL_law_2765 : decode code 2765 = .ok (.iconst 2, 1) := by decide +kernel
theorem dL_law_2766 : decode code 2766 = .ok (.iadd, 1) := by decide +kernel
theorem dL_law_2767 : decode code 2767 = .ok (.iaload, 1) := by decide +kernel
theorem dL_law_2768 : decode code 2768 = .ok (.aload_n 0, 1) := by decide +kernel
theorem dL_law_2769 : decode code 2769 = .ok (.iload 5, 2) := by decide +kernel
theorem dL_law_2771 : decode code 2771 = .ok (.iconst 3, 1) := by decide +kernel
theorem dL_law_2772 : decode code 2772 = .ok (.iadd, 1) := by decide +kernel
theorem dL_law_2773 : decode code 2773 = .ok (.iaload, 1) := by decide +kernel
theorem dL_law_2774 : decode code 2774 = .ok (.aload_n 3, 1) := by decide +kernel
theorem dL_law_2775 : decode code 2775 = .ok (.invokestatic 340, 3) := by decide +kernel
theorem dL_law_2778 : decode code 2778 = .ok (.istore 6, 2) := by decide +kernel
theorem dL_law_2780 : decode code 2780 = .ok (.aload_n 2, 1) := by decide +kernel
theorem dL_law_2781 : decode code 2781 = .ok (.aload_n 0, 1) := by decide +kernel
theorem dL_law_2782 : decode code 2782 = .ok (.iload 5, 2) := by decide +kernel
theorem dL_law_2784 : decode code 2784 = .ok (.iconst 1, 1) := by decide +kernel
theorem dL_law_2785 : decode code 2785 = .ok (.iadd, 1) := by decide +kernel
theorem dL_law_2786 : decode code 2786 = .ok (.iaload, 1) := by decide +kernel
theorem dL_law_2787 : decode code 2787 = .ok (.aload_n 0, 1) := by decide +kernel
theorem dL_law_2788 : decode code 2788 = .ok (.iload 5, 2) := by decide +kernel
theorem dL_law_2790 : decode code 2790 = .ok (.iconst 2, 1) := by decide +kernel
theorem dL_law_2791 : decode code 2791 = .ok (.iadd, 1) := by decide +kernel
theorem dL_law_2792 : decode code 2792 = .ok (.iaload, 1) := by decide +kernel
theorem dL_law_2793 : decode code 2793 = .ok (.aload_n 0, 1) := by decide +kernel
theorem dL_law_2794 : decode code 2794 = .ok (.iload 5, 2) := by decide +kernel
theorem dL_law_2796 : decode code 2796 = .ok (.iconst 3, 1) := by decide +kernel
theorem dL_law_2797 : decode code 2797 = .ok (.iadd, 1) := by decide +kernel
theorem dL_law_2798 : decode code 2798 = .ok (.iaload, 1) := by decide +kernel
theorem dL_law_2799 : decode code 2799 = .ok (.invokevirtual 342, 3) := by decide +kernel
theorem dL_law_2802 : decode code 2802 = .ok (.istore 7, 2) := by decide +kernel
theorem dL_law_2804 : decode code 2804 = .ok (.aload_n 2, 1) := by decide +kernel
theorem dL_law_2805 : decode code 2805 = .ok (.invokevirtual 154, 3) := by decide +kernel
theorem dL_law_2808 : decode code 2808 = .ok (.iload 6, 2) := by decide +kernel
theorem dL_law_2810 : decode code 2810 = .ok (.if_icmp .eq 5, 3) := by decide +kernel
theorem dL_law_2815 : decode code 2815 = .ok (.iload 6, 2) := by decide +kernel
theorem dL_law_2817 : decode code 2817 = .ok (.ifCond .ne 15, 3) := by decide +kernel
theorem dL_law_2820 : decode code 2820 = .ok (.aload_n 3, 1) := by decide +kernel
theorem dL_law_2821 : decode code 2821 = .ok (.iconst 0, 1) := by decide +kernel
theorem dL_law_2822 : decode code 2822 = .ok (.laload, 1) := by decide +kernel
theorem dL_law_2823 : decode code 2823 = .ok (.iload 7, 2) := by decide +kernel
theorem dL_law_2825 : decode code 2825 = .ok (.i2l, 1) := by decide +kernel
theorem dL_law_2826 : decode code 2826 = .ok (.lcmp, 1) := by decide +kernel
theorem dL_law_2827 : decode code 2827 = .ok (.ifCond .eq 5, 3) := by decide +kernel
theorem dL_law_2832 : decode code 2832 = .ok (.goto 207, 3) := by decide +kernel
theorem w_law_0 {l : Launch} {G : GT} {b L : Nat} {xs : Nat → Int32} {x a o v u q i n er : Int} {M B : Row} {T : Int → Bool} {S : Int → Row} {Y : Int → Int} {cs sl : Nat} {H : AH} (C : LC l G b L xs x a o v u q i cs sl) (W0 : LW H x a o v u M B n er T S M B n er T S Y) (h3 : ok3 M q) (hS : ∀ k, 0 ≤ k → k < 2 → T k = true → ok3 (S k) q) : LA l G b x a o v i 292 vU vU vU vU [] cs sl H := by
  obtain ⟨⟨hG, hT, hN, hNc⟩, hX, hA, hL, hR, fin⟩ := C
  have hR0 := W0.1.1
  refine a_aload_n dL_law_292 rfl rfl ?_
  refine a_xload_n dL_law_293 rfl rfl ?_
  refine a_iload dL_law_294 rfl ?_
  refine a_iconst dL_law_296 ⟨by decide, by decide⟩ ?_
  refine a_iadd dL_law_297 (by unfold inI; omega) ?_
  refine a_sld hX dL_law_298 (by omega) ?_
  refine a_aload_n dL_law_299 rfl rfl ?_
  have hI := W0.1.2.1
  refine a_callSH (d' := 998 + 1) dL_law_300 lc_148 (as := [vR x, vI (xs (i + 1).toNat).toInt, vR o]) rfl rfl (Nat.le_refl _) (Nat.le_of_ble_eq_true rfl) (nocov rfl) (by omega) (by omega) (CLH.mono (l_appendByte (d := 998) hG (kRun_0 hR0.la) (fun r9 H9 q9 => ⟨ans_I q9.1, by rw [q9.2.1.2.1]; exact W0.2.2.2.2.1⟩) (k_appendByte hG hR0 hI)) ?_)
  intro r1 H1 q1
  obtain ⟨rfl, W1, hv⟩ := lqg vI_in vI_nt hA (Or.inl rfl) (fun H9 k9 => W0.clg hA k9.1 (fun c i w => by omega) ⟨k9.2.1, k9.2.2, (k9.1.2.2 _ _ (fun w => by omega)).trans W0.1.2.2⟩) (th01 _) q1
  show LA l G b x a o v i 303 vU vU vU vU [vI _] (cs + 4) (sl + 24) H1
  refine a_istore dL_law_303 (by decide) rfl ?_
  show LA l G b x a o v i 305 (vI _) vU vU vU [] (cs + 4) (sl + 24) H1
  refine a_aload_n dL_law_305 rfl rfl ?_
  refine a_xload_n dL_law_306 rfl rfl ?_
  refine a_iload dL_law_307 rfl ?_
  refine a_iconst dL_law_309 ⟨by decide, by decide⟩ ?_
  refine a_iadd dL_law_310 (by unfold inI; omega) ?_
  refine a_sld hX dL_law_311 (by omega) ?_
  refine a_callV (d' := 999) dL_law_312 lc_153 (as := [vI (xs (i + 1).toNat).toInt]) rfl rfl (kMod_0 W1.2.1.1.1) (Nat.le_refl _) (Nat.le_of_ble_eq_true rfl) (nocov rfl) (by omega) (by omega) (CL.mono (c_appendByte W1.2.1.1 W1.2.1.2.1 hI.2.1 W1.2.1.2.2.1) ?_)
  rintro r2 H2 ⟨rfl, o2, m2, t2, n2, b2⟩
  have w2 : hg H2 a 5 = 1 - bi (decide (0 ≤ (xs (i + 1).toNat).toInt ∧ (xs (i + 1).toNat).toInt ≤ 255)) ∧ True := ⟨t2, trivial⟩
  obtain ⟨W2, e2, e2v⟩ := W1.ref hA o2 (fun c i w => by omega) ⟨m2, n2, b2, (o2.2.2 _ _ (fun w => by omega)).trans W1.2.1.2.2.2⟩
  show LA l G b x a o v i 315 (vI _) vU vU vU [vI _] (cs + 4) (sl + 24) H2
  refine a_istore dL_law_315 (by decide) rfl ?_
  show LA l G b x a o v i 317 (vI _) (vI _) vU vU [] (cs + 4) (sl + 24) H2
  refine a_aload_n dL_law_317 rfl rfl ?_
  refine a_callV (d' := 999) dL_law_318 lc_154 (as := []) rfl rfl (kMod_0 W2.2.1.1.1) (Nat.le_refl _) (Nat.le_of_ble_eq_true rfl) (nocov rfl) (by omega) (by omega) (CL.mono (c_thrown W2.2.1.1.1) ?_)
  rintro r3 H3 ⟨rfl, rfl⟩
  show LA l G b x a o v i 321 (vI _) (vI _) vU vU [vI _] (cs + 4) (sl + 24) H3
  refine a_iload dL_law_321 rfl ?_
  refine a_icmp_eq dL_law_323 (tgt := 328) rfl (fun _ => ?_) (fun c9 => absurd w2.1 c9)
  refine a_iload dL_law_328 rfl ?_
  refine a_if_ne dL_law_330 (tgt := 345) rfl (fun _ => ?_) (fun c9 => ?_)
  · exact a_goto dL_law_345 (tgt := 3039) rfl (fin _ _ _ _ _ _ _ ⟨_, _, _, _, _, _, _, W2, h3.up (by omega), fun k k1 k2 t => (hS k k1 k2 t).up (by omega)⟩ (by omega) (by omega))
  · refine a_aload_n dL_law_333 rfl rfl ?_
    refine a_iconst dL_law_334 ⟨by decide, by decide⟩ ?_
    refine b_lald dL_law_335 (congrArg Prod.fst W2.2.2.2.2.1) (congrArg Prod.snd W2.2.2.2.2.1) (by omega) ?_
    refine a_iload dL_law_336 rfl ?_
    refine a_i2l dL_law_338 ?_
    refine a_lcmp_eq dL_law_339 dL_law_340 (tgt := 345) rfl (fun _ => ?_) (fun c8 => absurd ((e2 0).trans ((hv c9).trans (if_pos (th0 c9)).symm)) c8)
    exact a_goto dL_law_345 (tgt := 3039) rfl (fin _ _ _ _ _ _ _ ⟨_, _, _, _, _, _, _, W2, h3.up (by omega), fun k k1 k2 t => (hS k k1 k2 t).up (by omega)⟩ (by omega) (by omega))
theorem w_law_1 {l : Launch} {G : GT} {b L : Nat} {xs : Nat → Int32} {x a o v u q i n er : Int} {M B : Row} {T : Int → Bool} {S : Int → Row} {Y : Int → Int} {cs sl : Nat} {H : AH} (C : LC l G b L xs x a o v u q i cs sl) (W0 : LW H x a o v u M B n er T S M B n er T S Y) (h3 : ok3 M q) (hS : ∀ k, 0 ≤ k → k < 2 → T k = true → ok3 (S k) q) : LA l G b x a o v i 348 vU vU vU vU [] cs sl H := by
  obtain ⟨⟨hG, hT, hN, hNc⟩, hX, hA, hL, hR, fin⟩ := C
  have hR0 := W0.1.1
  refine a_aload_n dL_law_348 rfl rfl ?_
  have hI := W0.1.2.1
  refine a_callV (d' := 999) dL_law_349 lc_158 (as := []) rfl rfl (kRun_0 hR0.la) (Nat.le_refl _) (Nat.le_of_ble_eq_true rfl) (nocov rfl) (by omega) (by omega) (CL.mono (k_load hT hR0 hI) ?_)
  rintro r1 H1 ⟨rfl, o1, R1, z1, f1⟩
  have W1 := W0.clg hA o1 (fun c i w => pLd_in w) (B9 := B) (n9 := 0) ⟨R1, ⟨z1, by omega, fun i h1 h2 => by omega⟩, f1⟩
  show LA l G b x a o v i 352 vU vU vU vU [vI _] cs sl H1
  refine a_aload_n dL_law_352 rfl rfl ?_
  refine a_callV (d' := 999) dL_law_353 lc_161 (as := []) rfl rfl (kMod_0 W1.2.1.1.1) (Nat.le_refl _) (Nat.le_of_ble_eq_true rfl) (nocov rfl) (by omega) (by omega) (CL.mono (c_load hT W1.2.1.1 W1.2.1.2.1 hI.2.1 W1.2.1.2.2.1) ?_)
  rintro r2 H2 ⟨rfl, o2, m2, t2, n2, f2⟩
  obtain ⟨W2, e2, e2v⟩ := W1.ref hA o2 (fun c i w => by unfold pMl at w; omega) (B9 := B) (m9 := 0) ⟨m2, n2, fun i h1 h2 => by omega, f2⟩
  show LA l G b x a o v i 356 vU vU vU vU [vI _, vI _] cs sl H2
  exact a_icmp_eq dL_law_356 (tgt := 3039) rfl (fun _ => (fin _ _ _ _ _ _ _ ⟨_, _, _, _, _, _, _, W2, ok3_load (h3.up (by omega)) (by omega), fun k k1 k2 t => (hS k k1 k2 t).up (by omega)⟩ (by omega) (by omega))) (fun c8 => absurd rfl c8)
theorem w_law_2 {l : Launch} {G : GT} {b L : Nat} {xs : Nat → Int32} {x a o v u q i n er : Int} {M B : Row} {T : Int → Bool} {S : Int → Row} {Y : Int → Int} {cs sl : Nat} {H : AH} (C : LC l G b L xs x a o v u q i cs sl) (W0 : LW H x a o v u M B n er T S M B n er T S Y) (h3 : ok3 M q) (hS : ∀ k, 0 ≤ k → k < 2 → T k = true → ok3 (S k) q) : LA l G b x a o v i 361 vU vU vU vU [] cs sl H := by
  obtain ⟨⟨hG, hT, hN, hNc⟩, hX, hA, hL, hR, fin⟩ := C
  have hR0 := W0.1.1
  refine a_aload_n dL_law_361 rfl rfl ?_
  refine a_callV (d' := 999) dL_law_362 lc_162 (as := []) rfl rfl (kRun_0 hR0.la) (Nat.le_refl _) (Nat.le_of_ble_eq_true rfl) (nocov rfl) (by omega) (by omega) (CL.mono (k_loadError hR0) ?_)
  rintro r1 H1 ⟨rfl, rfl⟩
  show LA l G b x a o v i 365 vU vU vU vU [vI _] cs sl H1
  refine a_aload_n dL_law_365 rfl rfl ?_
  refine a_callV (d' := 999) dL_law_366 lc_165 (as := []) rfl rfl (kMod_0 W0.2.1.1.1) (Nat.le_refl _) (Nat.le_of_ble_eq_true rfl) (nocov rfl) (by omega) (by omega) (CL.mono (c_loadError W0.2.1.1) ?_)
  rintro r2 H2 ⟨rfl, w2⟩
  obtain ⟨W2, e2, e2v⟩ := W0.pub hA w2
  show LA l G b x a o v i 369 vU vU vU vU [vI _, vI _] cs sl H2
  exact a_icmp_eq dL_law_369 (tgt := 3039) rfl (fun _ => (fin _ _ _ _ _ _ _ ⟨_, _, _, _, _, _, _, W2, h3.up (by omega), fun k k1 k2 t => (hS k k1 k2 t).up (by omega)⟩ (by omega) (by omega))) (fun c8 => absurd (W0.1.2.2.trans W0.2.1.2.2.2.symm) c8)
theorem w_law_3 {l : Launch} {G : GT} {b L : Nat} {xs : Nat → Int32} {x a o v u q i n er : Int} {M B : Row} {T : Int → Bool} {S : Int → Row} {Y : Int → Int} {cs sl : Nat} {H : AH} (C : LC l G b L xs x a o v u q i cs sl) (W0 : LW H x a o v u M B n er T S M B n er T S Y) (h3 : ok3 M q) (hS : ∀ k, 0 ≤ k → k < 2 → T k = true → ok3 (S k) q) : LA l G b x a o v i 374 vU vU vU vU [] cs sl H := by
  obtain ⟨⟨hG, hT, hN, hNc⟩, hX, hA, hL, hR, fin⟩ := C
  have hR0 := W0.1.1
  refine a_aload_n dL_law_374 rfl rfl ?_
  have hI := W0.1.2.1
  refine a_callV (d' := 999) dL_law_375 lc_166 (as := []) rfl rfl (kRun_0 hR0.la) (Nat.le_refl _) (Nat.le_of_ble_eq_true rfl) (nocov rfl) (by omega) (by omega) (CL.mono (k_find hR0 hI) ?_)
  rintro r1 H1 ⟨rfl, q1, R1⟩
  have o1 : only H H1 (fun c i => c = x + 1 ∧ i = 1) := by rw [q1]; exact only.wr ⟨rfl, rfl⟩
  have W1 := W0.clg hA o1 (fun c i w => by omega) (B9 := B) (n9 := 0) (e9 := er) ⟨R1, ⟨by rw [q1]; exact hg_same _ _ _ _, by omega, fun i h1 h2 => by omega⟩, (o1.2.2 _ _ (fun w => by omega)).trans W0.1.2.2⟩
  show LA l G b x a o v i 378 vU vU vU vU [vI _] cs sl H1
  refine a_aload_n dL_law_378 rfl rfl ?_
  refine a_callV (d' := 999) dL_law_379 lc_169 (as := []) rfl rfl (kMod_0 W1.2.1.1.1) (Nat.le_refl _) (Nat.le_of_ble_eq_true rfl) (nocov rfl) (by omega) (by omega) (CL.mono (c_find W1.2.1.1 W1.2.1.2.1 hI.2.1 W1.2.1.2.2.1) ?_)
  rintro r2 H2 ⟨rfl, o2, m2, t2, n2, f2⟩
  obtain ⟨W2, e2, e2v⟩ := W1.ref hA o2 (fun c i w => by unfold pMq at w; omega) (B9 := B) (m9 := 0) ⟨m2, n2, fun i h1 h2 => by omega, f2.trans W1.2.1.2.2.2⟩
  show LA l G b x a o v i 382 vU vU vU vU [vI _, vI _] cs sl H2
  exact a_icmp_eq dL_law_382 (tgt := 3039) rfl (fun _ => (fin _ _ _ _ _ _ _ ⟨_, _, _, _, _, _, _, W2, h3.up (by omega), fun k k1 k2 t => (hS k k1 k2 t).up (by omega)⟩ (by omega) (by omega))) (fun c8 => absurd rfl c8)
theorem tTI_or {M : Row} {c e r : Int} : tTI M c e r = 0 ∨ tTI M c e r = 1 ∨ tTI M c e r = 2 := by
  unfold tTI
  split
  · split
    · exact Or.inl rfl
    · exact Or.inr (Or.inr rfl)
  · exact Or.inr (Or.inl rfl)
theorem lq2 {H H' : AH} {x a o v u n er n' er' : Int} {M B M' B' N : Row} {T T' : Int → Bool} {S S' : Int → Row} {Y : Int → Int} {t w : Int} {r : AV} (hA : AD x a o v u) (h : LW H x a o v u M B n er T S M' B' n' er' T' S' Y) (ht : t = 0 ∨ t = 1 ∨ t = 2) (q : lQ2 o (fun r H' => (t = 0 → r = vI w) ∧ (t = 1 → r = vT 1) ∧ (t = 2 → r = vT 0) ∧ only H H' (pX x) ∧ RX H' x N) r H') : r = vI t ∧ LW H' x a o v u N B n er T S M' B' n' er' T' S' Y ∧ (t = 0 → hg H' o 0 = w) := by
  rcases q with ⟨y, H1, ⟨q0, q1, q2, q3, q4⟩, rfl, rfl⟩ | ⟨⟨q0, q1, q2, q3, q4⟩, rfl⟩ | ⟨⟨q0, q1, q2, q3, q4⟩, rfl⟩
  · rcases ht with rfl | rfl | rfl
    · have := vI_in _ _ (q0 rfl)
      subst this
      exact ⟨rfl, (h.cla hA q3 (fun c i => pX_in) q4).out hA (Or.inl rfl), fun _ => hg_same _ _ _ _⟩
    · exact absurd (q1 rfl) (vI_nt _ _)
    · exact absurd (q2 rfl) (vI_nt _ _)
  · rcases ht with rfl | rfl | rfl
    · exact absurd (q0 rfl).symm (vI_nt _ _)
    · exact ⟨rfl, h.cla hA q3 (fun c i => pX_in) q4, fun z => absurd z (by decide)⟩
    · exact absurd (Prod.mk.inj (q2 rfl)).2 (by decide)
  · rcases ht with rfl | rfl | rfl
    · exact absurd (q0 rfl).symm (vI_nt _ _)
    · exact absurd (Prod.mk.inj (q1 rfl)).2 (by decide)
    · exact ⟨rfl, h.cla hA q3 (fun c i => pX_in) q4, fun z => absurd z (by decide)⟩
theorem w_law_54 {l : Launch} {G : GT} {b L : Nat} {xs : Nat → Int32} {x a o v u q i n er : Int} {M B : Row} {T : Int → Bool} {S : Int → Row} {Y : Int → Int} {cs sl : Nat} {H : AH} (C : LC l G b L xs x a o v u q i cs sl) (W0 : LW H x a o v u M B n er T S M B n er T S Y) (h3 : ok3 M q) (hS : ∀ k, 0 ≤ k → k < 2 → T k = true → ok3 (S k) q) : LA l G b x a o v i 2755 vU vU vU vU [] cs sl H := by
  obtain ⟨⟨hG, hT, hN, hNc⟩, hX, hA, hL, hR, fin⟩ := C
  have hR0 := W0.1.1
  refine a_aload_n dL_law_2755 rfl rfl ?_
  refine a_xload_n dL_law_2756 rfl rfl ?_
  refine a_iload dL_law_2757 rfl ?_
  refine a_iconst dL_law_2759 ⟨by decide, by decide⟩ ?_
  refine a_iadd dL_law_2760 (by unfold inI; omega) ?_
  refine a_sld hX dL_law_2761 (by omega) ?_
  refine a_xload_n dL_law_2762 rfl rfl ?_
  refine a_iload dL_law_2763 rfl ?_
  refine a_iconst dL_law_2765 ⟨by decide, by decide⟩ ?_
  refine a_iadd dL_law_2766 (by unfold inI; omega) ?_
  refine a_sld hX dL_law_2767 (by omega) ?_
  refine a_xload_n dL_law_2768 rfl rfl ?_
  refine a_iload dL_law_2769 rfl ?_
  refine a_iconst dL_law_2771 ⟨by decide, by decide⟩ ?_
  refine a_iadd dL_law_2772 (by unfold inI; omega) ?_
  refine a_sld hX dL_law_2773 (by omega) ?_
  refine a_aload_n dL_law_2774 rfl rfl ?_
  refine a_callSH (d' := 998 + 1) dL_law_2775 lc_340 (as := [vR x, vI (xs (i + 1).toNat).toInt, vI (xs (i + 2).toNat).toInt, vI (xs (i + 3).toNat).toInt, vR o]) rfl rfl (Nat.le_refl _) (Nat.le_of_ble_eq_true rfl) (nocov rfl) (by omega) (by omega) (CLH.mono (l_timeInserted (d := 998) hG hNc (kRun_0 hR0.la) (fun r9 H9 q9 => ⟨(tTI_or.imp (fun z => ⟨_, q9.1 z⟩) (fun z => z.imp q9.2.1 q9.2.2.1)), by rw [q9.2.2.2.1.2.1]; exact W0.2.2.2.2.1⟩) (k_timeInserted hG hR0)) ?_)
  intro r1 H1 q1
  obtain ⟨rfl, W1, hv⟩ := lq2 hA W0 tTI_or q1
  show LA l G b x a o v i 2778 vU vU vU vU [vI _] (cs + 4) (sl + 24) H1
  refine a_istore dL_law_2778 (by decide) rfl ?_
  show LA l G b x a o v i 2780 (vI _) vU vU vU [] (cs + 4) (sl + 24) H1
  refine a_aload_n dL_law_2780 rfl rfl ?_
  refine a_xload_n dL_law_2781 rfl rfl ?_
  refine a_iload dL_law_2782 rfl ?_
  refine a_iconst dL_law_2784 ⟨by decide, by decide⟩ ?_
  refine a_iadd dL_law_2785 (by unfold inI; omega) ?_
  refine a_sld hX dL_law_2786 (by omega) ?_
  refine a_xload_n dL_law_2787 rfl rfl ?_
  refine a_iload dL_law_2788 rfl ?_
  refine a_iconst dL_law_2790 ⟨by decide, by decide⟩ ?_
  refine a_iadd dL_law_2791 (by unfold inI; omega) ?_
  refine a_sld hX dL_law_2792 (by omega) ?_
  refine a_xload_n dL_law_2793 rfl rfl ?_
  refine a_iload dL_law_2794 rfl ?_
  refine a_iconst dL_law_2796 ⟨by decide, by decide⟩ ?_
  refine a_iadd dL_law_2797 (by unfold inI; omega) ?_
  refine a_sld hX dL_law_2798 (by omega) ?_
  refine a_callV (d' := 999) dL_law_2799 lc_342 (as := [vI (xs (i + 1).toNat).toInt, vI (xs (i + 2).toNat).toInt, vI (xs (i + 3).toNat).toInt]) rfl rfl (kMod_0 W1.2.1.1.1) (Nat.le_refl _) (Nat.le_of_ble_eq_true rfl) (nocov rfl) (by omega) (by omega) (CL.mono (c_timeInserted W1.2.1.1) ?_)
  rintro r2 H2 ⟨rfl, w2⟩
  obtain ⟨W2, e2, e2v⟩ := W1.pub hA w2
  show LA l G b x a o v i 2802 (vI _) vU vU vU [vI _] (cs + 4) (sl + 24) H2
  refine a_istore dL_law_2802 (by decide) rfl ?_
  show LA l G b x a o v i 2804 (vI _) (vI _) vU vU [] (cs + 4) (sl + 24) H2
  refine a_aload_n dL_law_2804 rfl rfl ?_
  refine a_callV (d' := 999) dL_law_2805 lc_154 (as := []) rfl rfl (kMod_0 W2.2.1.1.1) (Nat.le_refl _) (Nat.le_of_ble_eq_true rfl) (nocov rfl) (by omega) (by omega) (CL.mono (c_thrown W2.2.1.1.1) ?_)
  rintro r3 H3 ⟨rfl, rfl⟩
  show LA l G b x a o v i 2808 (vI _) (vI _) vU vU [vI _] (cs + 4) (sl + 24) H3
  refine a_iload dL_law_2808 rfl ?_
  refine a_icmp_eq dL_law_2810 (tgt := 2815) rfl (fun _ => ?_) (fun c9 => absurd w2.1 c9)
  refine a_iload dL_law_2815 rfl ?_
  refine a_if_ne dL_law_2817 (tgt := 2832) rfl (fun _ => ?_) (fun c9 => ?_)
  · exact a_goto dL_law_2832 (tgt := 3039) rfl (fin _ _ _ _ _ _ _ ⟨_, _, _, _, _, _, _, W2, h3.up (by omega), fun k k1 k2 t => (hS k k1 k2 t).up (by omega)⟩ (by omega) (by omega))
  · refine a_aload_n dL_law_2820 rfl rfl ?_
    refine a_iconst dL_law_2821 ⟨by decide, by decide⟩ ?_
    refine b_lald dL_law_2822 (congrArg Prod.fst W2.2.2.2.2.1) (congrArg Prod.snd W2.2.2.2.2.1) (by omega) ?_
    refine a_iload dL_law_2823 rfl ?_
    refine a_i2l dL_law_2825 ?_
    refine a_lcmp_eq dL_law_2826 dL_law_2827 (tgt := 2832) rfl (fun _ => ?_) (fun c8 => absurd ((e2 0).trans (hv c9)) c8)
    exact a_goto dL_law_2832 (tgt := 3039) rfl (fin _ _ _ _ _ _ _ ⟨_, _, _, _, _, _, _, W2, h3.up (by omega), fun k k1 k2 t => (hS k k1 k2 t).up (by omega)⟩ (by omega) (by omega))
