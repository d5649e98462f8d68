/-! the law: calls -/
theorem dL_law_2508 : decode code 2508 = .ok (.aload_n 1, 1) := by decide +kernel
theorem dL_law_2509 : decode code 2509 = .ok (.aload_n 0, 1) := by decide +kernel
theorem dL_law_2510 : decode code 2510 = .ok (.iload 5, 2) := by decide +kernel
theorem dL_law_2512 : decode code 2512 = .ok (.iconst 1, 1) := by decide +kernel
theorem dL_law_2513 : decode code 2513 = .ok (.iadd, 1) := by decide +kernel
theorem dL_law_2514 : decode code 2514 = .ok (.iaload, 1) := by decide +kernel
theorem dL_law_2515 : decode code 2515 = .ok (.aload_n 0, 1) := by decide +kernel
theorem dL_law_2516 : decode code 2516 = .ok (.iload 5, 2) := by decide +kernel
theorem dL_law_2518 : decode code 2518 = .ok (.iconst 2, 1) := by decide +kernel
theorem dL_law_2519 : decode code 2519 = .ok (.iadd, 1) := by decide +kernel
theorem dL_law_2520 : decode code 2520 = .ok (.iaload, 1) := by decide +kernel
theorem dL_law_2521 : decode code 2521 = .ok (.aload_n 3, 1) := by decide +kernel
theorem dL_law_2522 : decode code 2522 = .ok (.invokestatic 324, 3) := by decide +kernel
theorem dL_law_2525 : decode code 2525 = .ok (.istore 6, 2) := by decide +kernel
theorem dL_law_2527 : decode code 2527 = .ok (.aload_n 2, 1) := by decide +kernel
theorem dL_law_2528 : decode code 2528 = .ok (.aload_n 0, 1) := by decide +kernel
theorem dL_law_2529 : decode code 2529 = .ok (.iload 5, 2) := by decide +kernel
theorem dL_law_2531 : decode code 2531 = .ok (.iconst 1, 1) := by decide +kernel
theorem dL_law_2532 : decode code 2532 = .ok (.iadd, 1) := by decide +kernel
theorem dL_law_2533 : decode code 2533 = .ok (.iaload, 1) := by decide +kernel
theorem dL_law_2534 : decode code 2534 = .ok (.aload_n 0, 1) := by decide +kernel
theorem dL_law_2535 : decode code 2535 = .ok (.iload 5, 2) := by decide +kernel
theorem dL_law_2537 : decode code 2537 = .ok (.iconst 2, 1) := by decide +kernel
theorem dL_law_2538 : decode code 2538 = .ok (.iadd, 1) := by decide +kernel
theorem dL_law_2539 : decode code 2539 = .ok (.iaload, 1) := by decide +kernel
theorem dL_law_2540 : decode code 2540 = .ok (.invokevirtual 326, 3) := by decide +kernel
theorem dL_law_2543 : decode code 2543 = .ok (.lstore 7, 2) := by decide +kernel
theorem dL_law_2545 : decode code 2545 = .ok (.aload_n 2, 1) := by decide +kernel
theorem dL_law_2546 : decode code 2546 = .ok (.invokevirtual 154, 3) := by decide +kernel
theorem dL_law_2549 : decode code 2549 = .ok (.iload 6, 2) := by decide +kernel
theorem dL_law_2551 : decode code 2551 = .ok (.if_icmp .eq 5, 3) := by decide +kernel
theorem dL_law_2556 : decode code 2556 = .ok (.iload 6, 2) := by decide +kernel
theorem dL_law_2558 : decode code 2558 = .ok (.ifCond .ne 14, 3) := by decide +kernel
theorem dL_law_2561 : decode code 2561 = .ok (.aload_n 3, 1) := by decide +kernel
theorem dL_law_2562 : decode code 2562 = .ok (.iconst 0, 1) := by decide +kernel
theorem dL_law_2563 : decode code 2563 = .ok (.laload, 1) := by decide +kernel
theorem dL_law_2564 : decode code 2564 = .ok (.lload 7, 2) := by decide +kernel
theorem dL_law_2566 : decode code 2566 = .ok (.lcmp, 1) := by decide +kernel
theorem dL_law_2567 : decode code 2567 = .ok (.ifCond .eq 5, 3) := by decide +kernel
theorem dL_law_2572 : decode code 2572 = .ok (.goto 467, 3) := by decide +kernel
theorem dL_law_2575 : decode code 2575 = .ok (.aload_n 1, 1) := by decide +kernel
theorem dL_law_2576 : decode code 2576 = .ok (.aload_n 0, 1) := by decide +kernel
theorem dL_law_2577 : decode code 2577 = .ok (.iload 5, 2) := by decide +kernel
theorem dL_law_2579 : decode code 2579 = .ok (.iconst 1, 1) := by decide +kernel
theorem dL_law_2580 : decode code 2580 = .ok (.iadd, 1) := by decide +kernel
theorem dL_law_2581 : decode code 2581 = .ok (.iaload, 1) := by decide +kernel
theorem dL_law_2582 : decode code 2582 = .ok (.aload_n 3, 1) := by decide +kernel
theorem dL_law_2583 : decode code 2583 = .ok (.invokestatic 327, 3) := by decide +kernel
theorem dL_law_2586 : decode code 2586 = .ok (.istore 6, 2) := by decide +kernel
theorem dL_law_2588 : decode code 2588 = .ok (.aload_n 2, 1) := by decide +kernel
theorem dL_law_2589 : decode code 2589 = .ok (.aload_n 0, 1) := by decide +kernel
theorem dL_law_2590 : decode code 2590 = .ok (.iload 5, 2) := by decide +kernel
theorem dL_law_2592 : decode code 2592 = .ok (.iconst 1, 1) := by decide +kernel
theorem dL_law_2593 : decode code 2593 = .ok (.iadd, 1) := by decide +kernel
theorem dL_law_2594 : decode code 2594 = .ok (.iaload, 1) := by decide +kernel
theorem dL_law_2595 : decode code 2595 = .ok (.invokevirtual 329, 3) := by decide +kernel
theorem dL_law_2598 : decode code 2598 = .ok (.istore 7, 2) := by decide +kernel
theorem dL_law_2600 : decode code 2600 = .ok (.aload_n 2, 1) := by decide +kernel
theorem dL_law_2601 : decode code 2601 = .ok (.invokevirtual 154, 3) := by decide +kernel
theorem dL_law_2604 : decode code 2604 = .ok (.iload 6, 2) := by decide +kernel
theorem dL_law_2606 : decode code 2606 = .ok (.if_icmp .eq 5, 3) := by decide +kernel
theorem dL_law_2611 : decode code 2611 = .ok (.iload 6, 2) := by decide +kernel
theorem dL_law_2613 : decode code 2613 = .ok (.ifCond .ne 15, 3) := by decide +kernel
theorem dL_law_2616 : decode code 2616 = .ok (.aload_n 3, 1) := by decide +kernel
theorem dL_law_2617 : decode code 2617 = .ok (.iconst 0, 1) := by decide +kernel
theorem dL_law_2618 : decode code 2618 = .ok (.laload, 1) := by decide +kernel
theorem dL_law_2619 : decode code 2619 = .ok (.iload 7, 2) := by decide +kernel
theorem dL_law_2621 : decode code 2621 = .ok (.i2l, 1) := by decide +kernel
theorem dL_law_2622 : decode code 2622 = .ok (.lcmp, 1) := by decide +kernel
theorem dL_law_2623 : decode code 2623 = .ok (.ifCond .eq 5, 3) := by decide +kernel
theorem dL_law_2628 : decode code 2628 = .ok (.goto 411, 3) := by decide +kernel
theorem dL_law_2631 : decode code 2631 = .ok (.aload_n 1, 1) := by decide +kernel
theorem dL_law_2632 : decode code 2632 = .ok (.invokevirtual 330, 3) := by decide +kernel
theorem dL_law_2635 : decode code 2635 = .ok (.aload_n 2, 1) := by decide +kernel
theorem dL_law_2636 : decode code 2636 = .ok (.invokevirtual 333, 3) := by decide +kernel
theorem dL_law_2639 : decode code 2639 = .ok (.if_icmp .eq 400, 3) := by decide +kernel
theorem dL_law_2644 : decode code 2644 = .ok (.aload_n 1, 1) := by decide +kernel
theorem dL_law_2645 : decode code 2645 = .ok (.aload_n 0, 1) := by decide +kernel
theorem dL_law_2646 : decode code 2646 = .ok (.iload 5, 2) := by decide +kernel
theorem dL_law_2648 : decode code 2648 = .ok (.iconst 1, 1) := by decide +kernel
theorem dL_law_2649 : decode code 2649 = .ok (.iadd, 1) := by decide +kernel
theorem dL_law_2650 : decode code 2650 = .ok (.iaload, 1) := by decide +kernel
theorem dL_law_2651 : decode code 2651 = .ok (.aload_n 3, 1) := by decide +kernel
theorem dL_law_2652 : decode code 2652 = .ok (.invokestatic 334, 3) := by decide +kernel
theorem dL_law_2655 : decode code 2655 = .ok (.istore 6, 2) := by decide +kernel
theorem dL_law_2657 : decode code 2657 = .ok (.aload_n 2, 1) := by decide +kernel
theorem dL_law_2658 : decode code 2658 = .ok (.aload_n 0, 1) := by decide +kernel
theorem dL_law_2659 : decode code 2659 = .ok (.iload 5, 2) := by decide +kernel
theorem dL_law_2661 : decode code 2661 = .ok (.iconst 1, 1) := by decide +kernel
theorem dL_law_2662 : decode code 2662 = .ok (.iadd, 1) := by decide +kernel
theorem dL_law_2663 : decode code 2663 = .ok (.iaload, 1) := by decide +kernel
theorem dL_law_2664 : decode code 2664 = .ok (.invokevirtual 336, 3) := by decide +kernel
theorem dL_law_2667 : decode code 2667 = .ok (.lstore 7, 2) := by decide +kernel
theorem dL_law_2669 : decode code 2669 = .ok (.aload_n 2, 1) := by decide +kernel
theorem dL_law_2670 : decode code 2670 = .ok (.invokevirtual 154, 3) := by decide +kernel
theorem dL_law_2673 : decode code 2673 = .ok (.iload 6, 2) := by decide +kernel
theorem dL_law_2675 : decode code 2675 = .ok (.if_icmp .eq 5, 3) := by decide +kernel
theorem dL_law_2680 : decode code 2680 = .ok (.iload 6, 2) := by decide +kernel
theorem dL_law_2682 : decode code 2682 = .ok (.ifCond .ne 14, 3) := by decide +kernel
theorem dL_law_2685 : decode code 2685 = .ok (.aload_n 3, 1) := by decide +kernel
theorem dL_law_2686 : decode code 2686 = .ok (.iconst 0, 1) := by decide +kernel
theorem dL_law_2687 : decode code 2687 = .ok (.laload, 1) := by decide +kernel
theorem dL_law_2688 : decode code 2688 = .ok (.lload 7, 2) := by decide +kernel
theorem dL_law_2690 : decode code 2690 = .ok (.lcmp, 1) := by decide +kernel
theorem dL_law_2691 : decode code 2691 = .ok (.ifCond .eq 5, 3) := by decide +kernel
theorem dL_law_2696 : decode code 2696 = .ok (.goto 343, 3) := by decide +kernel
theorem dL_law_2699 : decode code 2699 = .ok (.aload_n 1, 1) := by decide +kernel
theorem dL_law_2700 : decode code 2700 = .ok (.aload_n 0, 1) := by decide +kernel
theorem dL_law_2701 : decode code 2701 = .ok (.iload 5, 2) := by decide +kernel
theorem dL_law_2703 : decode code 2703 = .ok (.iconst 1, 1) := by decide +kernel
theorem dL_law_2704 : decode code 2704 = .ok (.iadd, 1) := by decide +kernel
theorem dL_law_2705 : decode code 2705 = .ok (.iaload, 1) := by decide +kernel
theorem dL_law_2706 : decode code 2706 = .ok (.aload_n 3, 1) := by decide +kernel
theorem dL_law_2707 : decode code 2707 = .ok (.invokestatic 337, 3) := by decide +kernel
theorem dL_law_2710 : decode code 2710 = .ok (.istore 6, 2) := by decide +kernel
theorem dL_law_2712 : decode code 2712 = .ok (.aload_n 2, 1) := by decide +kernel
theorem dL_law_2713 : decode code 2713 = .ok (.aload_n 0, 1) := by decide +kernel
theorem dL_law_2714 : decode code 2714 = .ok (.iload 5, 2) := by decide +kernel
theorem dL_law_2716 : decode code 2716 = .ok (.iconst 1, 1) := by decide +kernel
theorem dL_law_2717 : decode code 2717 = .ok (.iadd, 1) := by decide +kernel
theorem dL_law_2718 : decode code 2718 = .ok (.iaload, 1) := by decide +kernel
theorem dL_law_2719 : decode code 2719 = .ok (.invokevirtual 339, 3) := by decide +kernel
theorem dL_law_2722 : decode code 2722 = .ok (.istore 7, 2) := by decide +kernel
theorem dL_law_2724 : decode code 2724 = .ok (.aload_n 2, 1) := by decide +kernel
theorem dL_law_2725 : decode code 2725 = .ok (.invokevirtual 154, 3) := by decide +kernel
theorem dL_law_2728 : decode code 2728 = .ok (.iload 6, 2) := by decide +kernel
theorem dL_law_2730 : decode code 2730 = .ok (.if_icmp .eq 5, 3) := by decide +kernel
theorem dL_law_2735 : decode code 2735 = .ok (.iload 6, 2) := by decide +kernel
theorem dL_law_2737 : decode code 2737 = .ok (.ifCond .ne 15, 3) := by decide +kernel
theorem dL_law_2740 : decode code 2740 = .ok (.aload_n 3, 1) := by decide +kernel
theorem dL_law_2741 : decode code 2741 = .ok (.iconst 0, 1) := by decide +kernel
theorem dL_law_2742 : decode code 2742 = .ok (.laload, 1) := by decide +kernel
theorem dL_law_2743 : decode code 2743 = .ok (.iload 7, 2) := by decide +kernel
theorem dL_law_2745 : decode code 2745 = .ok (.i2l, 1) := by decide +kernel
theorem dL_law_2746 : decode code 2746 = .ok (.lcmp, 1) := by decide +kernel
theorem dL_law_2747 : decode code 2747 = .ok (.ifCond .eq 5, 3) := by decide +kernel
theorem dL_law_2752 : decode code 2752 = .ok (.goto 287, 3) := by decide +kernel
theorem dL_law_2835 : decode code 2835 = .ok (.aload_n 1, 1) := by decide +kernel
theorem dL_law_2836 : decode code 2836 = .ok (.aload_n 0, 1) := by decide +kernel
theorem dL_law_2837 : decode code 2837 = .ok (.iload 5, 2) := by decide +kernel
theorem dL_law_2839 : decode code 2839 = .ok (.iconst 1, 1) := by decide +kernel
theorem dL_law_2840 : decode code 2840 = .ok (.iadd, 1) := by decide +kernel
theorem dL_law_2841 : decode code 2841 = .ok (.iaload, 1) := by decide +kernel
theorem dL_law_2842 : decode code 2842 = .ok (.aload_n 0, 1) := by decide +kernel
theorem dL_law_2843 : decode code 2843 = .ok (.iload 5, 2) := by decide +kernel
theorem dL_law_2845 : decode code 2845 = .ok (.iconst 2, 1) := by decide +kernel
theorem dL_law_2846 : decode code 2846 = .ok (.iadd, 1) := by decide +kernel
theorem dL_law_2847 : decode code 2847 = .ok (.iaload, 1) := by decide +kernel
theorem dL_law_2848 : decode code 2848 = .ok (.aload_n 0, 1) := by decide +kernel
theorem dL_law_2849 : decode code 2849 = .ok (.iload 5, 2) := by decide +kernel
theorem dL_law_2851 : decode code 2851 = .ok (.iconst 3, 1) := by decide +kernel
theorem dL_law_2852 : decode code 2852 = .ok (.iadd, 1) := by decide +kernel
theorem dL_law_2853 : decode code 2853 = .ok (.iaload, 1) := by decide +kernel
theorem dL_law_2854 : decode code 2854 = .ok (.aload_n 0, 1) := by decide +kernel
theorem dL_law_2855 : decode code 2855 = .ok (.iload 5, 2) := by decide +kernel
theorem dL_law_2857 : decode code 2857 = .ok (.iconst 4, 1) := by decide +kernel
theorem dL_law_2858 : decode code 2858 = .ok (.iadd, 1) := by decide +kernel
theorem dL_law_2859 : decode code 2859 = .ok (.iaload, 1) := by decide +kernel
theorem dL_law_2860 : decode code 2860 = .ok (.aload_n 3, 1) := by decide +kernel
theorem dL_law_2861 : decode code 2861 = .ok (.invokestatic 343, 3) := by decide +kernel
theorem dL_law_2864 : decode code 2864 = .ok (.istore 6, 2) := by decide +kernel
theorem dL_law_2866 : decode code 2866 = .ok (.aload_n 2, 1) := by decide +kernel
theorem dL_law_2867 : decode code 2867 = .ok (.aload_n 0, 1) := by decide +kernel
theorem dL_law_2868 : decode code 2868 = .ok (.iload 5, 2) := by decide +kernel
theorem dL_law_2870 : decode code 2870 = .ok (.iconst 1, 1) := by decide +kernel
theorem dL_law_2871 : decode code 2871 = .ok (.iadd, 1) := by decide +kernel
theorem dL_law_2872 : decode code 2872 = .ok (.iaload, 1) := by decide +kernel
theorem dL_law_2873 : decode code 2873 = .ok (.aload_n 0, 1) := by decide +kernel
theorem dL_law_2874 : decode code 2874 = .ok (.iload 5, 2) := by decide +kernel
theorem dL_law_2876 : decode code 2876 = .ok (.iconst 2, 1) := by decide +kernel
theorem dL_law_2877 : decode code 2877 = .ok (.iadd, 1) := by decide +kernel
theorem dL_law_2878 : decode code 2878 = .ok (.iaload, 1) := by decide +kernel
theorem dL_law_2879 : decode code 2879 = .ok (.aload_n 0, 1) := by decide +kernel
theorem dL_law_2880 : decode code 2880 = .ok (.iload 5, 2) := by decide +kernel
theorem dL_law_2882 : decode code 2882 = .ok (.iconst 3, 1) := by decide +kernel
theorem dL_law_2883 : decode code 2883 = .ok (.iadd, 1) := by decide +kernel
theorem dL_law_2884 : decode code 2884 = .ok (.iaload, 1) := by decide +kernel
theorem dL_law_2885 : decode code 2885 = .ok (.aload_n 0, 1) := by decide +kernel
theorem dL_law_2886 : decode code 2886 = .ok (.iload 5, 2) := by decide +kernel
theorem dL_law_2888 : decode code 2888 = .ok (.iconst 4, 1) := by decide +kernel
theorem dL_law_2889 : decode code 2889 = .ok (.iadd, 1) := by decide +kernel
theorem dL_law_2890 : decode code 2890 = .ok (.iaload, 1) := by decide +kernel
theorem dL_law_2891 : decode code 2891 = .ok (.invokevirtual 346, 3) := by decide +kernel
theorem dL_law_2894 : decode code 2894 = .ok (.istore 7, 2) := by decide +kernel
theorem dL_law_2896 : decode code 2896 = .ok (.aload_n 2, 1) := by decide +kernel
theorem dL_law_2897 : decode code 2897 = .ok (.invokevirtual 154, 3) := by decide +kernel
theorem dL_law_2900 : decode code 2900 = .ok (.iload 6, 2) := by decide +kernel
theorem dL_law_2902 : decode code 2902 = .ok (.if_icmp .eq 5, 3) := by decide +kernel
theorem dL_law_2907 : decode code 2907 = .ok (.iload 6, 2) := by decide +kernel
theorem dL_law_2909 : decode code 2909 = .ok (.ifCond .ne 15, 3) := by decide +kernel
theorem dL_law_2912 : decode code 2912 = .ok (.aload_n 3, 1) := by decide +kernel
theorem dL_law_2913 : decode code 2913 = .ok (.iconst 0, 1) := by decide +kernel
theorem dL_law_2914 : decode code 2914 = .ok (.laload, 1) := by decide +kernel
theorem dL_law_2915 : decode code 2915 = .ok (.iload 7, 2) := by decide +kernel
theorem dL_law_2917 : decode code 2917 = .ok (.i2l, 1) := by decide +kernel
theorem dL_law_2918 : decode code 2918 = .ok (.lcmp, 1) := by decide +kernel
theorem dL_law_2919 : decode code 2919 = .ok (.ifCond .eq 5, 3) := by decide +kernel
theorem dL_law_2924 : decode code 2924 = .ok (.goto 115, 3) := by decide +kernel
theorem w_law_49 {l : Launch} {G : GT} {b L : Nat} {xs : Nat → Int32} {x a o v u q i n er : Int} {M B : Row} {T : Int → Bool} {S : Int → Row} {Y : Int → Int} {cs sl : Nat} {H : AH} (C : LC l G b L xs x a o v u q i cs sl) (W0 : LW H x a o v u M B n er T S M B n er T S Y) (h3 : ok3 M q) (hS : ∀ k, 0 ≤ k → k < 2 → T k = true → ok3 (S k) q) : LA l G b x a o v i 2508 vU vU vU vU [] cs sl H := by
  obtain ⟨⟨hG, hT, hN, hNc⟩, hX, hA, hL, hR, fin⟩ := C
  have hR0 := W0.1.1
  refine a_aload_n dL_law_2508 rfl rfl ?_
  refine a_xload_n dL_law_2509 rfl rfl ?_
  refine a_iload dL_law_2510 rfl ?_
  refine a_iconst dL_law_2512 ⟨by decide, by decide⟩ ?_
  refine a_iadd dL_law_2513 (by unfold inI; omega) ?_
  refine a_sld hX dL_law_2514 (by omega) ?_
  refine a_xload_n dL_law_2515 rfl rfl ?_
  refine a_iload dL_law_2516 rfl ?_
  refine a_iconst dL_law_2518 ⟨by decide, by decide⟩ ?_
  refine a_iadd dL_law_2519 (by unfold inI; omega) ?_
  refine a_sld hX dL_law_2520 (by omega) ?_
  refine a_aload_n dL_law_2521 rfl rfl ?_
  refine a_callSH (d' := 998 + 1) dL_law_2522 lc_324 (as := [vR x, vI (xs (i + 1).toNat).toInt, vI (xs (i + 2).toNat).toInt, vR o]) rfl rfl (Nat.le_refl _) (Nat.le_of_ble_eq_true rfl) (nocov rfl) (by omega) (by omega) (CLH.mono (l_costIfAssigned (d := 998) hG (kRun_0 hR0.la) (fun r9 H9 q9 => ⟨ans_J q9.1, by rw [q9.2.1.2.1]; exact W0.2.2.2.2.1⟩) (k_costIfAssigned hG hR0)) ?_)
  intro r1 H1 q1
  obtain ⟨rfl, W1, hv⟩ := lqx vJ_in vJ_nt (fun c i => pX_in) hA (Or.inl rfl) W0 (th01 _) q1
  show LA l G b x a o v i 2525 vU vU vU vU [vI _] (cs + 4) (sl + 24) H1
  refine a_istore dL_law_2525 (by decide) rfl ?_
  show LA l G b x a o v i 2527 (vI _) vU vU vU [] (cs + 4) (sl + 24) H1
  refine a_aload_n dL_law_2527 rfl rfl ?_
  refine a_xload_n dL_law_2528 rfl rfl ?_
  refine a_iload dL_law_2529 rfl ?_
  refine a_iconst dL_law_2531 ⟨by decide, by decide⟩ ?_
  refine a_iadd dL_law_2532 (by unfold inI; omega) ?_
  refine a_sld hX dL_law_2533 (by omega) ?_
  refine a_xload_n dL_law_2534 rfl rfl ?_
  refine a_iload dL_law_2535 rfl ?_
  refine a_iconst dL_law_2537 ⟨by decide, by decide⟩ ?_
  refine a_iadd dL_law_2538 (by unfold inI; omega) ?_
  refine a_sld hX dL_law_2539 (by omega) ?_
  refine a_callV (d' := 999) dL_law_2540 lc_326 (as := [vI (xs (i + 1).toNat).toInt, vI (xs (i + 2).toNat).toInt]) rfl rfl (kMod_0 W1.2.1.1.1) (Nat.le_refl _) (Nat.le_of_ble_eq_true rfl) (nocov rfl) (by omega) (by omega) (CL.mono (c_costIfAssigned W1.2.1.1) ?_)
  rintro r2 H2 ⟨rfl, w2⟩
  obtain ⟨W2, e2, e2v⟩ := W1.mut hA w2
  show LA l G b x a o v i 2543 (vI _) vU vU vU [vJ _] (cs + 4) (sl + 24) H2
  refine a_lstore dL_law_2543 (by decide) rfl ?_
  show LA l G b x a o v i 2545 (vI _) (vJ _) vU vU [] (cs + 4) (sl + 24) H2
  refine a_aload_n dL_law_2545 rfl rfl ?_
  refine a_callV (d' := 999) dL_law_2546 lc_154 (as := []) rfl rfl (kMod_0 W2.2.1.1.1) (Nat.le_refl _) (Nat.le_of_ble_eq_true rfl) (nocov rfl) (by omega) (by omega) (CL.mono (c_thrown W2.2.1.1.1) ?_)
  rintro r3 H3 ⟨rfl, rfl⟩
  show LA l G b x a o v i 2549 (vI _) (vJ _) vU vU [vI _] (cs + 4) (sl + 24) H3
  refine a_iload dL_law_2549 rfl ?_
  refine a_icmp_eq dL_law_2551 (tgt := 2556) rfl (fun _ => ?_) (fun c9 => absurd w2.1 c9)
  refine a_iload dL_law_2556 rfl ?_
  refine a_if_ne dL_law_2558 (tgt := 2572) rfl (fun _ => ?_) (fun c9 => ?_)
  · exact a_goto dL_law_2572 (tgt := 3039) rfl (fin _ _ _ _ _ _ _ ⟨_, _, _, _, _, _, _, W2, h3.up (by omega), fun k k1 k2 t => (hS k k1 k2 t).up (by omega)⟩ (by omega) (by omega))
  · refine a_aload_n dL_law_2561 rfl rfl ?_
    refine a_iconst dL_law_2562 ⟨by decide, by decide⟩ ?_
    refine b_lald dL_law_2563 (congrArg Prod.fst W2.2.2.2.2.1) (congrArg Prod.snd W2.2.2.2.2.1) (by omega) ?_
    refine a_lload dL_law_2564 rfl ?_
    refine a_lcmp_eq dL_law_2566 dL_law_2567 (tgt := 2572) rfl (fun _ => ?_) (fun c8 => absurd ((e2 0).trans (hv c9)) c8)
    exact a_goto dL_law_2572 (tgt := 3039) rfl (fin _ _ _ _ _ _ _ ⟨_, _, _, _, _, _, _, W2, h3.up (by omega), fun k k1 k2 t => (hS k k1 k2 t).up (by omega)⟩ (by omega) (by omega))
theorem w_law_50 {l : Launch} {G : GT} {b L : Nat} {xs : Nat → Int32} {x a o v u q i n er : Int} {M B : Row} {T : Int → Bool} {S : Int → Row} {Y : Int → Int} {cs sl : Nat} {H : AH} (C : LC l G b L xs x a o v u q i cs sl) (W0 : LW H x a o v u M B n er T S M B n er T S Y) (h3 : ok3 M q) (hS : ∀ k, 0 ≤ k → k < 2 → T k = true → ok3 (S k) q) : LA l G b x a o v i 2575 vU vU vU vU [] cs sl H := by
  obtain ⟨⟨hG, hT, hN, hNc⟩, hX, hA, hL, hR, fin⟩ := C
  have hR0 := W0.1.1
  refine a_aload_n dL_law_2575 rfl rfl ?_
  refine a_xload_n dL_law_2576 rfl rfl ?_
  refine a_iload dL_law_2577 rfl ?_
  refine a_iconst dL_law_2579 ⟨by decide, by decide⟩ ?_
  refine a_iadd dL_law_2580 (by unfold inI; omega) ?_
  refine a_sld hX dL_law_2581 (by omega) ?_
  refine a_aload_n dL_law_2582 rfl rfl ?_
  refine a_callSH (d' := 998 + 1) dL_law_2583 lc_327 (as := [vR x, vI (xs (i + 1).toNat).toInt, vR o]) rfl rfl (Nat.le_refl _) (Nat.le_of_ble_eq_true rfl) (nocov rfl) (by omega) (by omega) (CLH.mono (l_bestRunway (d := 998) hG (kRun_0 hR0.la) (fun r9 H9 q9 => ⟨ans_I q9.1, by rw [q9.2.1.2.1]; exact W0.2.2.2.2.1⟩) (k_bestRunway hG hR0)) ?_)
  intro r1 H1 q1
  obtain ⟨rfl, W1, hv⟩ := lqx vI_in vI_nt (fun c i => pX_in) hA (Or.inl rfl) W0 (th01 _) q1
  show LA l G b x a o v i 2586 vU vU vU vU [vI _] (cs + 4) (sl + 24) H1
  refine a_istore dL_law_2586 (by decide) rfl ?_
  show LA l G b x a o v i 2588 (vI _) vU vU vU [] (cs + 4) (sl + 24) H1
  refine a_aload_n dL_law_2588 rfl rfl ?_
  refine a_xload_n dL_law_2589 rfl rfl ?_
  refine a_iload dL_law_2590 rfl ?_
  refine a_iconst dL_law_2592 ⟨by decide, by decide⟩ ?_
  refine a_iadd dL_law_2593 (by unfold inI; omega) ?_
  refine a_sld hX dL_law_2594 (by omega) ?_
  refine a_callV (d' := 999) dL_law_2595 lc_329 (as := [vI (xs (i + 1).toNat).toInt]) rfl rfl (kMod_0 W1.2.1.1.1) (Nat.le_refl _) (Nat.le_of_ble_eq_true rfl) (nocov rfl) (by omega) (by omega) (CL.mono (c_bestRunway W1.2.1.1) ?_)
  rintro r2 H2 ⟨rfl, w2⟩
  obtain ⟨W2, e2, e2v⟩ := W1.mut hA w2
  show LA l G b x a o v i 2598 (vI _) vU vU vU [vI _] (cs + 4) (sl + 24) H2
  refine a_istore dL_law_2598 (by decide) rfl ?_
  show LA l G b x a o v i 2600 (vI _) (vI _) vU vU [] (cs + 4) (sl + 24) H2
  refine a_aload_n dL_law_2600 rfl rfl ?_
  refine a_callV (d' := 999) dL_law_2601 lc_154 (as := []) rfl rfl (kMod_0 W2.2.1.1.1) (Nat.le_refl _) (Nat.le_of_ble_eq_true rfl) (nocov rfl) (by omega) (by omega) (CL.mono (c_thrown W2.2.1.1.1) ?_)
  rintro r3 H3 ⟨rfl, rfl⟩
  show LA l G b x a o v i 2604 (vI _) (vI _) vU vU [vI _] (cs + 4) (sl + 24) H3
  refine a_iload dL_law_2604 rfl ?_
  refine a_icmp_eq dL_law_2606 (tgt := 2611) rfl (fun _ => ?_) (fun c9 => absurd w2.1 c9)
  refine a_iload dL_law_2611 rfl ?_
  refine a_if_ne dL_law_2613 (tgt := 2628) rfl (fun _ => ?_) (fun c9 => ?_)
  · exact a_goto dL_law_2628 (tgt := 3039) rfl (fin _ _ _ _ _ _ _ ⟨_, _, _, _, _, _, _, W2, h3.up (by omega), fun k k1 k2 t => (hS k k1 k2 t).up (by omega)⟩ (by omega) (by omega))
  · refine a_aload_n dL_law_2616 rfl rfl ?_
    refine a_iconst dL_law_2617 ⟨by decide, by decide⟩ ?_
    refine b_lald dL_law_2618 (congrArg Prod.fst W2.2.2.2.2.1) (congrArg Prod.snd W2.2.2.2.2.1) (by omega) ?_
    refine a_iload dL_law_2619 rfl ?_
    refine a_i2l dL_law_2621 ?_
    refine a_lcmp_eq dL_law_2622 dL_law_2623 (tgt := 2628) rfl (fun _ => ?_) (fun c8 => absurd ((e2 0).trans (hv c9)) c8)
    exact a_goto dL_law_2628 (tgt := 3039) rfl (fin _ _ _ _ _ _ _ ⟨_, _, _, _, _, _, _, W2, h3.up (by omega), fun k k1 k2 t => (hS k k1 k2 t).up (by omega)⟩ (by omega) (by omega))
theorem w_law_51 {l : Launch} {G : GT} {b L : Nat} {xs : Nat → Int32} {x a o v u q i n er : Int} {M B : Row} {T : Int → Bool} {S : Int → Row} {Y : Int → Int} {cs sl : Nat} {H : AH} (C : LC l G b L xs x a o v u q i cs sl) (W0 : LW H x a o v u M B n er T S M B n er T S Y) (h3 : ok3 M q) (hS : ∀ k, 0 ≤ k → k < 2 → T k = true → ok3 (S k) q) : LA l G b x a o v i 2631 vU vU vU vU [] cs sl H := by
  obtain ⟨⟨hG, hT, hN, hNc⟩, hX, hA, hL, hR, fin⟩ := C
  have hR0 := W0.1.1
  refine a_aload_n dL_law_2631 rfl rfl ?_
  refine a_callV (d' := 999) dL_law_2632 lc_330 (as := []) rfl rfl (kRun_0 hR0.la) (Nat.le_refl _) (Nat.le_of_ble_eq_true rfl) (nocov rfl) (by omega) (by omega) (CL.mono (k_balance hR0) ?_)
  rintro r1 H1 ⟨e1, o1, R1⟩
  rw [ans_0] at e1
  subst e1
  have W1 := W0.cla hA o1 (fun c i => pX_in) R1
  show LA l G b x a o v i 2635 vU vU vU vU [vI _] cs sl H1
  refine a_aload_n dL_law_2635 rfl rfl ?_
  refine a_callV (d' := 999) dL_law_2636 lc_333 (as := []) rfl rfl (kMod_0 W1.2.1.1.1) (Nat.le_refl _) (Nat.le_of_ble_eq_true rfl) (nocov rfl) (by omega) (by omega) (CL.mono (c_balance W1.2.1.1) ?_)
  rintro r2 H2 ⟨rfl, w2⟩
  obtain ⟨W2, e2, e2v⟩ := W1.mut hA w2
  show LA l G b x a o v i 2639 vU vU vU vU [vI _, vI _] cs sl H2
  exact a_icmp_eq dL_law_2639 (tgt := 3039) rfl (fun _ => (fin _ _ _ _ _ _ _ ⟨_, _, _, _, _, _, _, W2, ok3.bal 10 (h3.up (by omega)) hR0.ok, fun k k1 k2 t => (hS k k1 k2 t).up (by omega)⟩ (by omega) (by omega))) (fun c8 => absurd rfl c8)
theorem w_law_52 {l : Launch} {G : GT} {b L : Nat} {xs : Nat → Int32} {x a o v u q i n er : Int} {M B : Row} {T : Int → Bool} {S : Int → Row} {Y : Int → Int} {cs sl : Nat} {H : AH} (C : LC l G b L xs x a o v u q i cs sl) (W0 : LW H x a o v u M B n er T S M B n er T S Y) (h3 : ok3 M q) (hS : ∀ k, 0 ≤ k → k < 2 → T k = true → ok3 (S k) q) : LA l G b x a o v i 2644 vU vU vU vU [] cs sl H := by
  obtain ⟨⟨hG, hT, hN, hNc⟩, hX, hA, hL, hR, fin⟩ := C
  have hR0 := W0.1.1
  refine a_aload_n dL_law_2644 rfl rfl ?_
  refine a_xload_n dL_law_2645 rfl rfl ?_
  refine a_iload dL_law_2646 rfl ?_
  refine a_iconst dL_law_2648 ⟨by decide, by decide⟩ ?_
  refine a_iadd dL_law_2649 (by unfold inI; omega) ?_
  refine a_sld hX dL_law_2650 (by omega) ?_
  refine a_aload_n dL_law_2651 rfl rfl ?_
  refine a_callSH (d' := 998 + 1) dL_law_2652 lc_334 (as := [vR x, vI (xs (i + 1).toNat).toInt, vR o]) rfl rfl (Nat.le_refl _) (Nat.le_of_ble_eq_true rfl) (nocov rfl) (by omega) (by omega) (CLH.mono (l_aroundCost (d := 998) hG (kRun_0 hR0.la) (fun r9 H9 q9 => ⟨ans_J q9.1, by rw [q9.2.1.2.1]; exact W0.2.2.2.2.1⟩) (k_aroundCost hG hR0 (fun f hf => by have := h3.2.1 f hf; omega))) ?_)
  intro r1 H1 q1
  obtain ⟨rfl, W1, hv⟩ := lqx vJ_in vJ_nt (fun c i => pX_in) hA (Or.inl rfl) W0 (th01 _) q1
  show LA l G b x a o v i 2655 vU vU vU vU [vI _] (cs + 4) (sl + 24) H1
  refine a_istore dL_law_2655 (by decide) rfl ?_
  show LA l G b x a o v i 2657 (vI _) vU vU vU [] (cs + 4) (sl + 24) H1
  refine a_aload_n dL_law_2657 rfl rfl ?_
  refine a_xload_n dL_law_2658 rfl rfl ?_
  refine a_iload dL_law_2659 rfl ?_
  refine a_iconst dL_law_2661 ⟨by decide, by decide⟩ ?_
  refine a_iadd dL_law_2662 (by unfold inI; omega) ?_
  refine a_sld hX dL_law_2663 (by omega) ?_
  refine a_callV (d' := 999) dL_law_2664 lc_336 (as := [vI (xs (i + 1).toNat).toInt]) rfl rfl (kMod_0 W1.2.1.1.1) (Nat.le_refl _) (Nat.le_of_ble_eq_true rfl) (nocov rfl) (by omega) (by omega) (CL.mono (c_aroundCost W1.2.1.1 (fun f hf => by have := h3.2.1 f hf; omega)) ?_)
  rintro r2 H2 ⟨rfl, w2⟩
  obtain ⟨W2, e2, e2v⟩ := W1.mut hA w2
  show LA l G b x a o v i 2667 (vI _) vU vU vU [vJ _] (cs + 4) (sl + 24) H2
  refine a_lstore dL_law_2667 (by decide) rfl ?_
  show LA l G b x a o v i 2669 (vI _) (vJ _) vU vU [] (cs + 4) (sl + 24) H2
  refine a_aload_n dL_law_2669 rfl rfl ?_
  refine a_callV (d' := 999) dL_law_2670 lc_154 (as := []) rfl rfl (kMod_0 W2.2.1.1.1) (Nat.le_refl _) (Nat.le_of_ble_eq_true rfl) (nocov rfl) (by omega) (by omega) (CL.mono (c_thrown W2.2.1.1.1) ?_)
  rintro r3 H3 ⟨rfl, rfl⟩
  show LA l G b x a o v i 2673 (vI _) (vJ _) vU vU [vI _] (cs + 4) (sl + 24) H3
  refine a_iload dL_law_2673 rfl ?_
  refine a_icmp_eq dL_law_2675 (tgt := 2680) rfl (fun _ => ?_) (fun c9 => absurd w2.1 c9)
  refine a_iload dL_law_2680 rfl ?_
  refine a_if_ne dL_law_2682 (tgt := 2696) rfl (fun _ => ?_) (fun c9 => ?_)
  · exact a_goto dL_law_2696 (tgt := 3039) rfl (fin _ _ _ _ _ _ _ ⟨_, _, _, _, _, _, _, W2, h3.up (by omega), fun k k1 k2 t => (hS k k1 k2 t).up (by omega)⟩ (by omega) (by omega))
  · refine a_aload_n dL_law_2685 rfl rfl ?_
    refine a_iconst dL_law_2686 ⟨by decide, by decide⟩ ?_
    refine b_lald dL_law_2687 (congrArg Prod.fst W2.2.2.2.2.1) (congrArg Prod.snd W2.2.2.2.2.1) (by omega) ?_
    refine a_lload dL_law_2688 rfl ?_
    refine a_lcmp_eq dL_law_2690 dL_law_2691 (tgt := 2696) rfl (fun _ => ?_) (fun c8 => absurd ((e2 0).trans (hv c9)) c8)
    exact a_goto dL_law_2696 (tgt := 3039) rfl (fin _ _ _ _ _ _ _ ⟨_, _, _, _, _, _, _, W2, h3.up (by omega), fun k k1 k2 t => (hS k k1 k2 t).up (by omega)⟩ (by omega) (by omega))
theorem w_law_53 {l : Launch} {G : GT} {b L : Nat} {xs : Nat → Int32} {x a o v u q i n er : Int} {M B : Row} {T : Int → Bool} {S : Int → Row} {Y : Int → Int} {cs sl : Nat} {H : AH} (C : LC l G b L xs x a o v u q i cs sl) (W0 : LW H x a o v u M B n er T S M B n er T S Y) (h3 : ok3 M q) (hS : ∀ k, 0 ≤ k → k < 2 → T k = true → ok3 (S k) q) : LA l G b x a o v i 2699 vU vU vU vU [] cs sl H := by
  obtain ⟨⟨hG, hT, hN, hNc⟩, hX, hA, hL, hR, fin⟩ := C
  have hR0 := W0.1.1
  refine a_aload_n dL_law_2699 rfl rfl ?_
  refine a_xload_n dL_law_2700 rfl rfl ?_
  refine a_iload dL_law_2701 rfl ?_
  refine a_iconst dL_law_2703 ⟨by decide, by decide⟩ ?_
  refine a_iadd dL_law_2704 (by unfold inI; omega) ?_
  refine a_sld hX dL_law_2705 (by omega) ?_
  refine a_aload_n dL_law_2706 rfl rfl ?_
  refine a_callSH (d' := 998 + 1) dL_law_2707 lc_337 (as := [vR x, vI (xs (i + 1).toNat).toInt, vR o]) rfl rfl (Nat.le_refl _) (Nat.le_of_ble_eq_true rfl) (nocov rfl) (by omega) (by omega) (CLH.mono (l_latestStart (d := 998) hG (kRun_0 hR0.la) (fun r9 H9 q9 => ⟨ans_I q9.1, by rw [q9.2.1.2.1]; exact W0.2.2.2.2.1⟩) (k_latestStart hG hR0)) ?_)
  intro r1 H1 q1
  obtain ⟨rfl, W1, hv⟩ := lqx vI_in vI_nt (fun c i => pX_in) hA (Or.inl rfl) W0 (th01 _) q1
  show LA l G b x a o v i 2710 vU vU vU vU [vI _] (cs + 4) (sl + 24) H1
  refine a_istore dL_law_2710 (by decide) rfl ?_
  show LA l G b x a o v i 2712 (vI _) vU vU vU [] (cs + 4) (sl + 24) H1
  refine a_aload_n dL_law_2712 rfl rfl ?_
  refine a_xload_n dL_law_2713 rfl rfl ?_
  refine a_iload dL_law_2714 rfl ?_
  refine a_iconst dL_law_2716 ⟨by decide, by decide⟩ ?_
  refine a_iadd dL_law_2717 (by unfold inI; omega) ?_
  refine a_sld hX dL_law_2718 (by omega) ?_
  refine a_callV (d' := 999) dL_law_2719 lc_339 (as := [vI (xs (i + 1).toNat).toInt]) rfl rfl (kMod_0 W1.2.1.1.1) (Nat.le_refl _) (Nat.le_of_ble_eq_true rfl) (nocov rfl) (by omega) (by omega) (CL.mono (c_latestStart W1.2.1.1) ?_)
  rintro r2 H2 ⟨rfl, w2⟩
  obtain ⟨W2, e2, e2v⟩ := W1.mut hA w2
  show LA l G b x a o v i 2722 (vI _) vU vU vU [vI _] (cs + 4) (sl + 24) H2
  refine a_istore dL_law_2722 (by decide) rfl ?_
  show LA l G b x a o v i 2724 (vI _) (vI _) vU vU [] (cs + 4) (sl + 24) H2
  refine a_aload_n dL_law_2724 rfl rfl ?_
  refine a_callV (d' := 999) dL_law_2725 lc_154 (as := []) rfl rfl (kMod_0 W2.2.1.1.1) (Nat.le_refl _) (Nat.le_of_ble_eq_true rfl) (nocov rfl) (by omega) (by omega) (CL.mono (c_thrown W2.2.1.1.1) ?_)
  rintro r3 H3 ⟨rfl, rfl⟩
  show LA l G b x a o v i 2728 (vI _) (vI _) vU vU [vI _] (cs + 4) (sl + 24) H3
  refine a_iload dL_law_2728 rfl ?_
  refine a_icmp_eq dL_law_2730 (tgt := 2735) rfl (fun _ => ?_) (fun c9 => absurd w2.1 c9)
  refine a_iload dL_law_2735 rfl ?_
  refine a_if_ne dL_law_2737 (tgt := 2752) rfl (fun _ => ?_) (fun c9 => ?_)
  · exact a_goto dL_law_2752 (tgt := 3039) rfl (fin _ _ _ _ _ _ _ ⟨_, _, _, _, _, _, _, W2, h3.up (by omega), fun k k1 k2 t => (hS k k1 k2 t).up (by omega)⟩ (by omega) (by omega))
  · refine a_aload_n dL_law_2740 rfl rfl ?_
    refine a_iconst dL_law_2741 ⟨by decide, by decide⟩ ?_
    refine b_lald dL_law_2742 (congrArg Prod.fst W2.2.2.2.2.1) (congrArg Prod.snd W2.2.2.2.2.1) (by omega) ?_
    refine a_iload dL_law_2743 rfl ?_
    refine a_i2l dL_law_2745 ?_
    refine a_lcmp_eq dL_law_2746 dL_law_2747 (tgt := 2752) rfl (fun _ => ?_) (fun c8 => absurd ((e2 0).trans (hv c9)) c8)
    exact a_goto dL_law_2752 (tgt := 3039) rfl (fin _ _ _ _ _ _ _ ⟨_, _, _, _, _, _, _, W2, h3.up (by omega), fun k k1 k2 t => (hS k k1 k2 t).up (by omega)⟩ (by omega) (by omega))
theorem w_law_55 {l : Launch} {G : GT} {b L : Nat} {xs : Nat → Int32} {x a o v u q i n er : Int} {M B : Row} {T : Int → Bool} {S : Int → Row} {Y : Int → Int} {cs sl : Nat} {H : AH} (C : LC l G b L xs x a o v u q i cs sl) (W0 : LW H x a o v u M B n er T S M B n er T S Y) (h3 : ok3 M q) (hS : ∀ k, 0 ≤ k → k < 2 → T k = true → ok3 (S k) q) : LA l G b x a o v i 2835 vU vU vU vU [] cs sl H := by
  obtain ⟨⟨hG, hT, hN, hNc⟩, hX, hA, hL, hR, fin⟩ := C
  have hR0 := W0.1.1
  refine a_aload_n dL_law_2835 rfl rfl ?_
  refine a_xload_n dL_law_2836 rfl rfl ?_
  refine a_iload dL_law_2837 rfl ?_
  refine a_iconst dL_law_2839 ⟨by decide, by decide⟩ ?_
  refine a_iadd dL_law_2840 (by unfold inI; omega) ?_
  refine a_sld hX dL_law_2841 (by omega) ?_
  refine a_xload_n dL_law_2842 rfl rfl ?_
  refine a_iload dL_law_2843 rfl ?_
  refine a_iconst dL_law_2845 ⟨by decide, by decide⟩ ?_
  refine a_iadd dL_law_2846 (by unfold inI; omega) ?_
  refine a_sld hX dL_law_2847 (by omega) ?_
  refine a_xload_n dL_law_2848 rfl rfl ?_
  refine a_iload dL_law_2849 rfl ?_
  refine a_iconst dL_law_2851 ⟨by decide, by decide⟩ ?_
  refine a_iadd dL_law_2852 (by unfold inI; omega) ?_
  refine a_sld hX dL_law_2853 (by omega) ?_
  refine a_xload_n dL_law_2854 rfl rfl ?_
  refine a_iload dL_law_2855 rfl ?_
  refine a_iconst dL_law_2857 ⟨by decide, by decide⟩ ?_
  refine a_iadd dL_law_2858 (by unfold inI; omega) ?_
  refine a_sld hX dL_law_2859 (by omega) ?_
  refine a_aload_n dL_law_2860 rfl rfl ?_
  refine a_callSH (d' := 998 + 1) dL_law_2861 lc_343 (as := [vR x, vI (xs (i + 1).toNat).toInt, vI (xs (i + 2).toNat).toInt, vI (xs (i + 3).toNat).toInt, vI (xs (i + 4).toNat).toInt, vR o]) rfl rfl (Nat.le_refl _) (Nat.le_of_ble_eq_true rfl) (nocov rfl) (by omega) (by omega) (CLH.mono (l_simulate (d := 998) hG (kRun_0 hR0.la) (fun r9 H9 q9 => ⟨ans_I q9.1, by rw [q9.2.1.2.1]; exact W0.2.2.2.2.1⟩) (k_simulate hG hR0 (i32_in _) h3.2.2 h3.1 (fun f hf => by have := h3.2.1 f hf; omega))) ?_)
  intro r1 H1 q1
  obtain ⟨rfl, W1, hv⟩ := lqx vI_in vI_nt (fun c i => pX_in) hA (Or.inl rfl) W0 (th01 _) q1
  show LA l G b x a o v i 2864 vU vU vU vU [vI _] (cs + 4) (sl + 24) H1
  refine a_istore dL_law_2864 (by decide) rfl ?_
  show LA l G b x a o v i 2866 (vI _) vU vU vU [] (cs + 4) (sl + 24) H1
  refine a_aload_n dL_law_2866 rfl rfl ?_
  refine a_xload_n dL_law_2867 rfl rfl ?_
  refine a_iload dL_law_2868 rfl ?_
  refine a_iconst dL_law_2870 ⟨by decide, by decide⟩ ?_
  refine a_iadd dL_law_2871 (by unfold inI; omega) ?_
  refine a_sld hX dL_law_2872 (by omega) ?_
  refine a_xload_n dL_law_2873 rfl rfl ?_
  refine a_iload dL_law_2874 rfl ?_
  refine a_iconst dL_law_2876 ⟨by decide, by decide⟩ ?_
  refine a_iadd dL_law_2877 (by unfold inI; omega) ?_
  refine a_sld hX dL_law_2878 (by omega) ?_
  refine a_xload_n dL_law_2879 rfl rfl ?_
  refine a_iload dL_law_2880 rfl ?_
  refine a_iconst dL_law_2882 ⟨by decide, by decide⟩ ?_
  refine a_iadd dL_law_2883 (by unfold inI; omega) ?_
  refine a_sld hX dL_law_2884 (by omega) ?_
  refine a_xload_n dL_law_2885 rfl rfl ?_
  refine a_iload dL_law_2886 rfl ?_
  refine a_iconst dL_law_2888 ⟨by decide, by decide⟩ ?_
  refine a_iadd dL_law_2889 (by unfold inI; omega) ?_
  refine a_sld hX dL_law_2890 (by omega) ?_
  refine a_callV (d' := 999) dL_law_2891 lc_346 (as := [vI (xs (i + 1).toNat).toInt, vI (xs (i + 2).toNat).toInt, vI (xs (i + 3).toNat).toInt, vI (xs (i + 4).toNat).toInt]) rfl rfl (kMod_0 W1.2.1.1.1) (Nat.le_refl _) (Nat.le_of_ble_eq_true rfl) (nocov rfl) (by omega) (by omega) (CL.mono (c_simulate W1.2.1.1 (i32_in _) h3.2.2 h3.1 (fun f hf => by have := h3.2.1 f hf; omega)) ?_)
  rintro r2 H2 ⟨rfl, w2⟩
  obtain ⟨W2, e2, e2v⟩ := W1.mut hA w2
  show LA l G b x a o v i 2894 (vI _) vU vU vU [vI _] (cs + 4) (sl + 24) H2
  refine a_istore dL_law_2894 (by decide) rfl ?_
  show LA l G b x a o v i 2896 (vI _) (vI _) vU vU [] (cs + 4) (sl + 24) H2
  refine a_aload_n dL_law_2896 rfl rfl ?_
  refine a_callV (d' := 999) dL_law_2897 lc_154 (as := []) rfl rfl (kMod_0 W2.2.1.1.1) (Nat.le_refl _) (Nat.le_of_ble_eq_true rfl) (nocov rfl) (by omega) (by omega) (CL.mono (c_thrown W2.2.1.1.1) ?_)
  rintro r3 H3 ⟨rfl, rfl⟩
  show LA l G b x a o v i 2900 (vI _) (vI _) vU vU [vI _] (cs + 4) (sl + 24) H3
  refine a_iload dL_law_2900 rfl ?_
  refine a_icmp_eq dL_law_2902 (tgt := 2907) rfl (fun _ => ?_) (fun c9 => absurd w2.1 c9)
  refine a_iload dL_law_2907 rfl ?_
  refine a_if_ne dL_law_2909 (tgt := 2924) rfl (fun _ => ?_) (fun c9 => ?_)
  · exact a_goto dL_law_2924 (tgt := 3039) rfl (fin _ _ _ _ _ _ _ ⟨_, _, _, _, _, _, _, W2, h3.up (by omega), fun k k1 k2 t => (hS k k1 k2 t).up (by omega)⟩ (by omega) (by omega))
  · refine a_aload_n dL_law_2912 rfl rfl ?_
    refine a_iconst dL_law_2913 ⟨by decide, by decide⟩ ?_
    refine b_lald dL_law_2914 (congrArg Prod.fst W2.2.2.2.2.1) (congrArg Prod.snd W2.2.2.2.2.1) (by omega) ?_
    refine a_iload dL_law_2915 rfl ?_
    refine a_i2l dL_law_2917 ?_
    refine a_lcmp_eq dL_law_2918 dL_law_2919 (tgt := 2924) rfl (fun _ => ?_) (fun c8 => absurd ((e2 0).trans (hv c9)) c8)
    exact a_goto dL_law_2924 (tgt := 3039) rfl (fin _ _ _ _ _ _ _ ⟨_, _, _, _, _, _, _, W2, h3.up (by omega), fun k k1 k2 t => (hS k k1 k2 t).up (by omega)⟩ (by omega) (by omega))
