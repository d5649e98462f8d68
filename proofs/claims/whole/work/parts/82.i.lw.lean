/-! the law: snapshots -/
theorem dL_law_2927 : decode code 2927 = .ok (.aload_n 1, 1) := by decide +kernel
theorem dL_law_2928 : decode code 2928 = .ok (.aload_n 0, 1) := by decide +kernel
theorem dL_law_2929 : decode code 2929 = .ok (.iload 5, 2) := by decide +kernel
theorem dL_law_2931 : decode code 2931 = .ok (.iconst 1, 1) := by decide +kernel
theorem dL_law_2932 : decode code 2932 = .ok (.iadd, 1) := by decide +kernel
theorem dL_law_2933 : decode code 2933 = .ok (.iaload, 1) := by decide +kernel
theorem dL_law_2934 : decode code 2934 = .ok (.aload_n 3, 1) := by decide +kernel
theorem dL_law_2935 : decode code 2935 = .ok (.invokestatic 347, 3) := by decide +kernel
theorem dL_law_2938 : decode code 2938 = .ok (.istore 6, 2) := by decide +kernel
theorem dL_law_2940 : decode code 2940 = .ok (.aload_n 2, 1) := by decide +kernel
theorem dL_law_2941 : decode code 2941 = .ok (.aload_n 0, 1) := by decide +kernel
theorem dL_law_2942 : decode code 2942 = .ok (.iload 5, 2) := by decide +kernel
theorem dL_law_2944 : decode code 2944 = .ok (.iconst 1, 1) := by decide +kernel
theorem dL_law_2945 : decode code 2945 = .ok (.iadd, 1) := by decide +kernel
theorem dL_law_2946 : decode code 2946 = .ok (.iaload, 1) := by decide +kernel
theorem dL_law_2947 : decode code 2947 = .ok (.invokevirtual 349, 3) := by decide +kernel
theorem dL_law_2950 : decode code 2950 = .ok (.istore 7, 2) := by decide +kernel
theorem dL_law_2952 : decode code 2952 = .ok (.aload_n 2, 1) := by decide +kernel
theorem dL_law_2953 : decode code 2953 = .ok (.invokevirtual 154, 3) := by decide +kernel
theorem dL_law_2956 : decode code 2956 = .ok (.iload 6, 2) := by decide +kernel
theorem dL_law_2958 : decode code 2958 = .ok (.if_icmp .eq 5, 3) := by decide +kernel
theorem dL_law_2963 : decode code 2963 = .ok (.iload 6, 2) := by decide +kernel
theorem dL_law_2965 : decode code 2965 = .ok (.ifCond .ne 15, 3) := by decide +kernel
theorem dL_law_2968 : decode code 2968 = .ok (.aload_n 3, 1) := by decide +kernel
theorem dL_law_2969 : decode code 2969 = .ok (.iconst 0, 1) := by decide +kernel
theorem dL_law_2970 : decode code 2970 = .ok (.laload, 1) := by decide +kernel
theorem dL_law_2971 : decode code 2971 = .ok (.iload 7, 2) := by decide +kernel
theorem dL_law_2973 : decode code 2973 = .ok (.i2l, 1) := by decide +kernel
theorem dL_law_2974 : decode code 2974 = .ok (.lcmp, 1) := by decide +kernel
theorem dL_law_2975 : decode code 2975 = .ok (.ifCond .eq 5, 3) := by decide +kernel
theorem dL_law_2980 : decode code 2980 = .ok (.goto 59, 3) := by decide +kernel
theorem dL_law_2983 : decode code 2983 = .ok (.aload_n 1, 1) := by decide +kernel
theorem dL_law_2984 : decode code 2984 = .ok (.aload_n 0, 1) := by decide +kernel
theorem dL_law_2985 : decode code 2985 = .ok (.iload 5, 2) := by decide +kernel
theorem dL_law_2987 : decode code 2987 = .ok (.iconst 1, 1) := by decide +kernel
theorem dL_law_2988 : decode code 2988 = .ok (.iadd, 1) := by decide +kernel
theorem dL_law_2989 : decode code 2989 = .ok (.iaload, 1) := by decide +kernel
theorem dL_law_2990 : decode code 2990 = .ok (.aload_n 3, 1) := by decide +kernel
theorem dL_law_2991 : decode code 2991 = .ok (.invokestatic 350, 3) := by decide +kernel
theorem dL_law_2994 : decode code 2994 = .ok (.istore 6, 2) := by decide +kernel
theorem dL_law_2996 : decode code 2996 = .ok (.aload_n 2, 1) := by decide +kernel
theorem dL_law_2997 : decode code 2997 = .ok (.aload_n 0, 1) := by decide +kernel
theorem dL_law_2998 : decode code 2998 = .ok (.iload 5, 2) := by decide +kernel
theorem dL_law_3000 : decode code 3000 = .ok (.iconst 1, 1) := by decide +kernel
theorem dL_law_3001 : decode code 3001 = .ok (.iadd, 1) := by decide +kernel
theorem dL_law_3002 : decode code 3002 = .ok (.iaload, 1) := by decide +kernel
theorem dL_law_3003 : decode code 3003 = .ok (.invokevirtual 352, 3) := by decide +kernel
theorem dL_law_3006 : decode code 3006 = .ok (.istore 7, 2) := by decide +kernel
theorem dL_law_3008 : decode code 3008 = .ok (.aload_n 2, 1) := by decide +kernel
theorem dL_law_3009 : decode code 3009 = .ok (.invokevirtual 154, 3) := by decide +kernel
theorem dL_law_3012 : decode code 3012 = .ok (.iload 6, 2) := by decide +kernel
theorem dL_law_3014 : decode code 3014 = .ok (.if_icmp .eq 5, 3) := by decide +kernel
theorem dL_law_3019 : decode code 3019 = .ok (.iload 6, 2) := by decide +kernel
theorem dL_law_3021 : decode code 3021 = .ok (.ifCond .ne 15, 3) := by decide +kernel
theorem dL_law_3024 : decode code 3024 = .ok (.aload_n 3, 1) := by decide +kernel
theorem dL_law_3025 : decode code 3025 = .ok (.iconst 0, 1) := by decide +kernel
theorem dL_law_3026 : decode code 3026 = .ok (.laload, 1) := by decide +kernel
theorem dL_law_3027 : decode code 3027 = .ok (.iload 7, 2) := by decide +kernel
theorem dL_law_3029 : decode code 3029 = .ok (.i2l, 1) := by decide +kernel
theorem dL_law_3030 : decode code 3030 = .ok (.lcmp, 1) := by decide +kernel
theorem dL_law_3031 : decode code 3031 = .ok (.ifCond .eq 5, 3) := by decide +kernel
theorem dL_law_3036 : decode code 3036 = .ok (.goto 3, 3) := by decide +kernel
theorem w_law_56 {l : Launch} {G : GT} {b L : Nat} {xs : Nat → Int32} {x a o v u q i n er : Int} {M B : Row} {T : Int → Bool} {S : Int → Row} {Y : Int → Int} {cs sl : Nat} {H : AH} (C : LC l G b L xs x a o v u q i cs sl) (W0 : LW H x a o v u M B n er T S M B n er T S Y) (h3 : ok3 M q) (hS : ∀ k, 0 ≤ k → k < 2 → T k = true → ok3 (S k) q) : LA l G b x a o v i 2927 vU vU vU vU [] cs sl H := by
  obtain ⟨⟨hG, hT, hN, hNc⟩, hX, hA, hL, hR, fin⟩ := C
  have hR0 := W0.1.1
  obtain ⟨s, hs9⟩ : ∃ s, s = (xs (i + 1).toNat).toInt := ⟨_, rfl⟩
  have hu : 0 < u := by have := hA.1; have := hA.2.2.2.2; omega
  have hsz := W0.2.2.2.2.2.2
  have hY : okSl s → hg H (x + 66) s = 0 ∨ (SB H (hg H (x + 66) s) ∧ x + 67 ≤ hg H (x + 66) s) := fun w => by
    have q := W0.2.2.1.at w hu
    by_cases c : hg H (x + 66) s = 0
    · exact Or.inl c
    · obtain ⟨q1, q2, q3, q4⟩ := q.2 (q.1.mpr c)
      rw [q1]
      exact Or.inr ⟨q3.sb, by have := hA.2.2.2.2; omega⟩
  have ks := k_saveSnapshot (l := l) (G := G) (d := 998) (s := s) hG hN ⟨hA.1, by have := hA.2.2.2.2; omega⟩ hR0 hY
  refine a_aload_n dL_law_2927 rfl rfl ?_
  refine a_xload_n dL_law_2928 rfl rfl ?_
  refine a_iload dL_law_2929 rfl ?_
  refine a_iconst dL_law_2931 ⟨by decide, by decide⟩ ?_
  refine a_iadd dL_law_2932 (by unfold inI; omega) ?_
  refine a_sld hX dL_law_2933 (by omega) ?_
  refine a_aload_n dL_law_2934 rfl rfl ?_
  rw [← hs9]
  refine a_callSH (d' := 998 + 1) dL_law_2935 lc_347 (as := [vR x, vI s, vR o]) rfl rfl (Nat.le_refl _) (Nat.le_of_ble_eq_true rfl) (nocov rfl) (by omega) (by omega) (CLH.mono (l_saveSnapshot (d := 998) hG (kRun_0 hR0.la) (fun r9 H9 q9 => ?_) ks) ?_)
  · by_cases c : okSl s
    · obtain ⟨e1, y, ey, X9, N9, hy⟩ := q9.2 c
      refine ⟨Or.inl ⟨_, e1⟩, ?_⟩
      rcases hy with ⟨-, -, o1⟩ | ⟨-, -, -, st⟩
      · rw [o1.2.1]; exact W0.2.2.2.2.1
      · rw [(st o (by have := hA.2.2; omega)).1]; exact W0.2.2.2.2.1
    · obtain ⟨e1, e2⟩ := q9.1 c
      exact ⟨Or.inr e1, by rw [e2]; exact W0.2.2.2.2.1⟩
  intro r1 H1 q1
  have K : ∃ Y9, r1 = vI (1 - bi (decide (okSl s))) ∧ LW H1 x a o v u M B n er (svT s T) (svS s M S) M B n er T S Y9 ∧ (okSl s → hg H1 o 0 = M 0) := by
    rcases q1 with ⟨y, H0, q9, rfl, rfl⟩ | ⟨q9, rfl⟩
    · have c : okSl s := Decidable.not_not.mp (fun c => absurd (q9.1 c).1 (vI_nt _ _))
      obtain ⟨Y9, W9⟩ := sv_cla hA W0 (fun _ => (q9.2 c).2) (fun c9 => absurd c c9)
      refine ⟨Y9, by rw [bi_t c]; rfl, W9.out hA (Or.inl rfl), fun _ => ?_⟩
      rw [hg_same]; exact vI_in _ _ (q9.2 c).1
    · have c : ¬ okSl s := fun c => absurd (q9.2 c).1.symm (vI_nt _ _)
      obtain ⟨Y9, W9⟩ := sv_cla hA W0 (fun c9 => absurd c9 c) (fun _ => (q9.1 c).2)
      exact ⟨Y9, by rw [bi_f c]; rfl, W9, fun c9 => absurd c9 c⟩
  obtain ⟨Y9, rfl, W1, hv0⟩ := K
  show LA l G b x a o v i 2938 vU vU vU vU [vI _] (cs + 24) (sl + 600) H1
  refine a_istore dL_law_2938 (by decide) rfl ?_
  show LA l G b x a o v i 2940 (vI _) vU vU vU [] (cs + 24) (sl + 600) H1
  refine a_aload_n dL_law_2940 rfl rfl ?_
  refine a_xload_n dL_law_2941 rfl rfl ?_
  refine a_iload dL_law_2942 rfl ?_
  refine a_iconst dL_law_2944 ⟨by decide, by decide⟩ ?_
  refine a_iadd dL_law_2945 (by unfold inI; omega) ?_
  refine a_sld hX dL_law_2946 (by omega) ?_
  rw [← hs9]
  refine a_callV (d' := 999) dL_law_2947 lc_349 (as := [vI s]) rfl rfl (kMod_0 W1.2.1.1.1) (Nat.le_refl _) (Nat.le_of_ble_eq_true rfl) (nocov rfl) (by omega) (by omega) (CL.mono (c_saveSnapshot W1.2.1.1) ?_)
  intro r2 H2 q2
  have K2 : r2 = vI (if okSl s then M 0 else 0) ∧ hg H2 a 5 = 1 - bi (decide (okSl s)) := by
    by_cases c : okSl s
    · rw [if_pos c, bi_t c]; exact ⟨(q2.1 c).1, (q2.1 c).2.1⟩
    · rw [if_neg c, bi_f c]; exact ⟨(q2.2 c).1, (q2.2 c).2.1⟩
  obtain ⟨W2, e2⟩ := sv_ref hA W1 hR0.ok (fun c => (q2.1 c).2.2) (fun c => ⟨1, (q2.2 c).2⟩)
  obtain ⟨rfl, t2⟩ := K2
  have w2 : hg H2 a 5 = 1 - bi (decide (okSl s)) ∧ True := ⟨t2, trivial⟩
  have hv : 1 - bi (decide (okSl s)) = 0 → hg H1 o 0 = (if okSl s then M 0 else 0) := fun c => by rw [if_pos (th0 c)]; exact hv0 (th0 c)
  have hS9 : ∀ k, 0 ≤ k → k < 2 → svT s T k = true → ok3 (svS s M S k) (q + 1) := fun k k1 k2 t => by
    by_cases c : okSl s ∧ k = s
    · rw [show svS s M S k = M from if_pos c]; exact h3.up (by omega)
    · rw [show svS s M S k = S k from if_neg c]; exact (hS k k1 k2 (by rw [← show svT s T k = T k from if_neg c]; exact t)).up (by omega)
  show LA l G b x a o v i 2950 (vI _) vU vU vU [vI _] (cs + 24) (sl + 600) H2
  refine a_istore dL_law_2950 (by decide) rfl ?_
  show LA l G b x a o v i 2952 (vI _) (vI _) vU vU [] (cs + 24) (sl + 600) H2
  refine a_aload_n dL_law_2952 rfl rfl ?_
  refine a_callV (d' := 999) dL_law_2953 lc_154 (as := []) rfl rfl (kMod_0 W2.2.1.1.1) (Nat.le_refl _) (Nat.le_of_ble_eq_true rfl) (nocov rfl) (by omega) (by omega) (CL.mono (c_thrown W2.2.1.1.1) ?_)
  rintro r3 H3 ⟨rfl, rfl⟩
  show LA l G b x a o v i 2956 (vI _) (vI _) vU vU [vI _] (cs + 24) (sl + 600) H3
  refine a_iload dL_law_2956 rfl ?_
  refine a_icmp_eq dL_law_2958 (tgt := 2963) rfl (fun _ => ?_) (fun c9 => absurd w2.1 c9)
  refine a_iload dL_law_2963 rfl ?_
  refine a_if_ne dL_law_2965 (tgt := 2980) rfl (fun _ => ?_) (fun c9 => ?_)
  · exact a_goto dL_law_2980 (tgt := 3039) rfl (fin _ _ _ _ _ _ _ ⟨_, _, _, _, _, _, _, W2, h3.up (by omega), hS9⟩ (by omega) (by omega))
  · refine a_aload_n dL_law_2968 rfl rfl ?_
    refine a_iconst dL_law_2969 ⟨by decide, by decide⟩ ?_
    refine b_lald dL_law_2970 (congrArg Prod.fst W2.2.2.2.2.1) (congrArg Prod.snd W2.2.2.2.2.1) (by omega) ?_
    refine a_iload dL_law_2971 rfl ?_
    refine a_i2l dL_law_2973 ?_
    refine a_lcmp_eq dL_law_2974 dL_law_2975 (tgt := 2980) rfl (fun _ => ?_) (fun c8 => absurd ((e2 0).trans (hv c9)) c8)
    exact a_goto dL_law_2980 (tgt := 3039) rfl (fin _ _ _ _ _ _ _ ⟨_, _, _, _, _, _, _, W2, h3.up (by omega), hS9⟩ (by omega) (by omega))
theorem w_law_57 {l : Launch} {G : GT} {b L : Nat} {xs : Nat → Int32} {x a o v u q i n er : Int} {M B : Row} {T : Int → Bool} {S : Int → Row} {Y : Int → Int} {cs sl : Nat} {H : AH} (C : LC l G b L xs x a o v u q i cs sl) (W0 : LW H x a o v u M B n er T S M B n er T S Y) (h3 : ok3 M q) (hS : ∀ k, 0 ≤ k → k < 2 → T k = true → ok3 (S k) q) : LA l G b x a o v i 2983 vU vU vU vU [] cs sl H := by
  obtain ⟨⟨hG, hT, hN, hNc⟩, hX, hA, hL, hR, fin⟩ := C
  have hR0 := W0.1.1
  obtain ⟨s, hs9⟩ : ∃ s, s = (xs (i + 1).toNat).toInt := ⟨_, rfl⟩
  have hu : 0 < u := by have := hA.1; have := hA.2.2.2.2; omega
  have hY : okSl s → hg H (x + 66) s = 0 ∨ (hg H (x + 66) s ≠ 0 ∧ SX H (hg H (x + 66) s) (S s) ∧ NM H (hg H (x + 66) s) (S s) ∧ x + 67 ≤ hg H (x + 66) s) := fun w => by
    have q := W0.2.2.1.at w hu
    by_cases c : hg H (x + 66) s = 0
    · exact Or.inl c
    · obtain ⟨q1, q2, q3, q4⟩ := q.2 (q.1.mpr c)
      rw [q1]
      exact Or.inr ⟨by omega, q3, q4, by have := hA.2.2.2.2; omega⟩
  have ew : okSl s → (hg H (x + 66) s = 0 ↔ hg H (a + 5) s = 0) := fun w => by
    have q := W0.2.2.1.at w hu
    have q2 := (W0.2.2.2.1 s w.1 (by have := w.2; omega)).1
    rw [q2]
    cases ht : T s with
    | false => exact ⟨fun _ => rfl, fun _ => Decidable.not_not.mp (fun z => by have := q.1.mpr z; rw [ht] at this; exact absurd this (by decide))⟩
    | true => exact ⟨fun z => absurd z (q.1.mp ht), fun z => absurd z (by decide)⟩
  have ec : (if okSl s ∧ ¬ hg H (x + 66) s = 0 then S s else M) = (if okRs H a s then S s else M) := by
    by_cases c : okRs H a s
    · rw [if_pos c, if_pos ⟨c.1, fun z => c.2 ((ew c.1).mp z)⟩]
    · rw [if_neg c, if_neg (fun z => c ⟨z.1, fun y => z.2 ((ew z.1).mpr y)⟩)]
  have ev : (if okSl s then (if hg H (x + 66) s = 0 then -1 else (S s) 0) else 0) = (if okSl s then (if hg H (a + 5) s = 0 then -1 else (S s) 0) else 0) := by
    by_cases c : okSl s
    · rw [if_pos c, if_pos c]
      by_cases c2 : hg H (a + 5) s = 0
      · rw [if_pos c2, if_pos ((ew c).mpr c2)]
      · rw [if_neg c2, if_neg (fun z => c2 ((ew c).mp z))]
    · rw [if_neg c, if_neg c]
  have kr := k_restoreSnapshot (l := l) (G := G) (d := 998) hG hR0 hY
  rw [ec, ev] at kr
  refine a_aload_n dL_law_2983 rfl rfl ?_
  refine a_xload_n dL_law_2984 rfl rfl ?_
  refine a_iload dL_law_2985 rfl ?_
  refine a_iconst dL_law_2987 ⟨by decide, by decide⟩ ?_
  refine a_iadd dL_law_2988 (by unfold inI; omega) ?_
  refine a_sld hX dL_law_2989 (by omega) ?_
  refine a_aload_n dL_law_2990 rfl rfl ?_
  rw [← hs9]
  refine a_callSH (d' := 998 + 1) dL_law_2991 lc_350 (as := [vR x, vI s, vR o]) rfl rfl (Nat.le_refl _) (Nat.le_of_ble_eq_true rfl) (nocov rfl) (by omega) (by omega) (CLH.mono (l_restoreSnapshot (d := 998) hG (kRun_0 hR0.la) (fun r9 H9 q9 => ⟨ans_I q9.1, by rw [q9.2.1.2.1]; exact W0.2.2.2.2.1⟩) kr) ?_)
  intro r1 H1 q1
  obtain ⟨rfl, W1, hv⟩ := lqx vI_in vI_nt (fun c i w => by have := pSt_in w; omega) hA (Or.inl rfl) W0 (th01 _) q1
  have g5 : okSl s → hg H1 (a + 5) s = hg H (a + 5) s := fun w => (W1.2.2.2.1 s w.1 (by have := w.2; omega)).1.trans (W0.2.2.2.1 s w.1 (by have := w.2; omega)).1.symm
  have er1 : (if okRs H1 a s then S s else M) = (if okRs H a s then S s else M) := by
    by_cases c : okSl s
    · unfold okRs; rw [g5 c]
    · rw [if_neg (fun z => c z.1), if_neg (fun z => c z.1)]
  have ev1 : (if okSl s then (if hg H1 (a + 5) s = 0 then -1 else (S s) 0) else 0) = (if okSl s then (if hg H (a + 5) s = 0 then -1 else (S s) 0) else 0) := by
    by_cases c : okSl s
    · rw [g5 c]
    · rw [if_neg c, if_neg c]
  have cr := c_restoreSnapshot (l := l) (G := G) (d := 999) (M' := S s) (s := s) W1.2.1.1 (fun w => by have z := W1.2.2.2.1 s w.1.1 (by have := w.1.2; omega); refine z.2 ?_; cases ht : T s with | true => rfl | false => exact absurd (z.1.trans (by rw [ht]; rfl)) w.2)
  rw [er1, ev1] at cr
  show LA l G b x a o v i 2994 vU vU vU vU [vI _] (cs + 4) (sl + 24) H1
  refine a_istore dL_law_2994 (by decide) rfl ?_
  show LA l G b x a o v i 2996 (vI _) vU vU vU [] (cs + 4) (sl + 24) H1
  refine a_aload_n dL_law_2996 rfl rfl ?_
  refine a_xload_n dL_law_2997 rfl rfl ?_
  refine a_iload dL_law_2998 rfl ?_
  refine a_iconst dL_law_3000 ⟨by decide, by decide⟩ ?_
  refine a_iadd dL_law_3001 (by unfold inI; omega) ?_
  refine a_sld hX dL_law_3002 (by omega) ?_
  rw [← hs9]
  refine a_callV (d' := 999) dL_law_3003 lc_352 (as := [vI s]) rfl rfl (kMod_0 W1.2.1.1.1) (Nat.le_refl _) (Nat.le_of_ble_eq_true rfl) (nocov rfl) (by omega) (by omega) (CL.mono (cr) ?_)
  rintro r2 H2 ⟨rfl, w2⟩
  obtain ⟨W2, e2, e2v⟩ := W1.mut hA w2
  have okr : ok3 (if okRs H a s then S s else M) (q + 1) := by
    by_cases c : okRs H a s
    · rw [if_pos c]
      have c1 : 0 ≤ s ∧ s ≤ 1 := c.1
      refine (hS s (by omega) (by omega) ?_).up (by omega)
      have z := (W0.2.2.2.1 s (by omega) (by omega)).1
      cases ht : T s with
      | true => rfl
      | false => exact absurd (z.trans (by rw [ht]; rfl)) c.2
    · rw [if_neg c]; exact h3.up (by omega)
  show LA l G b x a o v i 3006 (vI _) vU vU vU [vI _] (cs + 4) (sl + 24) H2
  refine a_istore dL_law_3006 (by decide) rfl ?_
  show LA l G b x a o v i 3008 (vI _) (vI _) vU vU [] (cs + 4) (sl + 24) H2
  refine a_aload_n dL_law_3008 rfl rfl ?_
  refine a_callV (d' := 999) dL_law_3009 lc_154 (as := []) rfl rfl (kMod_0 W2.2.1.1.1) (Nat.le_refl _) (Nat.le_of_ble_eq_true rfl) (nocov rfl) (by omega) (by omega) (CL.mono (c_thrown W2.2.1.1.1) ?_)
  rintro r3 H3 ⟨rfl, rfl⟩
  show LA l G b x a o v i 3012 (vI _) (vI _) vU vU [vI _] (cs + 4) (sl + 24) H3
  refine a_iload dL_law_3012 rfl ?_
  refine a_icmp_eq dL_law_3014 (tgt := 3019) rfl (fun _ => ?_) (fun c9 => absurd w2.1 c9)
  refine a_iload dL_law_3019 rfl ?_
  refine a_if_ne dL_law_3021 (tgt := 3036) rfl (fun _ => ?_) (fun c9 => ?_)
  · exact a_goto dL_law_3036 (tgt := 3039) rfl (fin _ _ _ _ _ _ _ ⟨_, _, _, _, _, _, _, W2, okr, fun k k1 k2 t => (hS k k1 k2 t).up (by omega)⟩ (by omega) (by omega))
  · refine a_aload_n dL_law_3024 rfl rfl ?_
    refine a_iconst dL_law_3025 ⟨by decide, by decide⟩ ?_
    refine b_lald dL_law_3026 (congrArg Prod.fst W2.2.2.2.2.1) (congrArg Prod.snd W2.2.2.2.2.1) (by omega) ?_
    refine a_iload dL_law_3027 rfl ?_
    refine a_i2l dL_law_3029 ?_
    refine a_lcmp_eq dL_law_3030 dL_law_3031 (tgt := 3036) rfl (fun _ => ?_) (fun c8 => absurd ((e2 0).trans (hv c9)) c8)
    exact a_goto dL_law_3036 (tgt := 3039) rfl (fin _ _ _ _ _ _ _ ⟨_, _, _, _, _, _, _, W2, okr, fun k k1 k2 t => (hS k k1 k2 t).up (by omega)⟩ (by omega) (by omega))
