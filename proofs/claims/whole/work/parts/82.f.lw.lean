/-! the law: calls -/
theorem dL_law_2208 : decode code 2208 = .ok (.aload_n 1, 1) := by decide +kernel
theorem dL_law_2209 : decode code 2209 = .ok (.aload_n 0, 1) := by decide +kernel
theorem dL_law_2210 : decode code 2210 = .ok (.iload 5, 2) := by decide +kernel
theorem dL_law_2212 : decode code 2212 = .ok (.iconst 1, 1) := by decide +kernel
theorem dL_law_2213 : decode code 2213 = .ok (.iadd, 1) := by decide +kernel
theorem dL_law_2214 : decode code 2214 = .ok (.iaload, 1) := by decide +kernel
theorem dL_law_2215 : decode code 2215 = .ok (.aload_n 3, 1) := by decide +kernel
theorem dL_law_2216 : decode code 2216 = .ok (.invokestatic 291, 3) := by decide +kernel
theorem dL_law_2219 : decode code 2219 = .ok (.istore 6, 2) := by decide +kernel
theorem dL_law_2221 : decode code 2221 = .ok (.aload_n 2, 1) := by decide +kernel
theorem dL_law_2222 : decode code 2222 = .ok (.aload_n 0, 1) := by decide +kernel
theorem dL_law_2223 : decode code 2223 = .ok (.iload 5, 2) := by decide +kernel
theorem dL_law_2225 : decode code 2225 = .ok (.iconst 1, 1) := by decide +kernel
theorem dL_law_2226 : decode code 2226 = .ok (.iadd, 1) := by decide +kernel
theorem dL_law_2227 : decode code 2227 = .ok (.iaload, 1) := by decide +kernel
theorem dL_law_2228 : decode code 2228 = .ok (.invokevirtual 293, 3) := by decide +kernel
theorem dL_law_2231 : decode code 2231 = .ok (.istore 7, 2) := by decide +kernel
theorem dL_law_2233 : decode code 2233 = .ok (.aload_n 2, 1) := by decide +kernel
theorem dL_law_2234 : decode code 2234 = .ok (.invokevirtual 154, 3) := by decide +kernel
theorem dL_law_2237 : decode code 2237 = .ok (.iload 6, 2) := by decide +kernel
theorem dL_law_2239 : decode code 2239 = .ok (.if_icmp .eq 5, 3) := by decide +kernel
theorem dL_law_2244 : decode code 2244 = .ok (.iload 6, 2) := by decide +kernel
theorem dL_law_2246 : decode code 2246 = .ok (.ifCond .ne 15, 3) := by decide +kernel
theorem dL_law_2249 : decode code 2249 = .ok (.aload_n 3, 1) := by decide +kernel
theorem dL_law_2250 : decode code 2250 = .ok (.iconst 0, 1) := by decide +kernel
theorem dL_law_2251 : decode code 2251 = .ok (.laload, 1) := by decide +kernel
theorem dL_law_2252 : decode code 2252 = .ok (.iload 7, 2) := by decide +kernel
theorem dL_law_2254 : decode code 2254 = .ok (.i2l, 1) := by decide +kernel
theorem dL_law_2255 : decode code 2255 = .ok (.lcmp, 1) := by decide +kernel
theorem dL_law_2256 : decode code 2256 = .ok (.ifCond .eq 5, 3) := by decide +kernel
theorem dL_law_2261 : decode code 2261 = .ok (.goto 778, 3) := by decide +kernel
theorem dL_law_2264 : decode code 2264 = .ok (.aload_n 1, 1) := by decide +kernel
theorem dL_law_2265 : decode code 2265 = .ok (.invokevirtual 294, 3) := by decide +kernel
theorem dL_law_2268 : decode code 2268 = .ok (.aload_n 2, 1) := by decide +kernel
theorem dL_law_2269 : decode code 2269 = .ok (.invokevirtual 297, 3) := by decide +kernel
theorem dL_law_2272 : decode code 2272 = .ok (.if_icmp .eq 767, 3) := by decide +kernel
theorem dL_law_2277 : decode code 2277 = .ok (.aload_n 1, 1) := by decide +kernel
theorem dL_law_2278 : decode code 2278 = .ok (.aload_n 0, 1) := by decide +kernel
theorem dL_law_2279 : decode code 2279 = .ok (.iload 5, 2) := by decide +kernel
theorem dL_law_2281 : decode code 2281 = .ok (.iconst 1, 1) := by decide +kernel
theorem dL_law_2282 : decode code 2282 = .ok (.iadd, 1) := by decide +kernel
theorem dL_law_2283 : decode code 2283 = .ok (.iaload, 1) := by decide +kernel
theorem dL_law_2284 : decode code 2284 = .ok (.aload_n 3, 1) := by decide +kernel
theorem dL_law_2285 : decode code 2285 = .ok (.invokestatic 298, 3) := by decide +kernel
theorem dL_law_2288 : decode code 2288 = .ok (.istore 6, 2) := by decide +kernel
theorem dL_law_2290 : decode code 2290 = .ok (.aload_n 2, 1) := by decide +kernel
theorem dL_law_2291 : decode code 2291 = .ok (.aload_n 0, 1) := by decide +kernel
theorem dL_law_2292 : decode code 2292 = .ok (.iload 5, 2) := by decide +kernel
theorem dL_law_2294 : decode code 2294 = .ok (.iconst 1, 1) := by decide +kernel
theorem dL_law_2295 : decode code 2295 = .ok (.iadd, 1) := by decide +kernel
theorem dL_law_2296 : decode code 2296 = .ok (.iaload, 1) := by decide +kernel
theorem dL_law_2297 : decode code 2297 = .ok (.invokevirtual 300, 3) := by decide +kernel
theorem dL_law_2300 : decode code 2300 = .ok (.istore 7, 2) := by decide +kernel
theorem dL_law_2302 : decode code 2302 = .ok (.aload_n 2, 1) := by decide +kernel
theorem dL_law_2303 : decode code 2303 = .ok (.invokevirtual 154, 3) := by decide +kernel
theorem dL_law_2306 : decode code 2306 = .ok (.iload 6, 2) := by decide +kernel
theorem dL_law_2308 : decode code 2308 = .ok (.if_icmp .eq 5, 3) := by decide +kernel
theorem dL_law_2313 : decode code 2313 = .ok (.iload 6, 2) := by decide +kernel
theorem dL_law_2315 : decode code 2315 = .ok (.ifCond .ne 15, 3) := by decide +kernel
theorem dL_law_2318 : decode code 2318 = .ok (.aload_n 3, 1) := by decide +kernel
theorem dL_law_2319 : decode code 2319 = .ok (.iconst 0, 1) := by decide +kernel
theorem dL_law_2320 : decode code 2320 = .ok (.laload, 1) := by decide +kernel
theorem dL_law_2321 : decode code 2321 = .ok (.iload 7, 2) := by decide +kernel
theorem dL_law_2323 : decode code 2323 = .ok (.i2l, 1) := by decide +kernel
theorem dL_law_2324 : decode code 2324 = .ok (.lcmp, 1) := by decide +kernel
theorem dL_law_2325 : decode code 2325 = .ok (.ifCond .eq 5, 3) := by decide +kernel
theorem dL_law_2330 : decode code 2330 = .ok (.goto 709, 3) := by decide +kernel
theorem dL_law_2333 : decode code 2333 = .ok (.aload_n 1, 1) := by decide +kernel
theorem dL_law_2334 : decode code 2334 = .ok (.invokevirtual 301, 3) := by decide +kernel
theorem dL_law_2337 : decode code 2337 = .ok (.aload_n 2, 1) := by decide +kernel
theorem dL_law_2338 : decode code 2338 = .ok (.invokevirtual 304, 3) := by decide +kernel
theorem dL_law_2341 : decode code 2341 = .ok (.if_icmp .eq 698, 3) := by decide +kernel
theorem dL_law_2346 : decode code 2346 = .ok (.aload_n 1, 1) := by decide +kernel
theorem dL_law_2347 : decode code 2347 = .ok (.aload_n 0, 1) := by decide +kernel
theorem dL_law_2348 : decode code 2348 = .ok (.iload 5, 2) := by decide +kernel
theorem dL_law_2350 : decode code 2350 = .ok (.iconst 1, 1) := by decide +kernel
theorem dL_law_2351 : decode code 2351 = .ok (.iadd, 1) := by decide +kernel
theorem dL_law_2352 : decode code 2352 = .ok (.iaload, 1) := by decide +kernel
theorem dL_law_2353 : decode code 2353 = .ok (.invokevirtual 305, 3) := by decide +kernel
theorem dL_law_2356 : decode code 2356 = .ok (.aload_n 2, 1) := by decide +kernel
theorem dL_law_2357 : decode code 2357 = .ok (.aload_n 0, 1) := by decide +kernel
theorem dL_law_2358 : decode code 2358 = .ok (.iload 5, 2) := by decide +kernel
theorem dL_law_2360 : decode code 2360 = .ok (.iconst 1, 1) := by decide +kernel
theorem dL_law_2361 : decode code 2361 = .ok (.iadd, 1) := by decide +kernel
theorem dL_law_2362 : decode code 2362 = .ok (.iaload, 1) := by decide +kernel
theorem dL_law_2363 : decode code 2363 = .ok (.invokevirtual 308, 3) := by decide +kernel
theorem dL_law_2366 : decode code 2366 = .ok (.if_icmp .eq 673, 3) := by decide +kernel
theorem dL_law_2371 : decode code 2371 = .ok (.aload_n 1, 1) := by decide +kernel
theorem dL_law_2372 : decode code 2372 = .ok (.aload_n 0, 1) := by decide +kernel
theorem dL_law_2373 : decode code 2373 = .ok (.iload 5, 2) := by decide +kernel
theorem dL_law_2375 : decode code 2375 = .ok (.iconst 1, 1) := by decide +kernel
theorem dL_law_2376 : decode code 2376 = .ok (.iadd, 1) := by decide +kernel
theorem dL_law_2377 : decode code 2377 = .ok (.iaload, 1) := by decide +kernel
theorem dL_law_2378 : decode code 2378 = .ok (.aload_n 3, 1) := by decide +kernel
theorem dL_law_2379 : decode code 2379 = .ok (.invokestatic 309, 3) := by decide +kernel
theorem dL_law_2382 : decode code 2382 = .ok (.istore 6, 2) := by decide +kernel
theorem dL_law_2384 : decode code 2384 = .ok (.aload_n 2, 1) := by decide +kernel
theorem dL_law_2385 : decode code 2385 = .ok (.aload_n 0, 1) := by decide +kernel
theorem dL_law_2386 : decode code 2386 = .ok (.iload 5, 2) := by decide +kernel
theorem dL_law_2388 : decode code 2388 = .ok (.iconst 1, 1) := by decide +kernel
theorem dL_law_2389 : decode code 2389 = .ok (.iadd, 1) := by decide +kernel
theorem dL_law_2390 : decode code 2390 = .ok (.iaload, 1) := by decide +kernel
theorem dL_law_2391 : decode code 2391 = .ok (.invokevirtual 311, 3) := by decide +kernel
theorem dL_law_2394 : decode code 2394 = .ok (.istore 7, 2) := by decide +kernel
theorem dL_law_2396 : decode code 2396 = .ok (.aload_n 2, 1) := by decide +kernel
theorem dL_law_2397 : decode code 2397 = .ok (.invokevirtual 154, 3) := by decide +kernel
theorem dL_law_2400 : decode code 2400 = .ok (.iload 6, 2) := by decide +kernel
theorem dL_law_2402 : decode code 2402 = .ok (.if_icmp .eq 5, 3) := by decide +kernel
theorem dL_law_2407 : decode code 2407 = .ok (.iload 6, 2) := by decide +kernel
theorem dL_law_2409 : decode code 2409 = .ok (.ifCond .ne 15, 3) := by decide +kernel
theorem dL_law_2412 : decode code 2412 = .ok (.aload_n 3, 1) := by decide +kernel
theorem dL_law_2413 : decode code 2413 = .ok (.iconst 0, 1) := by decide +kernel
theorem dL_law_2414 : decode code 2414 = .ok (.laload, 1) := by decide +kernel
theorem dL_law_2415 : decode code 2415 = .ok (.iload 7, 2) := by decide +kernel
theorem dL_law_2417 : decode code 2417 = .ok (.i2l, 1) := by decide +kernel
theorem dL_law_2418 : decode code 2418 = .ok (.lcmp, 1) := by decide +kernel
theorem dL_law_2419 : decode code 2419 = .ok (.ifCond .eq 5, 3) := by decide +kernel
theorem dL_law_2424 : decode code 2424 = .ok (.goto 615, 3) := by decide +kernel
theorem dL_law_2427 : decode code 2427 = .ok (.aload_n 1, 1) := by decide +kernel
theorem dL_law_2428 : decode code 2428 = .ok (.invokevirtual 312, 3) := by decide +kernel
theorem dL_law_2431 : decode code 2431 = .ok (.aload_n 2, 1) := by decide +kernel
theorem dL_law_2432 : decode code 2432 = .ok (.invokevirtual 316, 3) := by decide +kernel
theorem dL_law_2435 : decode code 2435 = .ok (.if_icmp .eq 604, 3) := by decide +kernel
theorem dL_law_2440 : decode code 2440 = .ok (.aload_n 1, 1) := by decide +kernel
theorem dL_law_2441 : decode code 2441 = .ok (.aload_n 0, 1) := by decide +kernel
theorem dL_law_2442 : decode code 2442 = .ok (.iload 5, 2) := by decide +kernel
theorem dL_law_2444 : decode code 2444 = .ok (.iconst 1, 1) := by decide +kernel
theorem dL_law_2445 : decode code 2445 = .ok (.iadd, 1) := by decide +kernel
theorem dL_law_2446 : decode code 2446 = .ok (.iaload, 1) := by decide +kernel
theorem dL_law_2447 : decode code 2447 = .ok (.aload_n 3, 1) := by decide +kernel
theorem dL_law_2448 : decode code 2448 = .ok (.invokestatic 317, 3) := by decide +kernel
theorem dL_law_2451 : decode code 2451 = .ok (.istore 6, 2) := by decide +kernel
theorem dL_law_2453 : decode code 2453 = .ok (.aload_n 2, 1) := by decide +kernel
theorem dL_law_2454 : decode code 2454 = .ok (.aload_n 0, 1) := by decide +kernel
theorem dL_law_2455 : decode code 2455 = .ok (.iload 5, 2) := by decide +kernel
theorem dL_law_2457 : decode code 2457 = .ok (.iconst 1, 1) := by decide +kernel
theorem dL_law_2458 : decode code 2458 = .ok (.iadd, 1) := by decide +kernel
theorem dL_law_2459 : decode code 2459 = .ok (.iaload, 1) := by decide +kernel
theorem dL_law_2460 : decode code 2460 = .ok (.invokevirtual 319, 3) := by decide +kernel
theorem dL_law_2463 : decode code 2463 = .ok (.lstore 7, 2) := by decide +kernel
theorem dL_law_2465 : decode code 2465 = .ok (.aload_n 2, 1) := by decide +kernel
theorem dL_law_2466 : decode code 2466 = .ok (.invokevirtual 154, 3) := by decide +kernel
theorem dL_law_2469 : decode code 2469 = .ok (.iload 6, 2) := by decide +kernel
theorem dL_law_2471 : decode code 2471 = .ok (.if_icmp .eq 5, 3) := by decide +kernel
theorem dL_law_2476 : decode code 2476 = .ok (.iload 6, 2) := by decide +kernel
theorem dL_law_2478 : decode code 2478 = .ok (.ifCond .ne 14, 3) := by decide +kernel
theorem dL_law_2481 : decode code 2481 = .ok (.aload_n 3, 1) := by decide +kernel
theorem dL_law_2482 : decode code 2482 = .ok (.iconst 0, 1) := by decide +kernel
theorem dL_law_2483 : decode code 2483 = .ok (.laload, 1) := by decide +kernel
theorem dL_law_2484 : decode code 2484 = .ok (.lload 7, 2) := by decide +kernel
theorem dL_law_2486 : decode code 2486 = .ok (.lcmp, 1) := by decide +kernel
theorem dL_law_2487 : decode code 2487 = .ok (.ifCond .eq 5, 3) := by decide +kernel
theorem dL_law_2492 : decode code 2492 = .ok (.goto 547, 3) := by decide +kernel
theorem dL_law_2495 : decode code 2495 = .ok (.aload_n 1, 1) := by decide +kernel
theorem dL_law_2496 : decode code 2496 = .ok (.invokevirtual 320, 3) := by decide +kernel
theorem dL_law_2499 : decode code 2499 = .ok (.aload_n 2, 1) := by decide +kernel
theorem dL_law_2500 : decode code 2500 = .ok (.invokevirtual 323, 3) := by decide +kernel
theorem dL_law_2503 : decode code 2503 = .ok (.if_icmp .eq 536, 3) := by decide +kernel
theorem w_law_40 {l : Launch} {G : GT} {b L : Nat} {xs : Nat → Int32} {x a o v u q i n er : Int} {M B : Row} {T : Int → Bool} {S : Int → Row} {Y : Int → Int} {cs sl : Nat} {H : AH} (C : LC l G b L xs x a o v u q i cs sl) (W0 : LW H x a o v u M B n er T S M B n er T S Y) (h3 : ok3 M q) (hS : ∀ k, 0 ≤ k → k < 2 → T k = true → ok3 (S k) q) : LA l G b x a o v i 2208 vU vU vU vU [] cs sl H := by
  obtain ⟨⟨hG, hT, hN, hNc⟩, hX, hA, hL, hR, fin⟩ := C
  have hR0 := W0.1.1
  refine a_aload_n dL_law_2208 rfl rfl ?_
  refine a_xload_n dL_law_2209 rfl rfl ?_
  refine a_iload dL_law_2210 rfl ?_
  refine a_iconst dL_law_2212 ⟨by decide, by decide⟩ ?_
  refine a_iadd dL_law_2213 (by unfold inI; omega) ?_
  refine a_sld hX dL_law_2214 (by omega) ?_
  refine a_aload_n dL_law_2215 rfl rfl ?_
  refine a_callSH (d' := 998 + 1) dL_law_2216 lc_291 (as := [vR x, vI (xs (i + 1).toNat).toInt, vR o]) rfl rfl (Nat.le_refl _) (Nat.le_of_ble_eq_true rfl) (nocov rfl) (by omega) (by omega) (CLH.mono (l_binding (d := 998) hG (kRun_0 hR0.la) (fun r9 H9 q9 => ⟨ans_I q9.1, by rw [q9.2.1.2.1]; exact W0.2.2.2.2.1⟩) (k_binding hG hR0)) ?_)
  intro r1 H1 q1
  obtain ⟨rfl, W1, hv⟩ := lqx vI_in vI_nt (fun c i => pX_in) hA (Or.inl rfl) W0 (th01 _) q1
  show LA l G b x a o v i 2219 vU vU vU vU [vI _] (cs + 4) (sl + 24) H1
  refine a_istore dL_law_2219 (by decide) rfl ?_
  show LA l G b x a o v i 2221 (vI _) vU vU vU [] (cs + 4) (sl + 24) H1
  refine a_aload_n dL_law_2221 rfl rfl ?_
  refine a_xload_n dL_law_2222 rfl rfl ?_
  refine a_iload dL_law_2223 rfl ?_
  refine a_iconst dL_law_2225 ⟨by decide, by decide⟩ ?_
  refine a_iadd dL_law_2226 (by unfold inI; omega) ?_
  refine a_sld hX dL_law_2227 (by omega) ?_
  refine a_callV (d' := 999) dL_law_2228 lc_293 (as := [vI (xs (i + 1).toNat).toInt]) rfl rfl (kMod_0 W1.2.1.1.1) (Nat.le_refl _) (Nat.le_of_ble_eq_true rfl) (nocov rfl) (by omega) (by omega) (CL.mono (c_binding W1.2.1.1) ?_)
  rintro r2 H2 ⟨rfl, w2⟩
  obtain ⟨W2, e2, e2v⟩ := W1.pub hA w2
  show LA l G b x a o v i 2231 (vI _) vU vU vU [vI _] (cs + 4) (sl + 24) H2
  refine a_istore dL_law_2231 (by decide) rfl ?_
  show LA l G b x a o v i 2233 (vI _) (vI _) vU vU [] (cs + 4) (sl + 24) H2
  refine a_aload_n dL_law_2233 rfl rfl ?_
  refine a_callV (d' := 999) dL_law_2234 lc_154 (as := []) rfl rfl (kMod_0 W2.2.1.1.1) (Nat.le_refl _) (Nat.le_of_ble_eq_true rfl) (nocov rfl) (by omega) (by omega) (CL.mono (c_thrown W2.2.1.1.1) ?_)
  rintro r3 H3 ⟨rfl, rfl⟩
  show LA l G b x a o v i 2237 (vI _) (vI _) vU vU [vI _] (cs + 4) (sl + 24) H3
  refine a_iload dL_law_2237 rfl ?_
  refine a_icmp_eq dL_law_2239 (tgt := 2244) rfl (fun _ => ?_) (fun c9 => absurd w2.1 c9)
  refine a_iload dL_law_2244 rfl ?_
  refine a_if_ne dL_law_2246 (tgt := 2261) rfl (fun _ => ?_) (fun c9 => ?_)
  · exact a_goto dL_law_2261 (tgt := 3039) rfl (fin _ _ _ _ _ _ _ ⟨_, _, _, _, _, _, _, W2, h3.up (by omega), fun k k1 k2 t => (hS k k1 k2 t).up (by omega)⟩ (by omega) (by omega))
  · refine a_aload_n dL_law_2249 rfl rfl ?_
    refine a_iconst dL_law_2250 ⟨by decide, by decide⟩ ?_
    refine b_lald dL_law_2251 (congrArg Prod.fst W2.2.2.2.2.1) (congrArg Prod.snd W2.2.2.2.2.1) (by omega) ?_
    refine a_iload dL_law_2252 rfl ?_
    refine a_i2l dL_law_2254 ?_
    refine a_lcmp_eq dL_law_2255 dL_law_2256 (tgt := 2261) rfl (fun _ => ?_) (fun c8 => absurd ((e2 0).trans (hv c9)) c8)
    exact a_goto dL_law_2261 (tgt := 3039) rfl (fin _ _ _ _ _ _ _ ⟨_, _, _, _, _, _, _, W2, h3.up (by omega), fun k k1 k2 t => (hS k k1 k2 t).up (by omega)⟩ (by omega) (by omega))
theorem w_law_41 {l : Launch} {G : GT} {b L : Nat} {xs : Nat → Int32} {x a o v u q i n er : Int} {M B : Row} {T : Int → Bool} {S : Int → Row} {Y : Int → Int} {cs sl : Nat} {H : AH} (C : LC l G b L xs x a o v u q i cs sl) (W0 : LW H x a o v u M B n er T S M B n er T S Y) (h3 : ok3 M q) (hS : ∀ k, 0 ≤ k → k < 2 → T k = true → ok3 (S k) q) : LA l G b x a o v i 2264 vU vU vU vU [] cs sl H := by
  obtain ⟨⟨hG, hT, hN, hNc⟩, hX, hA, hL, hR, fin⟩ := C
  have hR0 := W0.1.1
  refine a_aload_n dL_law_2264 rfl rfl ?_
  refine a_callV (d' := 999) dL_law_2265 lc_294 (as := []) rfl rfl (kRun_0 hR0.la) (Nat.le_refl _) (Nat.le_of_ble_eq_true rfl) (nocov rfl) (by omega) (by omega) (CL.mono (k_pastNeighbor hR0) ?_)
  rintro r1 H1 ⟨e1, o1, R1⟩
  rw [ans_0] at e1
  subst e1
  have W1 := W0.cla hA o1 (fun c i => pX_in) R1
  show LA l G b x a o v i 2268 vU vU vU vU [vI _] cs sl H1
  refine a_aload_n dL_law_2268 rfl rfl ?_
  refine a_callV (d' := 999) dL_law_2269 lc_297 (as := []) rfl rfl (kMod_0 W1.2.1.1.1) (Nat.le_refl _) (Nat.le_of_ble_eq_true rfl) (nocov rfl) (by omega) (by omega) (CL.mono (c_pastNeighbor W1.2.1.1) ?_)
  rintro r2 H2 ⟨rfl, w2⟩
  obtain ⟨W2, e2, e2v⟩ := W1.pub hA w2
  show LA l G b x a o v i 2272 vU vU vU vU [vI _, vI _] cs sl H2
  exact a_icmp_eq dL_law_2272 (tgt := 3039) rfl (fun _ => (fin _ _ _ _ _ _ _ ⟨_, _, _, _, _, _, _, W2, h3.up (by omega), fun k k1 k2 t => (hS k k1 k2 t).up (by omega)⟩ (by omega) (by omega))) (fun c8 => absurd rfl c8)
theorem w_law_42 {l : Launch} {G : GT} {b L : Nat} {xs : Nat → Int32} {x a o v u q i n er : Int} {M B : Row} {T : Int → Bool} {S : Int → Row} {Y : Int → Int} {cs sl : Nat} {H : AH} (C : LC l G b L xs x a o v u q i cs sl) (W0 : LW H x a o v u M B n er T S M B n er T S Y) (h3 : ok3 M q) (hS : ∀ k, 0 ≤ k → k < 2 → T k = true → ok3 (S k) q) : LA l G b x a o v i 2277 vU vU vU vU [] cs sl H := by
  obtain ⟨⟨hG, hT, hN, hNc⟩, hX, hA, hL, hR, fin⟩ := C
  have hR0 := W0.1.1
  refine a_aload_n dL_law_2277 rfl rfl ?_
  refine a_xload_n dL_law_2278 rfl rfl ?_
  refine a_iload dL_law_2279 rfl ?_
  refine a_iconst dL_law_2281 ⟨by decide, by decide⟩ ?_
  refine a_iadd dL_law_2282 (by unfold inI; omega) ?_
  refine a_sld hX dL_law_2283 (by omega) ?_
  refine a_aload_n dL_law_2284 rfl rfl ?_
  refine a_callSH (d' := 998 + 1) dL_law_2285 lc_298 (as := [vR x, vI (xs (i + 1).toNat).toInt, vR o]) rfl rfl (Nat.le_refl _) (Nat.le_of_ble_eq_true rfl) (nocov rfl) (by omega) (by omega) (CLH.mono (l_lastTime (d := 998) hG (kRun_0 hR0.la) (fun r9 H9 q9 => ⟨ans_I q9.1, by rw [q9.2.1.2.1]; exact W0.2.2.2.2.1⟩) (k_lastTime hG hR0)) ?_)
  intro r1 H1 q1
  obtain ⟨rfl, W1, hv⟩ := lqx vI_in vI_nt (fun c i => pX_in) hA (Or.inl rfl) W0 (th01 _) q1
  show LA l G b x a o v i 2288 vU vU vU vU [vI _] (cs + 4) (sl + 24) H1
  refine a_istore dL_law_2288 (by decide) rfl ?_
  show LA l G b x a o v i 2290 (vI _) vU vU vU [] (cs + 4) (sl + 24) H1
  refine a_aload_n dL_law_2290 rfl rfl ?_
  refine a_xload_n dL_law_2291 rfl rfl ?_
  refine a_iload dL_law_2292 rfl ?_
  refine a_iconst dL_law_2294 ⟨by decide, by decide⟩ ?_
  refine a_iadd dL_law_2295 (by unfold inI; omega) ?_
  refine a_sld hX dL_law_2296 (by omega) ?_
  refine a_callV (d' := 999) dL_law_2297 lc_300 (as := [vI (xs (i + 1).toNat).toInt]) rfl rfl (kMod_0 W1.2.1.1.1) (Nat.le_refl _) (Nat.le_of_ble_eq_true rfl) (nocov rfl) (by omega) (by omega) (CL.mono (c_lastTime W1.2.1.1) ?_)
  rintro r2 H2 ⟨rfl, w2⟩
  obtain ⟨W2, e2, e2v⟩ := W1.pub hA w2
  show LA l G b x a o v i 2300 (vI _) vU vU vU [vI _] (cs + 4) (sl + 24) H2
  refine a_istore dL_law_2300 (by decide) rfl ?_
  show LA l G b x a o v i 2302 (vI _) (vI _) vU vU [] (cs + 4) (sl + 24) H2
  refine a_aload_n dL_law_2302 rfl rfl ?_
  refine a_callV (d' := 999) dL_law_2303 lc_154 (as := []) rfl rfl (kMod_0 W2.2.1.1.1) (Nat.le_refl _) (Nat.le_of_ble_eq_true rfl) (nocov rfl) (by omega) (by omega) (CL.mono (c_thrown W2.2.1.1.1) ?_)
  rintro r3 H3 ⟨rfl, rfl⟩
  show LA l G b x a o v i 2306 (vI _) (vI _) vU vU [vI _] (cs + 4) (sl + 24) H3
  refine a_iload dL_law_2306 rfl ?_
  refine a_icmp_eq dL_law_2308 (tgt := 2313) rfl (fun _ => ?_) (fun c9 => absurd w2.1 c9)
  refine a_iload dL_law_2313 rfl ?_
  refine a_if_ne dL_law_2315 (tgt := 2330) rfl (fun _ => ?_) (fun c9 => ?_)
  · exact a_goto dL_law_2330 (tgt := 3039) rfl (fin _ _ _ _ _ _ _ ⟨_, _, _, _, _, _, _, W2, h3.up (by omega), fun k k1 k2 t => (hS k k1 k2 t).up (by omega)⟩ (by omega) (by omega))
  · refine a_aload_n dL_law_2318 rfl rfl ?_
    refine a_iconst dL_law_2319 ⟨by decide, by decide⟩ ?_
    refine b_lald dL_law_2320 (congrArg Prod.fst W2.2.2.2.2.1) (congrArg Prod.snd W2.2.2.2.2.1) (by omega) ?_
    refine a_iload dL_law_2321 rfl ?_
    refine a_i2l dL_law_2323 ?_
    refine a_lcmp_eq dL_law_2324 dL_law_2325 (tgt := 2330) rfl (fun _ => ?_) (fun c8 => absurd ((e2 0).trans (hv c9)) c8)
    exact a_goto dL_law_2330 (tgt := 3039) rfl (fin _ _ _ _ _ _ _ ⟨_, _, _, _, _, _, _, W2, h3.up (by omega), fun k k1 k2 t => (hS k k1 k2 t).up (by omega)⟩ (by omega) (by omega))
theorem w_law_43 {l : Launch} {G : GT} {b L : Nat} {xs : Nat → Int32} {x a o v u q i n er : Int} {M B : Row} {T : Int → Bool} {S : Int → Row} {Y : Int → Int} {cs sl : Nat} {H : AH} (C : LC l G b L xs x a o v u q i cs sl) (W0 : LW H x a o v u M B n er T S M B n er T S Y) (h3 : ok3 M q) (hS : ∀ k, 0 ≤ k → k < 2 → T k = true → ok3 (S k) q) : LA l G b x a o v i 2333 vU vU vU vU [] cs sl H := by
  obtain ⟨⟨hG, hT, hN, hNc⟩, hX, hA, hL, hR, fin⟩ := C
  have hR0 := W0.1.1
  refine a_aload_n dL_law_2333 rfl rfl ?_
  refine a_callV (d' := 999) dL_law_2334 lc_301 (as := []) rfl rfl (kRun_0 hR0.la) (Nat.le_refl _) (Nat.le_of_ble_eq_true rfl) (nocov rfl) (by omega) (by omega) (CL.mono (k_doneCount hR0) ?_)
  rintro r1 H1 ⟨e1, o1, R1⟩
  rw [ans_0] at e1
  subst e1
  have W1 := W0.cla hA o1 (fun c i => pX_in) R1
  show LA l G b x a o v i 2337 vU vU vU vU [vI _] cs sl H1
  refine a_aload_n dL_law_2337 rfl rfl ?_
  refine a_callV (d' := 999) dL_law_2338 lc_304 (as := []) rfl rfl (kMod_0 W1.2.1.1.1) (Nat.le_refl _) (Nat.le_of_ble_eq_true rfl) (nocov rfl) (by omega) (by omega) (CL.mono (c_doneCount W1.2.1.1) ?_)
  rintro r2 H2 ⟨rfl, w2⟩
  obtain ⟨W2, e2, e2v⟩ := W1.pub hA w2
  show LA l G b x a o v i 2341 vU vU vU vU [vI _, vI _] cs sl H2
  exact a_icmp_eq dL_law_2341 (tgt := 3039) rfl (fun _ => (fin _ _ _ _ _ _ _ ⟨_, _, _, _, _, _, _, W2, h3.up (by omega), fun k k1 k2 t => (hS k k1 k2 t).up (by omega)⟩ (by omega) (by omega))) (fun c8 => absurd rfl c8)
theorem w_law_44 {l : Launch} {G : GT} {b L : Nat} {xs : Nat → Int32} {x a o v u q i n er : Int} {M B : Row} {T : Int → Bool} {S : Int → Row} {Y : Int → Int} {cs sl : Nat} {H : AH} (C : LC l G b L xs x a o v u q i cs sl) (W0 : LW H x a o v u M B n er T S M B n er T S Y) (h3 : ok3 M q) (hS : ∀ k, 0 ≤ k → k < 2 → T k = true → ok3 (S k) q) : LA l G b x a o v i 2346 vU vU vU vU [] cs sl H := by
  obtain ⟨⟨hG, hT, hN, hNc⟩, hX, hA, hL, hR, fin⟩ := C
  have hR0 := W0.1.1
  refine a_aload_n dL_law_2346 rfl rfl ?_
  refine a_xload_n dL_law_2347 rfl rfl ?_
  refine a_iload dL_law_2348 rfl ?_
  refine a_iconst dL_law_2350 ⟨by decide, by decide⟩ ?_
  refine a_iadd dL_law_2351 (by unfold inI; omega) ?_
  refine a_sld hX dL_law_2352 (by omega) ?_
  refine a_callV (d' := 999) dL_law_2353 lc_305 (as := [vI (xs (i + 1).toNat).toInt]) rfl rfl (kRun_0 hR0.la) (Nat.le_refl _) (Nat.le_of_ble_eq_true rfl) (nocov rfl) (by omega) (by omega) (CL.mono (k_doneAt hR0) ?_)
  rintro r1 H1 ⟨e1, o1, R1⟩
  rw [ans_0] at e1
  subst e1
  have W1 := W0.cla hA o1 (fun c i => pX_in) R1
  show LA l G b x a o v i 2356 vU vU vU vU [vI _] cs sl H1
  refine a_aload_n dL_law_2356 rfl rfl ?_
  refine a_xload_n dL_law_2357 rfl rfl ?_
  refine a_iload dL_law_2358 rfl ?_
  refine a_iconst dL_law_2360 ⟨by decide, by decide⟩ ?_
  refine a_iadd dL_law_2361 (by unfold inI; omega) ?_
  refine a_sld hX dL_law_2362 (by omega) ?_
  refine a_callV (d' := 999) dL_law_2363 lc_308 (as := [vI (xs (i + 1).toNat).toInt]) rfl rfl (kMod_0 W1.2.1.1.1) (Nat.le_refl _) (Nat.le_of_ble_eq_true rfl) (nocov rfl) (by omega) (by omega) (CL.mono (c_doneAt W1.2.1.1) ?_)
  rintro r2 H2 ⟨rfl, w2⟩
  obtain ⟨W2, e2, e2v⟩ := W1.pub hA w2
  show LA l G b x a o v i 2366 vU vU vU vU [vI _, vI _] cs sl H2
  exact a_icmp_eq dL_law_2366 (tgt := 3039) rfl (fun _ => (fin _ _ _ _ _ _ _ ⟨_, _, _, _, _, _, _, W2, h3.up (by omega), fun k k1 k2 t => (hS k k1 k2 t).up (by omega)⟩ (by omega) (by omega))) (fun c8 => absurd rfl c8)
theorem w_law_45 {l : Launch} {G : GT} {b L : Nat} {xs : Nat → Int32} {x a o v u q i n er : Int} {M B : Row} {T : Int → Bool} {S : Int → Row} {Y : Int → Int} {cs sl : Nat} {H : AH} (C : LC l G b L xs x a o v u q i cs sl) (W0 : LW H x a o v u M B n er T S M B n er T S Y) (h3 : ok3 M q) (hS : ∀ k, 0 ≤ k → k < 2 → T k = true → ok3 (S k) q) : LA l G b x a o v i 2371 vU vU vU vU [] cs sl H := by
  obtain ⟨⟨hG, hT, hN, hNc⟩, hX, hA, hL, hR, fin⟩ := C
  have hR0 := W0.1.1
  refine a_aload_n dL_law_2371 rfl rfl ?_
  refine a_xload_n dL_law_2372 rfl rfl ?_
  refine a_iload dL_law_2373 rfl ?_
  refine a_iconst dL_law_2375 ⟨by decide, by decide⟩ ?_
  refine a_iadd dL_law_2376 (by unfold inI; omega) ?_
  refine a_sld hX dL_law_2377 (by omega) ?_
  refine a_aload_n dL_law_2378 rfl rfl ?_
  refine a_callSH (d' := 998 + 1) dL_law_2379 lc_309 (as := [vR x, vI (xs (i + 1).toNat).toInt, vR o]) rfl rfl (Nat.le_refl _) (Nat.le_of_ble_eq_true rfl) (nocov rfl) (by omega) (by omega) (CLH.mono (l_aroundCount (d := 998) hG (kRun_0 hR0.la) (fun r9 H9 q9 => ⟨ans_I q9.1, by rw [q9.2.1.2.1]; exact W0.2.2.2.2.1⟩) (k_aroundCount hG hR0)) ?_)
  intro r1 H1 q1
  obtain ⟨rfl, W1, hv⟩ := lqx vI_in vI_nt (fun c i => pX_in) hA (Or.inl rfl) W0 (th01 _) q1
  show LA l G b x a o v i 2382 vU vU vU vU [vI _] (cs + 4) (sl + 24) H1
  refine a_istore dL_law_2382 (by decide) rfl ?_
  show LA l G b x a o v i 2384 (vI _) vU vU vU [] (cs + 4) (sl + 24) H1
  refine a_aload_n dL_law_2384 rfl rfl ?_
  refine a_xload_n dL_law_2385 rfl rfl ?_
  refine a_iload dL_law_2386 rfl ?_
  refine a_iconst dL_law_2388 ⟨by decide, by decide⟩ ?_
  refine a_iadd dL_law_2389 (by unfold inI; omega) ?_
  refine a_sld hX dL_law_2390 (by omega) ?_
  refine a_callV (d' := 999) dL_law_2391 lc_311 (as := [vI (xs (i + 1).toNat).toInt]) rfl rfl (kMod_0 W1.2.1.1.1) (Nat.le_refl _) (Nat.le_of_ble_eq_true rfl) (nocov rfl) (by omega) (by omega) (CL.mono (c_aroundCount W1.2.1.1) ?_)
  rintro r2 H2 ⟨rfl, w2⟩
  obtain ⟨W2, e2, e2v⟩ := W1.pub hA w2
  show LA l G b x a o v i 2394 (vI _) vU vU vU [vI _] (cs + 4) (sl + 24) H2
  refine a_istore dL_law_2394 (by decide) rfl ?_
  show LA l G b x a o v i 2396 (vI _) (vI _) vU vU [] (cs + 4) (sl + 24) H2
  refine a_aload_n dL_law_2396 rfl rfl ?_
  refine a_callV (d' := 999) dL_law_2397 lc_154 (as := []) rfl rfl (kMod_0 W2.2.1.1.1) (Nat.le_refl _) (Nat.le_of_ble_eq_true rfl) (nocov rfl) (by omega) (by omega) (CL.mono (c_thrown W2.2.1.1.1) ?_)
  rintro r3 H3 ⟨rfl, rfl⟩
  show LA l G b x a o v i 2400 (vI _) (vI _) vU vU [vI _] (cs + 4) (sl + 24) H3
  refine a_iload dL_law_2400 rfl ?_
  refine a_icmp_eq dL_law_2402 (tgt := 2407) rfl (fun _ => ?_) (fun c9 => absurd w2.1 c9)
  refine a_iload dL_law_2407 rfl ?_
  refine a_if_ne dL_law_2409 (tgt := 2424) rfl (fun _ => ?_) (fun c9 => ?_)
  · exact a_goto dL_law_2424 (tgt := 3039) rfl (fin _ _ _ _ _ _ _ ⟨_, _, _, _, _, _, _, W2, h3.up (by omega), fun k k1 k2 t => (hS k k1 k2 t).up (by omega)⟩ (by omega) (by omega))
  · refine a_aload_n dL_law_2412 rfl rfl ?_
    refine a_iconst dL_law_2413 ⟨by decide, by decide⟩ ?_
    refine b_lald dL_law_2414 (congrArg Prod.fst W2.2.2.2.2.1) (congrArg Prod.snd W2.2.2.2.2.1) (by omega) ?_
    refine a_iload dL_law_2415 rfl ?_
    refine a_i2l dL_law_2417 ?_
    refine a_lcmp_eq dL_law_2418 dL_law_2419 (tgt := 2424) rfl (fun _ => ?_) (fun c8 => absurd ((e2 0).trans (hv c9)) c8)
    exact a_goto dL_law_2424 (tgt := 3039) rfl (fin _ _ _ _ _ _ _ ⟨_, _, _, _, _, _, _, W2, h3.up (by omega), fun k k1 k2 t => (hS k k1 k2 t).up (by omega)⟩ (by omega) (by omega))
theorem w_law_46 {l : Launch} {G : GT} {b L : Nat} {xs : Nat → Int32} {x a o v u q i n er : Int} {M B : Row} {T : Int → Bool} {S : Int → Row} {Y : Int → Int} {cs sl : Nat} {H : AH} (C : LC l G b L xs x a o v u q i cs sl) (W0 : LW H x a o v u M B n er T S M B n er T S Y) (h3 : ok3 M q) (hS : ∀ k, 0 ≤ k → k < 2 → T k = true → ok3 (S k) q) : LA l G b x a o v i 2427 vU vU vU vU [] cs sl H := by
  obtain ⟨⟨hG, hT, hN, hNc⟩, hX, hA, hL, hR, fin⟩ := C
  have hR0 := W0.1.1
  refine a_aload_n dL_law_2427 rfl rfl ?_
  refine a_callV (d' := 999) dL_law_2428 lc_312 (as := []) rfl rfl (kRun_0 hR0.la) (Nat.le_refl _) (Nat.le_of_ble_eq_true rfl) (nocov rfl) (by omega) (by omega) (CL.mono (k_isSmooth hR0 (fun f hf => (h3.2.1 f hf).1)) ?_)
  rintro r1 H1 ⟨e1, o1, R1⟩
  rw [ans_0] at e1
  subst e1
  have W1 := W0.cla hA o1 (fun c i => pX_in) R1
  show LA l G b x a o v i 2431 vU vU vU vU [vI _] cs sl H1
  refine a_aload_n dL_law_2431 rfl rfl ?_
  refine a_callV (d' := 999) dL_law_2432 lc_316 (as := []) rfl rfl (kMod_0 W1.2.1.1.1) (Nat.le_refl _) (Nat.le_of_ble_eq_true rfl) (nocov rfl) (by omega) (by omega) (CL.mono (c_isSmooth W1.2.1.1) ?_)
  rintro r2 H2 ⟨rfl, w2⟩
  obtain ⟨W2, e2, e2v⟩ := W1.pub hA w2
  show LA l G b x a o v i 2435 vU vU vU vU [vI _, vI _] cs sl H2
  exact a_icmp_eq dL_law_2435 (tgt := 3039) rfl (fun _ => (fin _ _ _ _ _ _ _ ⟨_, _, _, _, _, _, _, W2, h3.up (by omega), fun k k1 k2 t => (hS k k1 k2 t).up (by omega)⟩ (by omega) (by omega))) (fun c8 => absurd rfl c8)
theorem w_law_47 {l : Launch} {G : GT} {b L : Nat} {xs : Nat → Int32} {x a o v u q i n er : Int} {M B : Row} {T : Int → Bool} {S : Int → Row} {Y : Int → Int} {cs sl : Nat} {H : AH} (C : LC l G b L xs x a o v u q i cs sl) (W0 : LW H x a o v u M B n er T S M B n er T S Y) (h3 : ok3 M q) (hS : ∀ k, 0 ≤ k → k < 2 → T k = true → ok3 (S k) q) : LA l G b x a o v i 2440 vU vU vU vU [] cs sl H := by
  obtain ⟨⟨hG, hT, hN, hNc⟩, hX, hA, hL, hR, fin⟩ := C
  have hR0 := W0.1.1
  refine a_aload_n dL_law_2440 rfl rfl ?_
  refine a_xload_n dL_law_2441 rfl rfl ?_
  refine a_iload dL_law_2442 rfl ?_
  refine a_iconst dL_law_2444 ⟨by decide, by decide⟩ ?_
  refine a_iadd dL_law_2445 (by unfold inI; omega) ?_
  refine a_sld hX dL_law_2446 (by omega) ?_
  refine a_aload_n dL_law_2447 rfl rfl ?_
  refine a_callSH (d' := 998 + 1) dL_law_2448 lc_317 (as := [vR x, vI (xs (i + 1).toNat).toInt, vR o]) rfl rfl (Nat.le_refl _) (Nat.le_of_ble_eq_true rfl) (nocov rfl) (by omega) (by omega) (CLH.mono (l_costWithShift (d := 998) hG (kRun_0 hR0.la) (fun r9 H9 q9 => ⟨ans_J q9.1, by rw [q9.2.1.2.1]; exact W0.2.2.2.2.1⟩) (k_costWithShift hG hR0)) ?_)
  intro r1 H1 q1
  obtain ⟨rfl, W1, hv⟩ := lqx vJ_in vJ_nt (fun c i => pX_in) hA (Or.inl rfl) W0 (th01 _) q1
  show LA l G b x a o v i 2451 vU vU vU vU [vI _] (cs + 4) (sl + 24) H1
  refine a_istore dL_law_2451 (by decide) rfl ?_
  show LA l G b x a o v i 2453 (vI _) vU vU vU [] (cs + 4) (sl + 24) H1
  refine a_aload_n dL_law_2453 rfl rfl ?_
  refine a_xload_n dL_law_2454 rfl rfl ?_
  refine a_iload dL_law_2455 rfl ?_
  refine a_iconst dL_law_2457 ⟨by decide, by decide⟩ ?_
  refine a_iadd dL_law_2458 (by unfold inI; omega) ?_
  refine a_sld hX dL_law_2459 (by omega) ?_
  refine a_callV (d' := 999) dL_law_2460 lc_319 (as := [vI (xs (i + 1).toNat).toInt]) rfl rfl (kMod_0 W1.2.1.1.1) (Nat.le_refl _) (Nat.le_of_ble_eq_true rfl) (nocov rfl) (by omega) (by omega) (CL.mono (c_costWithShift W1.2.1.1) ?_)
  rintro r2 H2 ⟨rfl, w2⟩
  obtain ⟨W2, e2, e2v⟩ := W1.mut hA w2
  show LA l G b x a o v i 2463 (vI _) vU vU vU [vJ _] (cs + 4) (sl + 24) H2
  refine a_lstore dL_law_2463 (by decide) rfl ?_
  show LA l G b x a o v i 2465 (vI _) (vJ _) vU vU [] (cs + 4) (sl + 24) H2
  refine a_aload_n dL_law_2465 rfl rfl ?_
  refine a_callV (d' := 999) dL_law_2466 lc_154 (as := []) rfl rfl (kMod_0 W2.2.1.1.1) (Nat.le_refl _) (Nat.le_of_ble_eq_true rfl) (nocov rfl) (by omega) (by omega) (CL.mono (c_thrown W2.2.1.1.1) ?_)
  rintro r3 H3 ⟨rfl, rfl⟩
  show LA l G b x a o v i 2469 (vI _) (vJ _) vU vU [vI _] (cs + 4) (sl + 24) H3
  refine a_iload dL_law_2469 rfl ?_
  refine a_icmp_eq dL_law_2471 (tgt := 2476) rfl (fun _ => ?_) (fun c9 => absurd w2.1 c9)
  refine a_iload dL_law_2476 rfl ?_
  refine a_if_ne dL_law_2478 (tgt := 2492) rfl (fun _ => ?_) (fun c9 => ?_)
  · exact a_goto dL_law_2492 (tgt := 3039) rfl (fin _ _ _ _ _ _ _ ⟨_, _, _, _, _, _, _, W2, h3.up (by omega), fun k k1 k2 t => (hS k k1 k2 t).up (by omega)⟩ (by omega) (by omega))
  · refine a_aload_n dL_law_2481 rfl rfl ?_
    refine a_iconst dL_law_2482 ⟨by decide, by decide⟩ ?_
    refine b_lald dL_law_2483 (congrArg Prod.fst W2.2.2.2.2.1) (congrArg Prod.snd W2.2.2.2.2.1) (by omega) ?_
    refine a_lload dL_law_2484 rfl ?_
    refine a_lcmp_eq dL_law_2486 dL_law_2487 (tgt := 2492) rfl (fun _ => ?_) (fun c8 => absurd ((e2 0).trans (hv c9)) c8)
    exact a_goto dL_law_2492 (tgt := 3039) rfl (fin _ _ _ _ _ _ _ ⟨_, _, _, _, _, _, _, W2, h3.up (by omega), fun k k1 k2 t => (hS k k1 k2 t).up (by omega)⟩ (by omega) (by omega))
theorem w_law_48 {l : Launch} {G : GT} {b L : Nat} {xs : Nat → Int32} {x a o v u q i n er : Int} {M B : Row} {T : Int → Bool} {S : Int → Row} {Y : Int → Int} {cs sl : Nat} {H : AH} (C : LC l G b L xs x a o v u q i cs sl) (W0 : LW H x a o v u M B n er T S M B n er T S Y) (h3 : ok3 M q) (hS : ∀ k, 0 ≤ k → k < 2 → T k = true → ok3 (S k) q) : LA l G b x a o v i 2495 vU vU vU vU [] cs sl H := by
  obtain ⟨⟨hG, hT, hN, hNc⟩, hX, hA, hL, hR, fin⟩ := C
  have hR0 := W0.1.1
  refine a_aload_n dL_law_2495 rfl rfl ?_
  refine a_callV (d' := 999) dL_law_2496 lc_320 (as := []) rfl rfl (kRun_0 hR0.la) (Nat.le_refl _) (Nat.le_of_ble_eq_true rfl) (nocov rfl) (by omega) (by omega) (CL.mono (k_neededShift hR0) ?_)
  rintro r1 H1 ⟨e1, o1, R1⟩
  rw [ans_0] at e1
  subst e1
  have W1 := W0.cla hA o1 (fun c i => pX_in) R1
  show LA l G b x a o v i 2499 vU vU vU vU [vI _] cs sl H1
  refine a_aload_n dL_law_2499 rfl rfl ?_
  refine a_callV (d' := 999) dL_law_2500 lc_323 (as := []) rfl rfl (kMod_0 W1.2.1.1.1) (Nat.le_refl _) (Nat.le_of_ble_eq_true rfl) (nocov rfl) (by omega) (by omega) (CL.mono (c_neededShift W1.2.1.1) ?_)
  rintro r2 H2 ⟨rfl, w2⟩
  obtain ⟨W2, e2, e2v⟩ := W1.mut hA w2
  show LA l G b x a o v i 2503 vU vU vU vU [vI _, vI _] cs sl H2
  exact a_icmp_eq dL_law_2503 (tgt := 3039) rfl (fun _ => (fin _ _ _ _ _ _ _ ⟨_, _, _, _, _, _, _, W2, h3.up (by omega), fun k k1 k2 t => (hS k k1 k2 t).up (by omega)⟩ (by omega) (by omega))) (fun c8 => absurd rfl c8)
