/-! System.arraycopy -/
theorem wac_530 : Cond.methodLink "RunwaySequencer$Rules" 37 arraycopyName ∈ lw_good := w_mem 530 (by decide +kernel) (by decide +kernel)
theorem wac_537 : Cond.methodLink "RunwaySequencer$Flights" 41 arraycopyName ∈ lw_good := w_mem 537 (by decide +kernel) (by decide +kernel)
theorem wac_538 : Cond.methodLink "RunwaySequencer$State" 77 arraycopyName ∈ lw_good := w_mem 538 (by decide +kernel) (by decide +kernel)
theorem wac_s : Cond.static arraycopyName ∈ lw_good := w_mem 531 (by decide +kernel) (by decide +kernel)
theorem wac_n : Cond.native arraycopyName ∈ lw_good := w_mem 532 (by decide +kernel) (by decide +kernel)
theorem wac_i : Cond.initialized "java/lang/System" ∈ lw_good := w_mem 18 (by decide +kernel) (by decide +kernel)
theorem aHp.setG {ca : Nat → ClassId} {ws : va_W} {H : AH} (h : aHp ca ws H) {p q : Nat} {e0 e : va_E} (hp : ws[p]? = some (q, e0)) {g : Int → Int} (he : aEnt ca (ws.set p (q, e)) (H.2.1 (p + 1)) g e) : aHp ca (ws.set p (q, e)) (H.1, H.2.1, fun b j => if b = p + 1 then g j else H.2.2 b j) := by
  have hx : aext ws (ws.set p (q, e)) := aext_set hp
  obtain ⟨h1, h2, h3⟩ := h
  refine ⟨by rw [List.length_set]; exact h1, h2, fun p' q' e' hp' => ?_⟩
  by_cases hpp : p' = p
  · subst hpp
    rw [List.getElem?_set_self (List.getElem?_eq_some_iff.mp hp).1] at hp'
    cases hp'
    have e9 : ((H.1, H.2.1, fun b j => if b = (p' : Int) + 1 then g j else H.2.2 b j) : AH).2.2 (p' + 1) = g := by
      funext j
      simp
    rw [e9]
    exact he
  · rw [List.getElem?_set_ne (Ne.symm hpp)] at hp'
    have e9 : ((H.1, H.2.1, fun b j => if b = (p : Int) + 1 then g j else H.2.2 b j) : AH).2.2 (p' + 1) = H.2.2 (p' + 1) := by
      funext j
      have : ¬ ((p' : Int) + 1 = p + 1) := by omega
      simp [this]
    rw [e9]
    exact (h3 p' q' e' hp').ext hx
section ACOPY
variable {l : Launch} {G : GT} {M : MI} {d mc ms : Nat} {Q : AV → AH → Prop} {pc : Nat} {ls st : List AV} {cs sl : Nat} {H : AH}
theorem i32_nlt0 {x : Int32} (h : 0 ≤ x.toInt) : ¬ x < 0 := fun q => by
  have h0 : (0 : Int32).toInt = 0 := rfl
  have := i32_ltI.mp q
  omega
theorem a_copyI {idx : Nat} {a0 a sp dp n n0 n1 : Int} (hd : decode M.2.1 pc = .ok (.invokestatic idx, 3)) (hw : Cond.methodLink M.1.cls idx arraycopyName ∈ lw_good) (k0 : hk H a0 = 10) (l0 : hn H a0 = n0) (k1 : hk H a = 10) (l1 : hn H a = n1) (h0 : 0 ≤ sp ∧ sp + n ≤ n0) (h1 : 0 ≤ dp ∧ dp + n ≤ n1) (hn0 : 0 ≤ n) (hca : aCat st ≤ 8)
    (kk : ∀ H1 : AH, only H H1 (fun c i => c = a ∧ dp ≤ i ∧ i < dp + n) → (∀ k, dp ≤ k → k < dp + n → hg H1 a k = hg H a0 (sp + (k - dp))) → AW l G M (d + 1) mc ms Q (pc + 3) ls st cs sl H1) : AW l G M (d + 1) mc ms Q pc ls (vI n :: vI dp :: vR a :: vI sp :: vR a0 :: st) cs sl H := by
  intro p e s m args below meth c z D ca ws0 C ws Hp locs lsR stR hR hE hS hL hT
  obtain ⟨_, _, e0, hx, hT0⟩ := rvs_cons hT
  subst e0
  obtain ⟨_, _, e1, hy, hT1⟩ := rvs_cons hT0
  subst e1
  obtain ⟨_, _, e2, hz, hT2⟩ := rvs_cons hT1
  subst e2
  obtain ⟨_, _, e3, hu, hT3⟩ := rvs_cons hT2
  subst e3
  obtain ⟨_, _, e4, hv, hT4⟩ := rvs_cons hT3
  subst e4
  obtain ⟨n', rfl, rfl⟩ := rv_I hx
  obtain ⟨dp', rfl, rfl⟩ := rv_I hy
  obtain ⟨sp', rfl, rfl⟩ := rv_I hu
  obtain ⟨hP, hD, hHp⟩ := hR
  have hA := hHp.2.2
  have hts := C.2.2.2.2.2.2.1
  rcases rv_R hz with ⟨rfl, rfl⟩ | ⟨p9, q9, e9, rfl, hw9, rfl⟩
  · have k1 : (H.2.1 0).1 = 10 := k1
    have := hHp.2.1
    omega
  rcases rv_R hv with ⟨rfl, rfl⟩ | ⟨p8, q8, e8, rfl, hw8, rfl⟩
  · have k0 : (H.2.1 0).1 = 10 := k0
    have := hHp.2.1
    omega
  have k1 : (H.2.1 (p9 + 1)).1 = 10 := k1
  have k0 : (H.2.1 (p8 + 1)).1 = 10 := k0
  obtain ⟨m1, g, rfl, hm1, hg1⟩ := aEnt_arrI (hA p9 q9 e9 hw9) (j := 0) (by decide) k1
  obtain ⟨m0, f, rfl, hm0, hf0⟩ := aEnt_arrI (hA p8 q8 e8 hw8) (j := 0) (by decide) k0
  have l1 : (H.2.1 (p9 + 1)).2 = n1 := l1
  have l0 : (H.2.1 (p8 + 1)).2 = n0 := l0
  have cn := clampI hn0
  have cd := clampI h1.1
  have cs' := clampI h0.1
  have nw : nativeFrameWords "java/lang/System" "arraycopy" 5 = 7 := by decide
  refine va_copyi C.1 C.2.1 (C.2.2.1.trans hL.size.symm) C.2.2.2.2.2.1 (hts _ hw) (hts _ wac_n) (hts _ wac_s) (hts _ wac_i) C.2.2.2.2.2.2.2.1 hP hD hS p8 p9 0 0 hw8 hw9 rfl rfl rfl (i32_nlt0 h0.1) (i32_nlt0 h1.1) (i32_nlt0 hn0) (by omega) (by omega) (fun i _ => rfl) (by show 1 ≤ d + 1; omega) (by rw [aCat_eq hT4, nw]; show aCat st + (7 + 11) ≤ 64 * (d + 1); omega) hd (fun H1 locs1 hP1 hD1 hS1 => ?_)
  have hxt := aext_set (e := .inl (ca 0, m1, .inl (va_cpy f g sp'.toNatClampNeg dp'.toNatClampNeg n'.toNatClampNeg))) hw9
  refine kk (H.1, H.2.1, fun b j => if b = (p9 : Int) + 1 then (if dp'.toInt ≤ j ∧ j < dp'.toInt + n'.toInt then H.2.2 (p8 + 1) (sp'.toInt + (j - dp'.toInt)) else H.2.2 (p9 + 1) j) else H.2.2 b j) ⟨rfl, rfl, fun b i hb => ?_⟩ (fun k k2 k3 => ?_) p e s m args below meth c z D ca ws0 C _ H1 locs1 lsR _ ⟨hP1, hD1, hHp.setG hw9 ⟨⟨0, by decide, k1, rfl⟩, hm1, fun k hk => ?_⟩⟩ (hE.trans hxt) hS1 (hL.ext hxt) (hT4.ext hxt)
  · show (if b = (p9 : Int) + 1 then (if dp'.toInt ≤ i ∧ i < dp'.toInt + n'.toInt then H.2.2 (p8 + 1) (sp'.toInt + (i - dp'.toInt)) else H.2.2 (p9 + 1) i) else H.2.2 b i) = H.2.2 b i
    by_cases c1 : b = (p9 : Int) + 1
    · rw [if_pos c1, if_neg (fun q => hb ⟨c1, q.1, q.2⟩), c1]
    · rw [if_neg c1]
  · show (if (p9 : Int) + 1 = (p9 : Int) + 1 then (if dp'.toInt ≤ k ∧ k < dp'.toInt + n'.toInt then H.2.2 (p8 + 1) (sp'.toInt + (k - dp'.toInt)) else H.2.2 (p9 + 1) k) else H.2.2 (p9 + 1) k) = H.2.2 (p8 + 1) (sp'.toInt + (k - dp'.toInt))
    rw [if_pos rfl, if_pos ⟨k2, k3⟩]
  · show (if dp'.toInt ≤ (k : Int) ∧ (k : Int) < dp'.toInt + n'.toInt then H.2.2 (p8 + 1) (sp'.toInt + ((k : Int) - dp'.toInt)) else H.2.2 (p9 + 1) k) = (va_cpy f g sp'.toNatClampNeg dp'.toNatClampNeg n'.toNatClampNeg k).toInt
    unfold va_cpy
    by_cases c1 : dp'.toNatClampNeg ≤ k ∧ k < dp'.toNatClampNeg + n'.toNatClampNeg
    · have e9 : sp'.toInt + ((k : Int) - dp'.toInt) = ((sp'.toNatClampNeg + (k - dp'.toNatClampNeg) : Nat) : Int) := by omega
      rw [if_pos c1, if_pos (by omega), ← hf0 _ (by omega), e9]
    · rw [if_neg c1, if_neg (by omega)]
      exact hg1 k hk
end ACOPY
