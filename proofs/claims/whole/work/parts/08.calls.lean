/-! arrays, ends -/
section AARR
variable {l : Launch} {G : GT} {M : MI} {d mc ms : Nat} {Q : AV → AH → Prop} {pc : Nat} {ls st : List AV} {cs sl : Nat} {H : AH}

theorem a_iald {a i : Int} (hd : decode M.2.1 pc = .ok (.iaload, 1)) (hkd : hk H a = 10) (hb : 0 ≤ i ∧ i < hn H a) (kk : AW l G M d mc ms Q (pc + 1) ls (vI (hg H a i) :: st) cs sl H) : AW l G M d mc ms Q pc ls (vI i :: vR a :: st) cs sl H := by
  intro p e s m args below meth c z D ca ws0 C ws Hp locs lsR stR hR hE hS hL hT
  obtain ⟨_, _, e0, hx, hT0⟩ := rvs_cons hT
  subst e0
  obtain ⟨_, _, e1, hy, hT1⟩ := rvs_cons hT0
  subst e1
  obtain ⟨i', rfl, rfl⟩ := rv_I hx
  obtain ⟨hP, hD, hlen, h0, hA⟩ := id hR
  rcases rv_R hy with ⟨rfl, rfl⟩ | ⟨p9, q9, e9, rfl, hw, rfl⟩
  · have hkd : (H.2.1 0).1 = 10 := hkd
    omega
  · have hkd : (H.2.1 (p9 + 1)).1 = 10 := hkd
    have hb : 0 ≤ i'.toInt ∧ i'.toInt < (H.2.1 (p9 + 1)).2 := hb
    obtain ⟨n, f, rfl, hn9, hf⟩ := aEnt_arrI (hA p9 q9 e9 hw) (j := 0) (by decide) hkd
    rw [hn9] at hb
    have hcl := clampI hb.1
    have hlt : i'.toNatClampNeg < n := by omega
    have hv := hf _ hlt
    rw [hcl] at hv
    exact va_iald C.1 C.2.1 C.2.2.2.2.2.2.2.1 hP p9 0 hw rfl (vp_in_of' hb.1 hb.2) hd (kk p e s m args below meth c z D ca ws0 C ws Hp locs lsR _ hR hE hS hL ⟨congrArg vI hv, hT1⟩)

theorem a_zald {a i : Int} (hd : decode M.2.1 pc = .ok (.baload, 1)) (hkd : hk H a = 11) (hb : 0 ≤ i ∧ i < hn H a) (kk : AW l G M d mc ms Q (pc + 1) ls (vI (hg H a i) :: st) cs sl H) : AW l G M d mc ms Q pc ls (vI i :: vR a :: st) cs sl H := by
  intro p e s m args below meth c z D ca ws0 C ws Hp locs lsR stR hR hE hS hL hT
  obtain ⟨_, _, e0, hx, hT0⟩ := rvs_cons hT
  subst e0
  obtain ⟨_, _, e1, hy, hT1⟩ := rvs_cons hT0
  subst e1
  obtain ⟨i', rfl, rfl⟩ := rv_I hx
  obtain ⟨hP, hD, hlen, h0, hA⟩ := id hR
  rcases rv_R hy with ⟨rfl, rfl⟩ | ⟨p9, q9, e9, rfl, hw, rfl⟩
  · have hkd : (H.2.1 0).1 = 11 := hkd
    omega
  · have hkd : (H.2.1 (p9 + 1)).1 = 11 := hkd
    have hb : 0 ≤ i'.toInt ∧ i'.toInt < (H.2.1 (p9 + 1)).2 := hb
    obtain ⟨n, f, rfl, hn9, hf⟩ := aEnt_arrI (hA p9 q9 e9 hw) (j := 1) (by decide) hkd
    rw [hn9] at hb
    have hcl := clampI hb.1
    have hlt : i'.toNatClampNeg < n := by omega
    have hv := hf _ hlt
    rw [hcl] at hv
    exact va_zald C.1 C.2.1 C.2.2.2.2.2.2.2.1 hP p9 1 hw rfl (vp_in_of' hb.1 hb.2) hd (kk p e s m args below meth c z D ca ws0 C ws Hp locs lsR _ hR hE hS hL ⟨congrArg vI hv, hT1⟩)

theorem a_bald {a i : Int} (hd : decode M.2.1 pc = .ok (.baload, 1)) (hkd : hk H a = 12) (hb : 0 ≤ i ∧ i < hn H a) (kk : AW l G M d mc ms Q (pc + 1) ls (vI (hg H a i) :: st) cs sl H) : AW l G M d mc ms Q pc ls (vI i :: vR a :: st) cs sl H := by
  intro p e s m args below meth c z D ca ws0 C ws Hp locs lsR stR hR hE hS hL hT
  obtain ⟨_, _, e0, hx, hT0⟩ := rvs_cons hT
  subst e0
  obtain ⟨_, _, e1, hy, hT1⟩ := rvs_cons hT0
  subst e1
  obtain ⟨i', rfl, rfl⟩ := rv_I hx
  obtain ⟨hP, hD, hlen, h0, hA⟩ := id hR
  rcases rv_R hy with ⟨rfl, rfl⟩ | ⟨p9, q9, e9, rfl, hw, rfl⟩
  · have hkd : (H.2.1 0).1 = 12 := hkd
    omega
  · have hkd : (H.2.1 (p9 + 1)).1 = 12 := hkd
    have hb : 0 ≤ i'.toInt ∧ i'.toInt < (H.2.1 (p9 + 1)).2 := hb
    obtain ⟨n, f, rfl, hn9, hf⟩ := aEnt_arrI (hA p9 q9 e9 hw) (j := 2) (by decide) hkd
    rw [hn9] at hb
    have hcl := clampI hb.1
    have hlt : i'.toNatClampNeg < n := by omega
    have hv := hf _ hlt
    rw [hcl] at hv
    exact va_bald C.1 C.2.1 C.2.2.2.2.2.2.2.1 hP p9 2 hw rfl (vp_in_of' hb.1 hb.2) hd (kk p e s m args below meth c z D ca ws0 C ws Hp locs lsR _ hR hE hS hL ⟨congrArg vI hv, hT1⟩)

theorem a_lald {a i : Int} (hd : decode M.2.1 pc = .ok (.laload, 1)) (hkd : hk H a = 13) (hb : 0 ≤ i ∧ i < hn H a) (kk : AW l G M d mc ms Q (pc + 1) ls (vJ (hg H a i) :: st) cs sl H) : AW l G M d mc ms Q pc ls (vI i :: vR a :: st) cs sl H := by
  intro p e s m args below meth c z D ca ws0 C ws Hp locs lsR stR hR hE hS hL hT
  obtain ⟨_, _, e0, hx, hT0⟩ := rvs_cons hT
  subst e0
  obtain ⟨_, _, e1, hy, hT1⟩ := rvs_cons hT0
  subst e1
  obtain ⟨i', rfl, rfl⟩ := rv_I hx
  obtain ⟨hP, hD, hlen, h0, hA⟩ := id hR
  rcases rv_R hy with ⟨rfl, rfl⟩ | ⟨p9, q9, e9, rfl, hw, rfl⟩
  · have hkd : (H.2.1 0).1 = 13 := hkd
    omega
  · have hkd : (H.2.1 (p9 + 1)).1 = 13 := hkd
    have hb : 0 ≤ i'.toInt ∧ i'.toInt < (H.2.1 (p9 + 1)).2 := hb
    obtain ⟨n, f, rfl, hn9, hf⟩ := aEnt_arrJ (hA p9 q9 e9 hw) hkd
    rw [hn9] at hb
    have hcl := clampI hb.1
    have hlt : i'.toNatClampNeg < n := by omega
    have hv := hf _ hlt
    rw [hcl] at hv
    exact va_lald C.1 C.2.1 C.2.2.2.2.2.2.2.1 hP p9 3 hw rfl (vp_in_of' hb.1 hb.2) hd (kk p e s m args below meth c z D ca ws0 C ws Hp locs lsR _ hR hE hS hL ⟨congrArg vJ hv, hT1⟩)

theorem a_dald {a i : Int} (hd : decode M.2.1 pc = .ok (.daload, 1)) (hkd : hk H a = 14) (hb : 0 ≤ i ∧ i < hn H a) (kk : AW l G M d mc ms Q (pc + 1) ls (vD (hg H a i) :: st) cs sl H) : AW l G M d mc ms Q pc ls (vI i :: vR a :: st) cs sl H := by
  intro p e s m args below meth c z D ca ws0 C ws Hp locs lsR stR hR hE hS hL hT
  obtain ⟨_, _, e0, hx, hT0⟩ := rvs_cons hT
  subst e0
  obtain ⟨_, _, e1, hy, hT1⟩ := rvs_cons hT0
  subst e1
  obtain ⟨i', rfl, rfl⟩ := rv_I hx
  obtain ⟨hP, hD, hlen, h0, hA⟩ := id hR
  rcases rv_R hy with ⟨rfl, rfl⟩ | ⟨p9, q9, e9, rfl, hw, rfl⟩
  · have hkd : (H.2.1 0).1 = 14 := hkd
    omega
  · have hkd : (H.2.1 (p9 + 1)).1 = 14 := hkd
    have hb : 0 ≤ i'.toInt ∧ i'.toInt < (H.2.1 (p9 + 1)).2 := hb
    obtain ⟨n, f, rfl, hn9, hf⟩ := aEnt_arrD (hA p9 q9 e9 hw) hkd
    rw [hn9] at hb
    have hcl := clampI hb.1
    have hlt : i'.toNatClampNeg < n := by omega
    have hv := hf _ hlt
    rw [hcl] at hv
    exact va_dald C.1 C.2.1 C.2.2.2.2.2.2.2.1 hP p9 4 hw rfl (vp_in_of' hb.1 hb.2) hd (kk p e s m args below meth c z D ca ws0 C ws Hp locs lsR _ hR hE hS hL ⟨congrArg vD hv, hT1⟩)

theorem a_qald {a i : Int} (hd : decode M.2.1 pc = .ok (.aaload, 1)) (hkd : hk H a = 15) (hb : 0 ≤ i ∧ i < hn H a) (kk : AW l G M d mc ms Q (pc + 1) ls (vR (hg H a i) :: st) cs sl H) : AW l G M d mc ms Q pc ls (vI i :: vR a :: st) cs sl H := by
  intro p e s m args below meth c z D ca ws0 C ws Hp locs lsR stR hR hE hS hL hT
  obtain ⟨_, _, e0, hx, hT0⟩ := rvs_cons hT
  subst e0
  obtain ⟨_, _, e1, hy, hT1⟩ := rvs_cons hT0
  subst e1
  obtain ⟨i', rfl, rfl⟩ := rv_I hx
  obtain ⟨hP, hD, hlen, h0, hA⟩ := id hR
  rcases rv_R hy with ⟨rfl, rfl⟩ | ⟨p9, q9, e9, rfl, hw, rfl⟩
  · have hkd : (H.2.1 0).1 = 15 := hkd
    omega
  · have hkd : (H.2.1 (p9 + 1)).1 = 15 := hkd
    have hb : 0 ≤ i'.toInt ∧ i'.toInt < (H.2.1 (p9 + 1)).2 := hb
    obtain ⟨n, f, rfl, hn9, hf⟩ := aEnt_arrQ (hA p9 q9 e9 hw) hkd
    rw [hn9] at hb
    have hcl := clampI hb.1
    have hlt : i'.toNatClampNeg < n := by omega
    have hv := hf _ hlt
    rw [hcl] at hv
    exact va_aldq C.1 C.2.1 C.2.2.2.2.2.2.2.1 hP p9 5 hw rfl (vp_in_of' hb.1 hb.2) hd (kk p e s m args below meth c z D ca ws0 C ws Hp locs lsR _ hR hE hS hL ⟨hv, hT1⟩)

theorem a_iast {a i x : Int} (hd : decode M.2.1 pc = .ok (.iastore, 1)) (hkd : hk H a = 10) (hb : 0 ≤ i ∧ i < hn H a) (kk : AW l G M d mc ms Q (pc + 1) ls st cs sl (hs H a i x)) : AW l G M d mc ms Q pc ls (vI x :: vI i :: vR a :: st) cs sl H := by
  intro p e s m args below meth c z D ca ws0 C ws Hp locs lsR stR hR hE hS hL hT
  obtain ⟨_, _, e0, hx, hT0⟩ := rvs_cons hT
  subst e0
  obtain ⟨_, _, e1, hy, hT1⟩ := rvs_cons hT0
  subst e1
  obtain ⟨_, _, e2, hz, hT2⟩ := rvs_cons hT1
  subst e2
  obtain ⟨x', rfl, rfl⟩ := rv_I hx
  obtain ⟨i', rfl, rfl⟩ := rv_I hy
  obtain ⟨hP, hD, hHp⟩ := hR
  have hA := hHp.2.2
  rcases rv_R hz with ⟨rfl, rfl⟩ | ⟨p9, q9, e9, rfl, hw, rfl⟩
  · have hkd : (H.2.1 0).1 = 10 := hkd
    have := hHp.2.1
    omega
  · have hkd : (H.2.1 (p9 + 1)).1 = 10 := hkd
    have hb : 0 ≤ i'.toInt ∧ i'.toInt < (H.2.1 (p9 + 1)).2 := hb
    obtain ⟨n, f, rfl, hn9, hf⟩ := aEnt_arrI (hA p9 q9 e9 hw) (j := 0) (by decide) hkd
    rw [hn9] at hb
    have hcl := clampI hb.1
    have hlt : i'.toNatClampNeg < n := by omega
    refine va_iast C.1 C.2.1 C.2.2.2.2.2.2.2.1 hP hD hS p9 0 hw rfl (vp_in_of' hb.1 hb.2) hd (fun H1 locs1 hP1 hD1 hS1 => ?_)
    have hxt := aext_set (e := .inl (ca 0, n, .inl (upd f i'.toNatClampNeg x'))) hw
    refine kk p e s m args below meth c z D ca ws0 C _ H1 locs1 lsR _ ⟨hP1, hD1, hHp.set hw ⟨⟨0, by decide, hkd, rfl⟩, hn9, fun k hk => ?_⟩⟩ (hE.trans hxt) hS1 (hL.ext hxt) (hT2.ext hxt)
    by_cases hkk : k = i'.toNatClampNeg
    · have hki : (k : Int) = i'.toInt := by omega
      subst hkk
      simp only [hki, if_true, upd]
    · have hki : ¬ ((k : Int) = i'.toInt) := by omega
      simp only [hki, if_false, upd, hkk]
      exact hf k hk

theorem a_zast {a i x : Int} (hd : decode M.2.1 pc = .ok (.bastore, 1)) (hkd : hk H a = 11) (hb : 0 ≤ i ∧ i < hn H a) (h01 : x = 0 ∨ x = 1) (kk : AW l G M d mc ms Q (pc + 1) ls st cs sl (hs H a i x)) : AW l G M d mc ms Q pc ls (vI x :: vI i :: vR a :: st) cs sl H := by
  intro p e s m args below meth c z D ca ws0 C ws Hp locs lsR stR hR hE hS hL hT
  obtain ⟨_, _, e0, hx, hT0⟩ := rvs_cons hT
  subst e0
  obtain ⟨_, _, e1, hy, hT1⟩ := rvs_cons hT0
  subst e1
  obtain ⟨_, _, e2, hz, hT2⟩ := rvs_cons hT1
  subst e2
  obtain ⟨x', rfl, rfl⟩ := rv_I hx
  obtain ⟨i', rfl, rfl⟩ := rv_I hy
  obtain ⟨hP, hD, hHp⟩ := hR
  have hA := hHp.2.2
  rcases rv_R hz with ⟨rfl, rfl⟩ | ⟨p9, q9, e9, rfl, hw, rfl⟩
  · have hkd : (H.2.1 0).1 = 11 := hkd
    have := hHp.2.1
    omega
  · have hkd : (H.2.1 (p9 + 1)).1 = 11 := hkd
    have hb : 0 ≤ i'.toInt ∧ i'.toInt < (H.2.1 (p9 + 1)).2 := hb
    obtain ⟨n, f, rfl, hn9, hf⟩ := aEnt_arrI (hA p9 q9 e9 hw) (j := 1) (by decide) hkd
    rw [hn9] at hb
    have hcl := clampI hb.1
    have hlt : i'.toNatClampNeg < n := by omega
    have hnar : vp_nar .boolean x' = x' := by rcases i32_01 h01 with rfl | rfl <;> decide
    refine va_zast C.1 C.2.1 C.2.2.2.2.2.2.2.1 hP hD hS p9 1 hw rfl (vp_in_of' hb.1 hb.2) hd (fun H1 locs1 hP1 hD1 hS1 => ?_)
    have hxt := aext_set (e := .inl (ca 1, n, .inl (upd f i'.toNatClampNeg (vp_nar .boolean x')))) hw
    refine kk p e s m args below meth c z D ca ws0 C _ H1 locs1 lsR _ ⟨hP1, hD1, hHp.set hw ⟨⟨1, by decide, hkd, rfl⟩, hn9, fun k hk => ?_⟩⟩ (hE.trans hxt) hS1 (hL.ext hxt) (hT2.ext hxt)
    by_cases hkk : k = i'.toNatClampNeg
    · have hki : (k : Int) = i'.toInt := by omega
      subst hkk
      simp only [hki, if_true, upd]
      rw [hnar]
    · have hki : ¬ ((k : Int) = i'.toInt) := by omega
      simp only [hki, if_false, upd, hkk]
      exact hf k hk

theorem a_bast {a i x : Int} (hd : decode M.2.1 pc = .ok (.bastore, 1)) (hkd : hk H a = 12) (hb : 0 ≤ i ∧ i < hn H a) (h01 : -128 ≤ x ∧ x ≤ 127) (kk : AW l G M d mc ms Q (pc + 1) ls st cs sl (hs H a i x)) : AW l G M d mc ms Q pc ls (vI x :: vI i :: vR a :: st) cs sl H := by
  intro p e s m args below meth c z D ca ws0 C ws Hp locs lsR stR hR hE hS hL hT
  obtain ⟨_, _, e0, hx, hT0⟩ := rvs_cons hT
  subst e0
  obtain ⟨_, _, e1, hy, hT1⟩ := rvs_cons hT0
  subst e1
  obtain ⟨_, _, e2, hz, hT2⟩ := rvs_cons hT1
  subst e2
  obtain ⟨x', rfl, rfl⟩ := rv_I hx
  obtain ⟨i', rfl, rfl⟩ := rv_I hy
  obtain ⟨hP, hD, hHp⟩ := hR
  have hA := hHp.2.2
  rcases rv_R hz with ⟨rfl, rfl⟩ | ⟨p9, q9, e9, rfl, hw, rfl⟩
  · have hkd : (H.2.1 0).1 = 12 := hkd
    have := hHp.2.1
    omega
  · have hkd : (H.2.1 (p9 + 1)).1 = 12 := hkd
    have hb : 0 ≤ i'.toInt ∧ i'.toInt < (H.2.1 (p9 + 1)).2 := hb
    obtain ⟨n, f, rfl, hn9, hf⟩ := aEnt_arrI (hA p9 q9 e9 hw) (j := 2) (by decide) hkd
    rw [hn9] at hb
    have hcl := clampI hb.1
    have hlt : i'.toNatClampNeg < n := by omega
    have hnar : vp_nar .byte x' = x' := by rw [vp_nar_byte]; exact Int32.toInt_inj.mp (by rw [i32_b]; omega)
    refine va_bast C.1 C.2.1 C.2.2.2.2.2.2.2.1 hP hD hS p9 2 hw rfl (vp_in_of' hb.1 hb.2) hd (fun H1 locs1 hP1 hD1 hS1 => ?_)
    have hxt := aext_set (e := .inl (ca 2, n, .inl (upd f i'.toNatClampNeg (vp_nar .byte x')))) hw
    refine kk p e s m args below meth c z D ca ws0 C _ H1 locs1 lsR _ ⟨hP1, hD1, hHp.set hw ⟨⟨2, by decide, hkd, rfl⟩, hn9, fun k hk => ?_⟩⟩ (hE.trans hxt) hS1 (hL.ext hxt) (hT2.ext hxt)
    by_cases hkk : k = i'.toNatClampNeg
    · have hki : (k : Int) = i'.toInt := by omega
      subst hkk
      simp only [hki, if_true, upd]
      rw [hnar]
    · have hki : ¬ ((k : Int) = i'.toInt) := by omega
      simp only [hki, if_false, upd, hkk]
      exact hf k hk

theorem a_last {a i x : Int} (hd : decode M.2.1 pc = .ok (.lastore, 1)) (hkd : hk H a = 13) (hb : 0 ≤ i ∧ i < hn H a) (kk : AW l G M d mc ms Q (pc + 1) ls st cs sl (hs H a i x)) : AW l G M d mc ms Q pc ls (vJ x :: vI i :: vR a :: st) cs sl H := by
  intro p e s m args below meth c z D ca ws0 C ws Hp locs lsR stR hR hE hS hL hT
  obtain ⟨_, _, e0, hx, hT0⟩ := rvs_cons hT
  subst e0
  obtain ⟨_, _, e1, hy, hT1⟩ := rvs_cons hT0
  subst e1
  obtain ⟨_, _, e2, hz, hT2⟩ := rvs_cons hT1
  subst e2
  obtain ⟨x', rfl, rfl⟩ := rv_J hx
  obtain ⟨i', rfl, rfl⟩ := rv_I hy
  obtain ⟨hP, hD, hHp⟩ := hR
  have hA := hHp.2.2
  rcases rv_R hz with ⟨rfl, rfl⟩ | ⟨p9, q9, e9, rfl, hw, rfl⟩
  · have hkd : (H.2.1 0).1 = 13 := hkd
    have := hHp.2.1
    omega
  · have hkd : (H.2.1 (p9 + 1)).1 = 13 := hkd
    have hb : 0 ≤ i'.toInt ∧ i'.toInt < (H.2.1 (p9 + 1)).2 := hb
    obtain ⟨n, f, rfl, hn9, hf⟩ := aEnt_arrJ (hA p9 q9 e9 hw) hkd
    rw [hn9] at hb
    have hcl := clampI hb.1
    have hlt : i'.toNatClampNeg < n := by omega
    refine va_last C.1 C.2.1 C.2.2.2.2.2.2.2.1 hP hD hS p9 3 hw rfl (vp_in_of' hb.1 hb.2) hd (fun H1 locs1 hP1 hD1 hS1 => ?_)
    have hxt := aext_set (e := .inl (ca 3, n, .inr (.inl (vp_updL f i'.toNatClampNeg x')))) hw
    refine kk p e s m args below meth c z D ca ws0 C _ H1 locs1 lsR _ ⟨hP1, hD1, hHp.set hw ⟨hkd, rfl, hn9, fun k hk => ?_⟩⟩ (hE.trans hxt) hS1 (hL.ext hxt) (hT2.ext hxt)
    by_cases hkk : k = i'.toNatClampNeg
    · have hki : (k : Int) = i'.toInt := by omega
      subst hkk
      simp only [hki, if_true, vp_updL]
    · have hki : ¬ ((k : Int) = i'.toInt) := by omega
      simp only [hki, if_false, vp_updL, hkk]
      exact hf k hk

theorem a_dast {a i x : Int} (hd : decode M.2.1 pc = .ok (.dastore, 1)) (hkd : hk H a = 14) (hb : 0 ≤ i ∧ i < hn H a) (kk : AW l G M d mc ms Q (pc + 1) ls st cs sl (hs H a i x)) : AW l G M d mc ms Q pc ls (vD x :: vI i :: vR a :: st) cs sl H := by
  intro p e s m args below meth c z D ca ws0 C ws Hp locs lsR stR hR hE hS hL hT
  obtain ⟨_, _, e0, hx, hT0⟩ := rvs_cons hT
  subst e0
  obtain ⟨_, _, e1, hy, hT1⟩ := rvs_cons hT0
  subst e1
  obtain ⟨_, _, e2, hz, hT2⟩ := rvs_cons hT1
  subst e2
  obtain ⟨x', rfl, rfl⟩ := rv_D hx
  obtain ⟨i', rfl, rfl⟩ := rv_I hy
  obtain ⟨hP, hD, hHp⟩ := hR
  have hA := hHp.2.2
  rcases rv_R hz with ⟨rfl, rfl⟩ | ⟨p9, q9, e9, rfl, hw, rfl⟩
  · have hkd : (H.2.1 0).1 = 14 := hkd
    have := hHp.2.1
    omega
  · have hkd : (H.2.1 (p9 + 1)).1 = 14 := hkd
    have hb : 0 ≤ i'.toInt ∧ i'.toInt < (H.2.1 (p9 + 1)).2 := hb
    obtain ⟨n, f, rfl, hn9, hf⟩ := aEnt_arrD (hA p9 q9 e9 hw) hkd
    rw [hn9] at hb
    have hcl := clampI hb.1
    have hlt : i'.toNatClampNeg < n := by omega
    refine va_dast C.1 C.2.1 C.2.2.2.2.2.2.2.1 hP hD hS p9 4 hw rfl (vp_in_of' hb.1 hb.2) hd (fun H1 locs1 hP1 hD1 hS1 => ?_)
    have hxt := aext_set (e := .inl (ca 4, n, .inr (.inr (.inr (.inl (vf_upd f i'.toNatClampNeg x')))))) hw
    refine kk p e s m args below meth c z D ca ws0 C _ H1 locs1 lsR _ ⟨hP1, hD1, hHp.set hw ⟨hkd, rfl, hn9, fun k hk => ?_⟩⟩ (hE.trans hxt) hS1 (hL.ext hxt) (hT2.ext hxt)
    by_cases hkk : k = i'.toNatClampNeg
    · have hki : (k : Int) = i'.toInt := by omega
      subst hkk
      simp only [hki, if_true, vf_upd]
    · have hki : ¬ ((k : Int) = i'.toInt) := by omega
      simp only [hki, if_false, vf_upd, hkk]
      exact hf k hk

theorem a_iret {x : Int} (hd : decode M.2.1 pc = .ok (.ireturn, 1)) (hr : M.2.2.2.1 = some .int) (hc : cs ≤ mc) (hs : sl ≤ ms) (hq : Q (vI x) H) : AW l G M d mc ms Q pc ls [vI x] cs sl H := by
  intro p e s m args below meth c z D ca ws0 C ws Hp locs lsR stR hR hE hS hL hT
  obtain ⟨_, _, e0, hx, hT0⟩ := rvs_cons hT
  subst e0
  cases rvs_nil hT0
  obtain ⟨y, rfl, rfl⟩ := rv_I hx
  refine W.widen hc hs (vx_ret ?_)
  exact W.iret C.1 C.2.1 (C.2.2.2.1.trans hr) (fun t ht hW => ⟨some _, _, ws, H, rfl, hx, by rw [ht]; exact hR, hE, hq, hS.F ht⟩) hS.2.2 hd C.2.2.2.2.1

theorem a_lret {x : Int} (hd : decode M.2.1 pc = .ok (.lreturn, 1)) (hr : M.2.2.2.1 = some .long) (hc : cs ≤ mc) (hs : sl ≤ ms) (hq : Q (vJ x) H) : AW l G M d mc ms Q pc ls [vJ x] cs sl H := by
  intro p e s m args below meth c z D ca ws0 C ws Hp locs lsR stR hR hE hS hL hT
  obtain ⟨_, _, e0, hx, hT0⟩ := rvs_cons hT
  subst e0
  cases rvs_nil hT0
  obtain ⟨y, rfl, rfl⟩ := rv_J hx
  refine W.widen hc hs (vx_ret ?_)
  exact W.lret C.1 C.2.1 (C.2.2.2.1.trans hr) (fun t ht hW => ⟨some _, _, ws, H, rfl, hx, by rw [ht]; exact hR, hE, hq, hS.F ht⟩) hS.2.2 hd C.2.2.2.2.1

theorem a_fret {x : Int} (hd : decode M.2.1 pc = .ok (.freturn, 1)) (hr : M.2.2.2.1 = some .float) (hc : cs ≤ mc) (hs : sl ≤ ms) (hq : Q (vF x) H) : AW l G M d mc ms Q pc ls [vF x] cs sl H := by
  intro p e s m args below meth c z D ca ws0 C ws Hp locs lsR stR hR hE hS hL hT
  obtain ⟨_, _, e0, hx, hT0⟩ := rvs_cons hT
  subst e0
  cases rvs_nil hT0
  obtain ⟨y, rfl, rfl⟩ := rv_F hx
  refine W.widen hc hs (vx_ret ?_)
  exact W.fret C.1 C.2.1 (C.2.2.2.1.trans hr) (fun t ht hW => ⟨some _, _, ws, H, rfl, hx, by rw [ht]; exact hR, hE, hq, hS.F ht⟩) hS.2.2 hd C.2.2.2.2.1

theorem a_zret {x : Int} (hd : decode M.2.1 pc = .ok (.ireturn, 1)) (hr : M.2.2.2.1 = some .boolean) (h01 : x = 0 ∨ x = 1) (hc : cs ≤ mc) (hs : sl ≤ ms) (hq : Q (vI x) H) : AW l G M d mc ms Q pc ls [vI x] cs sl H := by
  intro p e s m args below meth c z D ca ws0 C ws Hp locs lsR stR hR hE hS hL hT
  obtain ⟨_, _, e0, hx, hT0⟩ := rvs_cons hT
  subst e0
  cases rvs_nil hT0
  obtain ⟨y, rfl, rfl⟩ := rv_I hx
  refine W.widen hc hs (vx_ret ?_)
  exact W.zret C.1 C.2.1 (C.2.2.2.1.trans hr) (by rcases i32_01 h01 with rfl | rfl <;> decide) (fun t ht hW => ⟨some _, _, ws, H, rfl, hx, by rw [ht]; exact hR, hE, hq, hS.F ht⟩) hS.2.2 hd C.2.2.2.2.1
theorem a_vret (hd : decode M.2.1 pc = .ok (.return_, 1)) (hr : M.2.2.2.1 = none) (hc : cs ≤ mc) (hs : sl ≤ ms) (hq : Q vV H) : AW l G M d mc ms Q pc ls [] cs sl H := by
  intro p e s m args below meth c z D ca ws0 C ws Hp locs lsR stR hR hE hS hL hT
  cases rvs_nil hT
  refine W.widen hc hs (vx_ret ?_)
  exact W.vret C.1 C.2.1 (C.2.2.2.1.trans hr) (fun t ht hW => ⟨none, _, ws, H, rfl, rfl, by rw [ht]; exact hR, hE, hq, hS.F ht⟩) hS.2.2 hd C.2.2.2.2.1
theorem AW.eq {ls' st' : List AV} {pc' : Nat} (h : AW l G M d mc ms Q pc' ls' st' cs sl H) (h1 : pc = pc') (h2 : ls = ls') (h3 : st = st') : AW l G M d mc ms Q pc ls st cs sl H := by
  subst h1; subst h2; subst h3; exact h
end AARR

/-! calls -/
def aCat : List AV → Nat
  | [] => 0
  | a :: as => (if cat2 a then 2 else 1) + aCat as
theorem aCat_eq {ws : va_W} : ∀ {vs : List Value} {as : List AV}, rvs ws vs as → (vs.map fun v => v.category).sum = aCat as
  | [], [], _ => rfl
  | v :: vs, a :: as, h => by
    have h1 := aCat_eq h.2
    have hc := rv_cat h.1
    rw [List.map_cons, List.sum_cons, h1]
    by_cases hv : v.category = 2
    · simp [aCat, hc.mp hv, hv]
    · have hv1 : v.category = 1 := (lv_cat v).resolve_right hv
      have : ¬ cat2 a = true := fun q => hv (hc.mpr q)
      simp [aCat, this, hv1]
  | [], _ :: _, h => h.elim
  | _ :: _, [], h => h.elim
theorem rvs_app {ws : va_W} : ∀ {as : List AV} {vs : List Value} {r : List AV}, rvs ws vs (as ++ r) → ∃ v1 v2 : List Value, vs = v1 ++ v2 ∧ rvs ws v1 as ∧ rvs ws v2 r
  | [], vs, r, h => ⟨[], vs, rfl, trivial, h⟩
  | a :: as, vs, r, h => by
    obtain ⟨v, vr, rfl, h1, h2⟩ := rvs_cons h
    obtain ⟨v1, v2, rfl, h3, h4⟩ := rvs_app (as := as) h2
    exact ⟨v :: v1, v2, rfl, ⟨h1, h3⟩, h4⟩
theorem rvs_snoc {ws : va_W} : ∀ {vs : List Value} {as : List AV} {v : Value} {a : AV}, rvs ws vs as → rv ws v a → rvs ws (vs ++ [v]) (as ++ [a])
  | [], [], _, _, _, h => ⟨h, trivial⟩
  | _ :: _, _ :: _, _, _, h, h2 => ⟨h.1, rvs_snoc h.2 h2⟩
  | [], _ :: _, _, _, h, _ => h.elim
  | _ :: _, [], _, _, h, _ => h.elim
theorem rvs_rev {ws : va_W} : ∀ {vs : List Value} {as : List AV}, rvs ws vs as → rvs ws vs.reverse as.reverse
  | [], [], _ => trivial
  | v :: vs, a :: as, h => by
    rw [List.reverse_cons, List.reverse_cons]
    exact rvs_snoc (rvs_rev h.2) h.1
  | [], _ :: _, h => h.elim
  | _ :: _, [], h => h.elim
theorem rvs_mk {ws : va_W} {v : Value} {vs : List Value} {a : AV} {as : List AV} (h1 : rv ws v a) (h2 : rvs ws vs as) : rvs ws (v :: vs) (a :: as) := ⟨h1, h2⟩
theorem rvs_len {ws : va_W} : ∀ {vs : List Value} {as : List AV}, rvs ws vs as → vs.length = as.length
  | [], [], _ => rfl
  | _ :: vs, _ :: as, h => by rw [List.length_cons, List.length_cons, rvs_len h.2]
  | [], _ :: _, h => h.elim
  | _ :: _, [], h => h.elim
theorem rvs_args {ws : va_W} {vs : List Value} {as r : List AV} (h : rvs ws vs (as.reverse ++ r)) : ∃ v1 v2 : List Value, vs = v1.reverse ++ v2 ∧ rvs ws v1 as ∧ rvs ws v2 r := by
  obtain ⟨v1, v2, rfl, h1, h2⟩ := rvs_app h
  have h3 := rvs_rev h1
  rw [List.reverse_reverse] at h3
  exact ⟨v1.reverse, v2, by rw [List.reverse_reverse], h3, h2⟩
/-- what a call needs of the tables -/
def CWB (M M' : MI) (idx n : Nat) : Prop := Cond.code M'.1 M'.2.1 M'.2.2.1 M'.2.2.2.1 ∈ lw_good ∧ Cond.initialized M'.1.cls ∈ lw_good ∧ (M'.1.cls ≠ "java/lang/invoke/MethodHandle" ∧ M'.1.cls ≠ "java/lang/invoke/VarHandle") ∧ (parseMethodDescriptor M'.1.desc).map (fun d => d.parameters.length) = some n ∧ M'.2.2.1 ≤ 40
def CWV (M M' : MI) (idx n ci : Nat) : Prop := CWB M M' idx n ∧ Cond.methodLink M.1.cls idx M'.1 ∈ lw_good ∧ Cond.instanceMethod M'.1 ∈ lw_good ∧ Cond.selects M'.1.cls M'.1 M'.1 ∈ lw_good ∧ ∃ q : vw_C, vwCl[ci]? = some q ∧ ci < 8 ∧ q.1 = M'.1.cls
def CWS (M M' : MI) (idx n : Nat) : Prop := CWB M M' idx n ∧ Cond.methodLink M.1.cls idx M'.1 ∈ lw_good ∧ Cond.static M'.1 ∈ lw_good
def CWI (M M' : MI) (idx n : Nat) : Prop := CWB M M' idx n ∧ Cond.methodLink M.1.cls idx M'.1 ∈ lw_good ∧ Cond.instanceMethod M'.1 ∈ lw_good ∧ M'.1.name = "<init>" ∧ M'.2.2.2.1 = none
def CWN (M M' : MI) (idx n : Nat) : Prop := CWB M M' idx n ∧ Cond.instanceMethod M'.1 ∈ lw_good ∧ M'.1.name = "<init>" ∧ M'.2.2.2.1 = none
section ACALL
variable {l : Launch} {G : GT} {M : MI} {d mc ms : Nat} {Q : AV → AH → Prop} {pc : Nat} {ls st : List AV} {cs sl : Nat} {H : AH}
/-- behind a call: it threw, or answered nothing, or a value -/
def aK (l : Launch) (G : GT) (M : MI) (d mc ms : Nat) (Q : AV → AH → Prop) (pc : Nat) (ls rest : List AV) (cs sl : Nat) : AV → AH → Prop := fun r H' =>
  match r.1 with
  | 8 => Q r H'
  | 7 => AW l G M d mc ms Q pc ls rest cs sl H'
  | _ => AW l G M d mc ms Q pc ls (r :: rest) cs sl H'
theorem rv_tag {ws : va_W} {v : Value} {a : AV} (h : rv ws v a) : a.1 ≠ 7 ∧ a.1 ≠ 8 := by
  cases v with
  | ref q =>
    rcases h with ⟨p, e, h1, h2⟩ | h1
    · subst h2; exact ⟨Nat.ne_of_beq_eq_false rfl, Nat.ne_of_beq_eq_false rfl⟩
    · subst h1; exact ⟨Nat.ne_of_beq_eq_false rfl, Nat.ne_of_beq_eq_false rfl⟩
  | retAddr _ => exact h.elim
  | _ =>
    have h := (show a = _ from h)
    subst h
    exact ⟨Nat.ne_of_beq_eq_false rfl, Nat.ne_of_beq_eq_false rfl⟩
theorem aK_val {cs' sl' : Nat} {rest : List AV} {r : AV} {H' : AH} (h : aK l G M d mc ms Q pc ls rest cs sl r H') (h7 : r.1 ≠ 7) (h8 : r.1 ≠ 8) : AW l G M d mc ms Q pc ls (r :: rest) cs sl H' := by
  unfold aK at h
  split at h
  · exact absurd (by assumption) h8
  · exact absurd (by assumption) h7
  · exact h
theorem a_run {p : Program} {e : Env} {s : State} {m : MethodId} {args a9 : Array Value} {below : List Frame} {meth : Method} {c : Code} {z : Nat} {D : va_G} {ca : Nat → ClassId} {ws0 ws : va_W} {Hp : Heap} {locs : List Loc} {lsR : Array Slot} {stR restR : List Value} {rest : List AV} {mc' ms' : Nat}
    (C : Ctx G M p s m args meth c z D ca) (hE : aext ws0 ws) (hS : va_S (aA z) s.heap Hp locs) (hL : rls ws M.2.2.1 ls lsR) (hT : rvs ws restR rest) (hcov : ∀ x ∈ tableOf M.2.2.2.2, covers x pc = false) (hcs : cs + mc' ≤ mc) (hsl : sl + ms' ≤ ms)
    (hr : vx_Run p l e (aRoom d mc ms) s m args below meth c Hp locs cs sl mc' ms' (F0 m pc lsR stR) restR (aQ z D ca ws (aK l G M d mc ms Q (pc + 3) ls rest (cs + mc') (sl + ms')) a9) (aX z D ca ws (aK l G M d mc ms Q (pc + 3) ls rest (cs + mc') (sl + ms'))) (aA z)) :
    W p l e (aRoom d mc ms) s m args below meth c Hp locs cs sl (vx_MQ below (aQ z D ca ws0 Q) (aX z D ca ws0 Q) args s mc ms (aA z)) (F0 m pc lsR stR) := by
  intro T hT9 X
  rcases hr T hT9 X with ⟨v, st₀, t, T', L, e1, X', hL9, e2, e3, ⟨ov, ao, ws', H', ho, hrv, hR', hE', hKK, hF⟩, hgo⟩ | ⟨q, st₀, t, T', L, E, ce, e1, X', hL9, e2, e3, ⟨k, ws', H', hEq, hR', hE', hKK, hF⟩, hce, hcv, hcl, hgo⟩
  · cases ho
    have hS' : va_S (aA z) s.heap T'.heap (locs ++ L) := by
      obtain ⟨f1, f2⟩ := hF
      rw [e1] at f1 f2
      refine ⟨by rw [e2]; exact Nat.le_trans hS.1 f1, fun q h1 h2 => ?_, fun q hq => ?_⟩
      · rw [e2, f2 q (Nat.lt_of_lt_of_le h1 hS.1) h2]
        exact hS.2.1 q h1 h2
      · rcases List.mem_append.mp hq with h | h
        · exact hS.2.2 q h
        · exact hL9 q h
    have key : W p l e (aRoom d mc ms) s m args below meth c T'.heap (locs ++ L) (cs + mc') (sl + ms') (vx_MQ below (aQ z D ca ws0 Q) (aX z D ca ws0 Q) args s mc ms (aA z)) (F0 m (pc + 3) lsR (v.toList ++ restR)) := by
      cases v with
      | none =>
        have hrv : ao = vV := hrv
        subst hrv
        exact hKK p e s m args below meth c z D ca ws0 C ws' T'.heap (locs ++ L) lsR restR (by rw [e2]; exact hR') (hE.trans hE') hS' (hL.ext hE') (hT.ext hE')
      | some v =>
        have ht := rv_tag hrv
        exact aK_val (cs' := 0) (sl' := 0) hKK ht.1 ht.2 p e s m args below meth c z D ca ws0 C ws' T'.heap (locs ++ L) lsR (v :: restR) (by rw [e2]; exact hR') (hE.trans hE') hS' (hL.ext hE') ⟨hrv, hT.ext hE'⟩
    obtain ⟨t2, a1, b1⟩ := key T' rfl X'
    exact ⟨t2, hgo t2 a1, b1⟩
  · have hS' : va_S (aA z) s.heap T'.heap (locs ++ L) := by
      obtain ⟨f1, f2⟩ := hF
      rw [e1] at f1 f2
      refine ⟨by rw [e2]; exact Nat.le_trans hS.1 f1, fun q h1 h2 => ?_, fun q hq => ?_⟩
      · rw [e2, f2 q (Nat.lt_of_lt_of_le h1 hS.1) h2]
        exact hS.2.1 q h1 h2
      · rcases List.mem_append.mp hq with h | h
        · exact hS.2.2 q h
        · exact hL9 q h
    have key : vx_W p l e (aRoom d mc ms) s m args below meth c T'.heap (locs ++ L) (cs + mc') (sl + ms') (vx_MQ below (aQ z D ca ws0 Q) (aX z D ca ws0 Q) args s mc ms (aA z)) (F0 m pc lsR restR) q :=
      vx_out (E := E) (ce := ce) (by rw [C.2.2.2.2.2.2.2.2.2.2.1]; exact hcov) C.2.2.2.2.1 (by rw [e2]; exact hce) hcv hcl (fun t9 ht9 _ => ⟨k, ws', H', hEq, by rw [ht9, e2]; exact hR', hE.trans hE', hKK, hS'.F ht9⟩) hS'.2.2 hcs hsl
    obtain ⟨t2, a1, b1⟩ := key T' rfl X'
    exact ⟨t2, hgo.trans a1, b1⟩
theorem aPc_blind {z : Nat} {D : va_G} {ca : Nat → ClassId} {ws : va_W} {as : List AV} : FrameBlind (aPc G z D ca ws as H) := by
  intro a U g mk h
  obtain ⟨vs, h1, h2, h3, h4, h5, h6, h7⟩ := h
  refine ⟨vs, h1, h2, h3, va_K.moved (u := U) (U := U.calling g mk a) (Vm.Alike.refl U.vm) h4, h5, h6, h6 z U _ h7 (State.WarmedH.refl U) (Nat.le_refl _) (fun _ _ _ => rfl)⟩
theorem aPc_of {p : Program} {s : State} {m : MethodId} {args : Array Value} {meth : Method} {c : Code} {z : Nat} {D : va_G} {ca : Nat → ClassId} {ws : va_W} {Hp : Heap} {locs : List Loc} {as : List AV} {vs : List Value} (C : Ctx G M p s m args meth c z D ca) (hR : aRel D ca z ws H Hp) (hS : va_S (aA z) s.heap Hp locs) (h : rvs ws vs as) (U : State) (hU : U.heap = Hp) (hW : s.WarmedH U.vm) : aPc G z D ca ws as H vs.toArray U := by
  obtain ⟨-, -, -, -, -, -, -, hK, hz, -, -, hst, hG⟩ := C
  have h1 : s.heap.size ≤ U.heap.size := by rw [hU]; exact hS.1
  exact ⟨vs, rfl, h, by rw [hU]; exact hR, va_K.moved hW.alike hK, Nat.le_trans hz h1, hst, hst z s U hG hW h1 (fun q q1 q2 => by rw [hU]; exact hS.2.1 q q1 q2)⟩
theorem CWB.b {M' : MI} {idx n d' mc' ms' : Nat} (h : CWB M M' idx n) {p : Program} {s : State} {m : MethodId} {args : Array Value} {meth : Method} {c : Code} {z : Nat} {D : va_G} {ca : Nat → ClassId} (C : Ctx G M p s m args meth c z D ca) (hdd : d' + 1 ≤ d) (hlink : Cond.methodLink M.1.cls idx M'.1 ∈ lw_good) : CallB (aRoom d mc ms) s args M.1.cls idx M'.1 M'.2.1 M'.2.2.1 M'.2.2.2.1 (aWs M') (aRoom d' mc' ms') mc' ms' n := by
  obtain ⟨h1, h2, h3, h4, h5⟩ := h
  have hts := C.2.2.2.2.2.2.1
  refine ⟨rfl, rfl, hdd, ?_, fun w hw a' U hW => ?_, List.mem_cons_self, hts _ h1, hts _ h2, h3, fun sig hsig => ?_, hts _ hlink⟩
  · show 8 + (M'.2.2.1 + 11) + 64 * d' ≤ 64 * d
    omega
  · have hw' : w ∈ lw_good := by
      rcases List.mem_cons.mp hw with rfl | hw
      · exact h1
      · exact hw
    exact word_at hW (good_of_word (lw_goodW hw')) (hts w hw')
  · rw [hsig] at h4
    exact (Option.some.inj h4).symm
theorem a_callV {idx n ci d' mc' ms' : Nat} {M' : MI} {as rest : List AV} {a : Int} (hd : decode M.2.1 pc = .ok (.invokevirtual idx, 3)) (hw : CWV M M' idx n ci) (hst : st = as.reverse ++ vR a :: rest) (hn : as.length = n) (hkd : hk H a = ci) (hdd : d' + 1 ≤ d) (hca : aCat rest ≤ 8) (hcov : ∀ x ∈ tableOf M.2.2.2.2, covers x pc = false) (hcs : cs + mc' ≤ mc) (hsl : sl + ms' ≤ ms)
    (h : CL l G M' d' mc' ms' (vR a :: as) H (aK l G M d mc ms Q (pc + 3) ls rest (cs + mc') (sl + ms'))) : AW l G M d mc ms Q pc ls st cs sl H := by
  intro p e s m args below meth c z D ca ws0 C ws Hp locs lsR stR hR hE hS hL hT
  subst hst
  obtain ⟨v1, v2, rfl, hA1, hT2⟩ := rvs_args hT
  obtain ⟨_, rR, e0, hx, hT3⟩ := rvs_cons hT2
  subst e0
  obtain ⟨hP, hD, hHp⟩ := id hR
  obtain ⟨hb, hlink, hinst, hsel, q, hq, hci, hqc⟩ := hw
  have hts := C.2.2.2.2.2.2.1
  rcases rv_R hx with ⟨rfl, rfl⟩ | ⟨p9, q9, e9, rfl, hw9, rfl⟩
  · have hkd : (H.2.1 0).1 = ci := hkd
    have := hHp.2.1
    omega
  · have hkd : (H.2.1 (p9 + 1)).1 = ci := hkd
    obtain ⟨fs, rfl, -, -⟩ := aEnt_obj (hHp.2.2 p9 q9 e9 hw9) (by omega)
    rw [hkd] at hw9
    refine a_run C hE hS hL hT3 hcov hcs hsl (vx_runV (C := M'.1.cls) (nL := M.2.2.1) (Ts := lw_good) ⟨C.1, C.2.1, C.2.2.1, C.2.2.2.2.2.1, hts⟩ (h z D ca ws) ⟨hb.b C hdd hlink, hts _ hinst, hts _ hsel⟩ ⟨aPc_blind, ?_, fun U hU hW => aPc_of C hR hS (rvs_mk hx hA1) U hU hW⟩ rfl ((rvs_len hA1).trans hn) ?_ rfl (lv_room (by rw [aCat_eq hT3]; exact hca)) hd ⟨hcs, hsl⟩)
    · rw [← hqc]
      exact va_recv C.2.2.2.2.2.2.2.1 hP hq hw9
    · obtain ⟨-, lv, h1, -⟩ := hL
      exact h1.1
theorem a_callS {idx n d' mc' ms' : Nat} {M' : MI} {as rest : List AV} (hd : decode M.2.1 pc = .ok (.invokestatic idx, 3)) (hw : CWS M M' idx n) (hst : st = as.reverse ++ rest) (hn : as.length = n) (hdd : d' + 1 ≤ d) (hca : aCat rest ≤ 8) (hcov : ∀ x ∈ tableOf M.2.2.2.2, covers x pc = false) (hcs : cs + mc' ≤ mc) (hsl : sl + ms' ≤ ms)
    (h : CL l G M' d' mc' ms' as H (aK l G M d mc ms Q (pc + 3) ls rest (cs + mc') (sl + ms'))) : AW l G M d mc ms Q pc ls st cs sl H := by
  intro p e s m args below meth c z D ca ws0 C ws Hp locs lsR stR hR hE hS hL hT
  subst hst
  obtain ⟨v1, v2, rfl, hA1, hT3⟩ := rvs_args hT
  obtain ⟨hb, hlink, hsta⟩ := hw
  have hts := C.2.2.2.2.2.2.1
  refine a_run C hE hS hL hT3 hcov hcs hsl (vx_runS (nL := M.2.2.1) (Ts := lw_good) ⟨C.1, C.2.1, C.2.2.1, C.2.2.2.2.2.1, hts⟩ (h z D ca ws) ⟨hb.b C hdd hlink, hts _ hsta⟩ ⟨aPc_blind, fun U hU hW => aPc_of C hR hS hA1 U hU hW⟩ rfl ((rvs_len hA1).trans hn) ?_ rfl (lv_room (by rw [aCat_eq hT3]; exact hca)) hd ⟨hcs, hsl⟩)
  obtain ⟨-, lv, h1, -⟩ := hL
  exact h1.1
theorem a_callI {idx n d' mc' ms' : Nat} {M' : MI} {as rest : List AV} {a : Int} (hd : decode M.2.1 pc = .ok (.invokespecial idx, 3)) (hw : CWI M M' idx n) (hst : st = as.reverse ++ vR a :: rest) (hn : as.length = n) (ha : a ≠ 0) (hdd : d' + 1 ≤ d) (hca : aCat rest ≤ 8) (hcov : ∀ x ∈ tableOf M.2.2.2.2, covers x pc = false) (hcs : cs + mc' ≤ mc) (hsl : sl + ms' ≤ ms)
    (h : CL l G M' d' mc' ms' (vR a :: as) H (aK l G M d mc ms Q (pc + 3) ls rest (cs + mc') (sl + ms'))) : AW l G M d mc ms Q pc ls st cs sl H := by
  intro p e s m args below meth c z D ca ws0 C ws Hp locs lsR stR hR hE hS hL hT
  subst hst
  obtain ⟨v1, v2, rfl, hA1, hT2⟩ := rvs_args hT
  obtain ⟨_, rR, e0, hx, hT3⟩ := rvs_cons hT2
  subst e0
  obtain ⟨hb, hlink, hinst, hnm, hret⟩ := hw
  have hts := C.2.2.2.2.2.2.1
  have hB := hb.b (d' := d') (mc' := mc') (ms' := ms') (mc := mc) (ms := ms) C hdd hlink
  rw [hret] at hB
  rcases rv_R hx with ⟨rfl, rfl⟩ | ⟨p9, q9, e9, rfl, hw9, rfl⟩
  · exact absurd rfl ha
  · refine a_run C hE hS hL hT3 hcov hcs hsl (vx_runI (nL := M.2.2.1) (Ts := lw_good) ⟨C.1, C.2.1, C.2.2.1, C.2.2.2.2.2.1, hts⟩ (h z D ca ws) ⟨hB, hnm, hts _ hinst⟩ ⟨aPc_blind, fun U hU hW => aPc_of C hR hS (rvs_mk hx hA1) U hU hW⟩ rfl ((rvs_len hA1).trans hn) ?_ rfl (lv_room (by rw [aCat_eq hT3]; exact hca)) hd ⟨hcs, hsl⟩)
    obtain ⟨-, lv, h1, -⟩ := hL
    exact h1.1
theorem a_callN {idx n d' mc' ms' : Nat} {host : String} {M' : MI} {as rest : List AV} {a : Int} (hd : decode M.2.1 pc = .ok (.invokespecial idx, 3)) (hw : CWN M M' idx n) (hnest : ∀ (z : Nat) (s : State) (args : Array Value), G z s → (Cond.methodLinkNest M.1.cls idx M'.1 host).before args s = true) (hst : st = as.reverse ++ vR a :: rest) (hn : as.length = n) (ha : a ≠ 0) (hdd : d' + 1 ≤ d) (hca : aCat rest ≤ 8) (hcov : ∀ x ∈ tableOf M.2.2.2.2, covers x pc = false) (hcs : cs + mc' ≤ mc) (hsl : sl + ms' ≤ ms)
    (h : CL l G M' d' mc' ms' (vR a :: as) H (aK l G M d mc ms Q (pc + 3) ls rest (cs + mc') (sl + ms'))) : AW l G M d mc ms Q pc ls st cs sl H := by
  intro p e s m args below meth c z D ca ws0 C ws Hp locs lsR stR hR hE hS hL hT
  subst hst
  obtain ⟨v1, v2, rfl, hA1, hT2⟩ := rvs_args hT
  obtain ⟨_, rR, e0, hx, hT3⟩ := rvs_cons hT2
  subst e0
  obtain ⟨hb, hinst, hnm, hret⟩ := hw
  have hts := C.2.2.2.2.2.2.1
  obtain ⟨h1, h2, h3, h4, h5⟩ := hb
  have hB : va_CN (aRoom d mc ms) s args M.1.cls idx M'.1 host M'.2.1 M'.2.2.1 M'.2.2.2.1 (aWs M') (aRoom d' mc' ms') mc' ms' n := by
    refine ⟨⟨rfl, rfl, hdd, ?_, fun w hw a' U hW => ?_, List.mem_cons_self⟩, hts _ h1, hts _ h2, h3, fun sig hsig => ?_, hnest z s args C.2.2.2.2.2.2.2.2.2.2.2.2⟩
    · show 8 + (M'.2.2.1 + 11) + 64 * d' ≤ 64 * d
      omega
    · have hw' : w ∈ lw_good := by
        rcases List.mem_cons.mp hw with rfl | hw
        · exact h1
        · exact hw
      exact word_at hW (good_of_word (lw_goodW hw')) (hts w hw')
    · rw [hsig] at h4
      exact (Option.some.inj h4).symm
  rw [hret] at hB
  rcases rv_R hx with ⟨rfl, rfl⟩ | ⟨p9, q9, e9, rfl, hw9, rfl⟩
  · exact absurd rfl ha
  · refine a_run C hE hS hL hT3 hcov hcs hsl (vx_runIN (nL := M.2.2.1) (Ts := lw_good) ⟨C.1, C.2.1, C.2.2.1, C.2.2.2.2.2.1, hts⟩ (h z D ca ws) ⟨hB, hnm, hts _ hinst⟩ ⟨aPc_blind, fun U hU hW => aPc_of C hR hS (rvs_mk hx hA1) U hU hW⟩ rfl ((rvs_len hA1).trans hn) ?_ rfl (lv_room (by rw [aCat_eq hT3]; exact hca)) hd ⟨hcs, hsl⟩)
    obtain ⟨-, lv, h1, -⟩ := hL
    exact h1.1
end ACALL
