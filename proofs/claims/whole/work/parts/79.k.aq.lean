/-! a State set down in an array -/
section
variable {l : Launch} {G : GT} {M : MI} {d mc ms : Nat} {Q : AV → AH → Prop} {pc : Nat} {ls st : List AV} {cs sl : Nat} {H : AH}
theorem aEnt_5 {ca : Nat → ClassId} {ws : va_W} {kd : Nat × Int} {g : Int → Int} {e : va_E} (h : aEnt ca ws kd g e) (hk9 : kd.1 = 5) : ∃ fs : List Value, e = .inr (5, fs) := by
  match e, h with
  | .inr (ci, fs), h => exact ⟨fs, by rw [show ci = 5 from h.1.symm.trans hk9]⟩
  | .inl (cA, n, .inl f), h => obtain ⟨⟨j, _, h2, _⟩, _⟩ := h; omega
  | .inl (cA, n, .inr (.inl f)), h => have := h.1; omega
  | .inl (cA, n, .inr (.inr (.inr (.inl f)))), h => have := h.1; omega
  | .inl (cA, n, .inr (.inr (.inr (.inr f)))), h => have := h.1; omega
theorem a_qast {a i x : Int} (hd : decode M.2.1 pc = .ok (.aastore, 1)) (hkd : hk H a = 15) (hb : 0 ≤ i ∧ i < hn H a) (hkx : hk H x = 5) (kk : AW l G M d mc ms Q (pc + 1) ls st cs sl (hs H a i x)) : AW l G M d mc ms Q pc ls (vR x :: vI i :: vR a :: st) cs sl H := by
  intro p e s m args below meth c z D ca ws0 C ws Hp locs lsR stR hR hE hS hL hT
  obtain ⟨_, _, e0, hx, hT0⟩ := rvs_cons hT
  subst e0
  obtain ⟨_, _, e1, hy, hT1⟩ := rvs_cons hT0
  subst e1
  obtain ⟨_, _, e2, hz, hT2⟩ := rvs_cons hT1
  subst e2
  obtain ⟨i', rfl, rfl⟩ := rv_I hy
  obtain ⟨hP, hD, hHp⟩ := hR
  have hA := hHp.2.2
  have h0 := hHp.2.1
  rcases rv_R hz with ⟨rfl, rfl⟩ | ⟨p9, q9, e9, rfl, hw, rfl⟩
  · have hkd : (H.2.1 0).1 = 15 := hkd
    omega
  rcases rv_R hx with ⟨rfl, rfl⟩ | ⟨p8, q8, e8, rfl, hw8, rfl⟩
  · have hkx : (H.2.1 0).1 = 5 := hkx
    omega
  have hkd : (H.2.1 (p9 + 1)).1 = 15 := hkd
  have hkx : (H.2.1 (p8 + 1)).1 = 5 := hkx
  have hb : 0 ≤ i'.toInt ∧ i'.toInt < (H.2.1 (p9 + 1)).2 := hb
  obtain ⟨n, f, rfl, hn9, hf⟩ := aEnt_arrQ (hA p9 q9 e9 hw) hkd
  obtain ⟨fs, rfl⟩ := aEnt_5 (hA p8 q8 e8 hw8) hkx
  rw [hn9] at hb
  have hcl := clampI hb.1
  have hlt : i'.toNatClampNeg < n := by omega
  refine va_astq C.1 C.2.1 C.2.2.2.2.2.2.2.1 hP hD hS p9 5 p8 5 (r := (RX6, TX6, 13)) hw rfl hw8 rfl (vp_in_of' hb.1 hb.2) hd (fun H1 locs1 hP1 hD1 hS1 => ?_)
  have hxt := aext_set (e := .inl (ca 5, n, .inr (.inr (.inr (.inr (va_up f i'.toNatClampNeg (some q8))))))) hw
  refine kk p e s m args below meth c z D ca ws0 C _ H1 locs1 lsR _ ⟨hP1, hD1, hHp.set hw ⟨hkd, rfl, hn9, fun k hk => ?_⟩⟩ (hE.trans hxt) hS1 (hL.ext hxt) (hT2.ext hxt)
  by_cases hkk : k = i'.toNatClampNeg
  · have hki : (k : Int) = i'.toInt := by omega
    subst hkk
    simp only [hki, if_true, va_up]
    exact (hx.ext hxt)
  · have hki : ¬ ((k : Int) = i'.toInt) := by omega
    simp only [hki, if_false, va_up, hkk]
    exact (hf k hk).ext hxt
end
