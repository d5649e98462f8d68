/-! the class: what changes a state -/
section
variable {l : Launch} {G : GT}
/-- one flight is changed -/
theorem SS_one {H H' : AH} {b f : Int} {M M' : Row} (h : SS H b M)
    (e : ∀ o i, 0 ≤ o → o ≤ 18 → o ≠ 6 → o ≠ 7 → o ≠ 16 → (o < 8 ∨ o = 18 ∨ i ≠ f) → hg H' (b + o) i = hg H (b + o) i)
    (lo : ∀ k, 0 ≤ k → k < 56 → M' k = M k) (ot : ∀ g w, 0 ≤ g → g ≠ f → 0 ≤ w → w < 10 → ofM M' g w = ofM M g w)
    (v : hg H' (b + 8) f = ofM M' f 0 ∧ hg H' (b + 9) f = ofM M' f 1 ∧ hg H' (b + 10) f = ofM M' f 2 ∧ hg H' (b + 11) f = ofM M' f 3 ∧ hg H' (b + 12) f = ofM M' f 4 ∧ hg H' (b + 13) f = ofM M' f 5 ∧ hg H' (b + 14) f = ofM M' f 6 ∧ hg H' (b + 15) f = ofM M' f 7 ∧ hg H' (b + 17) f = ofM M' f 9) (h7 : M 7 ≤ 24) : SS H' b M' := by
  obtain ⟨⟨a1, a2⟩, ⟨a3, a4, a5, a6, a7⟩, ⟨a8, a9, a10⟩, a11, a12, a13⟩ := h
  have e0 : ∀ i, hg H' b i = hg H b i := fun i => by have := e 0 i (by omega) (by omega) (by omega) (by omega) (by omega) (by omega); rwa [Int.add_zero] at this
  have l6 := lo 6 (by omega) (by omega)
  have l7 := lo 7 (by omega) (by omega)
  refine ⟨⟨?_, ?_⟩, ⟨?_, ?_, ?_, ?_, ?_⟩, ⟨fun k hk => ?_, fun k hk => ?_, fun k hk => ?_⟩, ?_, fun g hg' => ?_, fun k hk => ?_⟩
  · rw [e0, lo 0 (by omega) (by omega)]; exact a1
  · rw [e0, l7]; exact a2
  · rw [e 1 _ (by omega) (by omega) (by omega) (by omega) (by omega) (by omega), lo 5 (by omega) (by omega)]; exact a3
  · rw [e 1 _ (by omega) (by omega) (by omega) (by omega) (by omega) (by omega), lo 4 (by omega) (by omega)]; exact a4
  · rw [e 1 _ (by omega) (by omega) (by omega) (by omega) (by omega) (by omega), lo 1 (by omega) (by omega)]; exact a5
  · rw [e 1 _ (by omega) (by omega) (by omega) (by omega) (by omega) (by omega), lo 2 (by omega) (by omega)]; exact a6
  · rw [e 1 _ (by omega) (by omega) (by omega) (by omega) (by omega) (by omega), lo 3 (by omega) (by omega)]; exact a7
  · rw [e 2 _ (by omega) (by omega) (by omega) (by omega) (by omega) (by omega), lo _ (by omega) (by omega)]; exact a8 k hk
  · rw [e 3 _ (by omega) (by omega) (by omega) (by omega) (by omega) (by omega), lo _ (by omega) (by omega)]; exact a9 k hk
  · rw [e 4 _ (by omega) (by omega) (by omega) (by omega) (by omega) (by omega), lo _ (by omega) (by omega)]; exact a10 k hk
  · rw [e 5 _ (by omega) (by omega) (by omega) (by omega) (by omega) (by omega), l6]; exact a11
  · by_cases c : g = f
    · rw [c]; exact v
    · have hg0 : fl M g := by unfold fl at hg' ⊢; rw [l6] at hg'; exact hg'
      obtain ⟨c0, c1, c2, c3, c4, c5, c6, c7, c9⟩ := a12 g hg0
      have q : ∀ o, 8 ≤ o → o ≤ 17 → o ≠ 16 → hg H' (b + o) g = hg H (b + o) g := fun o o1 o2 o3 => e o g (by omega) (by omega) (by omega) (by omega) o3 (Or.inr (Or.inr c))
      have z : ∀ w, 0 ≤ w → w < 10 → ofM M' g w = ofM M g w := fun w w1 w2 => ot g w hg0.1 c w1 w2
      rw [q 8 (by omega) (by omega) (by omega), q 9 (by omega) (by omega) (by omega), q 10 (by omega) (by omega) (by omega), q 11 (by omega) (by omega) (by omega), q 12 (by omega) (by omega) (by omega), q 13 (by omega) (by omega) (by omega), q 14 (by omega) (by omega) (by omega), q 15 (by omega) (by omega) (by omega), q 17 (by omega) (by omega) (by omega),
        z 0 (by omega) (by omega), z 1 (by omega) (by omega), z 2 (by omega) (by omega), z 3 (by omega) (by omega), z 4 (by omega) (by omega), z 5 (by omega) (by omega), z 6 (by omega) (by omega), z 7 (by omega) (by omega), z 9 (by omega) (by omega)]
      exact ⟨c0, c1, c2, c3, c4, c5, c6, c7, c9⟩
  · rw [l7] at hk
    rw [e 18 _ (by omega) (by omega) (by omega) (by omega) (by omega) (by omega), lo _ (by omega) (by omega)]
    exact a13 k hk
theorem okM_7 {M : Row} (h : okM M) : 0 ≤ M 7 ∧ M 7 ≤ 24 := by have := h.1.2.2.2.2.2.2.1; have := h.1.2.2.2.2.2.2.2.1; omega
/-- plans of runways that a change leaves alone -/
theorem FR_step {H H' : AH} {b : Int} {M M' : Row} (hM : okM M) (h : FR H b M) (e20 : ∀ i, hg H' (b + 20) i = hg H (b + 20) i) (e19 : ∀ i, hg H' (b + 19) i = hg H (b + 19) i) (e22 : ∀ i, hg H' (b + 22) i = hg H (b + 22) i) (e16 : ∀ i, hg H' (b + 16) i = hg H (b + 16) i)
    (e21 : ∀ q, 0 ≤ q ∧ q < 3 → hg H' (b + 21) q = 0 ∨ (hg H' (b + 21) q = hg H (b + 21) q ∧ (Frs H b M q → sim M M' q))) : FR H' b M' := by
  intro q hq
  obtain ⟨h1, h2⟩ := h q hq
  refine ⟨by rw [e20]; exact h1, ?_⟩
  rcases e21 q hq with c | ⟨c, s⟩
  · exact Or.inl c
  · rw [c]
    rcases h2 with h2 | ⟨h2, h3⟩
    · exact Or.inl h2
    · exact Or.inr ⟨h2, (h3.keep hM (e20 q) (fun i _ _ => e19 i) (fun f _ => e16 f) (e22 q)).sim hM (s h3)⟩
/-- a State's cells that aren't references -/
def pSt (b : Int) : Int → Int → Prop := fun c i => (c = b ∧ (i = 2 ∨ i = 8)) ∨ (c = b + 1 ∧ 0 ≤ i ∧ i ≤ 4) ∨ (b + 2 ≤ c ∧ c ≤ b + 4) ∨ (c = b + 5 ∧ i = 0) ∨ (b + 6 ≤ c ∧ c ≤ b + 22)
theorem pSt_nrf {H : AH} {b : Int} (hL : Lay LSta H b) : ∀ c i, pSt b c i → nrf H c i := by
  rintro c i (⟨rfl, rfl | rfl⟩ | ⟨rfl, h1, h2⟩ | ⟨h1, h2⟩ | ⟨rfl, rfl⟩ | ⟨h1, h2⟩)
  · exact nrf_fld 2 (kSta_0 hL) (by decide) (by decide)
  · exact nrf_fld 8 (kSta_0 hL) (by decide) (by decide)
  · have : i = 0 ∨ i = 1 ∨ i = 2 ∨ i = 3 ∨ i = 4 := by omega
    rcases this with rfl | rfl | rfl | rfl | rfl
    · exact nrf_fld 0 (kSta_1 hL) (by decide) (by decide)
    · exact nrf_fld 1 (kSta_1 hL) (by decide) (by decide)
    · exact nrf_fld 2 (kSta_1 hL) (by decide) (by decide)
    · exact nrf_fld 3 (kSta_1 hL) (by decide) (by decide)
    · exact nrf_fld 4 (kSta_1 hL) (by decide) (by decide)
  · have : c = b + 2 ∨ c = b + 3 ∨ c = b + 4 := by omega
    rcases this with rfl | rfl | rfl
    · exact nrf_arr (kSta_2 hL) (by decide) (by decide)
    · exact nrf_arr (kSta_3 hL) (by decide) (by decide)
    · exact nrf_arr (kSta_4 hL) (by decide) (by decide)
  · exact nrf_fld 0 (kSta_5 hL) (by decide) (by decide)
  · have : c = b + 6 ∨ c = b + 7 ∨ c = b + 8 ∨ c = b + 9 ∨ c = b + 10 ∨ c = b + 11 ∨ c = b + 12 ∨ c = b + 13 ∨ c = b + 14 ∨ c = b + 15 ∨ c = b + 16 ∨ c = b + 17 ∨ c = b + 18 ∨ c = b + 19 ∨ c = b + 20 ∨ c = b + 21 ∨ c = b + 22 := by omega
    rcases this with rfl | rfl | rfl | rfl | rfl | rfl | rfl | rfl | rfl | rfl | rfl | rfl | rfl | rfl | rfl | rfl | rfl
    · exact nrf_arr (kSta_6 hL) (by decide) (by decide)
    · exact nrf_arr (kSta_7 hL) (by decide) (by decide)
    · exact nrf_arr (kSta_8 hL) (by decide) (by decide)
    · exact nrf_arr (kSta_9 hL) (by decide) (by decide)
    · exact nrf_arr (kSta_10 hL) (by decide) (by decide)
    · exact nrf_arr (kSta_11 hL) (by decide) (by decide)
    · exact nrf_arr (kSta_12 hL) (by decide) (by decide)
    · exact nrf_arr (kSta_13 hL) (by decide) (by decide)
    · exact nrf_arr (kSta_14 hL) (by decide) (by decide)
    · exact nrf_arr (kSta_15 hL) (by decide) (by decide)
    · exact nrf_arr (kSta_16 hL) (by decide) (by decide)
    · exact nrf_arr (kSta_17 hL) (by decide) (by decide)
    · exact nrf_arr (kSta_18 hL) (by decide) (by decide)
    · exact nrf_arr (kSta_19 hL) (by decide) (by decide)
    · exact nrf_arr (kSta_20 hL) (by decide) (by decide)
    · exact nrf_arr (kSta_21 hL) (by decide) (by decide)
    · exact nrf_arr (kSta_22 hL) (by decide) (by decide)
theorem pSt_in {b c i : Int} (h : pSt b c i) : b ≤ c ∧ c ≤ b + 22 := by
  rcases h with ⟨h, -⟩ | ⟨h, -⟩ | h | ⟨h, -⟩ | h <;> omega
/-- names are never written behind the reading -/
def pSu (b : Int) : Int → Int → Prop := fun c i => pSt b c i ∧ c ≠ b + 6 ∧ c ≠ b + 7
theorem pSu_st {b : Int} : ∀ c i, pSu b c i → pSt b c i := fun _ _ h => h.1
theorem pSu_hi {b c i : Int} (h : b + 8 ≤ c ∧ c ≤ b + 22) : pSu b c i := ⟨Or.inr (Or.inr (Or.inr (Or.inr (by omega)))), by omega, by omega⟩
/-- what time and plans write -/
def pTm (p b : Int) : Int → Int → Prop := fun c i => pPla p c i ∨ pSu b c i
theorem pTm_nrf {H : AH} {p b : Int} (hS : Lay LSta H b) (hP : Lay LPla H p) : ∀ c i, pTm p b c i → nrf H c i := by
  rintro c i (h | h)
  · exact pPla_nrf hP c i h
  · exact pSt_nrf hS c i h.1
theorem pRf_tm {p b : Int} : ∀ c i, pRf p b c i → pTm p b c i := by
  rintro c i (h | h | h)
  · exact Or.inl h
  · exact Or.inr (pSu_hi (by omega))
  · exact Or.inr (pSu_hi (by omega))
theorem k_moveTo {d : Nat} {H : AH} {b f r : Int} {M : Row} (hX : SX H b M) (h : okAs M f r) :
    CL l G mX6_moveTo d 0 0 [vR b, vI f, vI r] H (fun v H' => v = vV ∧ only H H' (pSu b) ∧ SX H' b (asgM M f r)) := by
  obtain ⟨hS, hT, hF⟩ := id hX
  have hM := hS.2.1
  have h5 := okM_5 hM
  have hn := okM_n hM
  obtain ⟨⟨hf, hr⟩, hu⟩ := id h
  obtain ⟨-, -, -, -, -, -, h6, -⟩ := hM.2 f hf.1 hf.2
  have hr1 := hr.1
  have hr2 := hr.2
  refine CL.of (by decide) rfl (Nat.le_of_ble_eq_true rfl) (s_X6_moveTo_0 hS ⟨hf, by omega, fun H1 e1 => ⟨by omega, fun H2 e2 => ⟨by omega, fun H3 e3 => ⟨rfl, ?_, ?_⟩⟩⟩⟩)
  · rw [e3, e2, e1]
    exact ((only.wr (pSu_hi (by omega))).then (pSu_hi (by omega))).then (pSu_hi (by omega))
  · have oo : only H H3 (pSu b) := by
      rw [e3, e2, e1]
      exact ((only.wr (pSu_hi (by omega))).then (pSu_hi (by omega))).then (pSu_hi (by omega))
    have ev : ∀ c i, c ≠ b + 21 → (c ≠ b + 14 ∨ i ≠ f) → hg H3 c i = hg H c i := fun c i h1 h2 => by rw [e3, hg_ne _ (by omega), e2, hg_ne _ (by omega), e1, hg_ne _ (by omega)]
    have lo : ∀ k, 0 ≤ k → k < 56 → asgM M f r k = M k := fun k _ q => lo_up q hf.1 (by omega)
    have ne : ∀ g w, 0 ≤ w → w < 16 → (g ≠ f ∨ w ≠ 6) → ofM (asgM M f r) g w = ofM M g w := fun g w w1 w2 q => of_ne (by omega) (by omega) q
    have sa : ofM (asgM M f r) f 6 = r := of_same (by omega)
    obtain ⟨c0, c1, c2, c3, c4, c5, c6, c7, c9⟩ := hS.2.2.2.2.2.2.1 f hf
    refine ⟨⟨hS.1.only ok_Sta oo (fun c i q => pSt_nrf hS.1 c i q.1), okM_asg hM h, ?_⟩, ⟨fun i i1 i2 => ?_, fun g hg0 h7 => ?_⟩, ?_⟩
    · refine SS_one (f := f) hS.2.2 (fun o i o1 o2 o3 o4 o5 o6 => ev _ _ (by omega) (by omega)) lo (fun g w _ q1 q2 q3 => ne g w q2 (by omega) (Or.inl q1)) ?_ (okM_7 hM).2
      rw [ne f 0 (by omega) (by omega) (by omega), ne f 1 (by omega) (by omega) (by omega), ne f 2 (by omega) (by omega) (by omega), ne f 3 (by omega) (by omega) (by omega), ne f 4 (by omega) (by omega) (by omega), ne f 5 (by omega) (by omega) (by omega), sa, ne f 7 (by omega) (by omega) (by omega), ne f 9 (by omega) (by omega) (by omega),
        ev (b + 8) f (by omega) (by omega), ev (b + 9) f (by omega) (by omega), ev (b + 10) f (by omega) (by omega), ev (b + 11) f (by omega) (by omega), ev (b + 12) f (by omega) (by omega), ev (b + 13) f (by omega) (by omega), ev (b + 15) f (by omega) (by omega), ev (b + 17) f (by omega) (by omega)]
      exact ⟨c0, c1, c2, c3, c4, c5, by rw [e3, hg_same], c7, c9⟩
    · rw [ev _ _ (by omega) (by omega)]; exact hT.1 i i1 i2
    · have : fl M g := by unfold fl at hg0 ⊢; rw [lo 6 (by omega) (by omega)] at hg0; exact hg0
      rw [ne g 7 (by omega) (by omega) (by omega)] at h7
      rw [ev _ _ (by omega) (by omega), ne g 8 (by omega) (by omega) (by omega)]
      exact hT.2 g this h7
    · refine FR_step hM hF (fun i => ev _ _ (by omega) (by omega)) (fun i => ev _ _ (by omega) (by omega)) (fun i => ev _ _ (by omega) (by omega)) (fun i => ev _ _ (by omega) (by omega)) (fun q hq => ?_)
      by_cases c : q = r
      · refine Or.inl ?_
        rw [e3, hg_ne _ (by omega), e2, c, hg_same]
      · by_cases c2 : q = ofM M f 6
        · refine Or.inl ?_
          rw [e3, hg_ne _ (by omega), e2, hg_ne _ (by omega), e1, c2, hg_same]
        · refine Or.inr ⟨by rw [e3, hg_ne _ (by omega), e2, hg_ne _ (by omega), e1, hg_ne _ (by omega)], fun _ => ?_⟩
          exact sim_off (g := f) hM lo (fun g w q1 _ q2 q3 => ne g w q2 (by omega) (Or.inl q1)) (fun z => c2 z.symm) (by rw [sa]; exact fun z => c z.symm)
end
