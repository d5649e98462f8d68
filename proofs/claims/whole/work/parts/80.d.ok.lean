/-! the reference's beginning -/
theorem i_X8w {l : Launch} {G : GT} {H : AH} {a : Int} {d : Nat} (hk9 : H.2.1 a = (7, 0)) (h1 : (H.1 : Int) = a) (hz : ∀ i, hg H a i = 0) (ha : 0 < a) (hd : 2 ≤ d := by omega) : CL l G mX8_init d 13 3345 [vR a] H (fun v H' => v = vV ∧ MW H' a (begM 1) ∧ (hg H' a 7 = 0 ∧ hg H' a 12 = 0 ∧ ∀ i, hg H' (a + 5) i = 0) ∧ (H'.1 : Int) = a + 13 ∧ ∀ b, b < a → H'.2.1 b = H.2.1 b ∧ ∀ i, hg H' b i = hg H b i) := by
  refine CL.norm (i_X8 hk9 h1 hz ha hd) ?_
  rintro r H' ⟨rfl, H9, P, o9, r9⟩
  have L9 : Lay LMod H9 a := P.lay
  have L' : Lay LMod H' a := L9.only ok_Mod o9 (fun c i w => by rw [w]; exact nrf_arr (kMod_1 L9) (by decide) (by decide))
  obtain ⟨H2, s2, o2, L2, r2⟩ := row_norm L' r9.2
  have e : ∀ b i, b ≠ a + 1 → hg H2 b i = hg H9 b i := fun b i w => (o2.2.2 _ _ w).trans (o9.2.2 _ _ w)
  have z0 : ∀ i, (i = 7 ∨ i = 12 ∨ i = 13) → hg H2 a i = 0 := fun i hi => by
    rw [e _ _ (by omega)]
    refine P.2.2.2.2.2 _ _ (by omega) (by omega) (fun e9 he9 w9 => ?_)
    have := (by decide : ∀ e ∈ LMod.2, e.2.1 ≠ 7 ∧ e.2.1 ≠ 12 ∧ e.2.1 ≠ 13) e9 he9
    omega
  have z5 : ∀ i, hg H2 (a + 5) i = 0 := fun i => by
    rw [e _ _ (by omega)]
    refine P.2.2.2.2.2 _ _ (by omega) (by omega) (fun e9 he9 w9 => ?_)
    have := (by decide : ∀ e ∈ LMod.2, e.1 ≠ 5) e9 he9
    omega
  refine ⟨H2, s2, rfl, ⟨L2, r2, begM_ok (by omega), Or.inl (z0 13 (by omega))⟩, ⟨z0 7 (by omega), z0 12 (by omega), z5⟩, ?_, fun b hb => ⟨?_, fun i => (e b i (by omega)).trans ((P.2.2.1 b hb).2 i)⟩⟩
  · rw [o2.1, o9.1]; exact P.1
  · rw [o2.2.1, o9.2.1]; exact (P.2.2.1 b hb).1
/-! what holds of the row from call to call -/
def ok3 (M : Row) (k : Int) : Prop := okD M ∧ arB M k ∧ M 0 ≤ 200000
section
variable {M M' : Row} {k : Int}
theorem ok3.up (h : ok3 M k) {k' : Int} (hk : k ≤ k') : ok3 M k' := ⟨h.1, fun f hf => by have := h.2.1 f hf; omega, h.2.2⟩
/-- settings, flights' numbers but 7 and 9, the past -/
theorem ok3.same (h : ok3 M k) (h0 : M' 0 = M 0) (h7 : M' 7 = M 7) (h6 : M' 6 = M 6) (hs : ∀ f, 0 ≤ f → (ofM M' f 7 = 2 ↔ ofM M f 7 = 2)) (h9 : ∀ f, 0 ≤ f → ofM M' f 9 = ofM M f 9) : ok3 M' k := by
  refine ⟨okD_same h.1 h7 h6 hs, fun f hf => ?_, by rw [h0]; exact h.2.2⟩
  rw [h9 f hf.1]
  refine h.2.1 f ?_
  unfold fl at hf ⊢
  rw [← h6]
  exact hf
theorem ok3_beg : ok3 (begM 1) 0 := by
  refine ⟨?_, fun f hf => ?_, ?_⟩
  · unfold okD
    rw [begM_0 (k := 7) (by omega), begM_0 (k := 6) (by omega)]
    rfl
  · unfold fl at hf
    rw [begM_0 (k := 6) (by omega)] at hf
    omega
  · rw [begM_0 (k := 0) (by omega)]; omega
theorem ok3.lo (h : ok3 M k) {j y : Int} (hj : j ≠ 0 ∧ j ≠ 6 ∧ j ≠ 7 ∧ j < 56) : ok3 (upM M j y) k := h.same (upM_ne _ (by omega)) (upM_ne _ (by omega)) (upM_ne _ (by omega)) (fun f hf => by rw [of_lo (by omega) hf (by omega)]) (fun f hf => of_lo (by omega) hf (by omega))
theorem ok3.shift (h : ok3 M k) {y : Int} : ok3 (if 0 ≤ y ∧ y ≤ 4 then upM M 1 y else M) k := by
  split
  · exact h.lo (by omega)
  · exact h
theorem ok3.wake (h : ok3 M k) {a b z : Int} : ok3 (if okWk a b z then upM M (8 + 4 * a + b) z else M) k := by
  split
  · rename_i c
    exact h.lo (by unfold okWk at c; omega)
  · exact h
theorem ok3.adv (h : ok3 M k) (hM : okM M) {y : Int} : ok3 (advM M y) k := by
  unfold advM
  split
  · rename_i c
    have c1 : 1 ≤ y ∧ y ≤ 7200 := c.1
    obtain ⟨h1, h2, h3, h4⟩ := pasM_ok (t := M 0 + y) hM h.1 (by omega)
    exact ⟨h2, arB_stab h.2.1 h3, by rw [h4]; exact c.2⟩
  · exact h
theorem ok3.asg (h : ok3 M k) {f r : Int} (hf : 0 ≤ f) : ok3 (asgM M f r) k := by
  unfold asgM
  refine h.same (upM_ne _ (by omega)) (upM_ne _ (by omega)) (upM_ne _ (by omega)) (fun g hg => ?_) (fun g hg => ?_)
  · rw [of_up (by omega) (by omega), if_neg (by omega)]
  · rw [of_up (by omega) (by omega), if_neg (by omega)]
theorem ok3.asgn (h : ok3 M k) {f r : Int} : ok3 (if okAs M f r then asgM M f r else M) k := by
  split
  · rename_i c
    exact h.asg c.1.1.1
  · exact h
theorem ok3.cnc (h : ok3 M k) {f : Int} : ok3 (if okCn M f then cncM M f else M) k := by
  split
  · rename_i c
    have c1 : 0 ≤ f := c.1.1
    have c2 := c.2
    unfold cncM
    refine h.same (upM_ne _ (by omega)) (upM_ne _ (by omega)) (upM_ne _ (by omega)) (fun g hg => ?_) (fun g hg => ?_)
    · rw [of_up (by omega) (by omega)]
      split
      · rename_i e
        rw [e.1, c2]
        omega
      · exact Iff.rfl
    · rw [of_up (by omega) (by omega), if_neg (by omega)]
  · exact h
theorem ok3.goa (h : ok3 M k) {f : Int} : ok3 (if okGo M f then arM M f else M) (k + 1) := by
  split
  · rename_i c
    have c1 : 0 ≤ f := c.1.1
    have c2 := c.2
    have c3 : ofM M f 7 = 1 := by
      unfold noarM at c2
      split at c2
      · assumption
      · omega
    refine ⟨ar_D c1 h.1 (by omega), fun g hg => ?_, by rw [arM_lo c1 (by omega)]; exact h.2.2⟩
    have hg2 : fl M g := by
      unfold fl at hg ⊢
      rw [← arM_lo (M := M) (f := f) c1 (show (6 : Int) < 56 by omega)]
      exact hg
    have := h.2.1 g hg2
    by_cases e : g = f
    · subst e
      have e9 : ofM (arM M g) g 9 = ofM M g 9 + 1 := arM_9
      omega
    · rw [arM_ne (by omega) (Or.inl e)]
      omega
  · exact h.up (by omega)
theorem ok3.bet (h : ok3 M k) (hM : okM M) : ok3 (betM M) k ∧ okM (betM M) := by
  unfold betM
  split
  · rename_i c
    have := bet_ok hM c
    exact ⟨h.asg this.1.1.1, okM_asg hM this⟩
  · exact ⟨h, hM⟩
theorem ok3.bal : ∀ (n : Nat) {M : Row}, ok3 M k → okM M → ok3 (balS n M).2 k
  | 0, M, h, _ => h
  | n + 1, M, h, hM => by
    unfold balS
    split
    · exact ok3.bal n (h.bet hM).1 (h.bet hM).2
    · exact h
theorem fnn_0 : fnn 0 := by unfold fnn; decide
theorem fnn_cost {f : Int} : fnn (vCostOf M f) := by
  unfold vCostOf
  split
  · unfold afdiv al2f
    rw [Int.toNat_natCast, UInt32.ofNat_toNat]
    exact fnn_div (FP.Core.l2f_fin _) ((FP.Core.fin_bits32 _).mpr (by decide)) (by decide)
  · exact fnn_0
theorem fnn_mean (hM : okM M) : fnn (vMean M) := by
  unfold vMean
  split
  · exact fnn_0
  · rename_i c
    unfold afdiv al2f ai2f
    rw [Int.toNat_natCast, UInt32.ofNat_toNat, Int.toNat_natCast, UInt32.ofNat_toNat]
    refine fnn_div (FP.Core.l2f_fin _) (FP.Core.i2f_fin _) (FP.Core.i2f_ne_zero fun q => c ?_)
    have hb : inI (mnC M (M 6).toNat) := by have := mn_in hM (Nat.le_refl (M 6).toNat); have := okM_n hM; unfold inI; omega
    have h1 : (Int32.ofInt (mnC M (M 6).toNat)).toInt = mnC M (M 6).toNat := by rw [Int32.toInt_ofInt, bm32 hb]
    rw [← h1, q]
    rfl
theorem okRd_all {B : Row} {n : Int} : ∀ (k : Nat) (σ : PS), (σ.1 = 0 → okRd σ.2.2.2) → (allS B n k σ).1 = 0 → okRd (allS B n k σ).2.2.2
  | 0, σ, h, h0 => h h0
  | k + 1, σ, h, h0 => by
    have hm : (morS B n σ).1.1 = 0 → okRd (morS B n σ).1.2.2.2 := by
      unfold morS
      split
      · exact h
      · rename_i c
        have c : σ.1 = 0 := Decidable.not_not.mp c
        split
        · exact fun _ => h c
        · split
          · exact fun w => absurd (show (1 : Int) = 0 from w) (by decide)
          · exact fun _ => h c
    have ht : (morS B n σ).2 = true → (morS B n σ).1.1 = 0 := by
      unfold morS
      split
      · exact fun w => absurd (show false = true from w) (by decide)
      · split
        · exact fun _ => rfl
        · split
          · exact fun w => absurd (show false = true from w) (by decide)
          · exact fun _ => rfl
    unfold allS at h0 ⊢
    by_cases c : (morS B n σ).2 = true
    · rw [if_pos c] at h0 ⊢
      exact okRd_all k _ (fun w => okRd_stm (hm (ht c)) w) h0
    · rw [if_neg c] at h0 ⊢
      exact hm h0
theorem ok3_load {B : Row} {n : Int} (h : ok3 M k) (hk : 0 ≤ k) : ok3 (if (reaS B n).1 = 0 then asgR (reaS B n).2.2.2 else M) k := by
  split
  · rename_i c
    have hR : okRd (reaS B n).2.2.2 := okRd_all _ _ runS_ok c
    obtain ⟨-, h2, h3, h4⟩ := asgR_ok hR
    exact ok3.up ⟨h2, h3, by rw [h4]; omega⟩ hk
  · exact h
end
