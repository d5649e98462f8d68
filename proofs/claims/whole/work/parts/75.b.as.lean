/-! flights are assigned by their targets -/
def iniN (R : Row) : Nat → Row
  | 0 => R
  | k + 1 => upM (iniN R k) (56 + 16 * (k : Int) + 6) (-1)
def firN (R : Row) : Nat → Int
  | 0 => -1
  | k + 1 => if ofM R k 6 = -1 ∧ (firN R k = -1 ∨ ofM R k 3 < ofM R (firN R k) 3) then k else firN R k
def cnR (R : Row) (r : Int) : Nat → Int := sm (fun f => bi (decide (ofM R f 6 = r)))
def emN (R : Row) (may : Int) : Nat → Int
  | 0 => -1
  | r + 1 => if shr may r % 2 = 1 ∧ (emN R may r = -1 ∨ cnR R r (R 6).toNat < cnR R (emN R may r) (R 6).toNat) then r else emN R may r
def emp (R : Row) (f : Int) : Int := emN R (ofM R f 5) (R 5).toNat
def fir (R : Row) : Int := firN R (R 6).toNat
def asg1 (R : Row) : Row := upM R (56 + 16 * fir R + 6) (emp R (fir R))
def asgN (R : Row) : Nat → Row
  | 0 => iniN R (R 6).toNat
  | k + 1 => asg1 (asgN R k)
def asgR (R : Row) : Row := asgN R (R 6).toNat
section
variable {R S : Row}
theorem firN_in (R : Row) : ∀ k : Nat, firN R k = -1 ∨ (0 ≤ firN R k ∧ firN R k < k ∧ ofM R (firN R k) 6 = -1)
  | 0 => Or.inl rfl
  | k + 1 => by
    unfold firN
    split
    · rename_i c
      exact Or.inr ⟨by omega, by omega, c.1⟩
    · rcases firN_in R k with h | h
      · exact Or.inl h
      · exact Or.inr ⟨h.1, by omega, h.2.2⟩
theorem firN_no : ∀ {k : Nat}, firN R k = -1 → ∀ j : Nat, j < k → ofM R j 6 ≠ -1
  | 0, _, j, hj => absurd hj (Nat.not_lt_zero _)
  | k + 1, h, j, hj => by
    unfold firN at h
    by_cases c : ofM R k 6 = -1 ∧ (firN R k = -1 ∨ ofM R k 3 < ofM R (firN R k) 3)
    · rw [if_pos c] at h; omega
    · rw [if_neg c] at h
      by_cases e : j = k
      · subst e; exact fun w => c ⟨w, Or.inl h⟩
      · exact firN_no h j (by omega)
theorem emN_in (R : Row) (may : Int) : ∀ r : Nat, emN R may r = -1 ∨ (0 ≤ emN R may r ∧ emN R may r < r ∧ shr may (emN R may r) % 2 = 1)
  | 0 => Or.inl rfl
  | r + 1 => by
    unfold emN
    split
    · rename_i c
      exact Or.inr ⟨by omega, by omega, c.1⟩
    · rcases emN_in R may r with h | h
      · exact Or.inl h
      · exact Or.inr ⟨h.1, by omega, h.2.2⟩
theorem emN_no {may : Int} : ∀ {r : Nat}, emN R may r = -1 → ∀ j : Nat, j < r → ¬ shr may j % 2 = 1
  | 0, _, j, hj => absurd hj (Nat.not_lt_zero _)
  | r + 1, h, j, hj => by
    unfold emN at h
    by_cases c : shr may r % 2 = 1 ∧ (emN R may r = -1 ∨ cnR R r (R 6).toNat < cnR R (emN R may r) (R 6).toNat)
    · rw [if_pos c] at h; omega
    · rw [if_neg c] at h
      by_cases e : j = r
      · subst e; exact fun w => c ⟨w, Or.inl h⟩
      · exact emN_no h j (by omega)
theorem some_bit : ∀ (k : Fin 4) (m : Fin 8), 1 ≤ k.val → 1 ≤ m.val → m.val < 2 ^ k.val → ∃ j : Fin 3, j.val < k.val ∧ shr (m.val : Int) (j.val : Int) % 2 = 1 := by decide
theorem emN_yes {may : Int} {r : Int} (hr : 1 ≤ r ∧ r ≤ 3) (hm : 1 ≤ may ∧ may ≤ pw r - 1) : 0 ≤ emN R may r.toNat ∧ emN R may r.toNat < r ∧ shr may (emN R may r.toNat) % 2 = 1 := by
  have hp := pw_in hr
  rcases emN_in R may r.toNat with h | h
  · exfalso
    have hb : may.toNat < 2 ^ r.toNat := by
      have : may ≤ 2 ^ r.toNat - 1 := hm.2
      have h3 : r = 1 ∨ r = 2 ∨ r = 3 := by omega
      rcases h3 with rfl | rfl | rfl
      · have e : (2 : Int) ^ (1 : Int).toNat = 2 := rfl
        show may.toNat < 2
        omega
      · have e : (2 : Int) ^ (2 : Int).toNat = 4 := rfl
        show may.toNat < 4
        omega
      · have e : (2 : Int) ^ (3 : Int).toNat = 8 := rfl
        show may.toNat < 8
        omega
    obtain ⟨j, hj, e⟩ := some_bit ⟨r.toNat, by omega⟩ ⟨may.toNat, by omega⟩ (by show 1 ≤ r.toNat; omega) (by show 1 ≤ may.toNat; omega) hb
    have e : shr ((may.toNat : Nat) : Int) (j.val : Int) % 2 = 1 := e
    rw [show ((may.toNat : Nat) : Int) = may by omega] at e
    exact emN_no h j.val hj e
  · exact ⟨h.1, by omega, h.2.2⟩
/-- what holds when some flights have been assigned -/
def AI (R S : Row) (k : Nat) : Prop := (∀ j, (∀ f, 0 ≤ f → f < R 6 → j ≠ 56 + 16 * f + 6) → S j = R j) ∧ (∀ f, fl R f → ofM S f 6 = -1 ∨ (0 ≤ ofM S f 6 ∧ ofM S f 6 < R 5 ∧ shr (ofM R f 5) (ofM S f 6) % 2 = 1)) ∧ cnR S (-1) (R 6).toNat = R 6 - k
theorem iniN_at (R : Row) : ∀ k : Nat, (∀ j, (∀ f : Int, 0 ≤ f → f < k → j ≠ 56 + 16 * f + 6) → iniN R k j = R j) ∧ ∀ f : Int, 0 ≤ f → f < k → ofM (iniN R k) f 6 = -1
  | 0 => ⟨fun _ _ => rfl, fun f f1 f2 => by omega⟩
  | k + 1 => by
    obtain ⟨h1, h2⟩ := iniN_at R k
    refine ⟨fun j hj => ?_, fun f f1 f2 => ?_⟩
    · show upM (iniN R k) _ _ j = _
      rw [upM_ne _ (hj k (by omega) (by omega))]
      exact h1 j (fun f f1 f2 => hj f f1 (by omega))
    · show upM (iniN R k) _ _ (56 + 16 * f + 6) = _
      by_cases e : f = k
      · rw [e, upM_same]
      · rw [upM_ne _ (by omega)]
        exact h2 f f1 (by omega)
theorem sm_const {c : Int} : ∀ {f : Nat → Int} {n : Nat}, (∀ k, k < n → f k = c) → sm f n = c * n
  | f, 0, _ => by show (0 : Int) = c * ((0 : Nat) : Int); omega
  | f, n + 1, h => by
    show sm f n + f n = _
    rw [sm_const (fun k hk => h k (by omega)), h n (by omega)]
    rw [show ((n + 1 : Nat) : Int) = n + 1 by omega, Int.mul_add, Int.mul_one]
theorem AI.zero (h6 : 0 ≤ R 6) : AI R (asgN R 0) 0 := by
  obtain ⟨h1, h2⟩ := iniN_at R (R 6).toNat
  refine ⟨fun j hj => h1 j (fun f f1 f2 => hj f f1 (by omega)), fun f hf => Or.inl (h2 f hf.1 (by have := hf.2; omega)), ?_⟩
  show sm _ _ = _
  rw [sm_const (c := 1) (fun k hk => by show bi (decide (ofM (iniN R (R 6).toNat) k 6 = -1)) = 1; rw [h2 k (by omega) (by omega)]; rfl)]
  omega
theorem asg_facts {k : Nat} (hR : okRd R) (h : AI R S k) (hk : (k : Int) < R 6) : fl R (fir S) ∧ ofM S (fir S) 6 = -1 ∧ (0 ≤ emp S (fir S) ∧ emp S (fir S) < R 5 ∧ shr (ofM R (fir S) 5) (emp S (fir S)) % 2 = 1) ∧ AI R (asg1 S) (k + 1) ∧ ∀ r, 0 ≤ r → cnR (asg1 S) r (R 6).toNat = cnR S r (R 6).toNat + (if r = emp S (fir S) then 1 else 0) := by
  have r6 := hR.r6
  have r5 := hR.r5
  obtain ⟨h1, h2, h3⟩ := id h
  have s6 : S 6 = R 6 := h1 6 (fun f f1 f2 => by omega)
  have s5 : S 5 = R 5 := h1 5 (fun f f1 f2 => by omega)
  have hfir : 0 ≤ fir S ∧ fir S < R 6 ∧ ofM S (fir S) 6 = -1 := by
    unfold fir
    rw [s6]
    rcases firN_in S (R 6).toNat with e | e
    · exfalso
      have z : cnR S (-1) (R 6).toNat = 0 := by
        show sm _ _ = _
        rw [sm_const (c := 0) (fun k hk => by rw [bi_f (firN_no e k hk)])]
        omega
      omega
    · exact ⟨e.1, by omega, e.2.2⟩
  have hf : fl R (fir S) := ⟨hfir.1, hfir.2.1⟩
  have o5 : ofM S (fir S) 5 = ofM R (fir S) 5 := h1 _ (fun f f1 f2 => by omega)
  have hy := (hR.2.2.2.2.2.2.2.2.2.2 (fir S) hf).2.2.2.2.2
  have he : 0 ≤ emp S (fir S) ∧ emp S (fir S) < R 5 ∧ shr (ofM R (fir S) 5) (emp S (fir S)) % 2 = 1 := by
    unfold emp
    rw [s5, o5]
    exact emN_yes r5 hy
  obtain ⟨f, hfe⟩ : ∃ f, f = fir S := ⟨_, rfl⟩
  obtain ⟨e, hee⟩ : ∃ e, e = emp S f := ⟨_, rfl⟩
  have ea : asg1 S = upM S (56 + 16 * f + 6) e := by unfold asg1; rw [hee, hfe]
  rw [← hfe] at hfir hf o5 hy he
  rw [← hee] at he
  rw [ea, ← hfe, ← hee]
  have cn : ∀ r, cnR (upM S (56 + 16 * f + 6) e) r (R 6).toNat = cnR S r (R 6).toNat - bi (decide ((-1 : Int) = r)) + bi (decide (e = r)) := by
    intro r
    have := sm_one (f := fun g => bi (decide (ofM (upM S (56 + 16 * f + 6) e) g 6 = r))) (g := fun g => bi (decide (ofM S g 6 = r))) (j := f.toNat) (n := (R 6).toNat) (fun g hg hne => by
      show bi (decide (upM S _ _ (56 + 16 * (g : Int) + 6) = r)) = _
      rw [upM_ne _ (by omega)]; rfl) (by omega)
    simp only [show ((f.toNat : Nat) : Int) = f by omega] at this
    rw [hfir.2.2] at this
    have e2 : ofM (upM S (56 + 16 * f + 6) e) f 6 = e := upM_same _ _ _
    rw [e2] at this
    show sm _ _ = sm _ _ - _ + _
    omega
  refine ⟨hf, hfir.2.2, he, ⟨fun j hj => ?_, fun g hg => ?_, ?_⟩, fun r hr => ?_⟩
  · rw [upM_ne _ (hj f hf.1 hf.2)]; exact h1 j hj
  · have hg1 := hg.1
    by_cases c : g = f
    · right
      have : ofM (upM S (56 + 16 * f + 6) e) g 6 = e := by rw [c]; exact upM_same _ _ _
      rw [this, c]
      exact he
    · have : ofM (upM S (56 + 16 * f + 6) e) g 6 = ofM S g 6 := upM_ne _ (by omega)
      rw [this]
      exact h2 g hg
  · rw [cn, h3, bi_t rfl, bi_f (by omega)]
    omega
  · rw [cn, bi_f (show ¬ (-1 : Int) = r by omega)]
    by_cases c : r = e
    · rw [if_pos c, bi_t c.symm]; omega
    · rw [if_neg c, bi_f (fun w => c w.symm)]; omega
theorem asgN_AI (hR : okRd R) : ∀ k : Nat, (k : Int) ≤ R 6 → AI R (asgN R k) k
  | 0, _ => AI.zero hR.r6.1
  | k + 1, hk => (asg_facts hR (asgN_AI hR k (by omega)) (by omega)).2.2.2.1
theorem asgR_all (hR : okRd R) : ∀ f, fl R f → 0 ≤ ofM (asgR R) f 6 ∧ ofM (asgR R) f 6 < R 5 ∧ shr (ofM R f 5) (ofM (asgR R) f 6) % 2 = 1 := by
  have r6 := hR.r6
  have h := asgN_AI hR (R 6).toNat (by omega)
  intro f hf
  have hf1 := hf.1
  have hf2 := hf.2
  rcases h.2.1 f hf with e | e
  · exfalso
    have h3 := h.2.2
    have l : ∀ k, k < (R 6).toNat → 0 ≤ bi (decide (ofM (asgN R (R 6).toNat) k 6 = -1)) ∧ bi (decide (ofM (asgN R (R 6).toNat) k 6 = -1)) ≤ 1 := fun k _ => by rcases bi_01 (decide (ofM (asgN R (R 6).toNat) k 6 = -1)) with w | w <;> omega
    have := sm_one (f := fun k => bi (decide (ofM (asgN R (R 6).toNat) k 6 = -1))) (g := fun k => if k = f.toNat then 0 else bi (decide (ofM (asgN R (R 6).toNat) k 6 = -1))) (j := f.toNat) (n := (R 6).toNat) (fun k _ hne => by rw [if_neg hne]) (by omega)
    simp only [if_true, show ((f.toNat : Nat) : Int) = f by omega] at this
    rw [e, bi_t rfl] at this
    have g0 := (sm_in (f := fun k => if k = f.toNat then 0 else bi (decide (ofM (asgN R (R 6).toNat) k 6 = -1))) (lo := 0) (hi := 1) (n := (R 6).toNat) (fun k hk => by split; omega; exact l k hk)).1
    have h3 : sm (fun k => bi (decide (ofM (asgN R (R 6).toNat) k 6 = -1))) (R 6).toNat = R 6 - ((R 6).toNat : Nat) := h3
    omega
  · exact e
theorem asgR_ne (hR : okRd R) {j : Int} (hj : ∀ f, 0 ≤ f → f < R 6 → j ≠ 56 + 16 * f + 6) : asgR R j = R j := (asgN_AI hR (R 6).toNat (by have := hR.r6; omega)).1 j hj
theorem asgR_of (hR : okRd R) {f w : Int} (hf : 0 ≤ f) (hw : 0 ≤ w ∧ w < 16) (h6 : w ≠ 6) : ofM (asgR R) f w = ofM R f w := asgR_ne hR (fun g g1 g2 => by omega)
theorem asgR_lo (hR : okRd R) {j : Int} (hj : j < 56) : asgR R j = R j := asgR_ne hR (fun g g1 g2 => by omega)
theorem asgR_ok (hR : okRd R) : okM (asgR R) ∧ okD (asgR R) ∧ arB (asgR R) 0 ∧ asgR R 0 = 0 := by
  obtain ⟨a0, a1, a2, a3, a4, a5, a6, a8, a24, aZ, aF⟩ := id hR
  have lo : ∀ j, j < 56 → asgR R j = R j := fun j hj => asgR_lo hR hj
  have fe : ∀ f, fl (asgR R) f → fl R f := fun f hf => by unfold fl at hf ⊢; rw [lo 6 (by omega)] at hf; exact hf
  have hp := pw_in a5
  refine ⟨⟨⟨?_, ?_, ?_, ?_, ?_, ?_, ?_, ?_, fun k k1 k2 => ?_, fun k k1 k2 => ?_, fun k k1 k2 => ?_⟩, fun f f1 f2 => ?_⟩, ?_, fun f hf => ?_, ?_⟩
  · rw [lo _ (by omega)]; omega
  · rw [lo _ (by omega)]; omega
  · rw [lo _ (by omega)]; omega
  · rw [lo _ (by omega)]; omega
  · rw [lo _ (by omega)]; omega
  · rw [lo _ (by omega)]; omega
  · rw [lo _ (by omega)]; omega
  · rw [lo _ (by omega), lo _ (by omega)]; omega
  · rw [lo _ (by omega)]; exact a8 k k1 k2
  · rw [lo _ (by omega)]; exact a24 k k1 k2
  · rw [lo _ (by omega)] at k2; omega
  · have hf := fe f ⟨f1, f2⟩
    have hF := aF f hf
    have hf2 := hf.2
    have hA := asgR_all hR f hf
    have hz := aZ f f1 (by omega)
    unfold okF
    rw [asgR_of hR (w := 0) f1 (by omega) (by omega), asgR_of hR (w := 1) f1 (by omega) (by omega), asgR_of hR (w := 2) f1 (by omega) (by omega), asgR_of hR (w := 3) f1 (by omega) (by omega), asgR_of hR (w := 4) f1 (by omega) (by omega), asgR_of hR (w := 5) f1 (by omega) (by omega), asgR_of hR (w := 7) f1 (by omega) (by omega), asgR_of hR (w := 8) f1 (by omega) (by omega), lo 5 (by omega)]
    exact ⟨hF.1, hF.2.1, by omega, by omega, by omega, by omega, ⟨hA.1, hA.2.1⟩, by omega, fun w => by omega, hA.2.2⟩
  · unfold okD
    have z : ∀ k : Nat, k < (R 6).toNat → bi (decide (ofM (asgR R) k 7 = 2)) = 0 := by
      intro k hk
      rw [asgR_of hR (f := k) (w := 7) (by omega) (by omega) (by omega), (aZ k (by omega) (by omega)).2.1]
      rfl
    rw [lo 7 (by omega), lo 6 (by omega), a0.2, sm_const (c := 0) z]
    omega
  · have hf2 := fe f hf
    have := hf2.2
    rw [asgR_of hR hf.1 (by omega) (by omega), (aZ f hf.1 (by omega)).2.2.2]
    omega
  · rw [lo 0 (by omega)]; exact a0.1
end
