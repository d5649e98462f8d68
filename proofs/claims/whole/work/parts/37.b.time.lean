/-! how time passes -/
section
variable {M M' : Row} {r : Int}
def frz1 (M : Row) (f t : Int) : Row := upM (upM M (56 + 16 * f + 8) t) (56 + 16 * f + 7) 1
/-- all but states, times, what is done, the hour -/
def stab (M M' : Row) : Prop := (∀ k, 1 ≤ k → k < 32 → k ≠ 7 → M' k = M k) ∧ ∀ f w, 0 ≤ f → 0 ≤ w → w < 16 → w ≠ 7 → w ≠ 8 → ofM M' f w = ofM M f w
theorem stab.rf : stab M M := ⟨fun _ _ _ _ => rfl, fun _ _ _ _ _ _ _ => rfl⟩
theorem stab.trans {A B C : Row} (h1 : stab A B) (h2 : stab B C) : stab A C := ⟨fun k a b c => (h2.1 k a b c).trans (h1.1 k a b c), fun f w a b c d e => (h2.2 f w a b c d e).trans (h1.2 f w a b c d e)⟩
theorem frz1_lo {f t k : Int} (hf : 0 ≤ f) (hk : k < 56) : frz1 M f t k = M k := by
  unfold frz1
  rw [lo_up hk hf (by omega), lo_up hk hf (by omega)]
theorem frz1_ne {f t g w : Int} (hw : 0 ≤ w ∧ w < 16) (h : g ≠ f ∨ (w ≠ 7 ∧ w ≠ 8)) : ofM (frz1 M f t) g w = ofM M g w := by
  unfold frz1
  rw [of_ne hw (by omega) (by omega), of_ne hw (by omega) (by omega)]
theorem frz1_7 {f t : Int} : ofM (frz1 M f t) f 7 = 1 := of_same (by omega)
theorem frz1_8 {f t : Int} : ofM (frz1 M f t) f 8 = t := by
  unfold frz1
  rw [of_ne (by omega) (by omega) (by omega), of_same (by omega)]
theorem frz1_stab {f t : Int} (hf : 0 ≤ f) : stab M (frz1 M f t) := ⟨fun k _ a _ => frz1_lo hf (by omega), fun g w _ a b c d => frz1_ne ⟨a, b⟩ (Or.inr ⟨c, d⟩)⟩
theorem okM_frz1 {f t : Int} (hM : okM M) (hf : fl M f) (ht : 0 ≤ t ∧ t ≤ 210000) : okM (frz1 M f t) := by
  refine okM_one (g := f) hM (fun k _ q => frz1_lo hf.1 q) (fun g w q1 _ q2 q3 => frz1_ne (by omega) (Or.inl q1)) ?_
  obtain ⟨h0, h1, h2, h3, h4, h5, h6, h7, h8, h9⟩ := hM.2 f hf.1 hf.2
  unfold okF
  rw [frz1_ne (by omega) (by omega), frz1_ne (by omega) (by omega), frz1_ne (by omega) (by omega), frz1_ne (by omega) (by omega), frz1_ne (by omega) (by omega), frz1_ne (by omega) (by omega), frz1_ne (by omega) (by omega), frz1_7, frz1_8, frz1_lo hf.1 (by omega)]
  exact ⟨h0, h1, h2, h3, h4, h5, h6, by omega, fun _ => ht, h9⟩
noncomputable def frzR (r : Int) : Nat → Row → Row
  | 0, M => M
  | n + 1, M => if (comeL M r).length = 0 then M else if planT M (wAt (planL M r) 0) ≤ M 0 + M 2 then frzR r n (frz1 M (wAt (planL M r) 0) (planT M (wAt (planL M r) 0))) else M
noncomputable def frzN (M : Row) : Nat → Row
  | 0 => M
  | n + 1 => frzR n 24 (frzN M n)
noncomputable def frzM (M : Row) : Row := frzN M (M 5).toNat
/-- one freezing -/
theorem frz_at (hM : okM M) (h : ¬ (comeL M r).length = 0) (ht : planT M (wAt (planL M r) 0) ≤ M 0 + M 2) : (fl M (wAt (planL M r) 0) ∧ ofM M (wAt (planL M r) 0) 7 = 0 ∧ ofM M (wAt (planL M r) 0) 6 = r) ∧ okM (frz1 M (wAt (planL M r) 0) (planT M (wAt (planL M r) 0))) := by
  have p := pl_at hM (r := r) (k := 0) (by omega)
  have t := planT_in hM p.1 p.2.1
  have h0 := hM.1.1
  have h2 := hM.1.2.2.1
  exact ⟨p, okM_frz1 hM p.1 (by omega)⟩
/-- what the freezing of one runway keeps -/
theorem frzR_ind {P : Row → Prop} (hs : ∀ M f t, okM M → P M → fl M f → ofM M f 7 = 0 → ofM M f 6 = r → P (frz1 M f t)) : ∀ (n : Nat) (M : Row), okM M → P M → okM (frzR r n M) ∧ P (frzR r n M)
  | 0, M, hM, hP => ⟨hM, hP⟩
  | n + 1, M, hM, hP => by
    unfold frzR
    split
    · exact ⟨hM, hP⟩
    · split
      · rename_i h1 h2
        obtain ⟨p, ok⟩ := frz_at hM h1 h2
        exact frzR_ind hs n _ ok (hs _ _ _ hM hP p.1 p.2.1 p.2.2)
      · exact ⟨hM, hP⟩
theorem frzR_ok (hM : okM M) (n : Nat) : okM (frzR r n M) := (frzR_ind (P := fun _ => True) (fun _ _ _ _ _ _ _ _ => trivial) n M hM trivial).1
theorem frzR_stab (hM : okM M) (n : Nat) : stab M (frzR r n M) ∧ (frzR r n M) 0 = M 0 ∧ (frzR r n M) 7 = M 7 := by
  refine (frzR_ind (P := fun M' => stab M M' ∧ M' 0 = M 0 ∧ M' 7 = M 7) (fun A f t _ h hf _ _ => ⟨h.1.trans (frz1_stab hf.1), ?_, ?_⟩) n M hM ⟨stab.rf, rfl, rfl⟩).2
  · rw [frz1_lo hf.1 (by omega)]; exact h.2.1
  · rw [frz1_lo hf.1 (by omega)]; exact h.2.2
def fzd (M : Row) (r : Int) : Prop := (comeL M r).length = 0 ∨ M 0 + M 2 < planT M (wAt (planL M r) 0)
theorem sim_frz1 {f t : Int} (hM : okM M) (hf : fl M f) (h : ¬ ofM M f 6 = r) : sim M (frz1 M f t) r :=
  sim_off (g := f) hM (fun k _ q => frz1_lo hf.1 q) (fun g w q1 _ q2 q3 => frz1_ne (by omega) (Or.inl q1)) h (by rw [frz1_ne (by omega) (by omega)]; exact h)
theorem fzd_sim (hM : okM M) (hs : sim M M' r) (h0 : M' 0 = M 0) (h2 : M' 2 = M 2) (h6 : ∀ f, fl M f → ofM M f 6 = r → ofM M' f 6 = r) (h : fzd M r) : fzd M' r := by
  unfold fzd at h ⊢
  rw [comeL_sim hM hs, h0, h2]
  rcases h with h | h
  · exact Or.inl h
  · by_cases q : (comeL M r).length = 0
    · exact Or.inl q
    · have p := pl_at hM (r := r) (k := 0) (by omega)
      rw [planL_sim hM hs, planT_sim hM hs p.2.2 (h6 _ p.1 p.2.2)]
      exact Or.inr h
theorem frzR_fzd {q : Int} (hM : okM M) (hq : q ≠ r) (h : fzd M q) (n : Nat) : fzd (frzR r n M) q := by
  refine (frzR_ind (P := fun M' => fzd M' q) (fun A f t hA h hf _ h6 => ?_) n M hM h).2
  have h9 : ¬ ofM A f 6 = q := by omega
  exact fzd_sim hA (sim_frz1 hA hf h9) (frz1_lo hf.1 (by omega)) (frz1_lo hf.1 (by omega)) (fun g hg e => by rw [frz1_ne (by omega) (by omega)]; exact e) h
theorem come_frz1 {f t : Int} (hM : okM M) (hf : fl M f) (h7 : ofM M f 7 = 0) (h6 : ofM M f 6 = r) : ((comeL (frz1 M f t) r).length : Int) = (comeL M r).length - 1 := by
  unfold comeL
  rw [comeN_cnt, comeN_cnt, frz1_lo hf.1 (by omega)]
  have hn := okM_n hM
  obtain ⟨j, rfl⟩ := Int.eq_ofNat_of_zero_le hf.1
  have := sm_one (f := fun k => bi (decide (ofM (frz1 M j t) k 7 = 0 ∧ ofM (frz1 M j t) k 6 = r))) (g := fun k => bi (decide (ofM M k 7 = 0 ∧ ofM M k 6 = r))) (j := j) (n := (M 6).toNat) (fun k hk hkj => by
    show bi (decide (ofM (frz1 M j t) k 7 = 0 ∧ ofM (frz1 M j t) k 6 = r)) = bi (decide (ofM M k 7 = 0 ∧ ofM M k 6 = r))
    rw [frz1_ne (by omega) (by omega), frz1_ne (by omega) (by omega)]) (by omega)
  have e1 : bi (decide (ofM (frz1 M j t) j 7 = 0 ∧ ofM (frz1 M j t) j 6 = r)) = 0 := bi_f (by rw [frz1_7]; omega)
  have e2 : bi (decide (ofM M j 7 = 0 ∧ ofM M j 6 = r)) = 1 := bi_t ⟨h7, h6⟩
  simp only [e1, e2] at this
  omega
theorem frzR_done : ∀ (n : Nat) (M : Row), okM M → (comeL M r).length ≤ n → fzd (frzR r n M) r
  | 0, M, hM, h => Or.inl (by show (comeL M r).length = 0; omega)
  | n + 1, M, hM, h => by
    unfold frzR
    split
    · exact Or.inl (by assumption)
    · split
      · rename_i h1 h2
        obtain ⟨p, ok⟩ := frz_at hM h1 h2
        have := come_frz1 hM (t := planT M (wAt (planL M r) 0)) p.1 p.2.1 p.2.2
        exact frzR_done n _ ok (by omega)
      · exact Or.inr (by omega)
theorem frzN_all (hM : okM M) : ∀ n : Nat, okM (frzN M n) ∧ (stab M (frzN M n) ∧ (frzN M n) 0 = M 0 ∧ (frzN M n) 7 = M 7) ∧ ∀ q : Int, 0 ≤ q → q < n → fzd (frzN M n) q
  | 0 => ⟨hM, ⟨stab.rf, rfl, rfl⟩, fun q h1 h2 => by omega⟩
  | n + 1 => by
    obtain ⟨h1, h2, h3⟩ := frzN_all hM n
    have s := frzR_stab (r := n) h1 24
    refine ⟨frzR_ok h1 24, ⟨h2.1.trans s.1, s.2.1.trans h2.2.1, s.2.2.trans h2.2.2⟩, fun q q1 q2 => ?_⟩
    by_cases e : q = n
    · rw [e]; exact frzR_done 24 _ h1 (comeL_len h1)
    · exact frzR_fzd h1 e (h3 q q1 (by omega)) 24
theorem frzM_ok (hM : okM M) : okM (frzM M) := (frzN_all hM _).1
theorem frzM_stab (hM : okM M) : stab M (frzM M) ∧ (frzM M) 0 = M 0 ∧ (frzM M) 7 = M 7 := (frzN_all hM _).2.1
def fzA (M : Row) : Prop := ∀ r, 0 ≤ r → r < M 5 → fzd M r
theorem frzM_fz (hM : okM M) : fzA (frzM M) := by
  have h5 := okM_5 hM
  obtain ⟨h1, h2, h3⟩ := frzN_all hM (M 5).toNat
  intro r q1 q2
  refine h3 r q1 ?_
  have : (frzM M) 5 = M 5 := h2.1.1 5 (by omega) (by omega) (by omega)
  omega
/-- the done ones are counted -/
def okD (M : Row) : Prop := M 7 = sm (fun k => bi (decide (ofM M k 7 = 2))) (M 6).toNat
theorem okD_same (h : okD M) (h7 : M' 7 = M 7) (h6 : M' 6 = M 6) (hs : ∀ f, 0 ≤ f → (ofM M' f 7 = 2 ↔ ofM M f 7 = 2)) : okD M' := by
  unfold okD at h ⊢
  rw [h7, h6, h]
  refine sm_congr fun k hk => ?_
  show bi (decide (ofM M k 7 = 2)) = bi (decide (ofM M' k 7 = 2))
  by_cases c : ofM M k 7 = 2
  · rw [bi_t c, bi_t ((hs k (by omega)).mpr c)]
  · rw [bi_f c, bi_f (fun z => c ((hs k (by omega)).mp z))]
theorem frz1_D {f t : Int} (hf : 0 ≤ f) (h7 : ofM M f 7 = 0) (h : okD M) : okD (frz1 M f t) := by
  refine okD_same h (frz1_lo hf (by omega)) (frz1_lo hf (by omega)) (fun g hg => ?_)
  by_cases e : g = f
  · rw [e, frz1_7]; omega
  · rw [frz1_ne (by omega) (Or.inl e)]
theorem frzR_D (hM : okM M) (h : okD M) (n : Nat) : okD (frzR r n M) := (frzR_ind (P := okD) (fun A f t _ h hf h7 _ => frz1_D hf.1 h7 h) n M hM h).2
theorem frzN_D (hM : okM M) (h : okD M) : ∀ n, okD (frzN M n)
  | 0 => h
  | n + 1 => frzR_D (frzN_all hM n).1 (frzN_D hM h n) 24
theorem frzM_D (hM : okM M) (h : okD M) : okD (frzM M) := frzN_D hM h _
/-- done -/
def fin1 (M : Row) (f : Int) : Row := upM (upM (upM M (56 + 16 * f + 7) 2) (32 + M 7) f) 7 (M 7 + 1)
theorem fin1_lo {f k : Int} (hf : 0 ≤ f) (hk : k < 56) (h7 : k ≠ 7) (h3 : k ≠ 32 + M 7) : fin1 M f k = M k := by
  unfold fin1
  rw [upM_ne _ h7, upM_ne _ h3, lo_up hk hf (by omega)]
theorem fin1_7 {f : Int} : fin1 M f 7 = M 7 + 1 := upM_same _ _ _
theorem fin1_d {f : Int} (h : 0 ≤ M 7) : fin1 M f (32 + M 7) = f := by
  unfold fin1
  rw [upM_ne _ (by omega), upM_same]
theorem fin1_of {f g w : Int} (h7 : 0 ≤ M 7 ∧ M 7 < 24) (hg : 0 ≤ g) (hw : 0 ≤ w ∧ w < 16) (h : g ≠ f ∨ w ≠ 7) : ofM (fin1 M f) g w = ofM M g w := by
  unfold fin1
  rw [of_lo (by omega) hg hw.1, of_lo (by omega) hg hw.1, of_ne hw (by omega) h]
theorem fin1_st {f : Int} (h7 : 0 ≤ M 7 ∧ M 7 < 24) (hf : 0 ≤ f) : ofM (fin1 M f) f 7 = 2 := by
  unfold fin1
  rw [of_lo (by omega) hf (by omega), of_lo (by omega) hf (by omega), of_same (by omega)]
theorem sm_lt {f : Nat → Int} {j : Nat} : ∀ {n : Nat}, (∀ k, k < n → 0 ≤ f k ∧ f k ≤ 1) → j < n → f j = 0 → sm f n ≤ n - 1
  | 0, _, h, _ => by omega
  | n + 1, h, hj, h0 => by
    unfold sm
    by_cases e : j = n
    · have := sm01 (n := n) (fun k hk => h k (by omega))
      rw [← e, h0, e]
      omega
    · have := sm_lt (n := n) (fun k hk => h k (by omega)) (by omega) h0
      have := h n (by omega)
      omega
theorem okD_lt {f : Int} (hM : okM M) (h : okD M) (hf : fl M f) (h7 : ofM M f 7 = 1) : M 7 < M 6 := by
  have hn := okM_n hM
  obtain ⟨j, rfl⟩ := Int.eq_ofNat_of_zero_le hf.1
  have := sm_lt (f := fun k => bi (decide (ofM M k 7 = 2))) (j := j) (n := (M 6).toNat) (fun k _ => bi_in _) (by omega) (bi_f (by omega))
  unfold okD at h
  omega
theorem okM_fin1 {f : Int} (hM : okM M) (h : okD M) (hf : fl M f) (h7 : ofM M f 7 = 1) : okM (fin1 M f) := by
  have hlt := okD_lt hM h hf h7
  have hn := okM_n hM
  obtain ⟨⟨g0, g1, g2, g3, g4, g5, g6, g7, g8, g9, g10⟩, hF⟩ := hM
  have e : ∀ k, k < 32 → k ≠ 7 → fin1 M f k = M k := fun k q1 q2 => fin1_lo hf.1 (by omega) q2 (by omega)
  refine ⟨?_, fun g q1 q2 => ?_⟩
  · unfold okS
    rw [e 0 (by omega) (by omega), e 1 (by omega) (by omega), e 2 (by omega) (by omega), e 3 (by omega) (by omega), e 4 (by omega) (by omega), e 5 (by omega) (by omega), e 6 (by omega) (by omega), fin1_7]
    refine ⟨g0, g1, g2, g3, g4, g5, g6, by omega, fun k q1 q2 => ?_, fun k q1 q2 => ?_, fun k q1 q2 => ?_⟩
    · rw [e _ (by omega) (by omega)]; exact g8 k q1 q2
    · rw [e _ (by omega) (by omega)]; exact g9 k q1 q2
    · by_cases c : k = M 7
      · rw [c, fin1_d g7.1]; exact hf
      · rw [fin1_lo hf.1 (by omega) (by omega) (by omega)]; exact g10 k q1 (by omega)
  · rw [e 6 (by omega) (by omega)] at q2
    by_cases c : g = f
    · subst c
      obtain ⟨h0, h1, h2, h3, h4, h5, h6, h7', h8, h9⟩ := hF g hf.1 hf.2
      unfold okF
      rw [fin1_of (by omega) hf.1 (by omega) (by omega), fin1_of (by omega) hf.1 (by omega) (by omega), fin1_of (by omega) hf.1 (by omega) (by omega), fin1_of (by omega) hf.1 (by omega) (by omega), fin1_of (by omega) hf.1 (by omega) (by omega), fin1_of (by omega) hf.1 (by omega) (by omega), fin1_of (by omega) hf.1 (by omega) (by omega), fin1_st (by omega) hf.1, fin1_of (by omega) hf.1 (by omega) (by omega), e 5 (by omega) (by omega)]
      exact ⟨h0, h1, h2, h3, h4, h5, h6, by omega, fun _ => h8 (Or.inl h7), h9⟩
    · exact okF_same (hF g q1 q2) (e 5 (by omega) (by omega)) (fun w w1 w2 => fin1_of (by omega) q1 (by omega) (Or.inl c))
theorem cnt_fin1 {f v : Int} (hM : okM M) (h : okD M) (hf : fl M f) (h7 : ofM M f 7 = 1) (x y : Int) (hx : bi (decide ((2 : Int) = v)) = x) (hy : bi (decide ((1 : Int) = v)) = y) : sm (fun k => bi (decide (ofM (fin1 M f) k 7 = v))) (M 6).toNat = sm (fun k => bi (decide (ofM M k 7 = v))) (M 6).toNat + x - y := by
  have hlt := okD_lt hM h hf h7
  have hn := okM_n hM
  have g7 := hM.1.2.2.2.2.2.2.2.1
  obtain ⟨j, rfl⟩ := Int.eq_ofNat_of_zero_le hf.1
  have := sm_one (f := fun k => bi (decide (ofM (fin1 M j) k 7 = v))) (g := fun k => bi (decide (ofM M k 7 = v))) (j := j) (n := (M 6).toNat) (fun k hk hkj => by
    show bi (decide (ofM (fin1 M j) k 7 = v)) = bi (decide (ofM M k 7 = v))
    rw [fin1_of (by omega) (by omega) (by omega) (by omega)]) (by omega)
  have e1 : bi (decide (ofM (fin1 M j) j 7 = v)) = x := by rw [fin1_st (by omega) hf.1]; exact hx
  have e2 : bi (decide (ofM M j 7 = v)) = y := by rw [h7]; exact hy
  simp only [e1, e2] at this
  omega
theorem fin1_D {f : Int} (hM : okM M) (h : okD M) (hf : fl M f) (h7 : ofM M f 7 = 1) : okD (fin1 M f) := by
  have hlt := okD_lt hM h hf h7
  have hn := okM_n hM
  have g7 := hM.1.2.2.2.2.2.2.2.1
  have := cnt_fin1 (v := 2) hM h hf h7 1 0 (by decide) (by decide)
  unfold okD at h ⊢
  rw [fin1_7, fin1_lo hf.1 (by omega) (by omega) (by omega)]
  omega
def frzC (M : Row) : Int := sm (fun k => bi (decide (ofM M k 7 = 1))) (M 6).toNat
theorem fin1_C {f : Int} (hM : okM M) (h : okD M) (hf : fl M f) (h7 : ofM M f 7 = 1) : frzC (fin1 M f) = frzC M - 1 := by
  have hlt := okD_lt hM h hf h7
  have hn := okM_n hM
  have g7 := hM.1.2.2.2.2.2.2.2.1
  have := cnt_fin1 (v := 1) hM h hf h7 0 1 (by decide) (by decide)
  unfold frzC
  rw [fin1_lo hf.1 (by omega) (by omega) (by omega)]
  omega
def finN : Nat → Row → Row
  | 0, M => M
  | n + 1, M => if ndM M = -1 then M else finN n (fin1 M (ndM M))
abbrev finM (M : Row) : Row := finN 24 M
theorem nd_fl (hM : okM M) (h : ¬ ndM M = -1) : fl M (ndM M) ∧ ofM M (ndM M) 7 = 1 ∧ ofM M (ndM M) 8 ≤ M 0 := by
  have hn := okM_n hM
  rcases ndN_in (M := M) (n := (M 6).toNat) with q | q
  · exact absurd q h
  · have h9 : ndN M (M 6).toNat < M 6 := by omega
    exact ⟨⟨q.1, h9⟩, q.2.2⟩
theorem nd_none (hM : okM M) (h : frzC M = 0) : ndM M = -1 := by
  have hn := okM_n hM
  refine Decidable.byContradiction fun q => ?_
  have f := nd_fl hM q
  obtain ⟨j, hj⟩ := Int.eq_ofNat_of_zero_le f.1.1
  have e := sm_one (f := fun k => bi (decide (ofM M k 7 = 1))) (g := fun k => if k = j then 0 else bi (decide (ofM M k 7 = 1))) (j := j) (n := (M 6).toNat) (fun k _ hk => by simp [hk]) (by omega)
  have e2 := sm01 (f := fun k => if k = j then 0 else bi (decide (ofM M k 7 = 1))) (n := (M 6).toNat) (fun k _ => by
    have := bi_in (decide (ofM M k 7 = 1))
    split <;> omega)
  have e3 : bi (decide (ofM M j 7 = 1)) = 1 := bi_t (by rw [← hj]; exact f.2.1)
  simp only [if_true, e3] at e
  unfold frzC at h
  omega
theorem finN_ind {P : Row → Prop} (hs : ∀ M f, okM M → okD M → P M → fl M f → ofM M f 7 = 1 → P (fin1 M f)) : ∀ (n : Nat) (M : Row), okM M → okD M → P M → okM (finN n M) ∧ okD (finN n M) ∧ P (finN n M)
  | 0, M, hM, hD, hP => ⟨hM, hD, hP⟩
  | n + 1, M, hM, hD, hP => by
    unfold finN
    split
    · exact ⟨hM, hD, hP⟩
    · rename_i h
      have f := nd_fl hM h
      exact finN_ind hs n _ (okM_fin1 hM hD f.1 f.2.1) (fin1_D hM hD f.1 f.2.1) (hs _ _ hM hD hP f.1 f.2.1)
theorem fin1_stab {f : Int} (hM : okM M) (h : okD M) (hf : fl M f) (h7 : ofM M f 7 = 1) : stab M (fin1 M f) := by
  have hlt := okD_lt hM h hf h7
  have hn := okM_n hM
  have g7 := hM.1.2.2.2.2.2.2.2.1
  exact ⟨fun k a b c => fin1_lo hf.1 (by omega) c (by omega), fun g w a b c d e => fin1_of (by omega) a (by omega) (Or.inr d)⟩
theorem finM_ok (hM : okM M) (hD : okD M) : okM (finM M) ∧ okD (finM M) ∧ stab M (finM M) ∧ (finM M) 0 = M 0 := by
  refine finN_ind (P := fun M' => stab M M' ∧ M' 0 = M 0) (fun A f hA dA h hf h7 => ⟨h.1.trans (fin1_stab hA dA hf h7), ?_⟩) 24 M hM hD ⟨stab.rf, rfl⟩
  have g7 := hA.1.2.2.2.2.2.2.2.1
  rw [fin1_lo hf.1 (by omega) (by omega) (by omega)]
  exact h.2
/-- the clock -/
theorem okM_mv {t : Int} (hM : okM M) (ht : 0 ≤ t ∧ t ≤ 207200) : okM (upM M 0 t) := by
  obtain ⟨⟨h0, h1, h2, h3, h4, h5, h6, h7, h8, h9, h10⟩, hF⟩ := hM
  have e : ∀ k, k ≠ 0 → upM M 0 t k = M k := fun k hk => upM_ne _ hk
  refine ⟨?_, fun f q1 q2 => ?_⟩
  · unfold okS
    rw [upM_same, e 1 (by omega), e 2 (by omega), e 3 (by omega), e 4 (by omega), e 5 (by omega), e 6 (by omega), e 7 (by omega)]
    refine ⟨ht, h1, h2, h3, h4, h5, h6, h7, fun k q1 q2 => ?_, fun k q1 q2 => ?_, fun k q1 q2 => ?_⟩
    · rw [e _ (by omega)]; exact h8 k q1 q2
    · rw [e _ (by omega)]; exact h9 k q1 q2
    · rw [e _ (by omega)]; exact h10 k q1 q2
  · rw [e 6 (by omega)] at q2
    exact okF_same (hF f q1 q2) (e 5 (by omega)) (fun w w1 w2 => e _ (by omega))
theorem mv_D {t : Int} (h : okD M) : okD (upM M 0 t) := okD_same h (upM_ne _ (by omega)) (upM_ne _ (by omega)) (fun f hf => by rw [of_lo (by omega) hf (by omega)])
theorem mv_stab {t : Int} : stab M (upM M 0 t) := ⟨fun k a b c => upM_ne _ (by omega), fun f w a b c d e => of_lo (by omega) a b⟩
noncomputable def stepM (M : Row) (t : Int) : Row := frzM (finM (upM M 0 (nxT M t)))
noncomputable def pasN (t : Int) : Nat → Row → Row
  | 0, M => M
  | n + 1, M => if M 0 = t then M else pasN t n (stepM M t)
noncomputable def pasM (M : Row) (t : Int) : Row := pasN t (t - M 0).toNat (frzM M)
theorem nxN_in (hM : okM M) (hz : fzA M) {t : Int} (ht : M 0 < t) : ∀ {n : Nat}, (n : Int) ≤ M 5 → M 0 < nxN M t n ∧ nxN M t n ≤ t
  | 0, _ => ⟨ht, Int.le_refl _⟩
  | n + 1, hn => by
    have ih := nxN_in hM hz ht (n := n) (by omega)
    unfold nxN
    split
    · exact ih
    · rename_i h
      rcases hz n (by omega) (by omega) with q | q
      · exact absurd q h
      · omega
theorem nxT_in (hM : okM M) (hz : fzA M) {t : Int} (ht : M 0 < t) : M 0 < nxT M t ∧ nxT M t ≤ t := by
  have := okM_5 hM
  exact nxN_in hM hz ht (by omega)
/-- one step of the clock -/
theorem step_ok (hM : okM M) (hD : okD M) (hz : fzA M) {t : Int} (ht : M 0 < t ∧ t ≤ 207200) : okM (stepM M t) ∧ okD (stepM M t) ∧ fzA (stepM M t) ∧ stab M (stepM M t) ∧ (stepM M t) 0 = nxT M t := by
  have h0 := hM.1.1
  have hx := nxT_in hM hz ht.1
  have m := okM_mv hM (t := nxT M t) (by omega)
  obtain ⟨f1, f2, f3, f4⟩ := finM_ok m (mv_D hD)
  have z := frzM_stab f1
  exact ⟨frzM_ok f1, frzM_D f1 f2, frzM_fz f1, (mv_stab.trans f3).trans z.1, z.2.1.trans (f4.trans (upM_same _ _ _))⟩
theorem pasN_ok {t : Int} (ht : t ≤ 207200) : ∀ {n : Nat} {M : Row}, okM M → okD M → fzA M → M 0 ≤ t → t - M 0 ≤ n → okM (pasN t n M) ∧ okD (pasN t n M) ∧ fzA (pasN t n M) ∧ stab M (pasN t n M) ∧ (pasN t n M) 0 = t
  | 0, M, hM, hD, hz, h1, h2 => ⟨hM, hD, hz, stab.rf, by show M 0 = t; omega⟩
  | n + 1, M, hM, hD, hz, h1, h2 => by
    unfold pasN
    split
    · exact ⟨hM, hD, hz, stab.rf, by assumption⟩
    · have hx := nxT_in hM hz (t := t) (by omega)
      obtain ⟨s1, s2, s3, s4, s5⟩ := step_ok hM hD hz (t := t) ⟨by omega, ht⟩
      obtain ⟨p1, p2, p3, p4, p5⟩ := pasN_ok ht (n := n) s1 s2 s3 (by omega) (by omega)
      exact ⟨p1, p2, p3, s4.trans p4, p5⟩
theorem pasM_ok {t : Int} (hM : okM M) (hD : okD M) (ht : M 0 ≤ t ∧ t ≤ 207200) : okM (pasM M t) ∧ okD (pasM M t) ∧ stab M (pasM M t) ∧ (pasM M t) 0 = t := by
  have z := frzM_stab hM
  obtain ⟨p1, p2, p3, p4, p5⟩ := pasN_ok ht.2 (n := (t - M 0).toNat) (frzM_ok hM) (frzM_D hM hD) (frzM_fz hM) (by omega) (by omega)
  exact ⟨p1, p2, z.1.trans p4, p5⟩
end
