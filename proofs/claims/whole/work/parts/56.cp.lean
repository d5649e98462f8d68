/-! the class: copies of states, the empty state -/
section
variable {l : Launch} {G : GT}
theorem k_copyRules {d : Nat} {H : AH} {a b : Int} (hA : Lay LRul H a) (hB : Lay LRul H b) (hsep : a + 4 ≤ b ∨ b + 4 ≤ a) (hd : 1 ≤ d := by omega) :
    CL l G mX4_copyFrom d 0 0 [vR a, vR b] H (fun v H' => v = vV ∧ only H H' (fun c i => (c = a ∧ 0 ≤ i ∧ i ≤ 4) ∨ (a + 1 ≤ c ∧ c ≤ a + 3)) ∧ (∀ i, 0 ≤ i ∧ i ≤ 4 → hg H' a i = hg H b i) ∧ (∀ i, 0 ≤ i ∧ i < 16 → hg H' (a + 1) i = hg H (b + 1) i) ∧ (∀ i, 0 ≤ i ∧ i < 4 → hg H' (a + 2) i = hg H (b + 2) i) ∧ (∀ i, 0 ≤ i ∧ i < 4 → hg H' (a + 3) i = hg H (b + 3) i)) := by
  obtain ⟨d, rfl⟩ : ∃ k, d = k + 1 := ⟨d - 1, by omega⟩
  refine CL.of (by decide) rfl (Nat.le_of_ble_eq_true rfl) (s_X4_copyFrom_0 hA hB fun H1 e1 H2 e2 H3 e3 H4 e4 H5 e5 H6 o6 v6 H7 o7 v7 H8 o8 v8 => ?_)
  have f2 : hg H1 b 1 = hg H b 1 := by rw [e1, hg_ne _ (by omega)]
  rw [f2] at e2
  have f3 : hg H2 b 2 = hg H b 2 := by rw [e2, hg_ne _ (by omega), e1, hg_ne _ (by omega)]
  rw [f3] at e3
  have f4 : hg H3 b 3 = hg H b 3 := by rw [e3, hg_ne _ (by omega), e2, hg_ne _ (by omega), e1, hg_ne _ (by omega)]
  rw [f4] at e4
  have f5 : hg H4 b 4 = hg H b 4 := by rw [e4, hg_ne _ (by omega), e3, hg_ne _ (by omega), e2, hg_ne _ (by omega), e1, hg_ne _ (by omega)]
  rw [f5] at e5
  have r5 : ∀ c i, c ≠ a → hg H5 c i = hg H c i := fun c i h => by rw [e5, hg_ne _ (by omega), e4, hg_ne _ (by omega), e3, hg_ne _ (by omega), e2, hg_ne _ (by omega), e1, hg_ne _ (by omega)]
  have o5 : only H H5 (fun c i => (c = a ∧ 0 ≤ i ∧ i ≤ 4) ∨ (a + 1 ≤ c ∧ c ≤ a + 3)) := by
    rw [e5, e4, e3, e2, e1]
    exact ((((only.wr (Or.inl ⟨rfl, by omega, by omega⟩)).then (Or.inl ⟨rfl, by omega, by omega⟩)).then (Or.inl ⟨rfl, by omega, by omega⟩)).then (Or.inl ⟨rfl, by omega, by omega⟩)).then (Or.inl ⟨rfl, by omega, by omega⟩)
  refine ⟨rfl, ((o5.trans (o6.mono fun c i h => Or.inr (by omega))).trans (o7.mono fun c i h => Or.inr (by omega))).trans (o8.mono fun c i h => Or.inr (by omega)), fun i hi => ?_, fun i hi => ?_, fun i hi => ?_, fun i hi => ?_⟩
  · rw [o8.2.2 _ _ (by omega), o7.2.2 _ _ (by omega), o6.2.2 _ _ (by omega)]
    have : i = 0 ∨ i = 1 ∨ i = 2 ∨ i = 3 ∨ i = 4 := by omega
    rcases this with rfl | rfl | rfl | rfl | rfl
    · rw [e5, hg_ne _ (by omega), e4, hg_ne _ (by omega), e3, hg_ne _ (by omega), e2, hg_ne _ (by omega), e1, hg_same]
    · rw [e5, hg_ne _ (by omega), e4, hg_ne _ (by omega), e3, hg_ne _ (by omega), e2, hg_same]
    · rw [e5, hg_ne _ (by omega), e4, hg_ne _ (by omega), e3, hg_same]
    · rw [e5, hg_ne _ (by omega), e4, hg_same]
    · rw [e5, hg_same]
  · rw [o8.2.2 _ _ (by omega), o7.2.2 _ _ (by omega), v6 i (by omega) (by omega), r5 _ _ (by omega), show 0 + (i - 0) = i by omega]
  · rw [o8.2.2 _ _ (by omega), v7 i (by omega) (by omega), o6.2.2 _ _ (by omega), r5 _ _ (by omega), show 0 + (i - 0) = i by omega]
  · rw [v8 i (by omega) (by omega), o7.2.2 _ _ (by omega), o6.2.2 _ _ (by omega), r5 _ _ (by omega), show 0 + (i - 0) = i by omega]
theorem k_copyFlights {d : Nat} {H : AH} {a b n : Int} (hA : Lay LFli H a) (hB : Lay LFli H b) (hsep : a + 9 ≤ b ∨ b + 9 ≤ a) (hn : hg H b 0 = n) (hn2 : 0 ≤ n ∧ n ≤ 24) (h01 : ∀ i, 0 ≤ i ∧ i < n → hg H (b + 3) i = 0 ∨ hg H (b + 3) i = 1) (hd : 1 ≤ d := by omega) :
    CL l G mX0_copyFrom d 0 0 [vR a, vR b] H (fun v H' => v = vV ∧ only H H' (fun c i => (c = a ∧ i = 0) ∨ (a + 1 ≤ c ∧ c ≤ a + 8)) ∧ hg H' a 0 = n ∧ (∀ i, 0 ≤ i ∧ i < n * 6 → hg H' (a + 1) i = hg H (b + 1) i) ∧ (∀ o i, 2 ≤ o → o ≤ 8 → 0 ≤ i → i < n → hg H' (a + o) i = hg H (b + o) i)) := by
  obtain ⟨d, rfl⟩ : ∃ k, d = k + 1 := ⟨d - 1, by omega⟩
  have nr : ∀ c i, (c = a ∧ i = 0) ∨ (a + 1 ≤ c ∧ c ≤ a + 8) → nrf H c i := by
    rintro c i (⟨rfl, rfl⟩ | ⟨h1, h2⟩)
    · exact nrf_fld 0 (kFli_0 hA) (by decide) (by decide)
    · have : c = a + 1 ∨ c = a + 2 ∨ c = a + 3 ∨ c = a + 4 ∨ c = a + 5 ∨ c = a + 6 ∨ c = a + 7 ∨ c = a + 8 := by omega
      rcases this with rfl | rfl | rfl | rfl | rfl | rfl | rfl | rfl
      · exact nrf_arr (kFli_1 hA) (by decide) (by decide)
      · exact nrf_arr (kFli_2 hA) (by decide) (by decide)
      · exact nrf_arr (kFli_3 hA) (by decide) (by decide)
      · exact nrf_arr (kFli_4 hA) (by decide) (by decide)
      · exact nrf_arr (kFli_5 hA) (by decide) (by decide)
      · exact nrf_arr (kFli_6 hA) (by decide) (by decide)
      · exact nrf_arr (kFli_7 hA) (by decide) (by decide)
      · exact nrf_arr (kFli_8 hA) (by decide) (by decide)
  have env : ∀ H1, only H H1 (fun c i => (c = a ∧ i = 0) ∨ (a + 1 ≤ c ∧ c ≤ a + 8)) → Lay LFli H1 a ∧ Lay LFli H1 b ∧ ∀ c i, (c < a ∨ a + 9 ≤ c) → hg H1 c i = hg H c i := fun H1 o => ⟨hA.only ok_Fli o nr, hB.only ok_Fli o nr, fun c i h => o.2.2 _ _ (by omega)⟩
  have key : ∀ j, j ≤ n.toNat → ∀ H1, only H H1 (fun c i => (c = a ∧ i = 0) ∨ (a + 1 ≤ c ∧ c ≤ a + 8)) → hg H1 a 0 = n → (∀ i, 0 ≤ i ∧ i < n * 6 → hg H1 (a + 1) i = hg H (b + 1) i) → (∀ i, 0 ≤ i ∧ i < n → hg H1 (a + 2) i = hg H (b + 2) i) → (∀ i : Int, 0 ≤ i ∧ i < j → hg H1 (a + 3) i = hg H (b + 3) i) →
      AW l G mX0_copyFrom (d + 1) 0 0 (fun v H' => v = vV ∧ only H H' (fun c i => (c = a ∧ i = 0) ∨ (a + 1 ≤ c ∧ c ≤ a + 8)) ∧ hg H' a 0 = n ∧ (∀ i, 0 ≤ i ∧ i < n * 6 → hg H' (a + 1) i = hg H (b + 1) i) ∧ (∀ o i, 2 ≤ o → o ≤ 8 → 0 ≤ i → i < n → hg H' (a + o) i = hg H (b + o) i)) 47 [vR a, vR b, vI j] [] 0 0 H1 := by
    refine upN _ ?_ ?_
    · intro j hj ih H1 o1 v0 v1 v2 v3
      obtain ⟨A1, B1, r1⟩ := env H1 o1
      refine s_X0_copyFrom_47 A1 B1 ?_
      rw [v0, r1 (b + 3) j (by omega)]
      refine ⟨fun c => absurd c (by omega), fun _ => ⟨by omega, h01 j (by omega), fun H2 e2 => ⟨by omega, ih H2 (by rw [e2]; exact o1.then (Or.inr (by omega))) (by rw [e2, hg_ne _ (by omega)]; exact v0) (fun i hi => by rw [e2, hg_ne _ (by omega)]; exact v1 i hi) (fun i hi => by rw [e2, hg_ne _ (by omega)]; exact v2 i hi) (fun i hi => ?_)⟩⟩⟩
      by_cases c : i = j
      · rw [c, e2, hg_same]
      · rw [e2, hg_ne _ (by omega)]; exact v3 i (by omega)
    · intro H1 o1 v0 v1 v2 v3
      obtain ⟨A1, B1, r1⟩ := env H1 o1
      refine s_X0_copyFrom_47 A1 B1 ⟨fun _ => ?_, fun c => absurd c (by rw [v0]; omega)⟩
      rw [v0]
      refine ⟨by omega, by omega, fun H2 o2 w2 => ?_⟩
      have z2 : hg H2 a 0 = n := (o2.2.2 _ _ (by omega)).trans v0
      rw [z2]
      refine ⟨by omega, by omega, fun H3 o3 w3 => ?_⟩
      have z3 : hg H3 a 0 = n := (o3.2.2 _ _ (by omega)).trans z2
      rw [z3]
      refine ⟨by omega, by omega, fun H4 o4 w4 => ?_⟩
      have z4 : hg H4 a 0 = n := (o4.2.2 _ _ (by omega)).trans z3
      rw [z4]
      refine ⟨by omega, by omega, fun H5 o5 w5 => ?_⟩
      have z5 : hg H5 a 0 = n := (o5.2.2 _ _ (by omega)).trans z4
      rw [z5]
      refine ⟨by omega, by omega, fun H6 o6 w6 => ?_⟩
      refine ⟨rfl, ((((o1.trans (o2.mono fun c i h => Or.inr (by omega))).trans (o3.mono fun c i h => Or.inr (by omega))).trans (o4.mono fun c i h => Or.inr (by omega))).trans (o5.mono fun c i h => Or.inr (by omega))).trans (o6.mono fun c i h => Or.inr (by omega)), (o6.2.2 _ _ (by omega)).trans z5, fun i hi => ?_, fun o i q1 q2 q3 q4 => ?_⟩
      · rw [o6.2.2 _ _ (by omega), o5.2.2 _ _ (by omega), o4.2.2 _ _ (by omega), o3.2.2 _ _ (by omega), o2.2.2 _ _ (by omega)]; exact v1 i hi
      · have : o = 2 ∨ o = 3 ∨ o = 4 ∨ o = 5 ∨ o = 6 ∨ o = 7 ∨ o = 8 := by omega
        have ei : 0 + (i - 0) = i := by omega
        rcases this with rfl | rfl | rfl | rfl | rfl | rfl | rfl
        · rw [o6.2.2 _ _ (by omega), o5.2.2 _ _ (by omega), o4.2.2 _ _ (by omega), o3.2.2 _ _ (by omega), o2.2.2 _ _ (by omega)]; exact v2 i ⟨q3, q4⟩
        · rw [o6.2.2 _ _ (by omega), o5.2.2 _ _ (by omega), o4.2.2 _ _ (by omega), o3.2.2 _ _ (by omega), o2.2.2 _ _ (by omega)]; exact v3 i ⟨q3, by omega⟩
        · rw [o6.2.2 _ _ (by omega), o5.2.2 _ _ (by omega), o4.2.2 _ _ (by omega), o3.2.2 _ _ (by omega), w2 i (by omega) (by omega), r1 _ _ (by omega), ei]
        · rw [o6.2.2 _ _ (by omega), o5.2.2 _ _ (by omega), o4.2.2 _ _ (by omega), w3 i (by omega) (by omega), o2.2.2 _ _ (by omega), r1 _ _ (by omega), ei]
        · rw [o6.2.2 _ _ (by omega), o5.2.2 _ _ (by omega), w4 i (by omega) (by omega), o3.2.2 _ _ (by omega), o2.2.2 _ _ (by omega), r1 _ _ (by omega), ei]
        · rw [o6.2.2 _ _ (by omega), w5 i (by omega) (by omega), o4.2.2 _ _ (by omega), o3.2.2 _ _ (by omega), o2.2.2 _ _ (by omega), r1 _ _ (by omega), ei]
        · rw [w6 i (by omega) (by omega), o5.2.2 _ _ (by omega), o4.2.2 _ _ (by omega), o3.2.2 _ _ (by omega), o2.2.2 _ _ (by omega), r1 _ _ (by omega), ei]
  refine CL.of (by decide) rfl (Nat.le_of_ble_eq_true rfl) (s_X0_copyFrom_0 hA hB fun H1 e1 => ?_)
  rw [hn] at e1
  have v0 : hg H1 a 0 = n := by rw [e1, hg_same]
  have r1 : ∀ c i, c ≠ a → hg H1 c i = hg H c i := fun c i h => by rw [e1, hg_ne _ (by omega)]
  rw [v0]
  refine ⟨by omega, by omega, by omega, fun H2 o2 w2 => ?_⟩
  have z2 : hg H2 a 0 = n := (o2.2.2 _ _ (by omega)).trans v0
  rw [z2]
  refine ⟨by omega, by omega, fun H3 o3 w3 => ?_⟩
  refine key 0 (Nat.zero_le _) H3 (((by rw [e1]; exact only.wr (Or.inl ⟨rfl, rfl⟩) : only H H1 _).trans (o2.mono fun c i h => Or.inr (by omega))).trans (o3.mono fun c i h => Or.inr (by omega))) ((o3.2.2 _ _ (by omega)).trans z2) (fun i hi => ?_) (fun i hi => ?_) (fun i hi => by omega)
  · rw [o3.2.2 _ _ (by omega), w2 i (by omega) (by omega), r1 _ _ (by omega), show 0 + (i - 0) = i by omega]
  · rw [w3 i (by omega) (by omega), o2.2.2 _ _ (by omega), r1 _ _ (by omega), show 0 + (i - 0) = i by omega]
/-- names -/
def NM (H : AH) (b : Int) (M : Row) : Prop := ∀ f, fl M f → (1 ≤ hg H (b + 7) f ∧ hg H (b + 7) f ≤ 6) ∧ ∀ k, 0 ≤ k ∧ k < 6 → ofM M f (10 + k) = (if k < hg H (b + 7) f then hg H (b + 6) (f * 6 + k) else 0) ∧ (k < hg H (b + 7) f → 97 ≤ hg H (b + 6) (f * 6 + k) ∧ hg H (b + 6) (f * 6 + k) ≤ 122)
theorem NM.step {H H' : AH} {b : Int} {M M' : Row} (h : NM H b M) (h6 : M' 6 = M 6) (hw : ∀ f w, fl M f → 10 ≤ w → w < 16 → ofM M' f w = ofM M f w) (e : ∀ c i, c = b + 6 ∨ c = b + 7 → hg H' c i = hg H c i) : NM H' b M' := by
  intro f hf
  have hf0 : fl M f := by unfold fl at hf ⊢; rw [h6] at hf; exact hf
  obtain ⟨h1, h2⟩ := h f hf0
  refine ⟨by rw [e _ _ (Or.inr rfl)]; exact h1, fun k hk => ?_⟩
  rw [e _ _ (Or.inr rfl), e _ _ (Or.inl rfl), hw f _ hf0 (by omega) (by omega)]
  exact h2 k hk
/-- a State block: its cells, times in their bounds -/
def SB (H : AH) (b : Int) : Prop := Lay LSta H b ∧ ∀ i, 0 ≤ i ∧ i < 24 → 0 ≤ hg H (b + 16) i ∧ hg H (b + 16) i ≤ 400000
theorem SX.sb {H : AH} {b : Int} {M : Row} (h : SX H b M) : SB H b := ⟨h.1.1, fun i hi => h.2.1.1 i hi.1 hi.2⟩
end
