/-! the reference: flights, statements -/
section
variable {l : Launch} {G : GT} {H : AH} {a n p q s z : Int} {B R : Row} {σ : PS} {d : Nat}
theorem nmS_R {lo hi : Int} : (nmS B n σ lo hi).1.2.2.2 = σ.2.2.2 := by unfold nmS; split <;> rfl
theorem kdS_R : (kdS B n σ).1.2.2.2 = σ.2.2.2 := by unfold kdS; split <;> rfl
theorem MJ.rr (h : MJ H a B n σ) : RR H (a + 2) σ.2.2.2 := ⟨sA_Mod_2 h.1, h.2.2.2.2⟩
theorem MJ.bb (h : MJ H a B n σ) (hl : ∀ i, s ≤ i → i < z → 97 ≤ B i ∧ B i ≤ 122) (hs : 0 ≤ s ∧ z ≤ n) : ∀ i, s ≤ i → i < z → hg H (a + 6) i = B i := by
  intro i i1 i2
  have := h.2.2.2.1 i (by omega) (by omega)
  have := hl i i1 i2
  omega
/-- a row with the first letters of a name -/
def namK (R B : Row) (s z f k : Int) : Row := fun j => if 56 + 16 * f + 10 ≤ j ∧ j < 56 + 16 * f + 10 + k then (if s + (j - (56 + 16 * f + 10)) < z then B (s + (j - (56 + 16 * f + 10))) else 0) else R j
theorem c_newName {f : Int} (h : MJ H a B n (0, q, p, R)) (hf : 0 ≤ f ∧ f < 24) (h6 : 0 ≤ R 6 ∧ R 6 ≤ 24) (hd : 3 ≤ d := by omega) : CL l G mX8_newName d 0 0 [vR a, vI f] H (fun r H' => r = vV ∧ only H H' (pMr a) ∧ MJ H' a B n (namS B n (0, q, p, R) f)) := by
  obtain ⟨d, rfl⟩ : ∃ k, d = k + 1 := ⟨d - 1, by omega⟩
  have hp : 0 ≤ p ∧ p ≤ n ∧ n ≤ 900 := h.2.2.1
  have sf := spE_f (B := B) (i := p) hp.2.1
  have wf := wdE_f (B := B) (i := spE B n p) sf.2.1
  refine CL.of (by decide) rfl (Nat.le_of_ble_eq_true rfl) (s_X8_newName_0 h.1 (CL.mono (c_reads h) ?_))
  rintro r H1 ⟨rfl, o1, M1, t1⟩
  have M1 : MJ H1 a B n (0, q, wdE B n (spE B n p), R) := M1
  have t1 : hg H1 a 9 = spE B n p := t1
  obtain ⟨s, hsp⟩ : ∃ s, s = spE B n p := ⟨_, rfl⟩
  have e0 : namS B n (0, q, p, R) f = if ¬ (1 ≤ wdE B n s - s ∧ wdE B n s - s ≤ 6) then (1, s, wdE B n s, R) else if fnd R B s (wdE B n s) ≠ -1 then (3, s, wdE B n s, R) else (0, s, wdE B n s, namR R B s (wdE B n s) f) := by rw [hsp]; rfl
  rw [← hsp] at sf wf t1 M1
  obtain ⟨z, hz⟩ : ∃ z, z = wdE B n s := ⟨_, rfl⟩
  rw [← hz] at e0 wf M1
  have l8 : hg H1 a 8 = z := M1.2.1.2.1
  have hl : ∀ i, s ≤ i → i < z → 97 ≤ B i ∧ B i ≤ 122 := fun i i1 i2 => isLt_t.mp (wf.2.2.1 i i1 i2)
  refine ⟨M1.1, rfl, ?_⟩
  rw [l8, t1]
  refine ⟨by omega, fun c => CL.mono (c_findIn (B := B) M1.1 M1.rr h6 t1 l8 (by omega) (M1.bb hl (by omega))) ?_, fun c => CL.mono (c_fails M1) ?_⟩
  · rintro r H2 ⟨rfl, rfl⟩
    refine ⟨M1.1, _, rfl, fun c2 => ?_, fun c2 => ?_⟩
    · have c2 : fnd R B s z = -1 := c2
      rw [if_neg (fun w => w c), if_neg (fun w => w c2)] at e0
      rw [e0]
      have key : ∀ k : Nat, k ≤ 6 → ∀ H3, only H H3 (pMr a) → MJ H3 a B n (0, s, z, namK R B s z f k) → hg H3 a 9 = s → AW l G mX8_newName (d + 1) 0 0 (fun r H' => r = vV ∧ only H H' (pMr a) ∧ MJ H' a B n (0, s, z, namR R B s z f)) 56 [vR a, vI f, vI k] [] 0 0 H3 := by
        refine upN _ ?_ ?_
        · intro k hk ih H3 o3 M3 t3
          have m8 : hg H3 a 8 = z := M3.2.1.2.1
          have step : ∀ v H4, v = (if s + k < z then B (s + k) else 0) → H4 = hs H3 (a + 2) (56 + 16 * f + (10 + k)) v → AW l G mX8_newName (d + 1) 0 0 (fun r H' => r = vV ∧ only H H' (pMr a) ∧ MJ H' a B n (0, s, z, namR R B s z f)) 56 [vR a, vI f, vI (k + 1)] [] 0 0 H4 := by
            intro v H4 ev e4
            refine ih H4 (by rw [e4]; exact o3.then (Or.inr rfl)) ?_ (by rw [e4, hg_ne _ (by omega)]; exact t3)
            rw [e4]
            refine (M3.up (k := 56 + 16 * f + (10 + k)) (v := v)).eta ?_
            unfold upS
            refine congrArg (fun w => ((0, s, z, w) : PS)) ?_
            funext j
            show namK R B s z f ((k + 1 : Nat) : Int) j = upM (namK R B s z f k) (56 + 16 * f + (10 + k)) v j
            unfold namK
            by_cases e : j = 56 + 16 * f + (10 + k)
            · rw [e, upM_same, if_pos (by omega), show s + (56 + 16 * f + (10 + (k : Int)) - (56 + 16 * f + 10)) = s + k by omega, ev]
            · rw [upM_ne _ e]
              by_cases c3 : 56 + 16 * f + 10 ≤ j ∧ j < 56 + 16 * f + 10 + k
              · rw [if_pos (show 56 + 16 * f + 10 ≤ j ∧ j < 56 + 16 * f + 10 + ((k + 1 : Nat) : Int) by omega), if_pos c3]
              · rw [if_neg (show ¬ (56 + 16 * f + 10 ≤ j ∧ j < 56 + 16 * f + 10 + ((k + 1 : Nat) : Int)) by omega), if_neg c3]
          refine s_X8_newName_56 M3.1 ⟨fun c => absurd c (by omega), fun _ => ?_⟩
          rw [t3, m8]
          refine ⟨by omega, by omega, by omega, fun c3 => ⟨by omega, fun H4 e4 => ⟨by omega, step 0 H4 (by rw [if_neg (by omega)]) e4⟩⟩, fun c3 => ⟨by omega, by omega, fun H4 e4 => ⟨by omega, step _ H4 ?_ e4⟩⟩⟩
          rw [if_pos c3]
          exact M3.bb hl (by omega) _ (by omega) c3
        · intro H3 o3 M3 t3
          refine s_X8_newName_56 M3.1 ⟨fun _ => ⟨rfl, o3, M3.eta ?_⟩, fun c => absurd c (by omega)⟩
          refine congrArg (fun w => ((0, s, z, w) : PS)) ?_
          funext j
          unfold namR namK
          by_cases c3 : 56 + 16 * f + 10 ≤ j ∧ j < 56 + 16 * f + 16
          · rw [if_pos c3, if_pos (show 56 + 16 * f + 10 ≤ j ∧ j < 56 + 16 * f + 10 + ((6 : Nat) : Int) by omega)]
          · rw [if_neg c3, if_neg (show ¬ (56 + 16 * f + 10 ≤ j ∧ j < 56 + 16 * f + 10 + ((6 : Nat) : Int)) by omega)]
      refine key 0 (Nat.zero_le _) _ o1 ?_ t1
      have M1' : MJ H2 a B n (0, s, z, R) := ⟨M1.1, ⟨M1.2.1.1, M1.2.1.2.1, M1.2.1.2.2.1, fun w => absurd rfl w⟩, M1.2.2.1, M1.2.2.2.1, M1.2.2.2.2⟩
      refine M1'.eta (congrArg (fun w => ((0, s, z, w) : PS)) ?_)
      funext j
      unfold namK
      rw [if_neg (by omega)]
    · have c2 : fnd R B s z ≠ -1 := c2
      rw [if_neg (fun w => w c), if_pos c2] at e0
      rw [e0, t1]
      refine CL.mono (c_fails M1) ?_
      rintro r H3 ⟨rfl, o3, M3, t3⟩
      rw [if_pos rfl] at M3
      exact ⟨M3.1, rfl, rfl, o1.trans o3, M3⟩
  · rintro r H2 ⟨rfl, o2, M2, t2⟩
    rw [if_pos c] at e0
    rw [e0]
    rw [if_pos rfl] at M2
    exact ⟨M2.1, rfl, rfl, o1.trans o2, M2⟩
theorem c_flightPart {arr : Int} (hT : gT G) (h : MJ H a B n (0, q, p, R)) (h9 : hg H a 9 = s) (ha : arr = 0 ∨ arr = 1) (h5 : 1 ≤ R 5 ∧ R 5 ≤ 3) (h6 : 0 ≤ R 6 ∧ R 6 ≤ 24) (hd : 6 ≤ d := by omega) : CL l G mX8_flightPart d 0 0 [vR a, vI arr] H (fun r H' => r = vV ∧ only H H' (pMr a) ∧ MJ H' a B n (flyS B n (0, q, p, R) s arr)) := by
  obtain ⟨d, rfl⟩ : ∃ k, d = k + 1 := ⟨d - 1, by omega⟩
  have hp5 := pw_in h5
  have r6 : hg H (a + 2) 6 = R 6 := h.2.2.2.2 6 (by omega) (by omega)
  refine CL.of (by decide) rfl (Nat.le_of_ble_eq_true rfl) (s_X8_flightPart_0 h.1 ?_)
  rw [r6, h9]
  refine ⟨fun c => CL.mono (c_newName h (by omega) h6) ?_, fun c => CL.mono (c_fails h) ?_⟩
  rotate_left
  · rintro r H1 ⟨rfl, o1, M1, t1⟩
    rw [if_pos rfl] at M1
    have e : flyS B n (0, q, p, R) s arr = (4, s, p, R) := by unfold flyS; rw [if_pos (by show R 6 = 24; exact c)]
    rw [e]
    exact ⟨M1.1, rfl, rfl, o1, M1⟩
  have eF : flyS B n (0, q, p, R) s arr = (upS (stnS B n (timS B n (upS (kdS B n (upS (namS B n (0, q, p, R) (R 6)) (56 + 16 * R 6 + 0) arr)).1 (56 + 16 * R 6 + 1) (kdS B n (upS (namS B n (0, q, p, R) (R 6)) (56 + 16 * R 6 + 0) arr)).2) (R 6)) (56 + 16 * R 6 + 5) 1 (pw ((timS B n (upS (kdS B n (upS (namS B n (0, q, p, R) (R 6)) (56 + 16 * R 6 + 0) arr)).1 (56 + 16 * R 6 + 1) (kdS B n (upS (namS B n (0, q, p, R) (R 6)) (56 + 16 * R 6 + 0) arr)).2) (R 6)).2.2.2 5) - 1)) 6 (R 6 + 1)) := by
    unfold flyS
    rw [if_neg (by show ¬ R 6 = 24; omega)]
  rw [eF]
  have nlo : ∀ j, j < 56 → (namS B n (0, q, p, R) (R 6)).2.2.2 j = R j := fun j hj => namS_lo h6.1 hj
  obtain ⟨ν, hν⟩ : ∃ ν, ν = namS B n (0, q, p, R) (R 6) := ⟨_, rfl⟩
  rw [← hν] at nlo ⊢
  rintro r H1 ⟨rfl, o1, M1⟩
  have rest : ∀ H2, H2 = hs H1 (a + 2) (56 + 16 * R 6 + 0) arr → CL l G mX8_wakeClass d 0 0 [vR a] H2 (fun r9 H3 => Lay LMod H3 a ∧ ∃ y3 : Int, r9 = vI y3 ∧ (0 ≤ (56 + 16 * R 6 + 1) ∧ (56 + 16 * R 6 + 1) < 440) ∧ ∀ H4 : AH, H4 = hs H3 (a + 2) (56 + 16 * R 6 + 1) y3 → CL l G mX8_number d 0 0 [vR a, vI 0, vI 99999] H4 (fun r9 H5 => Lay LMod H5 a ∧ ∃ y5 : Int, r9 = vI y5 ∧ CL l G mX8_number d 0 0 [vR a, vI y5, vI 99999] H5 (fun r9 H6 => Lay LMod H6 a ∧ ∃ y6 : Int, r9 = vI y6 ∧ (0 ≤ (56 + 16 * R 6 + 2) ∧ (56 + 16 * R 6 + 2) < 440) ∧ ∀ H7 : AH, H7 = hs H6 (a + 2) (56 + 16 * R 6 + 2) y5 → (0 ≤ (56 + 16 * R 6 + 3) ∧ (56 + 16 * R 6 + 3) < 440) ∧ ∀ H8 : AH, H8 = hs H7 (a + 2) (56 + 16 * R 6 + 3) y6 → CL l G mX8_number d 0 0 [vR a, vI y6, vI 99999] H8 (fun r9 H9 => Lay LMod H9 a ∧ ∃ y9 : Int, r9 = vI y9 ∧ (0 ≤ (56 + 16 * R 6 + 4) ∧ (56 + 16 * R 6 + 4) < 440) ∧ ∀ H10 : AH, H10 = hs H9 (a + 2) (56 + 16 * R 6 + 4) y9 → (0 ≤ (hg H10 (a + 2) 5) ∧ (hg H10 (a + 2) 5) ≤ 30) ∧ (-2147483648 ≤ (pw (hg H10 (a + 2) 5)) - 1 ∧ (pw (hg H10 (a + 2) 5)) - 1 ≤ 2147483647) ∧ CL l G mX8_number d 0 0 [vR a, vI 1, vI ((pw (hg H10 (a + 2) 5)) - 1)] H10 (fun r9 H11 => Lay LMod H11 a ∧ ∃ y11 : Int, r9 = vI y11 ∧ (0 ≤ (56 + 16 * R 6 + 5) ∧ (56 + 16 * R 6 + 5) < 440) ∧ ∀ H12 : AH, H12 = hs H11 (a + 2) (56 + 16 * R 6 + 5) y11 → (-2147483648 ≤ (hg H12 (a + 2) 6) + 1 ∧ (hg H12 (a + 2) 6) + 1 ≤ 2147483647) ∧ ∀ H13 : AH, H13 = hs H12 (a + 2) 6 ((hg H12 (a + 2) 6) + 1) → (vV = vV ∧ only H H13 (pMr a) ∧ MJ H13 a B n (upS (stnS B n (timS B n (upS (kdS B n (upS ν (56 + 16 * R 6 + 0) arr)).1 (56 + 16 * R 6 + 1) (kdS B n (upS ν (56 + 16 * R 6 + 0) arr)).2) (R 6)) (56 + 16 * R 6 + 5) 1 (pw ((timS B n (upS (kdS B n (upS ν (56 + 16 * R 6 + 0) arr)).1 (56 + 16 * R 6 + 1) (kdS B n (upS ν (56 + 16 * R 6 + 0) arr)).2) (R 6)).2.2.2 5) - 1)) 6 (R 6 + 1)))))))) := by
    intro H2 e2
    have M2 : MJ H2 a B n (upS ν (56 + 16 * R 6 + 0) arr) := by rw [e2]; exact M1.up
    have o2 : only H H2 (pMr a) := by rw [e2]; exact o1.then (Or.inr rfl)
    refine CL.mono (c_wakeClass hT M2) ?_
    obtain ⟨κ, hκ⟩ : ∃ κ, κ = kdS B n (upS ν (56 + 16 * R 6 + 0) arr) := ⟨_, rfl⟩
    have κlo : ∀ j, j < 56 → κ.1.2.2.2 j = R j := by
      intro j hj
      rw [hκ, kdS_R]
      exact (upM_ne _ (by omega)).trans (nlo j hj)
    rw [← hκ]
    rintro r H3 ⟨rfl, o3, M3⟩
    refine ⟨M3.1, _, rfl, by omega, fun H4 e4 => ?_⟩
    have M4 : MJ H4 a B n (upS κ.1 (56 + 16 * R 6 + 1) κ.2) := by rw [e4]; exact M3.up
    have o4 : only H H4 (pMr a) := by rw [e4]; exact (o2.trans o3).then (Or.inr rfl)
    obtain ⟨α, hα⟩ : ∃ α, α = upS κ.1 (56 + 16 * R 6 + 1) κ.2 := ⟨_, rfl⟩
    have αlo : ∀ j, j < 56 → α.2.2.2 j = R j := fun j hj => by rw [hα]; exact (upM_ne _ (by omega)).trans (κlo j hj)
    rw [← hα] at M4 ⊢
    refine CL.mono (c_number M4 (by omega)) ?_
    rintro r H5 ⟨rfl, o5, M5⟩
    refine ⟨M5.1, _, rfl, CL.mono (c_number M5 (by omega)) ?_⟩
    rintro r H6 ⟨rfl, o6, M6⟩
    refine ⟨M6.1, _, rfl, by omega, fun H7 e7 => ⟨by omega, fun H8 e8 => ?_⟩⟩
    obtain ⟨β, hβ⟩ : ∃ β, β = upS (upS (nmS B n (nmS B n α 0 99999).1 (nmS B n α 0 99999).2 99999).1 (56 + 16 * R 6 + 2) (nmS B n α 0 99999).2) (56 + 16 * R 6 + 3) (nmS B n (nmS B n α 0 99999).1 (nmS B n α 0 99999).2 99999).2 := ⟨_, rfl⟩
    have M8 : MJ H8 a B n β := by rw [e8, e7, hβ]; exact (M6.up).up
    have o8 : only H H8 (pMr a) := by rw [e8, e7]; exact (((o4.trans o5).trans o6).then (Or.inr rfl)).then (Or.inr rfl)
    have βlo : ∀ j, j < 56 → β.2.2.2 j = R j := by
      intro j hj
      rw [hβ]
      show upM (upM (nmS B n (nmS B n α 0 99999).1 (nmS B n α 0 99999).2 99999).1.2.2.2 _ _) _ _ j = _
      rw [upM_ne _ (by omega), upM_ne _ (by omega), nmS_R, nmS_R]
      exact αlo j hj
    refine CL.mono (c_number M8 (by omega)) ?_
    rintro r H9 ⟨rfl, o9, M9⟩
    refine ⟨M9.1, _, rfl, by omega, fun H10 e10 => ?_⟩
    have eT : timS B n α (R 6) = upS (nmS B n β (nmS B n (nmS B n α 0 99999).1 (nmS B n α 0 99999).2 99999).2 99999).1 (56 + 16 * R 6 + 4) (nmS B n β (nmS B n (nmS B n α 0 99999).1 (nmS B n α 0 99999).2 99999).2 99999).2 := by rw [hβ]; rfl
    have M10 : MJ H10 a B n (timS B n α (R 6)) := by rw [e10, eT]; exact M9.up
    have o10 : only H H10 (pMr a) := by rw [e10]; exact (o8.trans o9).then (Or.inr rfl)
    have τlo : ∀ j, j < 56 → (timS B n α (R 6)).2.2.2 j = R j := by
      intro j hj
      rw [eT]
      show upM (nmS B n β _ _).1.2.2.2 _ _ j = _
      rw [upM_ne _ (by omega), nmS_R]
      exact βlo j hj
    obtain ⟨τ, hτ⟩ : ∃ τ, τ = timS B n α (R 6) := ⟨_, rfl⟩
    rw [← hτ] at M10 τlo ⊢
    have g5 : hg H10 (a + 2) 5 = R 5 := (M10.2.2.2.2 5 (by omega) (by omega)).trans (τlo 5 (by omega))
    rw [g5]
    refine ⟨by omega, by omega, ?_⟩
    show CL l G mX8_number d 0 0 _ H10 _
    rw [τlo 5 (by omega)]
    refine CL.mono (c_number M10 (by omega)) ?_
    rintro r H11 ⟨rfl, o11, M11⟩
    refine ⟨M11.1, _, rfl, by omega, fun H12 e12 => ?_⟩
    have M12 : MJ H12 a B n (stnS B n τ (56 + 16 * R 6 + 5) 1 (pw (R 5) - 1)) := by rw [e12]; exact M11.up
    have o12 : only H H12 (pMr a) := by rw [e12]; exact (o10.trans o11).then (Or.inr rfl)
    have g6 : hg H12 (a + 2) 6 = R 6 := by
      rw [M12.2.2.2.2 6 (by omega) (by omega)]
      show upM (nmS B n τ _ _).1.2.2.2 _ _ 6 = _
      rw [upM_ne _ (by omega), nmS_R]
      exact τlo 6 (by omega)
    rw [g6]
    refine ⟨by omega, fun H13 e13 => ⟨rfl, ?_, ?_⟩⟩
    · rw [e13]; exact o12.then (Or.inr rfl)
    · rw [e13]; exact M12.up
  refine ⟨M1.1, rfl, by omega, fun c2 => ⟨by omega, fun H2 e2 => ?_⟩, fun c2 => ⟨by omega, fun H2 e2 => ?_⟩⟩
  · exact rest H2 (by rw [e2, c2])
  · exact rest H2 (by rw [e2, show arr = 1 by omega])
theorem c_statement (hT : gT G) (h : MJ H a B n (0, q, p, R)) (h5 : 1 ≤ R 5 ∧ R 5 ≤ 3) (h6 : 0 ≤ R 6 ∧ R 6 ≤ 24) (hd : 7 ≤ d := by omega) : CL l G mX8_statement d 0 0 [vR a] H (fun r H' => r = vV ∧ only H H' (pMr a) ∧ MJ H' a B n (stmS B n (0, q, p, R))) := by
  obtain ⟨d, rfl⟩ : ∃ k, d = k + 1 := ⟨d - 1, by omega⟩
  have hp : 0 ≤ p ∧ p ≤ n ∧ n ≤ 900 := h.2.2.1
  have sf := spE_f (B := B) (i := p) hp.2.1
  have wf := wdE_f (B := B) (i := spE B n p) sf.2.1
  refine CL.of (by decide) rfl (Nat.le_of_ble_eq_true rfl) (s_X8_statement_0 hT h.1 (CL.mono (c_reads h) ?_))
  rintro r H1 ⟨rfl, o1, M1, t1⟩
  have M1 : MJ H1 a B n (0, spE B n p, wdE B n (spE B n p), R) := ⟨M1.1, ⟨M1.2.1.1, M1.2.1.2.1, M1.2.1.2.2.1, fun w => absurd rfl w⟩, M1.2.2.1, M1.2.2.2.1, M1.2.2.2.2⟩
  have t1 : hg H1 a 9 = spE B n p := t1
  have wd : ∀ bs, mWd H1 a bs (wEq B (spE B n p) (wdE B n (spE B n p)) bs) := fun bs => M1.wd t1 ⟨by omega, wf.1⟩ (fun i i1 i2 => isLt_t.mp (wf.2.2.1 i i1 i2))
  have one : ∀ {k lo hi : Int}, hi ≤ 999999 → CL l G mX8_number d 0 0 [vR a, vI lo, vI hi] H1 (fun r9 H2 => Lay LMod H2 a ∧ ∃ y2 : Int, r9 = vI y2 ∧ ∀ H3 : AH, H3 = hs H2 (a + 2) k y2 → (vV = vV ∧ only H H3 (pMr a) ∧ MJ H3 a B n (stnS B n (0, spE B n p, wdE B n (spE B n p), R) k lo hi))) := by
    intro k lo hi hh
    refine CL.mono (c_number M1 hh) ?_
    rintro r H2 ⟨rfl, o2, M2⟩
    refine ⟨M2.1, _, rfl, fun H3 e3 => ⟨rfl, ?_, ?_⟩⟩
    · rw [e3]; exact (o1.trans o2).then (Or.inr rfl)
    · rw [e3]; exact M2.up
  refine ⟨M1.1, rfl, _, wd _, fun c0 => ⟨_, wd _, fun c1 => ⟨_, wd _, fun c2 => ⟨_, wd _, fun c3 => ⟨_, wd _, fun c4 => ⟨_, wd _, fun c5 => ⟨_, wd _, fun c6 => ⟨_, wd _, fun c7 => ?_, fun c7 => ?_⟩, fun c6 => ?_⟩, fun c5 => ?_⟩, fun c4 => ?_⟩, fun c3 => ?_⟩, fun c2 => ?_⟩, fun c1 => ?_⟩, fun c0 => ?_⟩
  · rw [stm_k (k := -1) (by unfold stK; rw [if_neg c0, if_neg c1, if_neg c2, if_neg c3, if_neg c4, if_neg c5, if_neg c6, if_neg c7]), t1]
    refine CL.mono (c_fails M1) ?_
    rintro r H2 ⟨rfl, o2, M2, -⟩
    rw [if_pos rfl] at M2
    exact ⟨M2.1, rfl, rfl, o1.trans o2, M2⟩
  · rw [stm_k (stK_dep c7)]
    refine CL.mono (c_flightPart hT M1 t1 (Or.inl rfl) h5 h6) ?_
    rintro r H2 ⟨rfl, o2, M2⟩
    exact ⟨M2.1, rfl, rfl, o1.trans o2, M2⟩
  · rw [stm_k (stK_arr c6)]
    refine CL.mono (c_flightPart hT M1 t1 (Or.inr rfl) h5 h6) ?_
    rintro r H2 ⟨rfl, o2, M2⟩
    exact ⟨M2.1, rfl, rfl, o1.trans o2, M2⟩
  · rw [stm_k (stK_cost c5)]
    refine CL.mono (c_wakeClass hT M1) ?_
    have ki : 0 ≤ (kdS B n (0, spE B n p, wdE B n (spE B n p), R)).2 ∧ (kdS B n (0, spE B n p, wdE B n (spE B n p), R)).2 ≤ 3 := by
      rcases kdE_01 (B := B) (n := n) (p := wdE B n (spE B n p)) with w | w
      · rw [kdS_good w]; exact kdV_in w
      · rw [kdS_bad w]; show (0 : Int) ≤ 0 ∧ (0 : Int) ≤ 3; omega
    show ∀ r H2, _ → _
    rintro r H2 ⟨rfl, o2, M2⟩
    refine ⟨M2.1, _, rfl, by omega, CL.mono (c_number M2 (by omega)) ?_⟩
    rintro r H3 ⟨rfl, o3, M3⟩
    refine ⟨M3.1, _, rfl, by omega, fun H4 e4 => ⟨by omega, ?_⟩⟩
    have M4 : MJ H4 a B n (stnS B n (kdS B n (0, spE B n p, wdE B n (spE B n p), R)).1 (24 + (kdS B n (0, spE B n p, wdE B n (spE B n p), R)).2) 0 9999) := by rw [e4]; exact M3.up
    refine CL.mono (c_number M4 (by omega)) ?_
    rintro r H5 ⟨rfl, o5, M5⟩
    refine ⟨M5.1, _, rfl, by omega, fun H6 e6 => ⟨rfl, ?_, ?_⟩⟩
    · rw [e6]; exact ((by rw [e4]; exact ((o1.trans o2).trans o3).then (Or.inr rfl) : only H H4 (pMr a)).trans o5).then (Or.inr rfl)
    · rw [e6]; exact M5.up
  · rw [stm_k (k := 4) (by unfold stK; rw [if_neg c0, if_neg c1, if_neg c2, if_neg c3, if_pos c4])]
    exact one (by omega)
  · rw [stm_k (k := 3) (by unfold stK; rw [if_neg c0, if_neg c1, if_neg c2, if_pos c3])]
    exact one (by omega)
  · rw [stm_k (k := 2) (by unfold stK; rw [if_neg c0, if_neg c1, if_pos c2])]
    exact one (by omega)
  · rw [stm_k (k := 1) (by unfold stK; rw [if_neg c0, if_pos c1])]
    exact one (by omega)
  · rw [stm_k (stK_wake c0)]
    have ki : ∀ e q p, 0 ≤ (kdS B n (e, q, p, R)).2 ∧ (kdS B n (e, q, p, R)).2 ≤ 3 := by
      intro e q p
      by_cases he : e = 0
      · subst he
        rcases kdE_01 (B := B) (n := n) (p := p) with w | w
        · rw [kdS_good w]; exact kdV_in w
        · rw [kdS_bad w]; show (0 : Int) ≤ 0 ∧ (0 : Int) ≤ 3; omega
      · rw [kdS_er he]; show (0 : Int) ≤ 0 ∧ (0 : Int) ≤ 3; omega
    refine CL.mono (c_wakeClass hT M1) ?_
    rintro r H2 ⟨rfl, o2, M2⟩
    have i1 := ki 0 (spE B n p) (wdE B n (spE B n p))
    have i2 : 0 ≤ (kdS B n (kdS B n (0, spE B n p, wdE B n (spE B n p), R)).1).2 ∧ (kdS B n (kdS B n (0, spE B n p, wdE B n (spE B n p), R)).1).2 ≤ 3 := by
      have := ki (kdS B n (0, spE B n p, wdE B n (spE B n p), R)).1.1 (kdS B n (0, spE B n p, wdE B n (spE B n p), R)).1.2.1 (kdS B n (0, spE B n p, wdE B n (spE B n p), R)).1.2.2.1
      rw [← (show (kdS B n (0, spE B n p, wdE B n (spE B n p), R)).1.2.2.2 = R from kdS_R)] at this
      exact this
    refine ⟨M2.1, _, rfl, CL.mono (c_wakeClass hT M2) ?_⟩
    rintro r H3 ⟨rfl, o3, M3⟩
    refine ⟨M3.1, _, rfl, by omega, by omega, by omega, CL.mono (c_number M3 (by omega)) ?_⟩
    rintro r H4 ⟨rfl, o4, M4⟩
    refine ⟨M4.1, _, rfl, by omega, fun H5 e5 => ⟨rfl, ?_, ?_⟩⟩
    · rw [e5]; exact (((o1.trans o2).trans o3).trans o4).then (Or.inr rfl)
    · rw [e5]; exact M4.up
theorem c_isMore (h : MJ H a B n σ) (hd : 2 ≤ d := by omega) : CL l G mX8_isMore d 0 0 [vR a] H (fun r H' => r = vI (bi (morS B n σ).2) ∧ only H H' (pMr a) ∧ MJ H' a B n (morS B n σ).1) := by
  obtain ⟨d, rfl⟩ : ∃ k, d = k + 1 := ⟨d - 1, by omega⟩
  obtain ⟨e, q, p, R⟩ := σ
  have hp : 0 ≤ p ∧ p ≤ n ∧ n ≤ 900 := h.2.2.1
  have sf := spE_f (B := B) (i := p) hp.2.1
  have l10 : hg H a 10 = e := h.2.1.2.2.1
  refine CL.of (by decide) rfl (Nat.le_of_ble_eq_true rfl) (s_X8_isMore_0 h.1 ?_)
  rw [l10]
  refine ⟨fun c => ?_, fun c => CL.mono (c_next h) ?_⟩
  · have em : morS B n (e, q, p, R) = ((e, q, p, R), false) := by unfold morS; rw [if_pos c]
    rw [em]; exact ⟨rfl, only.rf, h⟩
  subst c
  have em : morS B n (0, q, p, R) = if n ≤ spE B n p then ((0, q, spE B n p, R), false) else if B (spE B n p) ≠ 59 then ((1, spE B n p, spE B n p, R), false) else ((0, q, spE B n p + 1, R), true) := by
    unfold morS
    rw [if_neg (fun w => w rfl)]
  rw [em]
  rintro r H1 ⟨rfl, o1, M1, t1⟩
  have M1 : MJ H1 a B n (0, q, spE B n p, R) := M1
  have l8 : hg H1 a 8 = spE B n p := M1.2.1.2.1
  have sn : (if spE B n ((0, q, p, R) : PS).2.2.1 < n then B (spE B n ((0, q, p, R) : PS).2.2.1) else -1) = if spE B n p < n then B (spE B n p) else -1 := rfl
  rw [sn]
  refine ⟨M1.1, _, rfl, fun c => CL.mono (c_here M1) ?_, fun c => ?_⟩
  · have c2 : spE B n p < n := by by_cases w : spE B n p < n; exact w; rw [if_neg w] at c; omega
    rintro r H2 ⟨rfl, rfl⟩
    have en : (if ((0, q, spE B n p, R) : PS).2.2.1 < n then B ((0, q, spE B n p, R) : PS).2.2.1 else -1) = B (spE B n p) := if_pos c2
    rw [en, l8]
    refine ⟨M1.1, _, rfl, fun c3 => ⟨by omega, fun H3 e3 => ?_⟩, fun c3 => CL.mono (c_fails M1) ?_⟩
    · rw [if_neg (show ¬ n ≤ spE B n p by omega), if_neg (show ¬ B (spE B n p) ≠ 59 from fun w => w c3)]
      have o3 : only H2 H3 (fun c i => c = a ∧ 8 ≤ i ∧ i ≤ 11) := by rw [e3]; exact only.wr ⟨rfl, by omega, by omega⟩
      have M3 := M1.go o3 (p := spE B n p + 1) (e := 0) (q := q) (by rw [e3, hg_same]) (by omega) (by rw [e3, hg_ne _ (by omega)]; exact M1.2.1.2.2.1) (fun w => absurd rfl w)
      exact ⟨rfl, o1.trans (o3.mono fun c i w => Or.inl w), M3⟩
    · rintro r H3 ⟨rfl, o3, M3, -⟩
      rw [if_neg (show ¬ n ≤ spE B n p by omega), if_pos (show B (spE B n p) ≠ 59 from c3)]
      rw [if_pos rfl] at M3
      exact ⟨M3.1, rfl, rfl, o1.trans o3, M3⟩
  · have c2 : n ≤ spE B n p := by
      by_cases w : spE B n p < n
      · rw [if_pos w] at c
        have := B_nn M1 (i := spE B n p) (by omega) w
        omega
      · omega
    rw [if_pos c2]
    exact ⟨rfl, o1, M1⟩
end
