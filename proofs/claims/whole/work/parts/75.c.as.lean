/-! the class: flights are assigned -/
section
variable {l : Launch} {G : GT} {H : AH} {b x n : Int} {B R : Row} {d : Nat}
theorem k_mayUseq {f r : Int} (hA : Lay LFli H b) (hf : 0 ≤ f ∧ f < 24) (hr : 0 ≤ r ∧ r ≤ 31) : CL l G mX0_mayUse d 0 0 [vR b, vI f, vI r] H (fun v H' => H' = H ∧ ((v = vI 1 ∧ shr (hg H (b + 8) f) r % 2 = 1) ∨ (v = vI 0 ∧ ¬ shr (hg H (b + 8) f) r % 2 = 1))) :=
  CL.of (by decide) rfl (Nat.le_of_ble_eq_true rfl) (s_X0_mayUseq_0 hA ⟨hf, hr, fun c => ⟨rfl, Or.inr ⟨rfl, c⟩⟩, fun c => ⟨rfl, Or.inl ⟨rfl, c⟩⟩⟩)
theorem k_comesq {f g : Int} (hA : Lay LFli H b) (hf : 0 ≤ f ∧ f < 24) (hg9 : 0 ≤ g ∧ g < 24) (hlt : g < f) : CL l G mX0_comesBefore d 0 0 [vR b, vI f, vI g] H (fun v H' => H' = H ∧ ((v = vI 1 ∧ hg H (b + 6) f < hg H (b + 6) g) ∨ (v = vI 0 ∧ ¬ hg H (b + 6) f < hg H (b + 6) g))) :=
  CL.of (by decide) rfl (Nat.le_of_ble_eq_true rfl) (s_X0_comesBeforeq_0 hA ⟨hf, hg9, fun c => ⟨rfl, Or.inl ⟨rfl, c⟩⟩, fun c => ⟨fun c2 => ⟨rfl, Or.inr ⟨rfl, by omega⟩⟩, fun c2 => ⟨fun c3 => ⟨rfl, Or.inr ⟨rfl, by omega⟩⟩, fun c3 => absurd c3 (by omega)⟩⟩⟩)
theorem k_emptiestFor {S : Row} {f : Int} (hL : Lay LSta H b) (h5 : hg H (b + 1) 0 = S 5) (r5 : 1 ≤ S 5 ∧ S 5 ≤ 3) (hf : 0 ≤ f ∧ f < 24) (hu : hg H (b + 13) f = ofM S f 5) (hp : ∀ r, 0 ≤ r → r < 3 → hg H (b + 20) r = cnR S r (S 6).toNat) (he : 0 ≤ emp S f) (hd : 1 ≤ d := by omega) : CL l G mX6_emptiestFor d 0 0 [vR b, vI f] H (PQ (vI (emp S f)) H) := by
  obtain ⟨d, rfl⟩ : ∃ k, d = k + 1 := ⟨d - 1, by omega⟩
  refine CL.of (by decide) rfl (Nat.le_of_ble_eq_true rfl) (s_X6_emptiestFor_0 hL ?_)
  have key : ∀ r : Nat, r ≤ (S 5).toNat → AW l G mX6_emptiestFor (d + 1) 0 0 (PQ (vI (emp S f)) H) 4 [vR b, vI f, vI (emN S (ofM S f 5) r), vI r] [] 0 0 H := by
    refine upN _ ?_ ?_
    · intro r hr ih
      have hi := emN_in S (ofM S f 5) r
      have yes : (shr (ofM S f 5) r % 2 = 1 ∧ (emN S (ofM S f 5) r = -1 ∨ cnR S r (S 6).toNat < cnR S (emN S (ofM S f 5) r) (S 6).toNat)) → AW l G mX6_emptiestFor (d + 1) 0 0 (PQ (vI (emp S f)) H) 4 [vR b, vI f, vI r, vI (r + 1)] [] 0 0 H := by
        intro c
        have e : emN S (ofM S f 5) (r + 1) = r := by unfold emN; rw [if_pos c]
        rw [e] at ih
        exact ih
      have no : ¬ (shr (ofM S f 5) r % 2 = 1 ∧ (emN S (ofM S f 5) r = -1 ∨ cnR S r (S 6).toNat < cnR S (emN S (ofM S f 5) r) (S 6).toNat)) → AW l G mX6_emptiestFor (d + 1) 0 0 (PQ (vI (emp S f)) H) 4 [vR b, vI f, vI (emN S (ofM S f 5) r), vI (r + 1)] [] 0 0 H := by
        intro c
        have e : emN S (ofM S f 5) (r + 1) = emN S (ofM S f 5) r := by rw [emN, if_neg c]
        rw [e] at ih
        exact ih
      refine s_X6_emptiestFor_4 hL ⟨fun c => absurd c (by omega), fun _ => CL.mono (k_mayUseq (s_Sta_Fli_5 hL) hf (by omega)) ?_⟩
      rw [show b + 5 + 8 = b + 13 by omega, hu]
      rintro v H1 ⟨rfl, ⟨rfl, c⟩ | ⟨rfl, c⟩⟩
      · refine ⟨hL, 1, rfl, fun z => absurd z (by decide), fun _ => ⟨fun z => ⟨by omega, yes ⟨c, Or.inl z⟩⟩, fun z => ?_⟩⟩
        have h0 : 0 ≤ emN S (ofM S f 5) r ∧ emN S (ofM S f 5) r < r := by rcases hi with w | w; exact absurd w z; exact ⟨w.1, w.2.1⟩
        rw [hp r (by omega) (by omega), hp (emN S (ofM S f 5) r) h0.1 (by omega)]
        exact ⟨by omega, by omega, fun w => ⟨by omega, no (fun u => by rcases u.2 with u | u; exact z u; omega)⟩, fun w => ⟨by omega, yes ⟨c, Or.inr w⟩⟩⟩
      · exact ⟨hL, 0, rfl, fun _ => ⟨by omega, no (fun u => c u.1)⟩, fun z => absurd rfl z⟩
    · refine s_X6_emptiestFor_4 hL ⟨fun _ => ⟨fun _ => ⟨rfl, rfl⟩, fun c => ?_⟩, fun c => absurd c (by omega)⟩
      have : emp S f = -1 := c
      omega
  exact key 0 (Nat.zero_le _)
def pAg (b : Int) : Int → Int → Prop := fun c _ => (b + 14 ≤ c ∧ c ≤ b + 17) ∨ c = b + 20
theorem pAg_nrf (hL : Lay LSta H b) : ∀ c i, pAg b c i → nrf H c i := by
  intro c i h
  unfold pAg at h
  have : c = b + 14 ∨ c = b + 15 ∨ c = b + 16 ∨ c = b + 17 ∨ c = b + 20 := by omega
  rcases this with rfl | rfl | rfl | rfl | rfl
  · exact nrf_arr (kSta_14 hL) (by decide) (by decide)
  · exact nrf_arr (kSta_15 hL) (by decide) (by decide)
  · exact nrf_arr (kSta_16 hL) (by decide) (by decide)
  · exact nrf_arr (kSta_17 hL) (by decide) (by decide)
  · exact nrf_arr (kSta_20 hL) (by decide) (by decide)
theorem k_assignBy (hL : Lay LSta H b) (hR : okRd R) (h5 : hg H (b + 1) 0 = R 5) (h6 : hg H (b + 5) 0 = R 6) (hw : ∀ f, fl R f → hg H (b + 11) f = ofM R f 3 ∧ hg H (b + 13) f = ofM R f 5) (hp : ∀ r, 0 ≤ r ∧ r < 3 → hg H (b + 20) r = 0) (hd : 2 ≤ d := by omega) : CL l G mX6_assignByTargets d 0 0 [vR b] H (fun v H' => v = vV ∧ only H H' (pAg b) ∧ (∀ f, fl R f → hg H' (b + 14) f = ofM (asgR R) f 6 ∧ hg H' (b + 15) f = 0 ∧ hg H' (b + 16) f = 0 ∧ hg H' (b + 17) f = 0) ∧ (∀ i, hg H' (b + 16) i = hg H (b + 16) i ∨ hg H' (b + 16) i = 0) ∧ ∀ r, 0 ≤ r ∧ r < 3 → 0 ≤ hg H' (b + 20) r ∧ hg H' (b + 20) r ≤ 24) := by
  obtain ⟨d, rfl⟩ : ∃ k, d = k + 1 := ⟨d - 1, by omega⟩
  have r6 := hR.r6
  have r5 := hR.r5
  obtain ⟨Q, hQ⟩ : ∃ Q : AV → AH → Prop, Q = (fun v H' => v = vV ∧ only H H' (pAg b) ∧ (∀ f, fl R f → hg H' (b + 14) f = ofM (asgR R) f 6 ∧ hg H' (b + 15) f = 0 ∧ hg H' (b + 16) f = 0 ∧ hg H' (b + 17) f = 0) ∧ (∀ i, hg H' (b + 16) i = hg H (b + 16) i ∨ hg H' (b + 16) i = 0) ∧ ∀ r, 0 ≤ r ∧ r < 3 → 0 ≤ hg H' (b + 20) r ∧ hg H' (b + 20) r ≤ 24) := ⟨_, rfl⟩
  rw [← hQ]
  refine CL.of (by decide) rfl (Nat.le_of_ble_eq_true rfl) (s_X6_assignByTargets_0 hL ?_)
  have dealing : ∀ k : Nat, k ≤ (R 6).toNat → ∀ H1, only H H1 (pAg b) → (∀ f, fl R f → hg H1 (b + 14) f = ofM (asgN R k) f 6 ∧ hg H1 (b + 15) f = 0 ∧ hg H1 (b + 16) f = 0 ∧ hg H1 (b + 17) f = 0) → (∀ i, hg H1 (b + 16) i = hg H (b + 16) i ∨ hg H1 (b + 16) i = 0) → (∀ r, 0 ≤ r → r < 3 → hg H1 (b + 20) r = cnR (asgN R k) r (R 6).toNat) → AW l G mX6_assignByTargets (d + 1) 0 0 Q 49 [vR b, vI k, vU, vU] [] 0 0 H1 := by
    refine upN _ ?_ ?_
    · intro k hk ih H1 o1 a1 t1 p1
      have L1 := hL.only ok_Sta o1 (pAg_nrf hL)
      have e6 : hg H1 (b + 5) 0 = R 6 := (o1.2.2 _ _ (by unfold pAg; omega)).trans h6
      have e5 : hg H1 (b + 1) 0 = R 5 := (o1.2.2 _ _ (by unfold pAg; omega)).trans h5
      have ai := asgN_AI hR k (by omega)
      obtain ⟨S, hS⟩ : ∃ S, S = asgN R k := ⟨_, rfl⟩
      have en : asgN R (k + 1) = asg1 S := by rw [hS]; rfl
      rw [en] at ih
      rw [← hS] at ai a1 p1
      obtain ⟨f1, f2, f3, f4, f5⟩ := asg_facts hR ai (by omega)
      have s6 : S 6 = R 6 := ai.1 6 (fun f f1 f2 => by omega)
      have s5 : S 5 = R 5 := ai.1 5 (fun f f1 f2 => by omega)
      refine s_X6_assignByTargets_49 L1 ⟨fun c => absurd c (by omega), fun _ => ?_⟩
      have scan : ∀ j : Nat, j ≤ (R 6).toNat → AW l G mX6_assignByTargets (d + 1) 0 0 Q 64 [vR b, vI k, vI (firN S j), vI j] [] 0 0 H1 := by
        refine upN _ ?_ ?_
        · intro j hj ihj
          have hi := firN_in S j
          have hjf : fl R j := ⟨by omega, by omega⟩
          have yes : (ofM S j 6 = -1 ∧ (firN S j = -1 ∨ ofM S j 3 < ofM S (firN S j) 3)) → AW l G mX6_assignByTargets (d + 1) 0 0 Q 64 [vR b, vI k, vI j, vI (j + 1)] [] 0 0 H1 := by
            intro c
            have e : firN S (j + 1) = j := by unfold firN; rw [if_pos c]
            rw [e] at ihj
            exact ihj
          have no : ¬ (ofM S j 6 = -1 ∧ (firN S j = -1 ∨ ofM S j 3 < ofM S (firN S j) 3)) → AW l G mX6_assignByTargets (d + 1) 0 0 Q 64 [vR b, vI k, vI (firN S j), vI (j + 1)] [] 0 0 H1 := by
            intro c
            have e : firN S (j + 1) = firN S j := by rw [firN, if_neg c]
            rw [e] at ihj
            exact ihj
          have w3 : ∀ g, fl R g → hg H1 (b + 5 + 6) g = ofM S g 3 := by
            intro g hg9
            rw [show b + 5 + 6 = b + 11 by omega, o1.2.2 _ _ (by unfold pAg; omega), (hw g hg9).1]
            exact (ai.1 _ (fun f f1 f2 => by omega)).symm
          refine s_X6_assignByTargets_64 L1 ⟨fun c => absurd c (by omega), fun _ => ?_⟩
          rw [(a1 j hjf).1]
          refine ⟨by omega, fun c => ⟨by omega, no (fun u => c u.1)⟩, fun c => ⟨fun z => ⟨by omega, yes ⟨c, Or.inl z⟩⟩, fun z => ?_⟩⟩
          have h0 : 0 ≤ firN S j ∧ firN S j < j := by rcases hi with w | w; exact absurd w z; exact ⟨w.1, w.2.1⟩
          refine CL.mono (k_comesq (s_Sta_Fli_5 L1) (by omega) (by omega) (by omega)) ?_
          rw [w3 j hjf, w3 (firN S j) ⟨h0.1, by omega⟩]
          rintro v H2 ⟨rfl, ⟨rfl, w⟩ | ⟨rfl, w⟩⟩
          · exact ⟨L1, 1, rfl, fun u => absurd u (by decide), fun _ => ⟨by omega, yes ⟨c, Or.inr w⟩⟩⟩
          · exact ⟨L1, 0, rfl, fun _ => ⟨by omega, no (fun u => by rcases u.2 with u | u; exact z u; exact w u)⟩, fun u => absurd rfl u⟩
        · have efir : firN S (R 6).toNat = fir S := by unfold fir; rw [s6]
          rw [efir]
          have g1 := f1.1
          have g2 := f1.2
          refine s_X6_assignByTargets_64 L1 ⟨fun _ => ⟨fun c => absurd c (by omega), fun _ => ?_⟩, fun c => absurd c (by omega)⟩
          have u5 : hg H1 (b + 13) (fir S) = ofM S (fir S) 5 := by
            rw [o1.2.2 _ _ (by unfold pAg; omega), (hw _ f1).2]
            exact (ai.1 _ (fun f f1 f2 => by omega)).symm
          refine CL.mono (k_emptiestFor L1 (e5.trans s5.symm) (by omega) (by omega) u5 (fun r r1 r2 => by rw [s6]; exact p1 r r1 r2) f3.1) ?_
          rintro v H2 ⟨rfl, rfl⟩
          have cb := sm_in (f := fun g => bi (decide (ofM S g 6 = emp S (fir S)))) (lo := 0) (hi := 1) (n := (R 6).toNat) (fun g _ => by rcases bi_01 (decide (ofM S g 6 = emp S (fir S))) with w | w <;> omega)
          have cb : 0 * (((R 6).toNat : Nat) : Int) ≤ cnR S (emp S (fir S)) (R 6).toNat ∧ cnR S (emp S (fir S)) (R 6).toNat ≤ 1 * (((R 6).toNat : Nat) : Int) := cb
          refine ⟨L1, _, rfl, by omega, fun H3 e3 => ⟨by omega, ?_⟩⟩
          have v3 : hg H3 (b + 20) (emp S (fir S)) = cnR S (emp S (fir S)) (R 6).toNat := by rw [e3, hg_ne _ (by omega)]; exact p1 _ f3.1 (by omega)
          rw [v3]
          refine ⟨by omega, fun H4 e4 => ⟨by omega, ?_⟩⟩
          refine ih H4 ?_ (fun f hf => ?_) (fun i => ?_) (fun r r1 r2 => ?_)
          · rw [e4, e3]; exact (o1.then (Or.inl (by omega))).then (Or.inr rfl)
          · have hf1 := hf.1
            have aa := a1 f hf
            rw [e4, hg_ne _ (by omega), hg_ne _ (by omega), hg_ne _ (by omega), hg_ne _ (by omega), e3, hg_ne (b := b + 15) _ (by omega), hg_ne (b := b + 16) _ (by omega), hg_ne (b := b + 17) _ (by omega)]
            refine ⟨?_, aa.2⟩
            by_cases c : f = fir S
            · rw [c, hg_same]; exact (upM_same _ _ _).symm
            · rw [hg_ne _ (by omega), aa.1]
              show S (56 + 16 * f + 6) = upM S (56 + 16 * fir S + 6) _ (56 + 16 * f + 6)
              rw [upM_ne _ (by omega)]
          · rw [e4, hg_ne _ (by omega), e3, hg_ne _ (by omega)]; exact t1 i
          · rw [f5 r r1, e4]
            by_cases c : r = emp S (fir S)
            · rw [c, hg_same, if_pos rfl]
            · rw [hg_ne _ (by omega), if_neg c, e3, hg_ne _ (by omega), p1 r r1 r2]; omega
      exact scan 0 (Nat.zero_le _)
    · intro H1 o1 a1 t1 p1
      have L1 := hL.only ok_Sta o1 (pAg_nrf hL)
      have e6 : hg H1 (b + 5) 0 = R 6 := (o1.2.2 _ _ (by unfold pAg; omega)).trans h6
      refine s_X6_assignByTargets_49 L1 ⟨fun _ => ?_, fun c => absurd c (by omega)⟩
      rw [hQ]
      refine ⟨rfl, o1, a1, t1, fun r hr => ?_⟩
      rw [p1 r hr.1 hr.2]
      have cb : 0 * (((R 6).toNat : Nat) : Int) ≤ cnR (asgN R (R 6).toNat) r (R 6).toNat ∧ cnR (asgN R (R 6).toNat) r (R 6).toNat ≤ 1 * (((R 6).toNat : Nat) : Int) := sm_in (f := fun g => bi (decide (ofM (asgN R (R 6).toNat) g 6 = r))) (lo := 0) (hi := 1) (n := (R 6).toNat) (fun g _ => by rcases bi_01 (decide (ofM (asgN R (R 6).toNat) g 6 = r)) with w | w <;> omega)
      omega
  have begin9 : ∀ k : Nat, k ≤ (R 6).toNat → ∀ H1, only H H1 (fun c _ => b + 14 ≤ c ∧ c ≤ b + 17) → (∀ f : Int, 0 ≤ f → f < k → hg H1 (b + 14) f = -1 ∧ hg H1 (b + 15) f = 0 ∧ hg H1 (b + 16) f = 0 ∧ hg H1 (b + 17) f = 0) → (∀ i, hg H1 (b + 16) i = hg H (b + 16) i ∨ hg H1 (b + 16) i = 0) → AW l G mX6_assignByTargets (d + 1) 0 0 Q 2 [vR b, vI k, vU, vU] [] 0 0 H1 := by
    refine upN _ ?_ ?_
    · intro k hk ih H1 o1 a1 t1
      have L1 := hL.only ok_Sta (o1.mono fun c i w => Or.inl w) (pAg_nrf hL)
      have e6 : hg H1 (b + 5) 0 = R 6 := (o1.2.2 _ _ (by omega)).trans h6
      refine s_X6_assignByTargets_2 L1 ⟨fun c => absurd c (by omega), fun _ => ⟨by omega, fun H2 e2 H3 e3 H4 e4 H5 e5 => ⟨by omega, ?_⟩⟩⟩
      refine ih H5 (by rw [e5, e4, e3, e2]; exact (((o1.then (by omega)).then (by omega)).then (by omega)).then (by omega)) (fun f f1 f2 => ?_) (fun i => ?_)
      · by_cases c : f = k
        · subst c
          refine ⟨?_, ?_, ?_, ?_⟩
          · rw [e5, hg_ne _ (by omega), e4, hg_ne _ (by omega), e3, hg_ne _ (by omega), e2, hg_same]
          · rw [e5, hg_ne _ (by omega), e4, hg_ne _ (by omega), e3, hg_same]
          · rw [e5, hg_ne _ (by omega), e4, hg_same]
          · rw [e5, hg_same]
        · have := a1 f f1 (by omega)
          have ee : ∀ c, hg H5 c f = hg H1 c f := fun c9 => by rw [e5, hg_ne _ (by omega), e4, hg_ne _ (by omega), e3, hg_ne _ (by omega), e2, hg_ne _ (by omega)]
          rw [ee, ee, ee, ee]
          exact this
      · by_cases c : i = k
        · right; rw [c, e5, hg_ne _ (by omega), e4, hg_same]
        · rw [e5, hg_ne _ (by omega), e4, hg_ne _ (by omega), e3, hg_ne _ (by omega), e2, hg_ne _ (by omega)]; exact t1 i
    · intro H1 o1 a1 t1
      have L1 := hL.only ok_Sta (o1.mono fun c i w => Or.inl w) (pAg_nrf hL)
      have e6 : hg H1 (b + 5) 0 = R 6 := (o1.2.2 _ _ (by omega)).trans h6
      refine s_X6_assignByTargets_2 L1 ⟨fun _ => ?_, fun c => absurd c (by omega)⟩
      have ini := (iniN_at R (R 6).toNat).2
      refine dealing 0 (Nat.zero_le _) H1 (o1.mono fun c i w => Or.inl w) (fun f hf => ?_) t1 (fun r r1 r2 => ?_)
      · have hf1 := hf.1
        have hf2 := hf.2
        rw [show ofM (asgN R 0) f 6 = -1 from ini f hf1 (by omega)]
        exact a1 f hf1 (by omega)
      · rw [o1.2.2 _ _ (by omega), hp r ⟨r1, r2⟩]
        have z : ∀ g : Nat, g < (R 6).toNat → bi (decide (ofM (asgN R 0) g 6 = r)) = 0 := by
          intro g hg9
          rw [show ofM (asgN R 0) g 6 = -1 from ini g (by omega) (by omega), bi_f (by omega)]
        have : cnR (asgN R 0) r (R 6).toNat = 0 * (((R 6).toNat : Nat) : Int) := sm_const z
        omega
  exact begin9 0 (Nat.zero_le _) H only.rf (fun f f1 f2 => by omega) (fun i => Or.inl rfl)
end
