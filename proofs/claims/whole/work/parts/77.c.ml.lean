/-! the reference: rows made new, flights assigned -/
section
variable {l : Launch} {G : GT} {H : AH} {a n p q r s z : Int} {B R S M : Row} {σ : PS} {d : Nat}
theorem RR.up {k v : Int} (h : RR H r R) : RR (hs H r k v) r (upM R k v) := by
  refine ⟨h.1.wr ok_Arr (nrf_arr (kArr_0 h.1) (by decide) (by decide)), fun j j1 j2 => ?_⟩
  by_cases e : j = k
  · rw [e, hg_same, upM_same]
  · rw [hg_ne _ (by omega), upM_ne _ e]; exact h.2 j j1 j2
theorem RR.eq (h : RR H r R) (e : ∀ k, 0 ≤ k → k < 440 → S k = R k) : RR H r S := ⟨h.1, fun k k1 k2 => (h.2 k k1 k2).trans (e k k1 k2).symm⟩
theorem c_begins {y : Int} (h : Lay (LArr 10 440) H r) : CL l G mX8_begins d 0 0 [vR r, vI y] H (fun v H' => v = vV ∧ only H H' (fun c _ => c = r) ∧ RR H' r (begM y)) := by
  refine CL.of (by decide) rfl (Nat.le_of_ble_eq_true rfl) (s_X8_begins_0 h ?_)
  obtain ⟨Q, hQ⟩ : ∃ Q : AV → AH → Prop, Q = (fun v H' => v = vV ∧ only H H' (fun c _ => c = r) ∧ RR H' r (begM y)) := ⟨_, rfl⟩
  rw [← hQ]
  have k3 : ∀ k : Nat, k ≤ 4 → ∀ H1, only H H1 (fun c _ => c = r) → Lay (LArr 10 440) H1 r → (∀ j : Int, 0 ≤ j → j < 440 → (j < 24 + k ∨ (28 ≤ j ∧ j < 28 + k) ∨ 32 ≤ j) → hg H1 r j = begM y j) → AW l G mX8_begins d 0 0 Q 67 [vR r, vI y, vI k] [] 0 0 H1 := by
    refine upN _ ?_ ?_
    · intro k hk ih H1 o1 L1 hv
      refine s_X8_begins_67 L1 ⟨fun c => absurd c (by omega), fun _ => ⟨by omega, by omega, fun H2 e2 => ⟨by omega, by omega, fun H3 e3 => ⟨by omega, ?_⟩⟩⟩⟩
      have L2 : Lay (LArr 10 440) H2 r := by rw [e2]; exact L1.wr ok_Arr (nrf_arr (kArr_0 L1) (by decide) (by decide))
      have L3 : Lay (LArr 10 440) H3 r := by rw [e3]; exact L2.wr ok_Arr (nrf_arr (kArr_0 L2) (by decide) (by decide))
      refine ih H3 (by rw [e3, e2]; exact (o1.then rfl).then rfl) L3 (fun j j1 j2 j3 => ?_)
      rw [e3, e2]
      by_cases c : j = 28 + k
      · rw [c, hg_same, begM_l (by omega)]
      · rw [hg_ne _ (by omega)]
        by_cases c2 : j = 24 + k
        · rw [c2, hg_same, begM_e (by omega)]
        · rw [hg_ne _ (by omega)]; exact hv j j1 j2 (by omega)
    · intro H1 o1 L1 hv
      refine s_X8_begins_67 L1 ⟨fun _ => ?_, fun c => absurd c (by omega)⟩
      rw [hQ]
      exact ⟨rfl, o1, L1, fun j j1 j2 => hv j j1 j2 (by omega)⟩
  have k2 : ∀ k : Nat, k ≤ 16 → ∀ H1, only H H1 (fun c _ => c = r) → Lay (LArr 10 440) H1 r → (∀ j : Int, 0 ≤ j → j < 440 → (j < 8 + k ∨ 32 ≤ j) → hg H1 r j = begM y j) → AW l G mX8_begins d 0 0 Q 45 [vR r, vI y, vI k] [] 0 0 H1 := by
    refine upN _ ?_ ?_
    · intro k hk ih H1 o1 L1 hv
      refine s_X8_begins_45 L1 ⟨fun c => absurd c (by omega), fun _ => ⟨by omega, by omega, fun H2 e2 => ⟨by omega, ?_⟩⟩⟩
      have L2 : Lay (LArr 10 440) H2 r := by rw [e2]; exact L1.wr ok_Arr (nrf_arr (kArr_0 L1) (by decide) (by decide))
      refine ih H2 (by rw [e2]; exact o1.then rfl) L2 (fun j j1 j2 j3 => ?_)
      rw [e2]
      by_cases c : j = 8 + k
      · rw [c, hg_same, begM_w (by omega)]
      · rw [hg_ne _ (by omega)]; exact hv j j1 j2 (by omega)
    · intro H1 o1 L1 hv
      refine s_X8_begins_45 L1 ⟨fun _ => ?_, fun c => absurd c (by omega)⟩
      exact k3 0 (Nat.zero_le _) H1 o1 L1 (fun j j1 j2 j3 => hv j j1 j2 (by omega))
  have k1 : ∀ k : Nat, k ≤ 440 → ∀ H1, only H H1 (fun c _ => c = r) → Lay (LArr 10 440) H1 r → (∀ j : Int, 0 ≤ j → j < k → hg H1 r j = 0) → AW l G mX8_begins d 0 0 Q 2 [vR r, vI y, vI k] [] 0 0 H1 := by
    refine upN _ ?_ ?_
    · intro k hk ih H1 o1 L1 hv
      refine s_X8_begins_2 L1 ⟨fun c => absurd c (by omega), fun _ => ⟨by omega, fun H2 e2 => ⟨by omega, ?_⟩⟩⟩
      have L2 : Lay (LArr 10 440) H2 r := by rw [e2]; exact L1.wr ok_Arr (nrf_arr (kArr_0 L1) (by decide) (by decide))
      refine ih H2 (by rw [e2]; exact o1.then rfl) L2 (fun j j1 j2 => ?_)
      rw [e2]
      by_cases c : j = k
      · rw [c, hg_same]
      · rw [hg_ne _ (by omega)]; exact hv j j1 (by omega)
    · intro H1 o1 L1 hv
      refine s_X8_begins_2 L1 ⟨fun _ H2 e2 H3 e3 H4 e4 H5 e5 H6 e6 => ?_, fun c => absurd c (by omega)⟩
      have wr : ∀ {A : AH} {i v : Int}, Lay (LArr 10 440) A r → Lay (LArr 10 440) (hs A r i v) r := fun L => L.wr ok_Arr (nrf_arr (kArr_0 L) (by decide) (by decide))
      have L6 : Lay (LArr 10 440) H6 r := by rw [e6, e5, e4, e3, e2]; exact wr (wr (wr (wr (wr L1))))
      refine k2 0 (Nat.zero_le _) H6 (by rw [e6, e5, e4, e3, e2]; exact ((((o1.then rfl).then rfl).then rfl).then rfl).then rfl) L6 (fun j j1 j2 j3 => ?_)
      rw [e6, e5, e4, e3, e2]
      unfold begM
      by_cases c1 : j = 1
      · subst c1; rw [hg_ne _ (by omega), hg_ne _ (by omega), hg_ne _ (by omega), hg_ne _ (by omega), hg_same]; rfl
      by_cases c2 : j = 2
      · subst c2; rw [hg_ne _ (by omega), hg_ne _ (by omega), hg_ne _ (by omega), hg_same]; rfl
      by_cases c3 : j = 3
      · subst c3; rw [hg_ne _ (by omega), hg_ne _ (by omega), hg_same]; rfl
      by_cases c4 : j = 4
      · subst c4; rw [hg_ne _ (by omega), hg_same]; rfl
      by_cases c5 : j = 5
      · subst c5; rw [hg_same]; rfl
      rw [hg_ne _ (by omega), hg_ne _ (by omega), hg_ne _ (by omega), hg_ne _ (by omega), hg_ne _ (by omega), if_neg c1, if_neg c2, if_neg c3, if_neg c4, if_neg c5, if_neg (by omega), if_neg (by omega), if_neg (by omega)]
      exact hv j j1 (by omega)
  exact k1 0 (Nat.zero_le _) H only.rf h (fun j j1 j2 => by omega)
theorem c_emptiest {may : Int} (h : RR H r S) (s5 : 1 ≤ S 5 ∧ S 5 ≤ 3) (s6 : 0 ≤ S 6 ∧ S 6 ≤ 24) (hd : 1 ≤ d := by omega) : CL l G mX8_emptiest d 0 0 [vR r, vI may] H (PQ (vI (emN S may (S 5).toNat)) H) := by
  obtain ⟨d, rfl⟩ : ∃ k, d = k + 1 := ⟨d - 1, by omega⟩
  refine CL.of (by decide) rfl (Nat.le_of_ble_eq_true rfl) (s_X8_emptiest_0 h.1 ?_)
  have key : ∀ k : Nat, k ≤ (S 5).toNat → ∀ fw : Int, (emN S may k ≠ -1 → fw = cnR S (emN S may k) (S 6).toNat) → AW l G mX8_emptiest (d + 1) 0 0 (PQ (vI (emN S may (S 5).toNat)) H) 7 [vR r, vI may, vI (emN S may k), vI fw, vI k, vU, vU] [] 0 0 H := by
    refine upN _ ?_ ?_
    · intro k hk ih fw hfw
      have hi := emN_in S may k
      refine s_X8_emptiest_7 h.1 ?_
      rw [h.2 5 (by omega) (by omega)]
      refine ⟨fun c => absurd c (by omega), fun _ => ?_⟩
      have yes : (shr may k % 2 = 1 ∧ (emN S may k = -1 ∨ cnR S k (S 6).toNat < cnR S (emN S may k) (S 6).toNat)) → AW l G mX8_emptiest (d + 1) 0 0 (PQ (vI (emN S may (S 5).toNat)) H) 7 [vR r, vI may, vI k, vI (cnR S k (S 6).toNat), vI (k + 1), vU, vU] [] 0 0 H := by
        intro c
        have e : emN S may (k + 1) = k := by unfold emN; rw [if_pos c]
        have := ih (cnR S k (S 6).toNat) (fun _ => by rw [e])
        rw [e] at this
        exact this
      have no : ¬ (shr may k % 2 = 1 ∧ (emN S may k = -1 ∨ cnR S k (S 6).toNat < cnR S (emN S may k) (S 6).toNat)) → AW l G mX8_emptiest (d + 1) 0 0 (PQ (vI (emN S may (S 5).toNat)) H) 7 [vR r, vI may, vI (emN S may k), vI fw, vI (k + 1), vU, vU] [] 0 0 H := by
        intro c
        have e : emN S may (k + 1) = emN S may k := by rw [emN, if_neg c]
        have := ih fw (fun w => by rw [e] at w ⊢; exact hfw w)
        rw [e] at this
        exact this
      have count : ∀ j : Nat, j ≤ (S 6).toNat → AW l G mX8_emptiest (d + 1) 0 0 (PQ (vI (emN S may (S 5).toNat)) H) 21 [vR r, vI may, vI (emN S may k), vI fw, vI k, vI (cnR S k j), vI j] [] 0 0 H := by
        refine upN _ ?_ ?_
        · intro j hj ihj
          have cb : 0 * (j : Int) ≤ cnR S k j ∧ cnR S k j ≤ 1 * (j : Int) := sm_in (f := fun g => bi (decide (ofM S g 6 = (k : Int)))) (lo := 0) (hi := 1) (n := j) (fun g _ => by rcases bi_01 (decide (ofM S g 6 = (k : Int))) with w | w <;> omega)
          refine s_X8_emptiest_21 h.1 ?_
          rw [h.2 6 (by omega) (by omega), h.2 (56 + 16 * (j : Int) + 6) (by omega) (by omega)]
          have ej : cnR S k (j + 1) = cnR S k j + bi (decide (ofM S j 6 = (k : Int))) := rfl
          rw [ej] at ihj
          refine ⟨fun c => absurd c (by omega), fun _ => ⟨by omega, by omega, fun c => ⟨by omega, by omega, ?_⟩, fun c => ⟨by omega, by omega, ?_⟩⟩⟩
          · rw [bi_f (show ¬ ofM S j 6 = (k : Int) from c)] at ihj
            exact ihj
          · rw [bi_t (show ofM S j 6 = (k : Int) from c)] at ihj
            exact ihj
        · refine s_X8_emptiest_21 h.1 ?_
          rw [h.2 6 (by omega) (by omega)]
          refine ⟨fun _ => ⟨by omega, fun c => ⟨by omega, no (fun w => c w.1)⟩, fun c => ⟨fun c2 => ⟨by omega, yes ⟨c, Or.inl c2⟩⟩, fun c2 => ?_⟩⟩, fun c => absurd c (by omega)⟩
          have := hfw c2
          exact ⟨fun c3 => ⟨by omega, no (fun w => by rcases w.2 with w | w; exact c2 w; omega)⟩, fun c3 => ⟨by omega, yes ⟨c, Or.inr (by omega)⟩⟩⟩
      exact count 0 (Nat.zero_le _)
    · intro fw hfw
      refine s_X8_emptiest_7 h.1 ?_
      rw [h.2 5 (by omega) (by omega)]
      exact ⟨fun _ => ⟨rfl, rfl⟩, fun c => absurd c (by omega)⟩
  exact key 0 (Nat.zero_le _) 0 (fun w => absurd rfl w)
theorem c_assignsAll (h : RR H r R) (hR : okRd R) (hd : 2 ≤ d := by omega) : CL l G mX8_assignsAll d 0 0 [vR r] H (fun v H' => v = vV ∧ only H H' (fun c _ => c = r) ∧ RR H' r (asgR R)) := by
  obtain ⟨d, rfl⟩ : ∃ k, d = k + 1 := ⟨d - 1, by omega⟩
  have r6 := hR.r6
  have r5 := hR.r5
  obtain ⟨Q, hQ⟩ : ∃ Q : AV → AH → Prop, Q = (fun v H' => v = vV ∧ only H H' (fun c _ => c = r) ∧ RR H' r (asgR R)) := ⟨_, rfl⟩
  rw [← hQ]
  refine CL.of (by decide) rfl (Nat.le_of_ble_eq_true rfl) (s_X8_assignsAll_0 h.1 ?_)
  rw [h.2 6 (by omega) (by omega)]
  have dealing : ∀ k : Nat, k ≤ (R 6).toNat → ∀ H1, only H H1 (fun c _ => c = r) → RR H1 r (asgN R k) → AW l G mX8_assignsAll (d + 1) 0 0 Q 29 [vR r, vI (R 6), vI k, vU, vU, vU] [] 0 0 H1 := by
    refine upN _ ?_ ?_
    · intro k hk ih H1 o1 h1
      have ai := asgN_AI hR k (by omega)
      obtain ⟨S, hS⟩ : ∃ S, S = asgN R k := ⟨_, rfl⟩
      have en : asgN R (k + 1) = asg1 S := by rw [hS]; rfl
      rw [en] at ih
      rw [← hS] at ai h1
      obtain ⟨f1, f2, f3, f4, -⟩ := asg_facts hR ai (by omega)
      have s6 : S 6 = R 6 := ai.1 6 (fun f f1 f2 => by omega)
      have s5 : S 5 = R 5 := ai.1 5 (fun f f1 f2 => by omega)
      refine s_X8_assignsAll_29 h1.1 ⟨fun c => absurd c (by omega), fun _ => ?_⟩
      have scan : ∀ j : Nat, j ≤ (R 6).toNat → AW l G mX8_assignsAll (d + 1) 0 0 Q 39 [vR r, vI (R 6), vI k, vI (firN S j), vI j, vU] [] 0 0 H1 := by
        refine upN _ ?_ ?_
        · intro j hj ihj
          have hi := firN_in S j
          have yes : (ofM S j 6 = -1 ∧ (firN S j = -1 ∨ ofM S j 3 < ofM S (firN S j) 3)) → AW l G mX8_assignsAll (d + 1) 0 0 Q 39 [vR r, vI (R 6), vI k, vI j, vI (j + 1), vU] [] 0 0 H1 := by
            intro c
            have e : firN S (j + 1) = j := by unfold firN; rw [if_pos c]
            rw [e] at ihj
            exact ihj
          have no : ¬ (ofM S j 6 = -1 ∧ (firN S j = -1 ∨ ofM S j 3 < ofM S (firN S j) 3)) → AW l G mX8_assignsAll (d + 1) 0 0 Q 39 [vR r, vI (R 6), vI k, vI (firN S j), vI (j + 1), vU] [] 0 0 H1 := by
            intro c
            have e : firN S (j + 1) = firN S j := by rw [firN, if_neg c]
            rw [e] at ihj
            exact ihj
          refine s_X8_assignsAll_39 h1.1 ⟨fun c => absurd c (by omega), fun _ => ⟨by omega, by omega, ?_⟩⟩
          rw [h1.2 (56 + 16 * (j : Int) + 6) (by omega) (by omega)]
          refine ⟨fun c => ⟨by omega, no (fun u => c u.1)⟩, fun c => ⟨fun w => ⟨by omega, yes ⟨c, Or.inl w⟩⟩, fun w => ?_⟩⟩
          have h0 : 0 ≤ firN S j ∧ firN S j < j := by rcases hi with u | u; exact absurd u w; exact ⟨u.1, u.2.1⟩
          rw [h1.2 (56 + 16 * (j : Int) + 3) (by omega) (by omega), h1.2 (56 + 16 * firN S j + 3) (by omega) (by omega)]
          exact ⟨by omega, by omega, by omega, fun u => ⟨by omega, no (fun v => by rcases v.2 with v | v; exact w v; unfold ofM at v; omega)⟩, fun u => ⟨by omega, yes ⟨c, Or.inr u⟩⟩⟩
        · have efir : firN S (R 6).toNat = fir S := by unfold fir; rw [s6]
          rw [efir]
          have g1 := f1.1
          have g2 := f1.2
          refine s_X8_assignsAll_39 h1.1 ⟨fun _ => ⟨by omega, by omega, ?_⟩, fun c => absurd c (by omega)⟩
          rw [h1.2 (56 + 16 * fir S + 5) (by omega) (by omega)]
          refine CL.mono (c_emptiest h1 (by omega) (by omega)) ?_
          rintro v H2 ⟨rfl, rfl⟩
          refine ⟨h1.1, _, rfl, by omega, fun H3 e3 => ⟨by omega, ih H3 (by rw [e3]; exact o1.then rfl) ?_⟩⟩
          rw [e3]
          exact h1.up
      exact scan 0 (Nat.zero_le _)
    · intro H1 o1 h1
      refine s_X8_assignsAll_29 h1.1 ⟨fun _ => ?_, fun c => absurd c (by omega)⟩
      rw [hQ]
      exact ⟨rfl, o1, h1⟩
  have begin9 : ∀ k : Nat, k ≤ (R 6).toNat → ∀ H1, only H H1 (fun c _ => c = r) → RR H1 r (iniN R k) → AW l G mX8_assignsAll (d + 1) 0 0 Q 7 [vR r, vI (R 6), vI k, vU, vU, vU] [] 0 0 H1 := by
    refine upN _ ?_ ?_
    · intro k hk ih H1 o1 h1
      refine s_X8_assignsAll_7 h1.1 ⟨fun c => absurd c (by omega), fun _ => ⟨by omega, by omega, fun H2 e2 => ⟨by omega, ih H2 (by rw [e2]; exact o1.then rfl) ?_⟩⟩⟩
      rw [e2]
      exact h1.up
    · intro H1 o1 h1
      exact s_X8_assignsAll_7 h1.1 ⟨fun _ => dealing 0 (Nat.zero_le _) H1 o1 h1, fun c => absurd c (by omega)⟩
  exact begin9 0 (Nat.zero_le _) H only.rf h
end
