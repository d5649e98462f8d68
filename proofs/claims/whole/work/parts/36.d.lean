section
variable {l : Launch} {G : GT} {d : Nat} {H : AH} {a : Int} {M : Row}
theorem c_nextDone (hW : MW H a M) (hd : 2 ≤ d := by omega) : CL l G mX8_nextDone d 0 0 [vR a] H (qP a M (vI (ndM M)) H) := by
  obtain ⟨d, rfl⟩ : ∃ k, d = k + 1 := ⟨d - 1, by omega⟩
  have hM := hW.2.2.1
  have hn := okM_n hM
  refine CL.of (by decide) rfl (Nat.le_of_ble_eq_true rfl) (s_X8_nextDone_0 hW ?_)
  have key : ∀ j, j ≤ (M 6).toNat → AW l G mX8_nextDone (d + 1) 0 0 (qP a M (vI (ndM M)) H) 4 [vR a, vI (ndN M j), vI j, vU] [] 0 0 H := by
    refine upN _ ?_ ?_
    · intro j hj ih
      have hx := ndN_in (M := M) (n := j)
      have go : ∀ x, ndN M (j + 1) = x → AW l G mX8_nextDone (d + 1) 0 0 (qP a M (vI (ndM M)) H) 4 [vR a, vI x, vI (j + 1), vU] [] 0 0 H := fun x hx => by rw [← hx]; exact ih
      refine s_X8_nextDone_4 hW ⟨fun c => absurd c (by omega), fun c => ⟨by omega, fun c2 => ⟨by omega, go _ ?_⟩, fun c2 => ⟨fun c3 => ⟨by omega, go _ ?_⟩, fun c3 => ⟨fun c4 => ⟨by omega, go _ ?_⟩, fun c4 => ⟨by omega, fun c5 => ⟨by omega, go _ ?_⟩, fun c5 => ⟨by omega, go _ ?_⟩⟩⟩⟩⟩⟩
      · rw [ndN, if_neg (fun q => c2 q.1.1)]
      · rw [ndN, if_neg (fun q => by have := q.1.2; omega)]
      · rw [ndN, if_pos ⟨⟨c2, c3⟩, Or.inl c4⟩]
      · rw [ndN, if_neg (fun q => by rcases q.2 with q | q; exact c4 q; omega)]
      · rw [ndN, if_pos ⟨⟨c2, c3⟩, Or.inr c5⟩]
    · exact s_X8_nextDone_4 hW ⟨fun _ => ⟨rfl, only.rf, hW⟩, fun c => absurd c (by omega)⟩
  exact key 0 (Nat.zero_le _)
/-- held by more than its neighbour -/
abbrev pnP (M : Row) (r : Int) (k : Nat) : Prop := max (max (M 0) (ofM M (wAt (planL M r) (k + 1)) 2)) (planT M (wAt (planL M r) k) + apartM M (wAt (planL M r) k) (wAt (planL M r) (k + 1))) < planT M (wAt (planL M r) (k + 1))
noncomputable def pnN (M : Row) (r : Int) : Nat → Int := sm (fun k => bi (decide (pnP M r k)))
noncomputable def pnR (M : Row) (r : Int) : Int := pnN M r ((comeL M r).length - 1)
noncomputable def vPast (M : Row) : Int := sm (fun r => pnR M r) (M 5).toNat
theorem bi_in (b : Bool) : 0 ≤ bi b ∧ bi b ≤ 1 := by rcases bi_01 b with q | q <;> omega
theorem sm01 {f : Nat → Int} {n : Nat} (h : ∀ k, k < n → 0 ≤ f k ∧ f k ≤ 1) : 0 ≤ sm f n ∧ sm f n ≤ n := by
  have := sm_in (lo := 0) (hi := 1) h
  omega
theorem c_pastNeighbor (hW : MW H a M) (hd : 15 ≤ d := by omega) : CL l G mX8_pastNeighbor d 0 0 [vR a] H (pubP a M (vI (vPast M)) 0 H) := by
  obtain ⟨d, rfl⟩ : ∃ k, d = k + 1 := ⟨d - 1, by omega⟩
  have hM := hW.2.2.1
  have hn := okM_n hM
  have hn5 := okM_5 hM
  have hpn : ∀ r : Nat, ∀ j : Nat, 0 ≤ pnN M r j ∧ pnN M r j ≤ j := fun r j => sm01 (fun k _ => bi_in _)
  have hpR : ∀ r : Nat, r < (M 5).toNat → 0 ≤ pnR M r ∧ pnR M r ≤ 24 := fun r _ => by
    have := hpn r ((comeL M r).length - 1)
    have := comeL_len hM (r := r)
    unfold pnR
    omega
  refine CL.of (by decide) rfl (Nat.le_of_ble_eq_true rfl) (s_X8_pastNeighbor_0 hW fun H1 e1 H2 o2 w2 m2 => ?_)
  have key : ∀ r, r ≤ (M 5).toNat → ∀ H', pbW a M 0 H H' → Made H' a M → AW l G mX8_pastNeighbor (d + 1) 0 0 (pubP a M (vI (vPast M)) 0 H) 13 [vR a, vI (sm (fun r => pnR M r) r), vI r, vU, vU, vU, vU] [] 0 0 H' := by
    refine upN _ ?_ ?_
    · intro r hr ih H' hb hm
      have hs := sm_in (f := fun r => pnR M r) (lo := 0) (hi := 24) (n := r) (fun k hk => hpR k (by omega))
      have hC : ∀ x ∈ comeL M r, 0 ≤ x ∧ x < M 6 := fun x hx => ((comeL_mem hM).mp hx).1
      have hlen := comeL_len hM (r := r)
      obtain ⟨q1, q2, q3, q4⟩ := hm r (by omega) (by omega)
      refine s_X8_pastNeighbor_13 hb.2.2 ⟨fun c => absurd c (by omega), fun c => ?_⟩
      refine CL.mono (c_laysBase hb.2.2.1 hb.2.2.2.1 hM (by omega) q1 q2 hC hlen (by omega)) ?_
      rintro r9 H3 ⟨rfl, o3, t3⟩
      have b3 := pb_scr hb o3 (fun b i q => Or.inl q)
      have hm3 := hm.only o3 (fun b i x1 x2 x3 => by have : b = a + 11 := x3; omega)
      refine ⟨b3.2.2.1, rfl, ?_⟩
      have m := hm3 r (by omega) (by omega)
      have key2 : ∀ j, j ≤ (comeL M r).length - 1 → AW l G mX8_pastNeighbor (d + 1) 0 0 (pubP a M (vI (vPast M)) 0 H) 30 [vR a, vI (sm (fun r => pnR M r) r + pnN M r j), vI r, vI (j + 1), vU, vU, vU] [] 0 0 H3 := by
        refine upN _ ?_ ?_
        · intro j hj ih2
          have h9 := hpn r j
          have hk1 : 0 ≤ (j : Int) ∧ (j : Int) < (comeL M r).length := by omega
          have hk2 : 0 ≤ (j : Int) + 1 ∧ (j : Int) + 1 < (comeL M r).length := by omega
          have p1 := pl_at hM hk1
          have p2 := pl_at hM hk2
          have t1 := planT_in hM p1.1 p1.2.1
          have t2 := planT_in hM p2.1 p2.2.1
          have ha := hM.apart p1.1 p2.1
          refine s_X8_pastNeighbor_30 b3.2.2 ?_
          rw [m.1, m.pl (i := 24 * (r : Int) + ((j : Int) + 1) - 1) hM hk1 (by omega), m.pl hM hk2 (by omega), hm3.time hM p1.1 p1.2.1, hm3.time hM p2.1 p2.2.1]
          refine ⟨by omega, fun c3 => absurd c3 (by omega), fun c3 => ⟨by omega, by omega, by omega, by omega, by omega, by omega, by omega, (okF_123 hM p1.1).1, (okF_123 hM p2.1).1, by omega, fun c4 => ⟨by omega, by omega, ?_⟩, fun c4 => ⟨by omega, by omega, ?_⟩⟩⟩
          · have q : ¬ pnP M r j := by unfold pnP; omega
            rw [pnN, sm, bi_f q, ← Int.add_assoc] at ih2
            exact ih2
          · have q : pnP M r j := by unfold pnP; omega
            rw [pnN, sm, bi_t q, ← Int.add_assoc] at ih2
            exact ih2
        · refine s_X8_pastNeighbor_30 b3.2.2 ⟨by omega, fun c3 => ⟨by omega, ?_⟩, fun c3 => absurd c3 (by rw [m.1]; omega)⟩
          exact ih H3 b3 hm3
      have := key2 0 (Nat.zero_le _)
      rw [pnN, sm, Int.add_zero] at this
      exact this
    · intro H' hb hm
      exact s_X8_pastNeighbor_13 hb.2.2 ⟨fun _ => ⟨rfl, hb⟩, fun c => absurd c (by omega)⟩
  exact key 0 (Nat.zero_le _) H2 (pbq (pb1 hW e1) o2 w2) m2
/-- the mean -/
noncomputable def mnS (M : Row) : Nat → Int := sm (fun k => if ofM M k 7 = 3 then 0 else tmNow M k - ofM M k 2)
def mnC (M : Row) : Nat → Int := sm (fun k => if ofM M k 7 = 3 then 0 else 1)
noncomputable def vMean (M : Row) : Int := if mnC M (M 6).toNat = 0 then 0 else afdiv (al2f (mnS M (M 6).toNat)) (ai2f (mnC M (M 6).toNat))
theorem mn_in {M : Row} (hM : okM M) {j : Nat} (hj : j ≤ (M 6).toNat) : (-300000 * j ≤ mnS M j ∧ mnS M j ≤ 314400 * j) ∧ 0 ≤ mnC M j ∧ mnC M j ≤ j := by
  refine ⟨sm_in fun k hk => ?_, sm01 fun k hk => ?_⟩
  · have hf : fl M k := ⟨by omega, by omega⟩
    obtain ⟨-, -, h2, -⟩ := hM.2 k hf.1 hf.2
    split
    · omega
    · have := tmNow_in hM hf (by assumption)
      omega
  · split <;> omega
theorem c_mean (hW : MW H a M) (hd : 16 ≤ d := by omega) : CL l G mX8_mean d 0 0 [vR a] H (qP a M (vF (vMean M)) H) := by
  obtain ⟨d, rfl⟩ : ∃ k, d = k + 1 := ⟨d - 1, by omega⟩
  have hM := hW.2.2.1
  have hn := okM_n hM
  refine CL.of (by decide) rfl (Nat.le_of_ble_eq_true rfl) (s_X8_mean_0 hW ?_)
  have key : ∀ j, j ≤ (M 6).toNat → ∀ H', only H H' (pMks a) → MW H' a M → AW l G mX8_mean (d + 1) 0 0 (qP a M (vF (vMean M)) H) 7 [vR a, vJ (mnS M j), vU, vI (mnC M j), vI j] [] 0 0 H' := by
    refine upN _ ?_ ?_
    · intro j hj ih H' ho hW'
      have hs := mn_in hM (j := j) (by omega)
      have hjf : fl M j := ⟨by omega, by omega⟩
      obtain ⟨-, -, h2, -⟩ := hM.2 j hjf.1 hjf.2
      refine s_X8_mean_7 hW' ⟨fun c => absurd c (by omega), fun c => ⟨by omega, fun c2 => ⟨by omega, ?_⟩, fun c2 => ⟨hjf, fun H1 o1 w1 => ?_⟩⟩⟩
      · have := ih H' ho hW'
        have c2 := Decidable.byContradiction c2
        rw [mnS, mnC, sm, sm, if_pos c2, if_pos c2, Int.add_zero, Int.add_zero] at this
        exact this
      · have t := tmNow_in hM hjf c2
        have := ih H1 (ho.trans o1) w1
        rw [mnS, mnC, sm, sm, if_neg c2, if_neg c2] at this
        exact ⟨by omega, by omega, by omega, by omega, this⟩
    · intro H' ho hW'
      have hs := mn_in hM (j := (M 6).toNat) (Nat.le_refl _)
      exact s_X8_mean_7 hW' ⟨fun _ => ⟨fun c => ⟨afok_n _ _ (by unfold inI; omega) c, by rw [vMean, if_neg c], ho, hW'⟩, fun c => ⟨by rw [vMean, if_pos c], ho, hW'⟩⟩, fun c => absurd c (by omega)⟩
  exact key 0 (Nat.zero_le _) H only.rf hW
noncomputable def vCostOf (M : Row) (f : Int) : Int := if fl M f then afdiv (al2f (cNow M f)) 1148846080 else 0
theorem c_costOf {f : Int} (hW : MW H a M) (hd : 17 ≤ d := by omega) : CL l G mX8_costOf d 0 0 [vR a, vI f] H (pubP a M (vF (vCostOf M f)) (1 - bi (decide (fl M f))) H) := by
  obtain ⟨d, rfl⟩ : ∃ k, d = k + 1 := ⟨d - 1, by omega⟩
  have hn := okM_n hW.2.2.1
  exact CL.of (by decide) rfl (Nat.le_of_ble_eq_true rfl) (s_X8_costOf_0 hW ⟨hn, fun H1 e1 => ⟨fun c => ⟨c, fun H2 o2 w2 => ⟨afok_k _, by rw [vCostOf, if_pos c], pbq (pb1 hW e1) o2 w2⟩⟩, fun c => ⟨by rw [vCostOf, if_neg c], pb1 hW e1⟩⟩⟩)
/-! changes of the row -/
theorem of_lo {k x f w : Int} (hk : k < 56) (hf : 0 ≤ f) (hw : 0 ≤ w) : ofM (upM M k x) f w = ofM M f w := upM_ne _ (by omega)
theorem of_up {g v x f w : Int} (hw : 0 ≤ w ∧ w < 16) (hv : 0 ≤ v ∧ v < 16) : ofM (upM M (56 + 16 * g + v) x) f w = if f = g ∧ w = v then x else ofM M f w := by
  unfold ofM upM
  by_cases h : f = g ∧ w = v
  · rw [if_pos h, if_pos (by omega)]
  · rw [if_neg h, if_neg (by omega)]
theorem of_ne {g v x f w : Int} (hw : 0 ≤ w ∧ w < 16) (hv : 0 ≤ v ∧ v < 16) (h : f ≠ g ∨ w ≠ v) : ofM (upM M (56 + 16 * g + v) x) f w = ofM M f w := by
  rw [of_up hw hv, if_neg (by omega)]
theorem of_same {g v x : Int} (hv : 0 ≤ v ∧ v < 16) : ofM (upM M (56 + 16 * g + v) x) g v = x := by
  rw [of_up hv hv, if_pos ⟨rfl, rfl⟩]
theorem lo_up {g v x k : Int} (hk : k < 56) (hg : 0 ≤ g) (hv : 0 ≤ v) : upM M (56 + 16 * g + v) x k = M k := upM_ne _ (by omega)
theorem okF_same {M' : Row} {f : Int} (h : okF M f) (h5 : M' 5 = M 5) (ho : ∀ w, 0 ≤ w → w < 9 → ofM M' f w = ofM M f w) : okF M' f := by
  unfold okF at h ⊢
  rw [ho 0 (by omega) (by omega), ho 1 (by omega) (by omega), ho 2 (by omega) (by omega), ho 3 (by omega) (by omega), ho 4 (by omega) (by omega), ho 5 (by omega) (by omega), ho 6 (by omega) (by omega), ho 7 (by omega) (by omega), ho 8 (by omega) (by omega), h5]
  exact h
theorem okS_same {M' : Row} (h : okS M) (ho : ∀ k, 0 ≤ k → k < 56 → M' k = M k) : okS M' := by
  obtain ⟨h0, h1, h2, h3, h4, h5, h6, h7, h8, h9, h10⟩ := h
  unfold okS
  rw [ho 0 (by omega) (by omega), ho 1 (by omega) (by omega), ho 2 (by omega) (by omega), ho 3 (by omega) (by omega), ho 4 (by omega) (by omega), ho 5 (by omega) (by omega), ho 6 (by omega) (by omega), ho 7 (by omega) (by omega)]
  refine ⟨h0, h1, h2, h3, h4, h5, h6, h7, fun k q1 q2 => ?_, fun k q1 q2 => ?_, fun k q1 q2 => ?_⟩
  · rw [ho _ (by omega) (by omega)]; exact h8 k q1 q2
  · rw [ho _ (by omega) (by omega)]; exact h9 k q1 q2
  · rw [ho _ (by omega) (by omega)]; exact h10 k q1 q2
/-- one flight changes -/
theorem okM_one {M' : Row} {g : Int} (h : okM M) (hS : ∀ k, 0 ≤ k → k < 56 → M' k = M k) (ho : ∀ f w, f ≠ g → 0 ≤ f → 0 ≤ w → w < 9 → ofM M' f w = ofM M f w) (hg : okF M' g) : okM M' := by
  refine ⟨okS_same h.1 hS, fun f q1 q2 => ?_⟩
  rw [hS 6 (by omega) (by omega)] at q2
  by_cases hfg : f = g
  · rw [hfg]; exact hg
  · exact okF_same (h.2 f q1 q2) (hS 5 (by omega) (by omega)) (fun w w1 w2 => ho f w hfg q1 w1 w2)
theorem okM_shift {x : Int} (h : okM M) (hx : 0 ≤ x ∧ x ≤ 4) : okM (upM M 1 x) := by
  obtain ⟨⟨h0, h1, h2, h3, h4, h5, h6, h7, h8, h9, h10⟩, hF⟩ := h
  have e : ∀ k, k ≠ 1 → upM M 1 x k = M k := fun k hk => upM_ne _ hk
  refine ⟨?_, fun f q1 q2 => ?_⟩
  · unfold okS
    rw [e 0 (by omega), upM_same, e 2 (by omega), e 3 (by omega), e 4 (by omega), e 5 (by omega), e 6 (by omega), e 7 (by omega)]
    refine ⟨h0, hx, h2, h3, h4, h5, h6, h7, fun k q1 q2 => ?_, fun k q1 q2 => ?_, fun k q1 q2 => ?_⟩
    · rw [e _ (by omega)]; exact h8 k q1 q2
    · rw [e _ (by omega)]; exact h9 k q1 q2
    · rw [e _ (by omega)]; exact h10 k q1 q2
  · rw [e 6 (by omega)] at q2
    exact okF_same (hF f q1 q2) (e 5 (by omega)) (fun w w1 w2 => e _ (by omega))
theorem okM_wake {k x : Int} (h : okM M) (hk : 8 ≤ k ∧ k < 24) (hx : 0 ≤ x ∧ x ≤ 600) : okM (upM M k x) := by
  obtain ⟨⟨h0, h1, h2, h3, h4, h5, h6, h7, h8, h9, h10⟩, hF⟩ := h
  have e : ∀ j, j ≠ k → upM M k x j = M j := fun k hk => upM_ne _ hk
  refine ⟨?_, fun f q1 q2 => ?_⟩
  · unfold okS
    rw [e 0 (by omega), e 1 (by omega), e 2 (by omega), e 3 (by omega), e 4 (by omega), e 5 (by omega), e 6 (by omega), e 7 (by omega)]
    refine ⟨h0, h1, h2, h3, h4, h5, h6, h7, fun j q1 q2 => ?_, fun j q1 q2 => ?_, fun j q1 q2 => ?_⟩
    · by_cases q : 8 + j = k
      · rw [q, upM_same]; exact hx
      · rw [e _ q]; exact h8 j q1 q2
    · rw [e _ (by omega)]; exact h9 j q1 q2
    · rw [e _ (by omega)]; exact h10 j q1 q2
  · rw [e 6 (by omega)] at q2
    exact okF_same (hF f q1 q2) (e 5 (by omega)) (fun w w1 w2 => e _ (by omega))
theorem pm_mx {H H1 H2 : AH} {a th : Int} {M M2 : Row} (h : pmW a M th H H1) (x : MX H1 H2 a M2) (hM : okM M2) : pmW a M2 th H H2 := pmx h x.1 (x.mw hM)
theorem c_setShift {x : Int} (hW : MW H a M) (hd : 1 ≤ d := by omega) : CL l G mX8_setShift d 0 0 [vR a, vI x] H (mutP a (if 0 ≤ x ∧ x ≤ 4 then upM M 1 x else M) (vI (if 0 ≤ x ∧ x ≤ 4 then M 1 else 0)) (1 - bi (decide (0 ≤ x ∧ x ≤ 4))) H) := by
  obtain ⟨d, rfl⟩ : ∃ k, d = k + 1 := ⟨d - 1, by omega⟩
  refine CL.of (by decide) rfl (Nat.le_of_ble_eq_true rfl) (s_X8_setShift_0 hW fun H1 e1 => ⟨fun c H2 e2 M2 eM H3 e3 => ?_, fun c => ?_⟩)
  · have hb := pb_pm (pb1 hW e1)
    rw [if_pos c, if_pos c]
    exact ⟨rfl, pm_mx hb (mx2 hb.2.2.1 hb.2.2.2.1 e2 e3) (okM_shift hW.2.2.1 c)⟩
  · rw [if_neg c, if_neg c]
    exact ⟨rfl, pb_pm (pb1 hW e1)⟩
abbrev okWk (x y z : Int) : Prop := (0 ≤ x ∧ x ≤ 3) ∧ (0 ≤ y ∧ y ≤ 3) ∧ 0 ≤ z ∧ z ≤ 600
theorem c_setWake {x y z : Int} (hW : MW H a M) (hd : 2 ≤ d := by omega) : CL l G mX8_setWake d 0 0 [vR a, vI x, vI y, vI z] H (mutP a (if okWk x y z then upM M (8 + 4 * x + y) z else M) (vI (if okWk x y z then M (8 + 4 * x + y) else 0)) (1 - bi (decide (okWk x y z))) H) := by
  obtain ⟨d, rfl⟩ : ∃ k, d = k + 1 := ⟨d - 1, by omega⟩
  refine CL.of (by decide) rfl (Nat.le_of_ble_eq_true rfl) (s_X8_setWake_0 hW ⟨fun c H1 e1 => ?_, fun c => ⟨fun c2 H1 e1 => ?_, fun c2 => ⟨fun c3 H1 e1 => ?_, fun c3 H1 e1 => ⟨by omega, by omega, by omega, by omega, by omega, fun H2 e2 M2 eM H3 e3 => ?_⟩⟩⟩⟩)
  · rw [if_neg (fun q => c q.1), if_neg (fun q => c q.1), bi_f (fun q => c q.1)]
    exact ⟨rfl, pb_pm (pb1 hW e1)⟩
  · rw [if_neg (fun q => c2 q.2.1), if_neg (fun q => c2 q.2.1), bi_f (fun q => c2 q.2.1)]
    exact ⟨rfl, pb_pm (pb1 hW e1)⟩
  · rw [if_neg (fun q => c3 q.2.2), if_neg (fun q => c3 q.2.2), bi_f (fun q => c3 q.2.2)]
    exact ⟨rfl, pb_pm (pb1 hW e1)⟩
  · have hb := pb_pm (pb1 hW e1)
    rw [if_pos ⟨c, c2, c3⟩, if_pos ⟨c, c2, c3⟩, bi_t ⟨c, c2, c3⟩]
    exact ⟨rfl, pm_mx hb (mx2 hb.2.2.1 hb.2.2.2.1 e2 e3) (okM_wake hW.2.2.1 (by omega) c3)⟩
end
