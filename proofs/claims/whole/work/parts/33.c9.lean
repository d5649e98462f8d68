/-! the reference's questions -/
/-- what a question may write: not the row, the copies, the buffer, its length, the kind of the latest error -/
def pPub (a : Int) : Int → Int → Prop := fun b i => (b = a ∧ (i = 5 ∨ i = 8 ∨ i = 9 ∨ i = 10 ∨ i = 11 ∨ i = 13 ∨ i = 21 ∨ i = 22 ∨ i = 23 ∨ i = 24 ∨ i = 25)) ∨ b = a + 2 ∨ b = a + 3 ∨ (a + 7 ≤ b ∧ b ≤ a + 13)
theorem pMks_pub {a : Int} : ∀ b i, pMks a b i → pPub a b i := by
  rintro b i (⟨h1, h2⟩ | ⟨h1, h2 | h2⟩)
  · exact Or.inr (Or.inr (Or.inr ⟨h1, h2⟩))
  · exact Or.inl ⟨h1, by omega⟩
  · exact Or.inl ⟨h1, by omega⟩
/-- an answer, whether it threw, and a world as before -/
abbrev pbW (a : Int) (M : Row) (th : Int) (H H' : AH) : Prop := hg H' a 5 = th ∧ only H H' (pPub a) ∧ MW H' a M
abbrev pubP (a : Int) (M : Row) (v : AV) (th : Int) (H : AH) : AV → AH → Prop := fun r H' => r = v ∧ pbW a M th H H'
theorem MW.thr {H : AH} {a x : Int} {M : Row} (h : MW H a M) : MW (hs H a 5 x) a M :=
  h.only (P := fun b i => b = a ∧ i = 5) (only.wr ⟨rfl, rfl⟩) (by rintro c i ⟨rfl, rfl⟩; exact nrf_fld 5 (kMod_0 h.1) (by decide) (by decide)) (by rintro i ⟨q, -⟩; omega) (by rintro b i q1 q2 ⟨q, -⟩; omega) (by rintro ⟨-, q⟩; omega)
theorem pb1 {H H1 : AH} {a th : Int} {M : Row} (hW : MW H a M) (e : H1 = hs H a 5 th) : pbW a M th H H1 := by
  subst e
  exact ⟨hg_same _ _ _ _, only.wr (Or.inl ⟨rfl, Or.inl rfl⟩), hW.thr⟩
theorem pbq {H H1 H2 : AH} {a th : Int} {M : Row} (h : pbW a M th H H1) (o : only H1 H2 (pMks a)) (w : MW H2 a M) : pbW a M th H H2 :=
  ⟨(o.mks a 5 (Or.inl (by omega)) (Or.inr ⟨by omega, by omega⟩)).trans h.1, h.2.1.trans (o.mono pMks_pub), w⟩
theorem pbt {H H1 H2 : AH} {a th th' : Int} {M : Row} (h : pbW a M th H H1) (e : H2 = hs H1 a 5 th') : pbW a M th' H H2 := by
  have := pb1 h.2.2 e
  exact ⟨this.1, h.2.1.trans this.2.1, this.2.2⟩
abbrev fl (M : Row) (f : Int) : Prop := 0 ≤ f ∧ f < M 6
abbrev rl (M : Row) (r : Int) : Prop := 0 ≤ r ∧ r < M 5
theorem okM_5 {M : Row} (h : okM M) : 1 ≤ M 5 ∧ M 5 ≤ 3 := h.1.2.2.2.2.2.1
section
variable {l : Launch} {G : GT} {d : Nat} {H : AH} {a : Int} {M : Row}
def vTold (M : Row) (f w : Int) : Int := if fl M f then ofM M f w else 0
theorem c_told {f w : Int} (hW : MW H a M) (hw : 0 ≤ w ∧ w < 16) (hd : 2 ≤ d := by omega) : CL l G mX8_told d 0 0 [vR a, vI f, vI w] H (pubP a M (vI (vTold M f w)) (1 - bi (decide (fl M f))) H) := by
  obtain ⟨d, rfl⟩ : ∃ k, d = k + 1 := ⟨d - 1, by omega⟩
  have hn := okM_n hW.2.2.1
  exact CL.of (by decide) rfl (Nat.le_of_ble_eq_true rfl) (s_X8_told_0 hW ⟨hn, fun H1 e1 => ⟨fun c => ⟨by omega, by rw [vTold, if_pos c], pb1 hW e1⟩, fun c => ⟨by rw [vTold, if_neg c], pb1 hW e1⟩⟩⟩)
noncomputable def vTimeOf (M : Row) (f : Int) : Int := if fl M f then (if ofM M f 7 = 3 then -1 else tmNow M f) else 0
theorem c_timeOf {f : Int} (hW : MW H a M) (hd : 16 ≤ d := by omega) : CL l G mX8_timeOf d 0 0 [vR a, vI f] H (pubP a M (vI (vTimeOf M f)) (1 - bi (decide (fl M f))) H) := by
  obtain ⟨d, rfl⟩ : ∃ k, d = k + 1 := ⟨d - 1, by omega⟩
  have hn := okM_n hW.2.2.1
  exact CL.of (by decide) rfl (Nat.le_of_ble_eq_true rfl) (s_X8_timeOf_0 hW ⟨hn, fun H1 e1 => ⟨fun c => ⟨by omega, fun c2 => ⟨by rw [vTimeOf, if_pos c, if_pos (Decidable.byContradiction c2)], pb1 hW e1⟩, fun c2 => ⟨c, fun H2 o2 w2 => ⟨by rw [vTimeOf, if_pos c, if_neg c2], pbq (pb1 hW e1) o2 w2⟩⟩⟩, fun c => ⟨by rw [vTimeOf, if_neg c], pb1 hW e1⟩⟩⟩)
noncomputable def vPlaceOf (M : Row) (f : Int) : Int := if fl M f then (if ofM M f 7 = 0 then ixOf (planL M (ofM M f 6)) f else -1) else 0
theorem c_placeOf {f : Int} (hW : MW H a M) (hd : 16 ≤ d := by omega) : CL l G mX8_placeOf d 0 0 [vR a, vI f] H (pubP a M (vI (vPlaceOf M f)) (1 - bi (decide (fl M f))) H) := by
  obtain ⟨d, rfl⟩ : ∃ k, d = k + 1 := ⟨d - 1, by omega⟩
  have hn := okM_n hW.2.2.1
  exact CL.of (by decide) rfl (Nat.le_of_ble_eq_true rfl) (s_X8_placeOf_0 hW ⟨hn, fun H1 e1 => ⟨fun c => ⟨by omega, fun c2 => ⟨by rw [vPlaceOf, if_pos c, if_neg c2], pb1 hW e1⟩, fun c2 => ⟨c, c2, fun H2 o2 w2 _ => ⟨by rw [vPlaceOf, if_pos c, if_pos c2], pbq (pb1 hW e1) o2 w2⟩⟩⟩, fun c => ⟨by rw [vPlaceOf, if_neg c], pb1 hW e1⟩⟩⟩)
def vFirst (M : Row) (f : Int) : Int := if fl M f then (if ofM M f 7 = 0 then ixOf (comeL M (ofM M f 6)) f else -1) else 0
theorem c_firstComePlace {f : Int} (hW : MW H a M) (hd : 16 ≤ d := by omega) : CL l G mX8_firstComePlace d 0 0 [vR a, vI f] H (pubP a M (vI (vFirst M f)) (1 - bi (decide (fl M f))) H) := by
  obtain ⟨d, rfl⟩ : ∃ k, d = k + 1 := ⟨d - 1, by omega⟩
  have hn := okM_n hW.2.2.1
  exact CL.of (by decide) rfl (Nat.le_of_ble_eq_true rfl) (s_X8_firstComePlace_0 hW ⟨hn, fun H1 e1 => ⟨fun c => ⟨by omega, fun c2 => ⟨by rw [vFirst, if_pos c, if_neg c2], pb1 hW e1⟩, fun c2 => ⟨c, c2, fun H2 o2 w2 => ⟨by rw [vFirst, if_pos c, if_pos c2], pbq (pb1 hW e1) o2 w2⟩⟩⟩, fun c => ⟨by rw [vFirst, if_neg c], pb1 hW e1⟩⟩⟩)
noncomputable def vPlannedAt (M : Row) (r p : Int) : Int := if rl M r then (if 0 ≤ p ∧ p < (planL M r).length then wAt (planL M r) p else -1) else 0
theorem lst.w {H : AH} {b o k : Int} {L : List Int} (h : lst H b o L) (hk : 0 ≤ k ∧ k < L.length) : hg H b (o + k) = wAt L k := by
  have h1 : k.toNat < L.length := by omega
  rw [wAt_eq h1, ← h.at h1]
  congr 2
  omega
theorem c_plannedAt {r p : Int} (hW : MW H a M) (hd : 15 ≤ d := by omega) : CL l G mX8_plannedAt d 0 0 [vR a, vI r, vI p] H (pubP a M (vI (vPlannedAt M r p)) (1 - bi (decide (rl M r))) H) := by
  obtain ⟨d, rfl⟩ : ∃ k, d = k + 1 := ⟨d - 1, by omega⟩
  have hn := okM_5 hW.2.2.1
  have hlc := comeL_len hW.2.2.1 (r := r)
  have hpp := planL_perm hW.2.2.1 (r := r)
  refine CL.of (by decide) rfl (Nat.le_of_ble_eq_true rfl) (s_X8_plannedAt_0 hW ⟨by omega, fun H1 e1 => ⟨fun c H2 o2 w2 m2 => ?_, fun c => ⟨by rw [vPlannedAt, if_neg c], pb1 hW e1⟩⟩⟩)
  obtain ⟨q1, q2, q3, q4⟩ := m2 r c.1 c.2
  refine ⟨by omega, by omega, fun c2 => ⟨?_, pbq (pb1 hW e1) o2 w2⟩, fun c2 => ⟨by omega, by omega, by omega, ?_, pbq (pb1 hW e1) o2 w2⟩⟩
  · rw [vPlannedAt, if_pos c, if_neg (by omega)]
  · rw [vPlannedAt, if_pos c, if_pos (by omega), q3.w (by omega)]
noncomputable def vDelay (M : Row) (f : Int) : Int := if fl M f then (if ofM M f 7 = 3 then -1 else tmNow M f - ofM M f 2) else 0
theorem c_delay {f : Int} (hW : MW H a M) (hd : 16 ≤ d := by omega) : CL l G mX8_delay d 0 0 [vR a, vI f] H (pubP a M (vI (vDelay M f)) (1 - bi (decide (fl M f))) H) := by
  obtain ⟨d, rfl⟩ : ∃ k, d = k + 1 := ⟨d - 1, by omega⟩
  have hn := okM_n hW.2.2.1
  exact CL.of (by decide) rfl (Nat.le_of_ble_eq_true rfl) (s_X8_delay_0 hW ⟨hn, fun H1 e1 => ⟨fun c => ⟨by omega, fun c2 => ⟨by rw [vDelay, if_pos c, if_pos (Decidable.byContradiction c2)], pb1 hW e1⟩, fun c2 => ⟨c, fun H2 o2 w2 => ⟨by have h1 := tmNow_in hW.2.2.1 c c2; obtain ⟨-, -, h2, -⟩ := hW.2.2.1.2 f c.1 c.2; omega, by rw [vDelay, if_pos c, if_neg c2], pbq (pb1 hW e1) o2 w2⟩⟩⟩, fun c => ⟨by rw [vDelay, if_neg c], pb1 hW e1⟩⟩⟩)
noncomputable def vIsLate (M : Row) (f : Int) : Int := bi (decide (fl M f ∧ ¬ ofM M f 7 = 3 ∧ ofM M f 4 < tmNow M f))
theorem c_isLate {f : Int} (hW : MW H a M) (hd : 17 ≤ d := by omega) : CL l G mX8_isLate d 0 0 [vR a, vI f] H (pubP a M (vI (vIsLate M f)) (1 - bi (decide (fl M f))) H) := by
  obtain ⟨d, rfl⟩ : ∃ k, d = k + 1 := ⟨d - 1, by omega⟩
  have hn := okM_n hW.2.2.1
  exact CL.of (by decide) rfl (Nat.le_of_ble_eq_true rfl) (s_X8_isLate_0 hW ⟨hn, fun H1 e1 => ⟨fun c => ⟨by rw [vIsLate, bi_f (fun q => c q.1)], pb1 hW e1⟩, fun c => ⟨c, fun H2 o2 w2 => ⟨fun c2 => ⟨by rw [vIsLate, bi_f (fun q => c2 q.2)], pbq (pb1 hW e1) o2 w2⟩, fun c2 => ⟨by rw [vIsLate, bi_t ⟨c, c2⟩], pbq (pb1 hW e1) o2 w2⟩⟩⟩⟩⟩)
theorem c_totalCost (hW : MW H a M) (hd : 18 ≤ d := by omega) : CL l G mX8_totalCost d 0 0 [vR a] H (pubP a M (vJ (totM M)) 0 H) := by
  obtain ⟨d, rfl⟩ : ∃ k, d = k + 1 := ⟨d - 1, by omega⟩
  exact CL.of (by decide) rfl (Nat.le_of_ble_eq_true rfl) (s_X8_totalCost_0 hW fun H1 e1 H2 o2 w2 => ⟨rfl, pbq (pb1 hW e1) o2 w2⟩)
theorem c_lateCount (hW : MW H a M) (hd : 18 ≤ d := by omega) : CL l G mX8_lateCount d 0 0 [vR a] H (pubP a M (vI (lateM M)) 0 H) := by
  obtain ⟨d, rfl⟩ : ∃ k, d = k + 1 := ⟨d - 1, by omega⟩
  exact CL.of (by decide) rfl (Nat.le_of_ble_eq_true rfl) (s_X8_lateCount_0 hW fun H1 e1 H2 o2 w2 => ⟨rfl, pbq (pb1 hW e1) o2 w2⟩)
noncomputable def plcN (M : Row) (r : Int) : Nat → Int := sm (fun k => if ofM M k 7 = 0 ∧ ofM M k 6 = r then cNow M k else 0)
noncomputable def vPlanCost (M : Row) (r : Int) : Int := if rl M r then plcN M r (M 6).toNat else 0
theorem c_planCost {r : Int} (hW : MW H a M) (hd : 17 ≤ d := by omega) : CL l G mX8_planCost d 0 0 [vR a, vI r] H (pubP a M (vJ (vPlanCost M r)) (1 - bi (decide (rl M r))) H) := by
  obtain ⟨d, rfl⟩ : ∃ k, d = k + 1 := ⟨d - 1, by omega⟩
  have hn := okM_n hW.2.2.1
  have hn5 := okM_5 hW.2.2.1
  refine CL.of (by decide) rfl (Nat.le_of_ble_eq_true rfl) (s_X8_planCost_0 hW ⟨by omega, fun H1 e1 => ⟨fun c => ?_, fun c => ⟨by rw [vPlanCost, if_neg c], pb1 hW e1⟩⟩⟩)
  have key : ∀ j, j ≤ (M 6).toNat → ∀ H', pbW a M (1 - bi (decide (rl M r))) H H' → AW l G mX8_planCost (d + 1) 0 0 (pubP a M (vJ (vPlanCost M r)) (1 - bi (decide (rl M r))) H) 15 [vR a, vI r, vJ (plcN M r j), vU, vI j] [] 0 0 H' := by
    refine upN _ ?_ ?_
    · intro j hj ih H' hb
      have hs := sm_in (f := fun k => if ofM M k 7 = 0 ∧ ofM M k 6 = r then cNow M k else 0) (lo := 0) (hi := 5000000000) (n := j) (fun k hk => by
        have := cNow_in hW.2.2.1 (f := k) ⟨by omega, by omega⟩
        split <;> omega)
      have hs : 0 ≤ plcN M r j ∧ plcN M r j ≤ 5000000000 * j := by unfold plcN; omega
      have hc := cNow_in hW.2.2.1 (f := j) ⟨by omega, by omega⟩
      refine s_X8_planCost_15 hb.2.2 ⟨fun c => absurd c (by omega), fun c => ⟨by omega, fun c2 => ⟨by omega, by omega, ?_⟩, fun c2 => ⟨by omega, fun H1 o1 w1 => ⟨by omega, by omega, ?_⟩⟩⟩⟩
      · have := ih H' hb
        rw [plcN, sm, if_neg c2] at this
        exact this
      · have := ih H1 (pbq hb o1 w1)
        rw [plcN, sm, if_pos c2] at this
        exact this
    · intro H' hb
      exact s_X8_planCost_15 hb.2.2 ⟨fun _ => ⟨by rw [vPlanCost, if_pos c], hb⟩, fun c => absurd c (by omega)⟩
  exact key 0 (Nat.zero_le _) H1 (pb1 hW e1)
/-- the plan's cells are as Made says, over writes elsewhere -/
theorem Made.only {H H' : AH} {a : Int} {M : Row} {P : Int → Int → Prop} (h : Made H a M) (ho : only H H' P) (h2 : ∀ b i, a + 7 ≤ b → b ≤ a + 10 → ¬ P b i) : Made H' a M := by
  intro r q1 q2
  obtain ⟨m1, m2, m3, m4⟩ := h r q1 q2
  exact ⟨(ho.2.2 _ _ (h2 _ _ (by omega) (by omega))).trans m1, m2.only ho (fun _ _ => h2 _ _ (by omega) (by omega)), m3.only ho (fun _ _ => h2 _ _ (by omega) (by omega)), fun p hp => (ho.2.2 _ _ (h2 _ _ (by omega) (by omega))).trans (m4 p hp)⟩
noncomputable def vFCC (M : Row) (r : Int) : Int := if rl M r then csum M (tmS M r [] (comeL M r)) else 0
theorem pb_scr {H H1 H2 : AH} {a th : Int} {M : Row} {P : Int → Int → Prop} (h : pbW a M th H H1) (o : only H1 H2 P) (hP : ∀ b i, P b i → b = a + 11 ∨ b = a + 12 ∨ b = a + 13) : pbW a M th H H2 := by
  have hn : ∀ c i, P c i → nrf H1 c i := fun c i q => pMks_nrf h.2.2.1 c i (Or.inl (by have := hP c i q; omega))
  exact ⟨(o.2.2 a 5 (fun q => by have := hP _ _ q; omega)).trans h.1, h.2.1.trans (o.mono fun b i q => Or.inr (Or.inr (Or.inr (by have := hP b i q; omega)))), h.2.2.only o hn (fun i q => by have := hP _ _ q; omega) (fun b i q1 q2 q => by have := hP _ _ q; omega) (fun q => by have := hP _ _ q; omega)⟩
theorem c_firstComeCost {r : Int} (hW : MW H a M) (hd : 15 ≤ d := by omega) : CL l G mX8_firstComeCost d 0 0 [vR a, vI r] H (pubP a M (vJ (vFCC M r)) (1 - bi (decide (rl M r))) H) := by
  obtain ⟨d, rfl⟩ : ∃ k, d = k + 1 := ⟨d - 1, by omega⟩
  have hM := hW.2.2.1
  have hn5 := okM_5 hM
  have hC : ∀ x ∈ comeL M r, 0 ≤ x ∧ x < M 6 := fun x hx => ((comeL_mem hM).mp hx).1
  have hlen := comeL_len hM (r := r)
  refine CL.of (by decide) rfl (Nat.le_of_ble_eq_true rfl) (s_X8_firstComeCost_0 hW ⟨by omega, fun H1 e1 => ⟨fun c H2 o2 w2 m2 => ?_, fun c => ⟨by rw [vFCC, if_neg c], pb1 hW e1⟩⟩⟩)
  have hr : 0 ≤ r ∧ r < 3 := by omega
  obtain ⟨q1, q2, q3, q4⟩ := m2 r c.1 c.2
  have b2 := pbq (pb1 hW e1) o2 w2
  refine CL.mono (c_laysBase w2.1 w2.2.1 hM hr q1 q2 hC hlen (by omega)) ?_
  rintro r9 H3 ⟨rfl, o3, t3⟩
  have b3 := pb_scr b2 o3 (fun b i q => Or.inl q)
  have m3 := m2.only o3 (fun b i x1 x2 x3 => by have : b = a + 11 := x3; omega) r c.1 c.2
  refine ⟨b3.2.2.1, rfl, CL.mono (c_laysTimes (L := comeL M r) b3.2.2.1 (sA_Mod_8 b3.2.2.1) ⟨by omega, by omega⟩ b3.2.2.2.1 hM hr m3.1 m3.2.1 hC hlen t3 (by omega)) ?_⟩
  rintro r9 H4 ⟨rfl, o4, -, -⟩
  have b4 := pb_scr b3 o4 (fun b i q => by rcases q with q | q <;> omega)
  exact ⟨b4.2.2.1, _, rfl, by rw [vFCC, if_pos c], b4⟩
def vDoneAt (M : Row) (k : Int) : Int := if 0 ≤ k ∧ k < M 7 then M (32 + k) else -1
theorem c_doneAt {k : Int} (hW : MW H a M) (hd : 1 ≤ d := by omega) : CL l G mX8_doneAt d 0 0 [vR a, vI k] H (pubP a M (vI (vDoneAt M k)) 0 H) := by
  obtain ⟨d, rfl⟩ : ∃ k, d = k + 1 := ⟨d - 1, by omega⟩
  have h7 := hW.2.2.1.1.2.2.2.2.2.2.2.1
  have hn := okM_n hW.2.2.1
  exact CL.of (by decide) rfl (Nat.le_of_ble_eq_true rfl) (s_X8_doneAt_0 hW fun H1 e1 => ⟨by omega, fun c => ⟨by rw [vDoneAt, if_neg (by omega)], pb1 hW e1⟩, fun c => ⟨by omega, by omega, by rw [vDoneAt, if_pos (by omega)], pb1 hW e1⟩⟩)
def smN (M : Row) : Nat → Int
  | 0 => 1
  | n + 1 => if smN M n = 0 then 0 else bi (decide (ofM M n 9 = 0))
def vSmooth (M : Row) : Int := smN M (M 6).toNat
theorem smN_01 (M : Row) : ∀ n, smN M n = 0 ∨ smN M n = 1
  | 0 => Or.inr rfl
  | n + 1 => by
    unfold smN
    split
    · exact Or.inl rfl
    · exact bi_01 _
theorem c_isSmooth (hW : MW H a M) (hd : 2 ≤ d := by omega) : CL l G mX8_isSmooth d 0 0 [vR a] H (pubP a M (vI (vSmooth M)) 0 H) := by
  obtain ⟨d, rfl⟩ : ∃ k, d = k + 1 := ⟨d - 1, by omega⟩
  have hn := okM_n hW.2.2.1
  refine CL.of (by decide) rfl (Nat.le_of_ble_eq_true rfl) (s_X8_isSmooth_0 hW fun H1 e1 => ?_)
  have hb := pb1 hW e1
  have key : ∀ j, j ≤ (M 6).toNat → AW l G mX8_isSmooth (d + 1) 0 0 (pubP a M (vI (vSmooth M)) 0 H) 9 [vR a, vI (smN M j), vI j] [] 0 0 H1 := by
    refine upN _ ?_ ?_
    · intro j hj ih
      have go : ∀ x, smN M (j + 1) = x → AW l G mX8_isSmooth (d + 1) 0 0 (pubP a M (vI (vSmooth M)) 0 H) 9 [vR a, vI x, vI (j + 1)] [] 0 0 H1 := fun x hx => by rw [← hx]; exact ih
      exact s_X8_isSmooth_9 hb.2.2 ⟨fun c => absurd c (by omega), fun c => ⟨fun c2 => ⟨by omega, go _ (by rw [smN, if_pos c2])⟩, fun c2 => ⟨by omega, fun c3 => ⟨by omega, go _ (by rw [smN, if_neg c2, bi_f c3])⟩, fun c3 => ⟨by omega, go _ (by rw [smN, if_neg c2, bi_t c3])⟩⟩⟩⟩
    · exact s_X8_isSmooth_9 hb.2.2 ⟨fun _ => ⟨smN_01 _ _, rfl, hb⟩, fun c => absurd c (by omega)⟩
  exact key 0 (Nat.zero_le _)
theorem c_wake {x y : Int} (hW : MW H a M) (hd : 2 ≤ d := by omega) : CL l G mX8_wake d 0 0 [vR a, vI x, vI y] H (pubP a M (vI (if (0 ≤ x ∧ x ≤ 3) ∧ (0 ≤ y ∧ y ≤ 3) then M (8 + 4 * x + y) else 0)) (1 - bi (decide ((0 ≤ x ∧ x ≤ 3) ∧ (0 ≤ y ∧ y ≤ 3)))) H) := by
  obtain ⟨d, rfl⟩ : ∃ k, d = k + 1 := ⟨d - 1, by omega⟩
  refine CL.of (by decide) rfl (Nat.le_of_ble_eq_true rfl) (s_X8_wake_0 hW ⟨fun c H1 e1 => ?_, fun c => ⟨fun c2 H1 e1 => ?_, fun c2 H1 e1 => ⟨⟨c.1, c.2, c2⟩, ?_⟩⟩⟩)
  · rw [if_neg (fun q => c q.1), bi_f (fun q => c q.1)]
    exact ⟨rfl, pb1 hW e1⟩
  · rw [if_neg (fun q => c2 q.2), bi_f (fun q => c2 q.2)]
    exact ⟨rfl, pb1 hW e1⟩
  · rw [if_pos ⟨c, c2⟩, bi_t ⟨c, c2⟩]
    exact ⟨rfl, pb1 hW e1⟩
def vSep (M : Row) (f g : Int) : Int := if fl M f ∧ fl M g then apartM M f g else 0
theorem c_separation {f g : Int} (hW : MW H a M) (hd : 3 ≤ d := by omega) : CL l G mX8_separation d 0 0 [vR a, vI f, vI g] H (pubP a M (vI (vSep M f g)) (1 - bi (decide (fl M f ∧ fl M g))) H) := by
  obtain ⟨d, rfl⟩ : ∃ k, d = k + 1 := ⟨d - 1, by omega⟩
  have hM := hW.2.2.1
  have hn := okM_n hM
  refine CL.of (by decide) rfl (Nat.le_of_ble_eq_true rfl) (s_X8_separation_0 hW ⟨hn, fun H1 e1 => ⟨fun c => ?_, fun c H2 e2 => ⟨fun c2 => ⟨by omega, by omega, (okF_123 hM c).1, (okF_123 hM c2).1, ?_⟩, fun c2 => ?_⟩⟩⟩)
  · rw [vSep, if_neg (fun q => c q.1), bi_f (fun q => c q.1)]
    rw [bi_f c] at e1
    exact ⟨rfl, pb1 hW e1⟩
  · rw [vSep, if_pos ⟨c, c2⟩, bi_t ⟨c, c2⟩]
    rw [bi_t c2] at e2
    exact ⟨rfl, pbt (pb1 hW e1) e2⟩
  · rw [vSep, if_neg (fun q => c2 q.2), bi_f (fun q => c2 q.2)]
    rw [bi_f c2] at e2
    exact ⟨rfl, pbt (pb1 hW e1) e2⟩
def vName (M : Row) (f k : Int) : Int := if fl M f then (if (0 ≤ k ∧ k ≤ 5) ∧ ¬ ofM M f (10 + k) = 0 then ofM M f (10 + k) else -1) else 0
theorem c_nameByte {f k : Int} (hW : MW H a M) (hd : 2 ≤ d := by omega) : CL l G mX8_nameByte d 0 0 [vR a, vI f, vI k] H (pubP a M (vI (vName M f k)) (1 - bi (decide (fl M f))) H) := by
  obtain ⟨d, rfl⟩ : ∃ k, d = k + 1 := ⟨d - 1, by omega⟩
  have hn := okM_n hW.2.2.1
  exact CL.of (by decide) rfl (Nat.le_of_ble_eq_true rfl) (s_X8_nameByte_0 hW ⟨hn, fun H1 e1 => ⟨fun c => ⟨fun c2 => ⟨by rw [vName, if_pos c, if_neg (fun q => c2 q.1)], pb1 hW e1⟩, fun c2 => ⟨by omega, by omega, fun c3 => ⟨by rw [vName, if_pos c, if_pos ⟨c2, c3⟩], pb1 hW e1⟩, fun c3 => ⟨by rw [vName, if_pos c, if_neg (fun q => q.2 c3)], pb1 hW e1⟩⟩⟩, fun c => ⟨by rw [vName, if_neg c], pb1 hW e1⟩⟩⟩)
end
