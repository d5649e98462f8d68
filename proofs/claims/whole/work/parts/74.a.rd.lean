/-! the class: the reading of descriptions -/
def pRd (x : Int) : Int → Int → Prop := fun c i => (c = x + 1 ∧ 2 ≤ i ∧ i ≤ 6) ∨ (c = x + 44 ∧ 0 ≤ i ∧ i ≤ 4) ∨ (x + 45 ≤ c ∧ c ≤ x + 47) ∨ (c = x + 48 ∧ i = 0) ∨ (x + 49 ≤ c ∧ c ≤ x + 56)
theorem pIn_rd {x : Int} : ∀ c i, pIn x c i → pRd x c i := fun _ _ h => Or.inl h
/-- how a method of the reader ends -/
def rP (x : Int) (B : Row) (n : Int) (σ : PS) (H : AH) (E : AH → Prop) : AV → AH → Prop := fun r H' => only H H' (pRd x) ∧ ((σ.1 = 0 ∧ r = vI 1 ∧ RI H' x B n σ.2.2.1 ∧ E H') ∨ (σ.1 ≠ 0 ∧ r = vI 0 ∧ FE H' x σ.1 σ.2.1))
/-- the flights read so far -/
def TF (H : AH) (x : Int) (R : Row) : Prop := hg H (x + 48) 0 = R 6 ∧ (∀ f, fl R f → hg H (x + 51) f = ofM R f 0 ∧ hg H (x + 52) f = ofM R f 1 ∧ hg H (x + 53) f = ofM R f 2 ∧ hg H (x + 54) f = ofM R f 3 ∧ hg H (x + 55) f = ofM R f 4 ∧ hg H (x + 56) f = ofM R f 5) ∧ NM H (x + 43) R
/-- what was read so far -/
def TS (H : AH) (x : Int) (R : Row) : Prop := (hg H (x + 44) 0 = R 5 ∧ hg H (x + 44) 1 = R 4 ∧ hg H (x + 44) 2 = R 1 ∧ hg H (x + 44) 3 = R 2 ∧ hg H (x + 44) 4 = R 3) ∧ ((∀ k, 0 ≤ k ∧ k < 16 → hg H (x + 45) k = R (8 + k)) ∧ (∀ k, 0 ≤ k ∧ k < 4 → hg H (x + 46) k = R (24 + k)) ∧ (∀ k, 0 ≤ k ∧ k < 4 → hg H (x + 47) k = R (28 + k))) ∧ TF H x R
section
variable {l : Launch} {G : GT} {H : AH} {x n p q : Int} {B R : Row} {d : Nat}
theorem TF.keep {H' : AH} {R' : Row} (h : TF H x R) (h6 : R' 6 = R 6) (hw : ∀ j, 56 ≤ j → R' j = R j) (e : ∀ c i, x + 48 ≤ c → c ≤ x + 56 → hg H' c i = hg H c i) : TF H' x R' := by
  refine ⟨by rw [e _ _ (by omega) (by omega), h6]; exact h.1, fun f hf => ?_, h.2.2.step h6 (fun f w hf w1 w2 => hw _ (by have := hf.1; omega)) (fun c i hc => e c i (by omega) (by omega))⟩
  have hf0 : fl R f := by unfold fl at hf ⊢; rw [h6] at hf; exact hf
  have := hf0.1
  unfold ofM
  rw [e _ _ (by omega) (by omega), e _ _ (by omega) (by omega), e _ _ (by omega) (by omega), e _ _ (by omega) (by omega), e _ _ (by omega) (by omega), e _ _ (by omega) (by omega), hw _ (by omega), hw _ (by omega), hw _ (by omega), hw _ (by omega), hw _ (by omega), hw _ (by omega)]
  exact h.2.1 f hf0
theorem TS.keep {H' : AH} (h : TS H x R) (e : ∀ c i, x + 44 ≤ c → c ≤ x + 56 → hg H' c i = hg H c i) : TS H' x R := by
  refine ⟨?_, ⟨fun k hk => ?_, fun k hk => ?_, fun k hk => ?_⟩, h.2.2.keep rfl (fun j _ => rfl) (fun c i c1 c2 => e c i (by omega) c2)⟩
  · rw [e _ _ (by omega) (by omega), e _ _ (by omega) (by omega), e _ _ (by omega) (by omega), e _ _ (by omega) (by omega), e _ _ (by omega) (by omega)]
    exact h.1
  · rw [e _ _ (by omega) (by omega)]; exact h.2.1.1 k hk
  · rw [e _ _ (by omega) (by omega)]; exact h.2.1.2.1 k hk
  · rw [e _ _ (by omega) (by omega)]; exact h.2.1.2.2 k hk
theorem TS.inp {H' : AH} (h : TS H x R) (ho : only H H' (pIn x)) : TS H' x R := h.keep (fun c i c1 c2 => ho.2.2 c i (fun z => by have := z.1; omega))
theorem TS.set {j k v : Int} (h : TS H x R) (hjk : (j = 0 ∧ k = 5) ∨ (j = 1 ∧ k = 4) ∨ (j = 2 ∧ k = 1) ∨ (j = 3 ∧ k = 2) ∨ (j = 4 ∧ k = 3)) : TS (hs H (x + 44) j v) x (upM R k v) := by
  obtain ⟨⟨a0, a1, a2, a3, a4⟩, ⟨b1, b2, b3⟩, hf⟩ := h
  refine ⟨?_, ⟨fun i hi => ?_, fun i hi => ?_, fun i hi => ?_⟩, hf.keep (upM_ne _ (by omega)) (fun i hi => upM_ne _ (by omega)) (fun c i c1 c2 => hg_ne _ (by omega))⟩
  · rcases hjk with ⟨rfl, rfl⟩ | ⟨rfl, rfl⟩ | ⟨rfl, rfl⟩ | ⟨rfl, rfl⟩ | ⟨rfl, rfl⟩ <;> refine ⟨?_, ?_, ?_, ?_, ?_⟩ <;> first | (rw [hg_same, upM_same]; done) | (rw [hg_ne _ (by omega), upM_ne _ (by omega)]; assumption)
  · rw [hg_ne _ (by omega), upM_ne _ (by omega)]; exact b1 i hi
  · rw [hg_ne _ (by omega), upM_ne _ (by omega)]; exact b2 i hi
  · rw [hg_ne _ (by omega), upM_ne _ (by omega)]; exact b3 i hi
theorem TS.arr {c o m i v : Int} (h : TS H x R) (hc : (c = x + 45 ∧ o = 8 ∧ m = 16) ∨ (c = x + 46 ∧ o = 24 ∧ m = 4) ∨ (c = x + 47 ∧ o = 28 ∧ m = 4)) (hi : 0 ≤ i ∧ i < m) : TS (hs H c i v) x (upM R (o + i) v) := by
  obtain ⟨⟨a0, a1, a2, a3, a4⟩, ⟨b1, b2, b3⟩, hf⟩ := h
  refine ⟨⟨?_, ?_, ?_, ?_, ?_⟩, ⟨fun j hj => ?_, fun j hj => ?_, fun j hj => ?_⟩, hf.keep (upM_ne _ (by omega)) (fun i hi => upM_ne _ (by omega)) (fun c i c1 c2 => hg_ne _ (by omega))⟩
  · rw [hg_ne _ (by omega), upM_ne _ (by omega)]; exact a0
  · rw [hg_ne _ (by omega), upM_ne _ (by omega)]; exact a1
  · rw [hg_ne _ (by omega), upM_ne _ (by omega)]; exact a2
  · rw [hg_ne _ (by omega), upM_ne _ (by omega)]; exact a3
  · rw [hg_ne _ (by omega), upM_ne _ (by omega)]; exact a4
  · by_cases e : c = x + 45 ∧ j = i
    · obtain ⟨rfl, rfl⟩ := e
      rw [hg_same, show o = 8 by omega, upM_same]
    · rw [hg_ne _ (by omega), upM_ne _ (by omega)]; exact b1 j hj
  · by_cases e : c = x + 46 ∧ j = i
    · obtain ⟨rfl, rfl⟩ := e
      rw [hg_same, show o = 24 by omega, upM_same]
    · rw [hg_ne _ (by omega), upM_ne _ (by omega)]; exact b2 j hj
  · by_cases e : c = x + 47 ∧ j = i
    · obtain ⟨rfl, rfl⟩ := e
      rw [hg_same, show o = 28 by omega, upM_same]
    · rw [hg_ne _ (by omega), upM_ne _ (by omega)]; exact b3 j hj
theorem RI.out {c i v : Int} (h : RI H x B n p) (hc : x + 44 ≤ c) (hn : nrf H c i) : RI (hs H c i v) x B n p :=
  ⟨h.1.wr ok_Run hn, ⟨(hg_ne _ (by omega)).trans h.2.1.1, (hg_ne _ (by omega)).trans h.2.1.2.1, (hg_ne _ (by omega)).trans h.2.1.2.2⟩, h.2.2.1, fun j j1 j2 => (hg_ne _ (by omega)).trans (h.2.2.2 j j1 j2)⟩
/-! the steps of the reading, spelled out -/
theorem kdE_01 : kdE B n p = 0 ∨ kdE B n p = 1 := by unfold kdE; split; exact Or.inr rfl; exact Or.inl rfl
theorem kdV_in (h : kdE B n p = 0) : 0 ≤ kdV B (spE B n p) (wdE B n (spE B n p)) ∧ kdV B (spE B n p) (wdE B n (spE B n p)) ≤ 3 := by
  unfold kdE at h
  split at h
  · omega
  · rename_i c
    unfold kdV at c ⊢
    split
    · omega
    · rw [if_neg (by assumption)] at c
      split
      · omega
      · rw [if_neg (by assumption)] at c
        split
        · omega
        · rw [if_neg (by assumption)] at c
          split
          · omega
          · rw [if_neg (by assumption)] at c
            omega
theorem kdS_good (h : kdE B n p = 0) : kdS B n (0, q, p, R) = ((0, spE B n p, wdE B n (spE B n p), R), kdV B (spE B n p) (wdE B n (spE B n p))) := by
  unfold kdS
  rw [if_neg (fun z => z rfl)]
  show ((kdE B n p, _, _, _), if kdE B n p = 0 then _ else _) = _
  rw [h]
  rfl
theorem kdS_bad (h : kdE B n p = 1) : kdS B n (0, q, p, R) = ((1, spE B n p, wdE B n (spE B n p), R), 0) := by
  unfold kdS
  rw [if_neg (fun z => z rfl)]
  show ((kdE B n p, _, _, _), if kdE B n p = 0 then _ else _) = _
  rw [h]
  rfl
theorem kdS_er {e : Int} (he : e ≠ 0) : kdS B n (e, q, p, R) = ((e, q, p, R), 0) := by unfold kdS; rw [if_pos he]
theorem nmS_good {lo hi : Int} (h : nmE B n p lo hi = 0) : nmS B n (0, q, p, R) lo hi = ((0, spE B n p, dgE B n (spE B n p), R), cvE B n (spE B n p) 0) := by
  unfold nmS
  rw [if_neg (fun z => z rfl)]
  show ((nmE B n p lo hi, _, _, _), if nmE B n p lo hi = 0 then _ else _) = _
  rw [h]
  rfl
theorem nmS_bad {lo hi : Int} (h : nmE B n p lo hi ≠ 0) : nmS B n (0, q, p, R) lo hi = ((nmE B n p lo hi, spE B n p, dgE B n (spE B n p), R), lo) := by
  unfold nmS
  rw [if_neg (fun z => z rfl)]
  show ((nmE B n p lo hi, _, _, _), if nmE B n p lo hi = 0 then _ else _) = _
  rw [if_neg h]
theorem nmS_er {e lo hi : Int} (he : e ≠ 0) : nmS B n (e, q, p, R) lo hi = ((e, q, p, R), lo) := by unfold nmS; rw [if_pos he]
theorem upS_mk {e k v : Int} : upS (e, q, p, R) k v = (e, q, p, upM R k v) := rfl
theorem stnS_good {k lo hi : Int} (h : nmE B n p lo hi = 0) : stnS B n (0, q, p, R) k lo hi = (0, spE B n p, dgE B n (spE B n p), upM R k (cvE B n (spE B n p) 0)) := by unfold stnS; rw [nmS_good h]; rfl
theorem stnS_bad {k lo hi : Int} (h : nmE B n p lo hi ≠ 0) : stnS B n (0, q, p, R) k lo hi = (nmE B n p lo hi, spE B n p, dgE B n (spE B n p), upM R k lo) := by unfold stnS; rw [nmS_bad h]; rfl
theorem stnS_er {e k lo hi : Int} (he : e ≠ 0) : stnS B n (e, q, p, R) k lo hi = (e, q, p, upM R k lo) := by unfold stnS; rw [nmS_er he]; rfl
theorem nm_in {lo hi : Int} (h : nmE B n p lo hi = 0) : lo ≤ cvE B n (spE B n p) 0 ∧ cvE B n (spE B n p) 0 ≤ hi := by
  unfold nmE at h
  split at h
  · omega
  · split at h
    · assumption
    · omega
theorem one0 : (1 : Int) ≠ 0 := by decide
theorem k_readKind (hT : gT G) (h : RI H x B n p) (hd : 5 ≤ d := by omega) : CL l G mX1_readKind d 0 0 [vR (x + 1)] H (fun r H' => only H H' (pIn x) ∧ ((kdE B n p = 0 ∧ r = vI 1 ∧ RI H' x B n (wdE B n (spE B n p)) ∧ hg H' (x + 1) 4 = kdV B (spE B n p) (wdE B n (spE B n p))) ∨ (kdE B n p = 1 ∧ r = vI 0 ∧ FE H' x 1 (spE B n p)))) := by
  obtain ⟨d, rfl⟩ : ∃ k, d = k + 1 := ⟨d - 1, by omega⟩
  have sf := spE_f (B := B) (i := p) h.2.2.1.2.1
  have hp := h.2.2.1
  unfold kdE
  obtain ⟨s, hsp⟩ : ∃ s, s = spE B n p := ⟨_, rfl⟩
  refine CL.of (by decide) rfl (Nat.le_of_ble_eq_true rfl) (s_X1_readKind_0 hT h.1 (CL.mono (k_readWord h) ?_))
  rw [← hsp] at sf ⊢
  obtain ⟨z, hz⟩ : ∃ z, z = wdE B n s := ⟨_, rfl⟩
  rw [← hz]
  rintro r H1 ⟨o1, ⟨k1, rfl, R1, t1⟩ | ⟨k1, rfl, F1⟩⟩
  · have wd : ∀ bs, kWd H1 x bs (wEq B s z bs) := fun bs => R1.wd t1 (by omega)
    have good : ∀ v H2, kdV B s z = v → v ≠ -1 → H2 = hs H1 (x + 1) 4 v → only H H2 (pIn x) ∧ (((if kdV B s z = -1 then 1 else 0) = (0 : Int) ∧ vI 1 = vI 1 ∧ RI H2 x B n z ∧ hg H2 (x + 1) 4 = kdV B s z) ∨ ((if kdV B s z = -1 then 1 else 0) = (1 : Int) ∧ vI 1 = vI 0 ∧ FE H2 x 1 s)) := by
      intro v H2 ev hv e2
      have o2 : only H1 H2 (pIn x) := by rw [e2]; exact only.wr ⟨rfl, by omega, by omega⟩
      rw [ev, if_neg hv]
      exact ⟨o1.trans o2, Or.inl ⟨rfl, rfl, R1.go o2 (by rw [e2]; exact (hg_ne _ (by omega)).trans R1.2.1.2.1) (by rw [e2]; exact (hg_ne _ (by omega)).trans R1.2.1.2.2) (by have := R1.2.2.1; omega), by rw [e2]; exact hg_same _ _ _ _⟩⟩
    refine ⟨R1.1, 1, rfl, fun _ => ⟨_, wd _, fun c1 => ⟨_, wd _, fun c2 => ⟨_, wd _, fun c3 => ⟨_, wd _, fun c4 => CL.mono (k_fail R1.1) ?_, fun c4 H2 e2 => good _ H2 (by unfold kdV; rw [if_neg c1, if_neg c2, if_neg c3, if_pos c4]) (by decide) e2⟩, fun c3 H2 e2 => good _ H2 (by unfold kdV; rw [if_neg c1, if_neg c2, if_pos c3]) (by decide) e2⟩, fun c2 H2 e2 => good _ H2 (by unfold kdV; rw [if_neg c1, if_pos c2]) (by decide) e2⟩, fun c1 H2 e2 => good _ H2 (by unfold kdV; rw [if_pos c1]) (by decide) e2⟩, fun c => absurd c (by decide)⟩
    rintro r H2 ⟨rfl, o2, F2⟩
    rw [t1] at F2
    refine ⟨F2.1, 0, rfl, Or.inl rfl, o1.trans o2, Or.inr ⟨?_, rfl, F2⟩⟩
    rw [if_pos (by unfold kdV; rw [if_neg c1, if_neg c2, if_neg c3, if_neg c4])]
  · refine ⟨F1.1, 0, rfl, fun c => absurd rfl c, fun _ => ⟨o1, Or.inr ⟨?_, rfl, F1⟩⟩⟩
    rw [k1, if_pos]
    unfold kdV
    rw [wEq_0 (by decide), wEq_0 (by decide), wEq_0 (by decide), wEq_0 (by decide)]
    decide
theorem k_readRunways (hT : gT G) (h : RI H x B n 0) (hS : TS H x (begM 1)) (hd : 6 ≤ d := by omega) : CL l G mX3_readRunways d 0 0 [vR (x + 1), vR (x + 44)] H (rP x B n (runS B n) H (fun H' => TS H' x (runS B n).2.2.2)) := by
  obtain ⟨d, rfl⟩ : ∃ k, d = k + 1 := ⟨d - 1, by omega⟩
  have sf := spE_f (B := B) (i := 0) h.2.2.1.2.1
  refine CL.of (by decide) rfl (Nat.le_of_ble_eq_true rfl) (s_X3_readRunways_0 hT h.1 (CL.mono (k_readWord h) ?_))
  rintro r H1 ⟨o1, ⟨k1, rfl, R1, t1⟩ | ⟨k1, rfl, F1⟩⟩
  · refine ⟨R1.1, 1, rfl, fun _ => ⟨_, R1.wd t1 (by omega), fun c1 => CL.mono (k_readNumber R1) ?_, fun c1 => CL.mono (k_fail R1.1) ?_⟩, fun c => absurd c (by decide)⟩
    · rintro r H2 ⟨o2, ⟨k2, rfl, R2, v2⟩ | ⟨k2, rfl, F2⟩⟩
      · refine ⟨R2.1, 1, rfl, fun _ H3 e3 => ?_, fun c => absurd c (by decide)⟩
        rw [v2] at e3
        have e : runS B n = (0, spE B n (wdE B n (spE B n 0)), dgE B n (spE B n (wdE B n (spE B n 0))), begM (cvE B n (spE B n (wdE B n (spE B n 0))) 0)) := by
          simp only [runS, c1, if_true, nmS_good k2]
        rw [e]
        refine ⟨?_, Or.inl ⟨rfl, rfl, ?_, ?_⟩⟩
        · rw [e3]; exact ((o1.trans o2).mono pIn_rd).then (Or.inr (Or.inl ⟨rfl, by omega, by omega⟩))
        · rw [e3]; exact R2.out (by omega) (nrf_fld 0 (kRun_44 R2.1) (by decide) (by decide))
        · rw [e3]
          have := ((hS.inp o1).inp o2).set (j := 0) (k := 5) (v := cvE B n (spE B n (wdE B n (spE B n 0))) 0) (Or.inl ⟨rfl, rfl⟩)
          have eq : upM (begM 1) 5 (cvE B n (spE B n (wdE B n (spE B n 0))) 0) = begM (cvE B n (spE B n (wdE B n (spE B n 0))) 0) := by
            funext j
            unfold upM begM
            by_cases hj : j = 5
            · rw [if_pos hj, hj]; simp
            · rw [if_neg hj, if_neg hj, if_neg hj]
          rw [← eq]
          exact this
      · refine ⟨F2.1, 0, rfl, fun c => absurd rfl c, fun _ => ⟨(o1.trans o2).mono pIn_rd, Or.inr ?_⟩⟩
        have e : runS B n = (nmE B n (wdE B n (spE B n 0)) 1 3, spE B n (wdE B n (spE B n 0)), dgE B n (spE B n (wdE B n (spE B n 0))), begM 1) := by
          simp only [runS, c1, if_true, nmS_bad k2]
        rw [e]
        exact ⟨k2, rfl, F2⟩
    · rintro r H2 ⟨rfl, o2, F2⟩
      rw [t1] at F2
      have e : runS B n = (1, spE B n 0, wdE B n (spE B n 0), begM 1) := by
        simp only [runS, if_neg c1, nmS_er one0]
      rw [e]
      exact ⟨F2.1, 0, rfl, Or.inl rfl, (o1.trans o2).mono pIn_rd, Or.inr ⟨one0, rfl, F2⟩⟩
  · refine ⟨F1.1, 0, rfl, fun c => absurd rfl c, fun _ => ⟨o1.mono pIn_rd, Or.inr ?_⟩⟩
    have c1 : ¬ wEq B (spE B n 0) (wdE B n (spE B n 0)) ws_runways = true := by rw [k1, wEq_0 (by decide)]; decide
    have e : runS B n = (1, spE B n 0, wdE B n (spE B n 0), begM 1) := by
      simp only [runS, if_neg c1, nmS_er one0]
    rw [e]
    exact ⟨one0, rfl, F1⟩
theorem k_readWake (hT : gT G) (h : RI H x B n p) (hS : TS H x R) (hd : 6 ≤ d := by omega) : CL l G mX3_readWake d 0 0 [vR (x + 1), vR (x + 44)] H (rP x B n (wakS B n (0, q, p, R)) H (fun H' => TS H' x (wakS B n (0, q, p, R)).2.2.2)) := by
  obtain ⟨d, rfl⟩ : ∃ k, d = k + 1 := ⟨d - 1, by omega⟩
  refine CL.of (by decide) rfl (Nat.le_of_ble_eq_true rfl) (s_X3_readWake_0 h.1 (CL.mono (k_readKind hT h) ?_))
  rintro r H1 ⟨o1, ⟨k1, rfl, R1, v1⟩ | ⟨k1, rfl, F1⟩⟩
  · have i1 := kdV_in k1
    refine ⟨R1.1, 1, rfl, fun _ => CL.mono (k_readKind hT R1) ?_, fun c => absurd c (by decide)⟩
    rintro r H2 ⟨o2, ⟨k2, rfl, R2, v2⟩ | ⟨k2, rfl, F2⟩⟩
    · have i2 := kdV_in k2
      refine ⟨R2.1, 1, rfl, fun _ => CL.mono (k_readNumber R2) ?_, fun c => absurd c (by decide)⟩
      rintro r H3 ⟨o3, ⟨k3, rfl, R3, v3⟩ | ⟨k3, rfl, F3⟩⟩
      · refine ⟨R3.1, 1, rfl, fun _ => ?_, fun c => absurd c (by decide)⟩
        rw [v1, v2, v3]
        refine ⟨by omega, by omega, by omega, fun H4 e4 => ?_⟩
        simp only [wakS, kdS_good k1, kdS_good k2, stnS_good k3]
        refine ⟨?_, Or.inl ⟨rfl, rfl, ?_, ?_⟩⟩
        · rw [e4]; exact (((o1.trans o2).trans o3).mono pIn_rd).then (Or.inr (Or.inr (Or.inl (by omega))))
        · rw [e4]; exact R3.out (by omega) (nrf_arr (kRun_45 R3.1) (by decide) (by decide))
        · rw [e4]
          have := (((hS.inp o1).inp o2).inp o3).arr (c := x + 45) (o := 8) (m := 16) (i := kdV B (spE B n p) (wdE B n (spE B n p)) * 4 + kdV B (spE B n (wdE B n (spE B n p))) (wdE B n (spE B n (wdE B n (spE B n p))))) (v := cvE B n (spE B n (wdE B n (spE B n (wdE B n (spE B n p))))) 0) (Or.inl ⟨rfl, rfl, rfl⟩) (by omega)
          rw [show (8 : Int) + (kdV B (spE B n p) (wdE B n (spE B n p)) * 4 + kdV B (spE B n (wdE B n (spE B n p))) (wdE B n (spE B n (wdE B n (spE B n p))))) = 8 + 4 * kdV B (spE B n p) (wdE B n (spE B n p)) + kdV B (spE B n (wdE B n (spE B n p))) (wdE B n (spE B n (wdE B n (spE B n p)))) by omega] at this
          exact this
      · refine ⟨F3.1, 0, rfl, fun c => absurd rfl c, fun _ => ?_⟩
        simp only [wakS, kdS_good k1, kdS_good k2, stnS_bad k3]
        exact ⟨((o1.trans o2).trans o3).mono pIn_rd, Or.inr ⟨k3, rfl, F3⟩⟩
    · refine ⟨F2.1, 0, rfl, fun c => absurd rfl c, fun _ => ?_⟩
      simp only [wakS, kdS_good k1, kdS_bad k2, stnS_er one0]
      exact ⟨(o1.trans o2).mono pIn_rd, Or.inr ⟨one0, rfl, F2⟩⟩
  · refine ⟨F1.1, 0, rfl, fun c => absurd rfl c, fun _ => ?_⟩
    simp only [wakS, kdS_bad k1, kdS_er one0, stnS_er one0]
    exact ⟨o1.mono pIn_rd, Or.inr ⟨one0, rfl, F1⟩⟩
theorem k_readCost (hT : gT G) (h : RI H x B n p) (hS : TS H x R) (hd : 6 ≤ d := by omega) : CL l G mX3_readCost d 0 0 [vR (x + 1), vR (x + 44)] H (rP x B n (cosS B n (0, q, p, R)) H (fun H' => TS H' x (cosS B n (0, q, p, R)).2.2.2)) := by
  obtain ⟨d, rfl⟩ : ∃ k, d = k + 1 := ⟨d - 1, by omega⟩
  refine CL.of (by decide) rfl (Nat.le_of_ble_eq_true rfl) (s_X3_readCost_0 h.1 (CL.mono (k_readKind hT h) ?_))
  rintro r H1 ⟨o1, ⟨k1, rfl, R1, v1⟩ | ⟨k1, rfl, F1⟩⟩
  · have i1 := kdV_in k1
    refine ⟨R1.1, 1, rfl, fun _ => CL.mono (k_readNumber R1) ?_, fun c => absurd c (by decide)⟩
    rintro r H2 ⟨o2, ⟨k2, rfl, R2, v2⟩ | ⟨k2, rfl, F2⟩⟩
    · refine ⟨R2.1, 1, rfl, fun _ => ?_, fun c => absurd c (by decide)⟩
      rw [v1, v2]
      refine ⟨by omega, fun H3 e3 => ?_⟩
      have R3 : RI H3 x B n (dgE B n (spE B n (wdE B n (spE B n p)))) := by rw [e3]; exact R2.out (by omega) (nrf_arr (kRun_46 R2.1) (by decide) (by decide))
      have S3 := ((hS.inp o1).inp o2).arr (c := x + 46) (o := 24) (m := 4) (i := kdV B (spE B n p) (wdE B n (spE B n p))) (v := cvE B n (spE B n (wdE B n (spE B n p))) 0) (Or.inr (Or.inl ⟨rfl, rfl, rfl⟩)) (by omega)
      rw [← e3] at S3
      have p3 : only H H3 (pRd x) := by rw [e3]; exact ((o1.trans o2).mono pIn_rd).then (Or.inr (Or.inr (Or.inl (by omega))))
      refine CL.mono (k_readNumber R3) ?_
      rintro r H4 ⟨o4, ⟨k4, rfl, R4, v4⟩ | ⟨k4, rfl, F4⟩⟩
      · refine ⟨R4.1, 1, rfl, fun _ H5 e5 => ?_, fun c => absurd c (by decide)⟩
        rw [v4] at e5
        simp only [cosS, kdS_good k1, stnS_good k2, stnS_good k4]
        refine ⟨?_, Or.inl ⟨rfl, rfl, ?_, ?_⟩⟩
        · rw [e5]; exact (p3.trans (o4.mono pIn_rd)).then (Or.inr (Or.inr (Or.inl (by omega))))
        · rw [e5]; exact R4.out (by omega) (nrf_arr (kRun_47 R4.1) (by decide) (by decide))
        · rw [e5]
          exact (S3.inp o4).arr (c := x + 47) (o := 28) (m := 4) (Or.inr (Or.inr ⟨rfl, rfl, rfl⟩)) (by omega)
      · refine ⟨F4.1, 0, rfl, fun c => absurd rfl c, fun _ => ?_⟩
        simp only [cosS, kdS_good k1, stnS_good k2, stnS_bad k4]
        exact ⟨p3.trans (o4.mono pIn_rd), Or.inr ⟨k4, rfl, F4⟩⟩
    · refine ⟨F2.1, 0, rfl, fun c => absurd rfl c, fun _ => ?_⟩
      simp only [cosS, kdS_good k1, stnS_bad k2, stnS_er k2]
      exact ⟨(o1.trans o2).mono pIn_rd, Or.inr ⟨k2, rfl, F2⟩⟩
  · refine ⟨F1.1, 0, rfl, fun c => absurd rfl c, fun _ => ?_⟩
    simp only [cosS, kdS_bad k1, stnS_er one0]
    exact ⟨o1.mono pIn_rd, Or.inr ⟨one0, rfl, F1⟩⟩
/-- a setting is read -/
theorem set_rd {k j lo hi : Int} {r : AV} {H1 : AH} (hS : TS H x R) (hjk : (j = 0 ∧ k = 5) ∨ (j = 1 ∧ k = 4) ∨ (j = 2 ∧ k = 1) ∨ (j = 3 ∧ k = 2) ∨ (j = 4 ∧ k = 3)) (hn : ∀ H' : AH, Lay LRun H' x → nrf H' (x + 44) j)
    (h : only H H1 (pIn x) ∧ ((nmE B n p lo hi = 0 ∧ r = vI 1 ∧ RI H1 x B n (dgE B n (spE B n p)) ∧ hg H1 (x + 1) 4 = cvE B n (spE B n p) 0) ∨ (nmE B n p lo hi ≠ 0 ∧ r = vI 0 ∧ FE H1 x (nmE B n p lo hi) (spE B n p)))) :
    Lay LRun H1 x ∧ ∃ y : Int, r = vI y ∧ ∀ H2, H2 = hs H1 (x + 44) j (hg H1 (x + 1) 4) → (y = 0 ∨ y = 1) ∧ rP x B n (stnS B n (0, q, p, R) k lo hi) H (fun H' => TS H' x (stnS B n (0, q, p, R) k lo hi).2.2.2) (vI y) H2 := by
  obtain ⟨o1, ⟨k1, rfl, R1, v1⟩ | ⟨k1, rfl, F1⟩⟩ := h
  · refine ⟨R1.1, 1, rfl, fun H2 e2 => ⟨Or.inr rfl, ?_⟩⟩
    rw [v1] at e2
    rw [stnS_good k1]
    refine ⟨?_, Or.inl ⟨rfl, rfl, ?_, ?_⟩⟩
    · rw [e2]; exact (o1.mono pIn_rd).then (Or.inr (Or.inl ⟨rfl, by omega, by omega⟩))
    · rw [e2]; exact R1.out (by omega) (hn _ R1.1)
    · rw [e2]; exact (hS.inp o1).set hjk
  · refine ⟨F1.1, 0, rfl, fun H2 e2 => ⟨Or.inl rfl, ?_, Or.inr ?_⟩⟩
    · rw [e2]; exact (o1.mono pIn_rd).then (Or.inr (Or.inl ⟨rfl, by omega, by omega⟩))
    · rw [stnS_bad k1]
      refine ⟨k1, rfl, ?_, ?_, ?_⟩
      · rw [e2]; exact F1.1.wr ok_Run (hn _ F1.1)
      · rw [e2]; exact (hg_ne _ (by omega)).trans F1.2.1
      · rw [e2]; exact (hg_ne _ (by omega)).trans F1.2.2
/-- what a setting's word asks for -/
def setK (B : Row) (n s : Int) (σ : PS) : PS := if wEq B s σ.2.2.1 ws_mixed = true then stnS B n σ 4 0 600 else if wEq B s σ.2.2.1 ws_shift = true then stnS B n σ 1 0 4 else if wEq B s σ.2.2.1 ws_freeze = true then stnS B n σ 2 0 1800 else if wEq B s σ.2.2.1 ws_around = true then stnS B n σ 3 60 3600 else (1, s, σ.2.2.1, σ.2.2.2)
theorem k_readSetting {s : Int} (hT : gT G) (h : RI H x B n p) (h3 : hg H (x + 1) 3 = s) (hs : 0 ≤ s ∧ s ≤ p) (hS : TS H x R) (hd : 5 ≤ d := by omega) : CL l G mX3_readSetting d 0 0 [vR (x + 1), vR (x + 44)] H (rP x B n (setK B n s (0, q, p, R)) H (fun H' => TS H' x (setK B n s (0, q, p, R)).2.2.2)) := by
  obtain ⟨d, rfl⟩ : ∃ k, d = k + 1 := ⟨d - 1, by omega⟩
  have wd : ∀ bs, kWd H x bs (wEq B s p bs) := fun bs => h.wd h3 hs
  refine CL.of (by decide) rfl (Nat.le_of_ble_eq_true rfl) (s_X3_readSetting_0 hT h.1 ⟨_, wd _, fun c1 => ⟨_, wd _, fun c2 => ⟨_, wd _, fun c3 => ⟨_, wd _, fun c4 => CL.mono (k_fail h.1) ?_, fun c4 => CL.mono (k_readNumber h) ?_⟩, fun c3 => CL.mono (k_readNumber h) ?_⟩, fun c2 => CL.mono (k_readNumber h) ?_⟩, fun c1 => CL.mono (k_readNumber h) ?_⟩)
  · rintro r H1 ⟨rfl, o1, F1⟩
    rw [h3] at F1
    have e : setK B n s (0, q, p, R) = (1, s, p, R) := by unfold setK; rw [if_neg c1, if_neg c2, if_neg c3, if_neg c4]
    rw [e]
    exact ⟨F1.1, 0, rfl, Or.inl rfl, o1.mono pIn_rd, Or.inr ⟨one0, rfl, F1⟩⟩
  · have e : setK B n s (0, q, p, R) = stnS B n (0, q, p, R) 3 60 3600 := by unfold setK; rw [if_neg c1, if_neg c2, if_neg c3, if_pos c4]
    rw [e]
    exact fun r H1 z => set_rd hS (by omega) (fun H' L => nrf_fld 4 (kRun_44 L) (by decide) (by decide)) z
  · have e : setK B n s (0, q, p, R) = stnS B n (0, q, p, R) 2 0 1800 := by unfold setK; rw [if_neg c1, if_neg c2, if_pos c3]
    rw [e]
    exact fun r H1 z => set_rd hS (by omega) (fun H' L => nrf_fld 3 (kRun_44 L) (by decide) (by decide)) z
  · have e : setK B n s (0, q, p, R) = stnS B n (0, q, p, R) 1 0 4 := by unfold setK; rw [if_neg c1, if_pos c2]
    rw [e]
    exact fun r H1 z => set_rd hS (by omega) (fun H' L => nrf_fld 2 (kRun_44 L) (by decide) (by decide)) z
  · have e : setK B n s (0, q, p, R) = stnS B n (0, q, p, R) 4 0 600 := by unfold setK; rw [if_pos c1]
    rw [e]
    exact fun r H1 z => set_rd hS (by omega) (fun H' L => nrf_fld 1 (kRun_44 L) (by decide) (by decide)) z
end
