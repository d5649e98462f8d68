/-! the class: what it tells -/
theorem k_classOf {l : Launch} {G : GT} {H : AH} {x : Int} {M : Row} {d : Nat} {f : Int} (hG : GX l G) (hR : RX H x M) (hd : 7 ≤ d := by omega) : CL l G mX7_classOf d 4 24 [vR x, vI f] H (xP x M (1 - bi (decide (fl M f))) 1 (vI (vTold M f 1)) H) := by
  obtain ⟨d, rfl⟩ : ∃ k, d = k + 1 := ⟨d - 1, by omega⟩
  refine CL.of (by decide) rfl (Nat.le_of_ble_eq_true rfl) (s_X7_classOf_0 hG hR.sk hR.la ⟨fun c => xP.id hR (ans_f c).symm, fun c => ⟨c, xP.id hR ?_⟩⟩)
  rw [ans_t c, vTold, if_pos c]
theorem k_earliest {l : Launch} {G : GT} {H : AH} {x : Int} {M : Row} {d : Nat} {f : Int} (hG : GX l G) (hR : RX H x M) (hd : 7 ≤ d := by omega) : CL l G mX7_earliest d 4 24 [vR x, vI f] H (xP x M (1 - bi (decide (fl M f))) 1 (vI (vTold M f 2)) H) := by
  obtain ⟨d, rfl⟩ : ∃ k, d = k + 1 := ⟨d - 1, by omega⟩
  refine CL.of (by decide) rfl (Nat.le_of_ble_eq_true rfl) (s_X7_earliest_0 hG hR.sk hR.la ⟨fun c => xP.id hR (ans_f c).symm, fun c => ⟨c, xP.id hR ?_⟩⟩)
  rw [ans_t c, vTold, if_pos c]
theorem k_target {l : Launch} {G : GT} {H : AH} {x : Int} {M : Row} {d : Nat} {f : Int} (hG : GX l G) (hR : RX H x M) (hd : 7 ≤ d := by omega) : CL l G mX7_target d 4 24 [vR x, vI f] H (xP x M (1 - bi (decide (fl M f))) 1 (vI (vTold M f 3)) H) := by
  obtain ⟨d, rfl⟩ : ∃ k, d = k + 1 := ⟨d - 1, by omega⟩
  refine CL.of (by decide) rfl (Nat.le_of_ble_eq_true rfl) (s_X7_target_0 hG hR.sk hR.la ⟨fun c => xP.id hR (ans_f c).symm, fun c => ⟨c, xP.id hR ?_⟩⟩)
  rw [ans_t c, vTold, if_pos c]
theorem k_latest {l : Launch} {G : GT} {H : AH} {x : Int} {M : Row} {d : Nat} {f : Int} (hG : GX l G) (hR : RX H x M) (hd : 7 ≤ d := by omega) : CL l G mX7_latest d 4 24 [vR x, vI f] H (xP x M (1 - bi (decide (fl M f))) 1 (vI (vTold M f 4)) H) := by
  obtain ⟨d, rfl⟩ : ∃ k, d = k + 1 := ⟨d - 1, by omega⟩
  refine CL.of (by decide) rfl (Nat.le_of_ble_eq_true rfl) (s_X7_latest_0 hG hR.sk hR.la ⟨fun c => xP.id hR (ans_f c).symm, fun c => ⟨c, xP.id hR ?_⟩⟩)
  rw [ans_t c, vTold, if_pos c]
theorem k_runwayOf {l : Launch} {G : GT} {H : AH} {x : Int} {M : Row} {d : Nat} {f : Int} (hG : GX l G) (hR : RX H x M) (hd : 7 ≤ d := by omega) : CL l G mX7_runwayOf d 4 24 [vR x, vI f] H (xP x M (1 - bi (decide (fl M f))) 1 (vI (vTold M f 6)) H) := by
  obtain ⟨d, rfl⟩ : ∃ k, d = k + 1 := ⟨d - 1, by omega⟩
  refine CL.of (by decide) rfl (Nat.le_of_ble_eq_true rfl) (s_X7_runwayOf_0 hG hR.sk hR.la ⟨fun c => xP.id hR (ans_f c).symm, fun c => ⟨c, xP.id hR ?_⟩⟩)
  rw [ans_t c, vTold, if_pos c]
theorem k_stateOf {l : Launch} {G : GT} {H : AH} {x : Int} {M : Row} {d : Nat} {f : Int} (hG : GX l G) (hR : RX H x M) (hd : 7 ≤ d := by omega) : CL l G mX7_stateOf d 4 24 [vR x, vI f] H (xP x M (1 - bi (decide (fl M f))) 1 (vI (vTold M f 7)) H) := by
  obtain ⟨d, rfl⟩ : ∃ k, d = k + 1 := ⟨d - 1, by omega⟩
  refine CL.of (by decide) rfl (Nat.le_of_ble_eq_true rfl) (s_X7_stateOf_0 hG hR.sk hR.la ⟨fun c => xP.id hR (ans_f c).symm, fun c => ⟨c, xP.id hR ?_⟩⟩)
  rw [ans_t c, vTold, if_pos c]
theorem k_aroundCount {l : Launch} {G : GT} {H : AH} {x : Int} {M : Row} {d : Nat} {f : Int} (hG : GX l G) (hR : RX H x M) (hd : 7 ≤ d := by omega) : CL l G mX7_aroundCount d 4 24 [vR x, vI f] H (xP x M (1 - bi (decide (fl M f))) 1 (vI (vTold M f 9)) H) := by
  obtain ⟨d, rfl⟩ : ∃ k, d = k + 1 := ⟨d - 1, by omega⟩
  refine CL.of (by decide) rfl (Nat.le_of_ble_eq_true rfl) (s_X7_aroundCount_0 hG hR.sk hR.la ⟨fun c => xP.id hR (ans_f c).symm, fun c => ⟨c, xP.id hR ?_⟩⟩)
  rw [ans_t c, vTold, if_pos c]
theorem k_runwayCount {l : Launch} {G : GT} {H : AH} {x : Int} {M : Row} {d : Nat} (hR : RX H x M) : CL l G mX7_runwayCount d 0 0 [vR x] H (xP x M 0 0 (vI (M 5)) H) := CL.of (by decide) rfl (Nat.le_of_ble_eq_true rfl) (s_X7_runwayCount_0 hR.sk hR.la (xP.id hR ans_0.symm))
theorem k_flightCount {l : Launch} {G : GT} {H : AH} {x : Int} {M : Row} {d : Nat} (hR : RX H x M) : CL l G mX7_flightCount d 0 0 [vR x] H (xP x M 0 0 (vI (M 6)) H) := CL.of (by decide) rfl (Nat.le_of_ble_eq_true rfl) (s_X7_flightCount_0 hR.sk hR.la (xP.id hR ans_0.symm))
theorem k_now {l : Launch} {G : GT} {H : AH} {x : Int} {M : Row} {d : Nat} (hR : RX H x M) : CL l G mX7_now d 0 0 [vR x] H (xP x M 0 0 (vI (M 0)) H) := CL.of (by decide) rfl (Nat.le_of_ble_eq_true rfl) (s_X7_now_0 hR.sk hR.la (xP.id hR ans_0.symm))
theorem k_shift {l : Launch} {G : GT} {H : AH} {x : Int} {M : Row} {d : Nat} (hR : RX H x M) : CL l G mX7_shift d 0 0 [vR x] H (xP x M 0 0 (vI (M 1)) H) := CL.of (by decide) rfl (Nat.le_of_ble_eq_true rfl) (s_X7_shift_0 hR.sk hR.la (xP.id hR ans_0.symm))
theorem k_doneCount {l : Launch} {G : GT} {H : AH} {x : Int} {M : Row} {d : Nat} (hR : RX H x M) : CL l G mX7_doneCount d 0 0 [vR x] H (xP x M 0 0 (vI (M 7)) H) := CL.of (by decide) rfl (Nat.le_of_ble_eq_true rfl) (s_X7_doneCount_0 hR.sk hR.la (xP.id hR ans_0.symm))
section
variable {l : Launch} {G : GT} {H : AH} {x : Int} {M : Row} {d : Nat}
theorem k_isArrival {f : Int} (hG : GX l G) (hR : RX H x M) (hd : 7 ≤ d := by omega) : CL l G mX7_isArrival d 4 24 [vR x, vI f] H (xP x M (1 - bi (decide (fl M f))) 1 (vI (bi (decide (vTold M f 0 = 1)))) H) := by
  obtain ⟨d, rfl⟩ : ∃ k, d = k + 1 := ⟨d - 1, by omega⟩
  refine CL.of (by decide) rfl (Nat.le_of_ble_eq_true rfl) (s_X7_isArrival_0 hG hR.sk hR.la ⟨fun c => xP.id hR (ans_f c).symm, fun c => ?_⟩)
  have h0 := (hR.ok.2 f c.1 c.2).1
  refine ⟨c, h0, xP.id hR ?_⟩
  rw [ans_t c, vTold, if_pos c]
  rcases h0 with h | h
  · rw [h]; rfl
  · rw [h]; rfl
theorem k_nameByte {f k : Int} (hG : GX l G) (hR : RX H x M) (hd : 7 ≤ d := by omega) : CL l G mX7_nameByte d 4 24 [vR x, vI f, vI k] H (xP x M (1 - bi (decide (fl M f))) 1 (vI (vName M f k)) H) := by
  obtain ⟨d, rfl⟩ : ∃ k, d = k + 1 := ⟨d - 1, by omega⟩
  have hn := okM_n hR.ok
  refine CL.of (by decide) rfl (Nat.le_of_ble_eq_true rfl) (s_X7_nameByte_0 hG hR.sk hR.la ⟨fun c => xP.id hR (ans_f c).symm, fun c => ?_⟩)
  have c1 := c.1
  have c2 := c.2
  have hN := hR.2.1.2 f c
  rw [show x + 20 + 7 = x + 27 by omega, show x + 20 + 6 = x + 26 by omega] at hN
  refine ⟨fun q => xP.id hR ?_, fun q => ⟨by omega, fun q2 => ⟨by omega, by omega, by omega, xP.id hR ?_⟩, fun q2 => xP.id hR ?_⟩⟩
  · rw [ans_t c, vName, if_pos c, if_neg (by omega)]
  · have h1 := hN.2 k (by omega)
    rw [if_pos q2] at h1
    have h2 := h1.2 q2
    rw [ans_t c, vName, if_pos c, if_pos ⟨by omega, by omega⟩, h1.1]
  · rw [ans_t c, vName, if_pos c, if_neg]
    intro z
    have h1 := hN.2 k (by omega)
    rw [if_neg (by omega)] at h1
    exact z.2 h1.1
theorem k_wake {a b : Int} (hG : GX l G) (hR : RX H x M) (hd : 7 ≤ d := by omega) : CL l G mX7_wake d 4 24 [vR x, vI a, vI b] H (xP x M (1 - bi (decide ((0 ≤ a ∧ a ≤ 3) ∧ (0 ≤ b ∧ b ≤ 3)))) 0 (vI (if (0 ≤ a ∧ a ≤ 3) ∧ (0 ≤ b ∧ b ≤ 3) then M (8 + 4 * a + b) else 0)) H) := by
  obtain ⟨d, rfl⟩ : ∃ k, d = k + 1 := ⟨d - 1, by omega⟩
  refine CL.of (by decide) rfl (Nat.le_of_ble_eq_true rfl) (s_X7_wake_0 hG hR.sk hR.la ⟨fun c => xP.id hR (ans_f (fun z => c z.1)).symm, fun c => ⟨fun c2 => xP.id hR (ans_f (fun z => c2 z.2)).symm, fun c2 => ⟨by omega, by omega, by omega, xP.id hR ?_⟩⟩⟩)
  rw [ans_t ⟨c, c2⟩, if_pos ⟨c, c2⟩]
  congr 2
  omega
theorem k_separation {a b : Int} (hG : GX l G) (hR : RX H x M) (hd : 7 ≤ d := by omega) : CL l G mX7_separation d 4 24 [vR x, vI a, vI b] H (xP x M (1 - bi (decide (fl M a ∧ fl M b))) 1 (vI (vSep M a b)) H) := by
  obtain ⟨d, rfl⟩ : ∃ k, d = k + 1 := ⟨d - 1, by omega⟩
  refine CL.of (by decide) rfl (Nat.le_of_ble_eq_true rfl) (s_X7_separation_0 hG hR.sk hR.la ⟨fun c => xP.id hR (ans_f (fun z => c z.1)).symm, fun c => ⟨fun c2 => xP.id hR (ans_f (fun z => c2 z.2)).symm, fun c2 => ⟨c, c2, xP.id hR ?_⟩⟩⟩)
  rw [ans_t ⟨c, c2⟩, vSep, if_pos ⟨c, c2⟩]
theorem k_doneAt {k : Int} (hR : RX H x M) : CL l G mX7_doneAt d 0 0 [vR x, vI k] H (xP x M 0 0 (vI (vDoneAt M k)) H) := by
  refine CL.of (by decide) rfl (Nat.le_of_ble_eq_true rfl) (s_X7_doneAt_0 hR.sk hR.la ⟨fun c => xP.id hR ?_, fun c => ⟨fun c2 => ⟨⟨c, c2⟩, xP.id hR ?_⟩, fun c2 => xP.id hR ?_⟩⟩)
  · rw [ans_0, vDoneAt, if_neg (by omega)]
  · rw [ans_0, vDoneAt, if_pos ⟨c, c2⟩]
  · rw [ans_0, vDoneAt, if_neg (by omega)]
theorem sm_no {M : Row} : ∀ {n : Nat} {k : Nat}, k < n → ¬ ofM M k 9 = 0 → smN M n = 0
  | 0, k, h, _ => by omega
  | n + 1, k, h, h9 => by
    unfold smN
    by_cases e : k = n
    · rw [← e, bi_f h9]; split <;> rfl
    · rw [if_pos (sm_no (n := n) (by omega) h9)]
theorem sm_yes {M : Row} : ∀ {n : Nat}, (∀ k : Nat, k < n → ofM M k 9 = 0) → smN M n = 1
  | 0, _ => rfl
  | n + 1, h => by
    unfold smN
    rw [sm_yes (n := n) (fun k hk => h k (by omega)), if_neg (by decide), bi_t (h n (by omega))]
theorem k_isSmooth (hR : RX H x M) (hB : ∀ f, fl M f → 0 ≤ ofM M f 9) : CL l G mX7_isSmooth d 0 0 [vR x] H (xP x M 0 0 (vI (vSmooth M)) H) := by
  have hn := okM_n hR.ok
  have key : ∀ j, j ≤ (M 6).toNat → (∀ k : Nat, k < j → ofM M k 9 = 0) → AW l G mX7_isSmooth d 0 0 (xP x M 0 0 (vI (vSmooth M)) H) 2 [vR x, vI j] [] 0 0 H := by
    refine upN _ ?_ ?_
    · intro j hj ih h0
      have hjf : fl M j := ⟨by omega, by omega⟩
      have := hB j hjf
      refine s_X7_isSmooth_2 hR.sk hR.la ⟨fun c => absurd c (by omega), fun _ => ⟨hjf, fun c => ⟨by omega, ih (fun k hk => ?_)⟩, fun c => xP.id hR ?_⟩⟩
      · by_cases e : k = j
        · rw [e]; omega
        · exact h0 k (by omega)
      · rw [ans_0, vSmooth, sm_no (k := j) (by omega) (by omega)]
    · intro h0
      refine s_X7_isSmooth_2 hR.sk hR.la ⟨fun _ => xP.id hR ?_, fun c => absurd c (by omega)⟩
      rw [ans_0, vSmooth, sm_yes h0]
  exact CL.of (by decide) rfl (Nat.le_of_ble_eq_true rfl) (s_X7_isSmooth_0 hR.sk hR.la (key 0 (Nat.zero_le _) (fun k hk => by omega)))
theorem k_longerTriples (hR : RX H x M) : CL l G mX7_longerTriples d 0 0 [vR x] H (xP x M 0 0 (vI (vTrip M)) H) := by
  have hw : ∀ k, 0 ≤ k → k < 16 → 0 ≤ M (8 + k) ∧ M (8 + k) ≤ 600 := hR.ok.1.2.2.2.2.2.2.2.2.1
  have b01 : ∀ n, 0 ≤ sm (fun k => bi (decide (trp M k))) n ∧ sm (fun k => bi (decide (trp M k))) n ≤ n := fun n => by
    have := sm_in (f := fun k => bi (decide (trp M k))) (lo := 0) (hi := 1) (n := n) (fun k _ => bi_in _)
    omega
  have third : ∀ (a b : Nat), a < 4 → b < 4 → (AW l G mX7_longerTriples d 0 0 (xP x M 0 0 (vI (vTrip M)) H) 23 [vR x, vR (x + 22), vI (sm (fun k => bi (decide (trp M k))) (16 * a + 4 * (b + 1))), vI a, vI (b + 1), vU] [] 0 0 H) →
      ∀ c : Nat, c ≤ 4 → AW l G mX7_longerTriples d 0 0 (xP x M 0 0 (vI (vTrip M)) H) 32 [vR x, vR (x + 22), vI (sm (fun k => bi (decide (trp M k))) (16 * a + 4 * b + c)), vI a, vI b, vI (c : Nat)] [] 0 0 H := by
    intro a b ha hb k0
    refine upN 4 ?_ ?_
    · intro c hc ih
      have bb := b01 (16 * a + 4 * b + c)
      have w1 := hw (a * 4 + c) (by omega) (by omega)
      have w2 := hw (a * 4 + b) (by omega) (by omega)
      have w3 := hw (b * 4 + c) (by omega) (by omega)
      have e : trp M (16 * a + 4 * b + c : Nat) ↔ M (8 + ((a : Int) * 4 + b)) + M (8 + ((b : Int) * 4 + c)) < M (8 + ((a : Int) * 4 + c)) := by
        have d1 : ((16 * a + 4 * b + c : Nat) : Int) / 16 = a := by omega
        have d2 : ((16 * a + 4 * b + c : Nat) : Int) / 4 % 4 = b := by omega
        have d3 : ((16 * a + 4 * b + c : Nat) : Int) % 4 = c := by omega
        unfold trp
        rw [d1, d2, d3, show 8 + 4 * (a : Int) + b = 8 + ((a : Int) * 4 + b) by omega, show 8 + 4 * (b : Int) + c = 8 + ((b : Int) * 4 + c) by omega, show 8 + 4 * (a : Int) + c = 8 + ((a : Int) * 4 + c) by omega]
      rw [show 16 * a + 4 * b + (c + 1) = (16 * a + 4 * b + c) + 1 by omega, sm] at ih
      refine s_X7_longerTriples_32 hR.sk hR.la ⟨fun q => absurd q (by omega), fun _ => ⟨by omega, by omega, by omega, by omega, by omega, by omega, by omega, by omega, by omega, fun q => ⟨by omega, ?_⟩, fun q => ⟨by omega, by omega, ?_⟩⟩⟩
      · rw [bi_f (fun z => by have := e.mp z; omega), Int.add_zero] at ih; exact ih
      · rw [bi_t (e.mpr (by omega))] at ih; exact ih
    · refine s_X7_longerTriples_32 hR.sk hR.la ⟨fun _ => ⟨by omega, ?_⟩, fun q => absurd q (by decide)⟩
      rw [show 16 * a + 4 * b + 4 = 16 * a + 4 * (b + 1) by omega]
      exact k0
  have second : ∀ (a : Nat), a < 4 → (AW l G mX7_longerTriples d 0 0 (xP x M 0 0 (vI (vTrip M)) H) 15 [vR x, vR (x + 22), vI (sm (fun k => bi (decide (trp M k))) (16 * (a + 1))), vI (a + 1), vU, vU] [] 0 0 H) →
      ∀ b : Nat, b ≤ 4 → AW l G mX7_longerTriples d 0 0 (xP x M 0 0 (vI (vTrip M)) H) 23 [vR x, vR (x + 22), vI (sm (fun k => bi (decide (trp M k))) (16 * a + 4 * b)), vI a, vI (b : Nat), vU] [] 0 0 H := by
    intro a ha k0
    refine upN 4 ?_ ?_
    · intro b hb ih
      have := third a b ha hb ih 0 (Nat.zero_le _)
      exact s_X7_longerTriples_23 hR.sk hR.la ⟨fun q => absurd q (by omega), fun _ => this⟩
    · refine s_X7_longerTriples_23 hR.sk hR.la ⟨fun _ => ⟨by omega, ?_⟩, fun q => absurd q (by decide)⟩
      rw [show 16 * a + 4 * 4 = 16 * (a + 1) by omega]
      exact k0
  have first : ∀ a : Nat, a ≤ 4 → AW l G mX7_longerTriples d 0 0 (xP x M 0 0 (vI (vTrip M)) H) 15 [vR x, vR (x + 22), vI (sm (fun k => bi (decide (trp M k))) (16 * a)), vI (a : Nat), vU, vU] [] 0 0 H := by
    refine upN 4 ?_ ?_
    · intro a ha ih
      exact s_X7_longerTriples_15 hR.sk hR.la ⟨fun q => absurd q (by omega), fun _ => second a ha ih 0 (Nat.zero_le _)⟩
    · exact s_X7_longerTriples_15 hR.sk hR.la ⟨fun _ => xP.id hR ans_0.symm, fun q => absurd q (by decide)⟩
  exact CL.of (by decide) rfl (Nat.le_of_ble_eq_true rfl) (s_X7_longerTriples_0 hR.sk hR.la (first 0 (Nat.zero_le _)))
end
