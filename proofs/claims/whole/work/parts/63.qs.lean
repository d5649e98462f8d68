/-! the class: questions about plans -/
theorem smL_mem {f : Int → Int} {n : Nat} : ∀ {L : List Int}, L.Nodup → (∀ x ∈ L, 0 ≤ x ∧ x < n) → smL f L = sm (fun k => if (k : Int) ∈ L then f k else 0) n
  | [], _, _ => by
    have : ∀ m : Nat, sm (fun k => if (k : Int) ∈ ([] : List Int) then f k else 0) m = 0 := by
      intro m
      induction m with
      | zero => rfl
      | succ m ih => unfold sm; rw [ih]; simp
    rw [this]
    rfl
  | x :: L, hd, hx => by
    have h1 := List.nodup_cons.mp hd
    have ih := smL_mem (f := f) (n := n) (L := L) h1.2 (fun y hy => hx y (List.mem_cons_of_mem _ hy))
    have h0 := hx x List.mem_cons_self
    obtain ⟨j, rfl⟩ := Int.eq_ofNat_of_zero_le h0.1
    have := sm_one (f := fun k => if (k : Int) ∈ (j : Int) :: L then f k else 0) (g := fun k => if (k : Int) ∈ L then f k else 0) (j := j) (n := n) (fun k _ hk => by
      have : ¬ (k : Int) = j := by omega
      simp [this]) (by omega)
    have e1 : (if (j : Int) ∈ (j : Int) :: L then f j else 0) = f j := by simp
    have e2 : (if (j : Int) ∈ L then f j else 0) = 0 := by rw [if_neg h1.1]
    simp only [e1, e2] at this
    show f j + smL f L = _
    omega
theorem smL_snoc {f : Int → Int} {x : Int} : ∀ {L : List Int}, smL f (L ++ [x]) = smL f L + f x
  | [] => by show f x + 0 = 0 + f x; omega
  | y :: L => by show f y + smL f (L ++ [x]) = f y + smL f L + f x; rw [smL_snoc]; omega
theorem csum_smL {M : Row} {g : Int → Int} : ∀ n (T : List (Int × Int)), T.length = n → (∀ p ∈ T, costM M p.1 p.2 = g p.1) → csum M T = smL g (T.map Prod.fst)
  | 0, T, h, _ => by
    have : T = [] := List.length_eq_zero_iff.mp h
    subst this
    rfl
  | n + 1, T, h, hg => by
    have hne : T ≠ [] := fun z => by rw [z] at h; simp at h
    obtain ⟨A, p, rfl⟩ : ∃ A p, T = A ++ [p] := ⟨T.dropLast, T.getLast hne, (List.dropLast_concat_getLast hne).symm⟩
    rw [csum_snoc, List.map_append, List.map_cons, List.map_nil, smL_snoc, csum_smL n A (by simpa using h) (fun q hq => hg q (List.mem_append_left _ hq)), hg p (by simp)]
section
variable {l : Launch} {G : GT} {H : AH} {x : Int} {M : Row} {d : Nat}
theorem k_timeOf {f : Int} (hG : GX l G) (hR : RX H x M) (hd : 13 ≤ d := by omega) : CL l G mX7_timeOf d 4 24 [vR x, vI f] H (xP x M (1 - bi (decide (fl M f))) 1 (vI (vTimeOf M f)) H) := by
  obtain ⟨d, rfl⟩ : ∃ k, d = k + 1 := ⟨d - 1, by omega⟩
  refine CL.of (by decide) rfl (Nat.le_of_ble_eq_true rfl) (s_X7_timeOf_0 hG hR.sk hR.la ⟨fun c => xP.id hR (ans_f c).symm, fun c => ⟨c, fun c2 => CL.mono (k_timeIn hR.sx hR.pl (by omega) c c2) ?_, fun c2 => xP.id hR ?_⟩⟩)
  · rintro v H1 ⟨rfl, q⟩
    obtain ⟨R1, o1⟩ := hR.rf q
    exact ⟨R1.la, R1.sk, _, rfl, by rw [ans_t c, vTimeOf, if_pos c, if_neg c2], o1, R1⟩
  · rw [ans_t c, vTimeOf, if_pos c, if_pos c2]
theorem k_delay {f : Int} (hG : GX l G) (hR : RX H x M) (hd : 13 ≤ d := by omega) : CL l G mX7_delay d 4 24 [vR x, vI f] H (xP x M (1 - bi (decide (fl M f))) 1 (vI (vDelay M f)) H) := by
  obtain ⟨d, rfl⟩ : ∃ k, d = k + 1 := ⟨d - 1, by omega⟩
  refine CL.of (by decide) rfl (Nat.le_of_ble_eq_true rfl) (s_X7_delay_0 hG hR.sk hR.la ⟨fun c => xP.id hR (ans_f c).symm, fun c => ⟨c, fun c2 => CL.mono (k_timeIn hR.sx hR.pl (by omega) c c2) ?_, fun c2 => xP.id hR ?_⟩⟩)
  · rintro v H1 ⟨rfl, q⟩
    obtain ⟨R1, o1⟩ := hR.rf q
    have t := tmNow_in hR.ok c c2
    obtain ⟨-, -, h2, -⟩ := hR.ok.2 f c.1 c.2
    exact ⟨R1.la, R1.sk, _, rfl, by omega, by rw [ans_t c, vDelay, if_pos c, if_neg c2], o1, R1⟩
  · rw [ans_t c, vDelay, if_pos c, if_pos c2]
theorem k_isLate {f : Int} (hG : GX l G) (hR : RX H x M) (hd : 13 ≤ d := by omega) : CL l G mX7_isLate d 4 24 [vR x, vI f] H (xP x M (1 - bi (decide (fl M f))) 1 (vI (vIsLate M f)) H) := by
  obtain ⟨d, rfl⟩ : ∃ k, d = k + 1 := ⟨d - 1, by omega⟩
  refine CL.of (by decide) rfl (Nat.le_of_ble_eq_true rfl) (s_X7_isLate_0 hG hR.sk hR.la ⟨fun c => xP.id hR (ans_f c).symm, fun c => ⟨c, fun c2 => CL.mono (k_timeIn hR.sx hR.pl (by omega) c c2) ?_, fun c2 => xP.id hR ?_⟩⟩)
  · rintro v H1 ⟨rfl, q⟩
    obtain ⟨R1, o1⟩ := hR.rf q
    exact ⟨R1.la, R1.sk, _, rfl, fun q2 => ⟨by rw [ans_t c, vIsLate, bi_f (fun z => by have := z.2.2; omega)], o1, R1⟩, fun q2 => ⟨by rw [ans_t c, vIsLate, bi_t ⟨c, c2, q2⟩], o1, R1⟩⟩
  · rw [ans_t c, vIsLate, bi_f (fun z => z.2.1 c2)]
theorem af_00 : afdiv (al2f 0) 1148846080 = 0 := by decide +kernel
theorem k_costOf {f : Int} (hG : GX l G) (hR : RX H x M) (hd : 13 ≤ d := by omega) : CL l G mX7_costOf d 4 24 [vR x, vI f] H (xP x M (1 - bi (decide (fl M f))) 1 (vF (vCostOf M f)) H) := by
  obtain ⟨d, rfl⟩ : ∃ k, d = k + 1 := ⟨d - 1, by omega⟩
  refine CL.of (by decide) rfl (Nat.le_of_ble_eq_true rfl) (s_X7_costOf_0 hG hR.sk hR.la ⟨fun c => xP.id hR (ans_f c).symm, fun c => ⟨c, fun c2 => CL.mono (k_timeIn hR.sx hR.pl (by omega) c c2) ?_, fun c2 => xP.id hR ?_⟩⟩)
  · rintro v H1 ⟨rfl, q⟩
    obtain ⟨R1, o1⟩ := hR.rf q
    have t := tmNow_in hR.ok c c2
    refine ⟨R1.la, R1.sk, _, rfl, c, by omega, afok_k _, ?_, o1, R1⟩
    rw [ans_t c, vCostOf, if_pos c, cNow, if_neg c2]
  · rw [ans_t c, vCostOf, if_pos c, cNow, if_pos c2, af_00]
theorem k_placeOf {f : Int} (hG : GX l G) (hR : RX H x M) (hd : 13 ≤ d := by omega) : CL l G mX7_placeOf d 4 24 [vR x, vI f] H (xP x M (1 - bi (decide (fl M f))) 1 (vI (vPlaceOf M f)) H) := by
  obtain ⟨d, rfl⟩ : ∃ k, d = k + 1 := ⟨d - 1, by omega⟩
  refine CL.of (by decide) rfl (Nat.le_of_ble_eq_true rfl) (s_X7_placeOf_0 hG hR.sk hR.la ⟨fun c => xP.id hR (ans_f c).symm, fun c => ⟨c, fun c2 => ?_, fun c2 => xP.id hR ?_⟩⟩)
  · obtain ⟨-, -, -, -, -, -, h6, -⟩ := hR.ok.2 f c.1 c.2
    refine CL.mono (k_refresh hR.sx hR.pl (by omega) h6) ?_
    rintro v H1 ⟨rfl, q1, q2, q3, g1, -⟩
    obtain ⟨R1, o1⟩ := hR.rf ⟨q1, q2, q3⟩
    refine ⟨R1.la, R1.sk, rfl, CL.mono (k_placeIn R1.sk c c2 (q2.2.2.at hR.ok h6 g1)) ?_⟩
    rintro v H2 ⟨rfl, rfl⟩
    exact ⟨R1.la, R1.sk, _, rfl, by rw [ans_t c, vPlaceOf, if_pos c, if_pos c2], o1, R1⟩
  · rw [ans_t c, vPlaceOf, if_pos c, if_neg c2]
theorem k_slack {f : Int} (hG : GX l G) (hR : RX H x M) (hd : 13 ≤ d := by omega) : CL l G mX7_slack d 4 24 [vR x, vI f] H (xP x M (1 - bi (decide (fl M f))) 1 (vI (vSlack M f)) H) := by
  obtain ⟨d, rfl⟩ : ∃ k, d = k + 1 := ⟨d - 1, by omega⟩
  refine CL.of (by decide) rfl (Nat.le_of_ble_eq_true rfl) (s_X7_slack_0 hG hR.sk hR.la ⟨fun c => xP.id hR (ans_f c).symm, fun c => ⟨c, fun c2 => ?_, fun c2 => xP.id hR ?_⟩⟩)
  · obtain ⟨-, -, -, -, -, -, h6, -⟩ := hR.ok.2 f c.1 c.2
    refine CL.mono (k_refresh hR.sx hR.pl (by omega) h6) ?_
    rintro v H1 ⟨rfl, q1, q2, q3, g1, -⟩
    obtain ⟨R1, o1⟩ := hR.rf ⟨q1, q2, q3⟩
    refine ⟨R1.la, R1.sk, rfl, CL.mono (k_roomBehind R1.sk c c2 (q2.2.2.at hR.ok h6 g1)) ?_⟩
    rintro v H2 ⟨rfl, rfl⟩
    exact ⟨R1.la, R1.sk, _, rfl, by rw [ans_t c], o1, R1⟩
  · rw [ans_t c, vSlack, if_pos c, if_neg c2]
theorem k_binding {f : Int} (hG : GX l G) (hR : RX H x M) (hd : 13 ≤ d := by omega) : CL l G mX7_binding d 4 24 [vR x, vI f] H (xP x M (1 - bi (decide (fl M f))) 1 (vI (vBind M f)) H) := by
  obtain ⟨d, rfl⟩ : ∃ k, d = k + 1 := ⟨d - 1, by omega⟩
  refine CL.of (by decide) rfl (Nat.le_of_ble_eq_true rfl) (s_X7_binding_0 hG hR.sk hR.la ⟨fun c => xP.id hR (ans_f c).symm, fun c => ⟨c, fun c2 => ?_, fun c2 => xP.id hR ?_⟩⟩)
  · obtain ⟨-, -, -, -, -, -, h6, -⟩ := hR.ok.2 f c.1 c.2
    refine CL.mono (k_refresh hR.sx hR.pl (by omega) h6) ?_
    rintro v H1 ⟨rfl, q1, q2, q3, g1, -⟩
    obtain ⟨R1, o1⟩ := hR.rf ⟨q1, q2, q3⟩
    refine ⟨R1.la, R1.sk, rfl, CL.mono (k_bindingOf R1.sk q2.2.1 c c2 (q2.2.2.at hR.ok h6 g1)) ?_⟩
    rintro v H2 ⟨rfl, rfl⟩
    exact ⟨R1.la, R1.sk, _, rfl, by rw [ans_t c], o1, R1⟩
  · rw [ans_t c, vBind, if_pos c, if_neg c2]
theorem k_firstComePlace {f : Int} (hG : GX l G) (hR : RX H x M) (hd : 7 ≤ d := by omega) : CL l G mX7_firstComePlace d 4 24 [vR x, vI f] H (xP x M (1 - bi (decide (fl M f))) 1 (vI (vFirst M f)) H) := by
  obtain ⟨d, rfl⟩ : ∃ k, d = k + 1 := ⟨d - 1, by omega⟩
  refine CL.of (by decide) rfl (Nat.le_of_ble_eq_true rfl) (s_X7_firstComePlace_0 hG hR.sk hR.la ⟨fun c => xP.id hR (ans_f c).symm, fun c => ⟨c, fun c2 => CL.mono (k_placeInLine hR.sk hR.pl (by omega) c c2) ?_, fun c2 => xP.id hR ?_⟩⟩)
  · rintro v H1 ⟨rfl, q⟩
    obtain ⟨R1, o1⟩ := hR.pla q
    exact ⟨R1.la, R1.sk, _, rfl, by rw [ans_t c, vFirst, if_pos c, if_pos c2], o1, R1⟩
  · rw [ans_t c, vFirst, if_pos c, if_neg c2]
theorem k_firstComeCost {r : Int} (hG : GX l G) (hR : RX H x M) (hd : 7 ≤ d := by omega) : CL l G mX7_firstComeCost d 4 24 [vR x, vI r] H (xP x M (1 - bi (decide (rl M r))) 1 (vJ (vFCC M r)) H) := by
  obtain ⟨d, rfl⟩ : ∃ k, d = k + 1 := ⟨d - 1, by omega⟩
  refine CL.of (by decide) rfl (Nat.le_of_ble_eq_true rfl) (s_X7_firstComeCost_0 hG hR.sk hR.la ⟨fun c => xP.id hR (ans_f c).symm, fun c => CL.mono (k_costInLine hR.sk hR.sx.2.1 hR.pl (by omega)) ?_⟩)
  rintro v H1 ⟨rfl, q⟩
  obtain ⟨R1, o1⟩ := hR.pla q
  exact ⟨R1.la, R1.sk, _, rfl, by rw [ans_t c, vFCC, if_pos c], o1, R1⟩
theorem k_equalSequences {r : Int} (hG : GX l G) (hR : RX H x M) (hd : 13 ≤ d := by omega) : CL l G mX7_equalSequences d 4 24 [vR x, vI r] H (xP x M (1 - bi (decide (rl M r))) 1 (vI (vEqS M r)) H) := by
  obtain ⟨d, rfl⟩ : ∃ k, d = k + 1 := ⟨d - 1, by omega⟩
  refine CL.of (by decide) rfl (Nat.le_of_ble_eq_true rfl) (s_X7_equalSequences_0 hG hR.sk hR.la ⟨fun c => xP.id hR (ans_f c).symm, fun c => CL.mono (k_countEqual hR.sk hR.sx.2.1 hR.pl (by omega)) ?_⟩)
  rintro v H1 ⟨rfl, q⟩
  obtain ⟨R1, o1⟩ := hR.pla q
  exact ⟨R1.la, R1.sk, _, rfl, by rw [ans_t c, vEqS, if_pos c], o1, R1⟩
theorem k_lastTime {r : Int} (hG : GX l G) (hR : RX H x M) (hd : 13 ≤ d := by omega) : CL l G mX7_lastTime d 4 24 [vR x, vI r] H (xP x M (1 - bi (decide (rl M r))) 1 (vI (vLast M r)) H) := by
  obtain ⟨d, rfl⟩ : ∃ k, d = k + 1 := ⟨d - 1, by omega⟩
  have h5 := okM_5 hR.ok
  have hn := okM_n hR.ok
  have hC := comeL_len hR.ok (r := r)
  refine CL.of (by decide) rfl (Nat.le_of_ble_eq_true rfl) (s_X7_lastTime_0 hG hR.sk hR.la ⟨fun c => xP.id hR (ans_f c).symm, fun c => CL.mono (k_refresh hR.sx hR.pl (by omega) c) ?_⟩)
  rintro v H1 ⟨rfl, q1, q2, q3, g1, -⟩
  have c1 := c.1
  have c2 := c.2
  obtain ⟨R1, o1⟩ := hR.rf ⟨q1, q2, q3⟩
  have fr := q2.2.2.at hR.ok c g1
  have f1 := fr.1
  rw [show x + 20 + 20 = x + 40 by omega] at f1
  refine ⟨R1.la, R1.sk, rfl, by omega, ?_⟩
  rw [f1]
  refine ⟨fun q => ?_, fun q => ⟨?_, o1, R1⟩⟩
  · have hk : 0 ≤ ((comeL M r).length : Int) - 1 ∧ ((comeL M r).length : Int) - 1 < (comeL M r).length := by omega
    have pp := pl_at hR.ok hk
    have e1 := fr.pl hR.ok hk (i := r * 24 + (comeL M r).length - 1) (by omega)
    rw [show x + 20 + 19 = x + 39 by omega] at e1
    rw [e1]
    have tv : hg H1 (x + 20 + 16) (wAt (planL M r) (((comeL M r).length : Int) - 1)) = planT M (wAt (planL M r) (((comeL M r).length : Int) - 1)) := by
      have : Frs H1 (x + 20) M (ofM M (wAt (planL M r) (((comeL M r).length : Int) - 1)) 6) := by rw [pp.2.2]; exact fr
      exact this.time hR.ok pp.1 pp.2.1
    rw [show x + 20 + 16 = x + 36 by omega] at tv
    rw [tv]
    have p1 := pp.1.1
    have p2 := pp.1.2
    exact ⟨by omega, by omega, by omega, by omega, by omega, by rw [ans_t c, vLast, if_pos c, if_neg (by omega)], o1, R1⟩
  · rw [ans_t c, vLast, if_pos c, if_pos (by omega)]
theorem k_plannedAt {r k : Int} (hG : GX l G) (hR : RX H x M) (hd : 13 ≤ d := by omega) : CL l G mX7_plannedAt d 4 24 [vR x, vI r, vI k] H (xP x M (1 - bi (decide (rl M r))) 1 (vI (vPlannedAt M r k)) H) := by
  obtain ⟨d, rfl⟩ : ∃ k, d = k + 1 := ⟨d - 1, by omega⟩
  have h5 := okM_5 hR.ok
  have hC := comeL_len hR.ok (r := r)
  have pl := (planL_perm hR.ok (r := r)).2.1
  refine CL.of (by decide) rfl (Nat.le_of_ble_eq_true rfl) (s_X7_plannedAt_0 hG hR.sk hR.la ⟨fun c => xP.id hR (ans_f c).symm, fun c => CL.mono (k_refresh hR.sx hR.pl (by omega) c) ?_⟩)
  rintro v H1 ⟨rfl, q1, q2, q3, g1, -⟩
  have c1 := c.1
  have c2 := c.2
  obtain ⟨R1, o1⟩ := hR.rf ⟨q1, q2, q3⟩
  have fr := q2.2.2.at hR.ok c g1
  have f1 := fr.1
  rw [show x + 20 + 20 = x + 40 by omega] at f1
  refine ⟨R1.la, R1.sk, rfl, fun q => ⟨?_, o1, R1⟩, fun q => ⟨by omega, ?_⟩⟩
  · rw [ans_t c, vPlannedAt, if_pos c, if_neg (by omega)]
  · rw [f1]
    refine ⟨fun q2 => ⟨by omega, by omega, by omega, ?_, o1, R1⟩, fun q2 => ⟨?_, o1, R1⟩⟩
    · have e1 := fr.pl hR.ok (k := k) ⟨q, q2⟩ (i := r * 24 + k) (by omega)
      rw [show x + 20 + 19 = x + 39 by omega] at e1
      rw [e1, ans_t c, vPlannedAt, if_pos c, if_pos (by omega)]
    · rw [ans_t c, vPlannedAt, if_pos c, if_neg (by omega)]
theorem k_totalCost (hR : RX H x M) (hd : 13 ≤ d := by omega) : CL l G mX7_totalCost d 0 0 [vR x] H (xP x M 0 0 (vJ (totM M)) H) := by
  obtain ⟨d, rfl⟩ : ∃ k, d = k + 1 := ⟨d - 1, by omega⟩
  refine CL.of (by decide) rfl (Nat.le_of_ble_eq_true rfl) (s_X7_totalCost_0 hR.sk hR.la (CL.mono (k_wholeCost hR.sx hR.pl (by omega)) ?_))
  rintro v H1 ⟨rfl, q⟩
  obtain ⟨R1, o1⟩ := hR.rf q
  exact ⟨R1.la, R1.sk, _, rfl, ans_0.symm, o1, R1⟩
theorem k_meanDelay (hR : RX H x M) (hd : 13 ≤ d := by omega) : CL l G mX7_meanDelay d 0 0 [vR x] H (xP x M 0 0 (vF (vMean M)) H) := by
  obtain ⟨d, rfl⟩ : ∃ k, d = k + 1 := ⟨d - 1, by omega⟩
  refine CL.of (by decide) rfl (Nat.le_of_ble_eq_true rfl) (s_X7_meanDelay_0 hR.sk hR.la (CL.mono (k_refreshAll hR.sx hR.pl (by omega)) ?_))
  rintro v H1 ⟨rfl, q, fA⟩
  obtain ⟨R1, o1⟩ := hR.rf q
  refine ⟨R1.la, R1.sk, rfl, CL.mono (k_averageDelay R1.sk R1.sx.2.1 fA) ?_⟩
  rintro v H2 ⟨rfl, rfl⟩
  exact ⟨R1.la, R1.sk, _, rfl, ans_0.symm, o1, R1⟩
theorem k_lateCount (hR : RX H x M) (hd : 13 ≤ d := by omega) : CL l G mX7_lateCount d 0 0 [vR x] H (xP x M 0 0 (vI (lateM M)) H) := by
  obtain ⟨d, rfl⟩ : ∃ k, d = k + 1 := ⟨d - 1, by omega⟩
  refine CL.of (by decide) rfl (Nat.le_of_ble_eq_true rfl) (s_X7_lateCount_0 hR.sk hR.la (CL.mono (k_refreshAll hR.sx hR.pl (by omega)) ?_))
  rintro v H1 ⟨rfl, q, fA⟩
  obtain ⟨R1, o1⟩ := hR.rf q
  refine ⟨R1.la, R1.sk, rfl, CL.mono (k_countLate R1.sk R1.sx.2.1 fA) ?_⟩
  rintro v H2 ⟨rfl, rfl⟩
  exact ⟨R1.la, R1.sk, _, rfl, ans_0.symm, o1, R1⟩
theorem pnR_in {M : Row} (hM : okM M) {r : Int} : 0 ≤ pnR M r ∧ pnR M r ≤ 24 := by
  have hC := comeL_len hM (r := r)
  have := sm_in (f := fun k => bi (decide (pnP M r k))) (lo := 0) (hi := 1) (n := (comeL M r).length - 1) (fun k _ => bi_in _)
  unfold pnR pnN
  omega
theorem k_pastNeighbor (hR : RX H x M) (hd : 13 ≤ d := by omega) : CL l G mX7_pastNeighbor d 0 0 [vR x] H (xP x M 0 0 (vI (vPast M)) H) := by
  obtain ⟨d, rfl⟩ : ∃ k, d = k + 1 := ⟨d - 1, by omega⟩
  have h5 := okM_5 hR.ok
  refine CL.of (by decide) rfl (Nat.le_of_ble_eq_true rfl) (s_X7_pastNeighbor_0 hR.sk hR.la (CL.mono (k_refreshAll hR.sx hR.pl (by omega)) ?_))
  rintro v H1 ⟨rfl, q, fA⟩
  obtain ⟨R1, o1⟩ := hR.rf q
  refine ⟨R1.la, R1.sk, rfl, ?_⟩
  have key : ∀ j, j ≤ (M 5).toNat → AW l G mX7_pastNeighbor (d + 1) 0 0 (xP x M 0 0 (vI (vPast M)) H) 15 [vR x, vI (sm (fun r => pnR M r) j), vI j] [] 0 0 H1 := by
    refine upN _ ?_ ?_
    · intro j hj ih
      have p1 := pnR_in hR.ok (r := j)
      have p2 := sm_in (f := fun r : Nat => pnR M r) (lo := 0) (hi := 24) (n := j) (fun k _ => pnR_in hR.ok)
      refine s_X7_pastNeighbor_15 R1.sk R1.la ⟨fun c => absurd c (by omega), fun _ => CL.mono (k_heldPastNeighbor (r := j) R1.sk ⟨by omega, by omega⟩ (fA j (by omega) (by omega))) ?_⟩
      rintro v H2 ⟨rfl, rfl⟩
      exact ⟨R1.la, R1.sk, _, rfl, by omega, by omega, ih⟩
    · exact s_X7_pastNeighbor_15 R1.sk R1.la ⟨fun _ => ⟨ans_0.symm, o1, R1⟩, fun c => absurd c (by omega)⟩
  exact key 0 (Nat.zero_le _)
theorem k_timeInserted {c e r : Int} (hG : GX l G) (hR : RX H x M) (hd : 13 ≤ d := by omega) : CL l G mX7_timeInserted d 4 24 [vR x, vI c, vI e, vI r] H (fun v H' => (tTI M c e r = 0 → v = vI (vTI M c e r)) ∧ (tTI M c e r = 1 → v = vT 1) ∧ (tTI M c e r = 2 → v = vT 0) ∧ only H H' (pX x) ∧ RX H' x M) := by
  obtain ⟨d, rfl⟩ : ∃ k, d = k + 1 := ⟨d - 1, by omega⟩
  refine CL.of (by decide) rfl (Nat.le_of_ble_eq_true rfl) (s_X7_timeInserted_0 hG hR.sk hR.la ⟨fun c1 => ?_, fun c1 => ⟨fun c2 => ?_, fun c2 => ⟨fun c3 => ?_, fun c3 => ⟨fun c4 => ?_, fun c4 => ?_⟩⟩⟩⟩)
  · have t : tTI M c e r = 1 := by rw [tTI, if_neg c1]
    rw [t]
    exact ⟨fun z => absurd z (by decide), fun _ => rfl, fun z => absurd z (by decide), only.rf, hR⟩
  · have t : tTI M c e r = 2 := by rw [tTI, if_pos c1, if_neg (fun z => c2 z.1)]
    rw [t]
    exact ⟨fun z => absurd z (by decide), fun z => absurd z (by decide), fun _ => rfl, only.rf, hR⟩
  · have t : tTI M c e r = 2 := by rw [tTI, if_pos c1, if_neg (fun z => by have := z.2.1; omega)]
    rw [t]
    exact ⟨fun z => absurd z (by decide), fun z => absurd z (by decide), fun _ => rfl, only.rf, hR⟩
  · have t : tTI M c e r = 0 := by rw [tTI, if_pos c1, if_pos ⟨c2, c3, c4⟩]
    rw [t]
    refine CL.mono (k_refresh hR.sx hR.pl (by omega) c1) ?_
    rintro v H1 ⟨rfl, q1, q2, q3, g1, -⟩
    obtain ⟨R1, o1⟩ := hR.rf ⟨q1, q2, q3⟩
    refine ⟨R1.la, R1.sk, rfl, CL.mono (k_firstGap R1.sk q2.2.1 c1 (q2.2.2.at hR.ok c1 g1) c2 ⟨c3, c4⟩) ?_⟩
    rintro v H2 ⟨rfl, rfl⟩
    exact ⟨R1.la, R1.sk, _, rfl, fun _ => by rw [vTI, if_pos c1, if_pos ⟨c2, c3, c4⟩], fun z => absurd z (by decide), fun z => absurd z (by decide), o1, R1⟩
  · have t : tTI M c e r = 2 := by rw [tTI, if_pos c1, if_neg (fun z => by have := z.2.2; omega)]
    rw [t]
    exact ⟨fun z => absurd z (by decide), fun z => absurd z (by decide), fun _ => rfl, only.rf, hR⟩
theorem k_planCost {r : Int} (hG : GX l G) (hR : RX H x M) (hd : 13 ≤ d := by omega) : CL l G mX7_planCost d 4 24 [vR x, vI r] H (xP x M (1 - bi (decide (rl M r))) 1 (vJ (vPlanCost M r)) H) := by
  obtain ⟨d, rfl⟩ : ∃ k, d = k + 1 := ⟨d - 1, by omega⟩
  have hM := hR.ok
  have h5 := okM_5 hM
  have hn := okM_n hM
  have hC := comeL_len hM (r := r)
  obtain ⟨p1, p2, p3⟩ := planL_perm hM (r := r)
  refine CL.of (by decide) rfl (Nat.le_of_ble_eq_true rfl) (s_X7_planCost_0 hG hR.sk hR.la ⟨fun c => xP.id hR (ans_f c).symm, fun c => CL.mono (k_refresh hR.sx hR.pl (by omega) c) ?_⟩)
  rintro v H1 ⟨rfl, q1, q2, q3, g1, -⟩
  have c1 := c.1
  have c2 := c.2
  obtain ⟨R1, o1⟩ := hR.rf ⟨q1, q2, q3⟩
  have fr := q2.2.2.at hM c g1
  have f1 := fr.1
  rw [show x + 20 + 20 = x + 40 by omega] at f1
  have tl : (tmS M r [] (planL M r)).length = (comeL M r).length := by rw [tmS_len, p2]; simp
  have tok : okT M (tmS M r [] (planL M r)) 400000 := fun t ht => by
    have := tmS_ok hM (r := r) (planL M r) [] (fun y hy => ((comeL_mem hM).mp ((p3 y).mp hy)).1) (fun p hp => by cases hp) t ht
    simp only [List.length_nil, Nat.zero_add] at this
    exact ⟨this.1, by omega, by omega⟩
  have hl : lst H1 (x + 20 + 19) (r * 24) ((tmS M r [] (planL M r)).map Prod.fst) := by rw [plan_fst, Int.mul_comm]; exact fr.2.1
  have ca := k_costAlong (l := l) (G := G) (d := d) (o := r * 24) (T := tmS M r [] (planL M r)) R1.sk (sA_Sta_19 R1.sk.1) (sA_Sta_16 R1.sk.1) (by omega) hl tok (by omega) fr.2.2.1
  rw [tl] at ca
  refine ⟨R1.la, R1.sk, rfl, by omega, by omega, ?_⟩
  rw [f1, show x + 39 = x + 20 + 19 by omega, show x + 36 = x + 20 + 16 by omega]
  refine CL.mono ca ?_
  rintro v H2 ⟨rfl, rfl⟩
  refine ⟨R1.la, R1.sk, _, rfl, ?_, o1, R1⟩
  rw [ans_t c, vPlanCost, if_pos c]
  have pf : ∀ y ∈ planL M r, fl M y ∧ ofM M y 7 = 0 ∧ ofM M y 6 = r := fun y hy => (comeL_mem hM).mp ((p3 y).mp hy)
  have e1 : csum M (tmS M r [] (planL M r)) = smL (fun f => cNow M f) (planL M r) := by
    have := csum_smL (M := M) (g := fun f => cNow M f) _ (tmS M r [] (planL M r)) rfl (fun t ht => by
      have hm : t.1 ∈ planL M r := by rw [← plan_fst]; exact List.mem_map.mpr ⟨t, ht, rfl⟩
      obtain ⟨y1, y2, y3⟩ := pf _ hm
      have t1 := fr.2.2.1 t ht
      have fr' : Frs H2 (x + 20) M (ofM M t.1 6) := by rw [y3]; exact fr
      have t2 := fr'.time hM y1 y2
      show costM M t.1 t.2 = cNow M t.1
      rw [cNow, if_neg (by omega), tmNow, if_pos y2, ← t2, t1])
    rw [plan_fst] at this
    exact this
  rw [e1, smL_mem p1 (n := (M 6).toNat) (fun y hy => by have := (pf y hy).1; unfold fl at this; omega)]
  refine congrArg vJ ?_
  unfold plcN
  refine sm_congr fun k hk => ?_
  show (if (k : Int) ∈ planL M r then cNow M k else 0) = (if ofM M k 7 = 0 ∧ ofM M k 6 = r then cNow M k else 0)
  by_cases q : ofM M k 7 = 0 ∧ ofM M k 6 = r
  · rw [if_pos q, if_pos ((p3 k).mpr ((comeL_mem hM).mpr ⟨⟨by omega, by omega⟩, q⟩))]
  · rw [if_neg q, if_neg (fun z => q (pf k z).2)]
end
