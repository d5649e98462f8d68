/-! the class: the best runway, balance, simulation -/
section
variable {l : Launch} {G : GT} {H : AH} {x : Int} {M : Row} {d : Nat}
theorem asg_id {f : Int} : asgM M f (ofM M f 6) = M := upM_id M _
theorem brS_in {f : Int} : ∀ n : Nat, (brS M f n).1 = -1 ∨ (0 ≤ (brS M f n).1 ∧ (brS M f n).1 < n)
  | 0 => Or.inl rfl
  | n + 1 => by
    have := brS_in (f := f) n
    unfold brS
    split
    · exact Or.inr ⟨by show 0 ≤ (n : Int); omega, by show (n : Int) < ((n + 1 : Nat) : Int); omega⟩
    · omega
/-- what the class keeps: the best of those looked at and of its own runway -/
def brI (M : Row) (f : Int) (n : Nat) (b c : Int) : Prop := (ofM M f 6 < n → (brS M f n).1 = b ∧ (brS M f n).2 = c ∧ b ≠ -1) ∧ ((n : Int) ≤ ofM M f 6 → ((brS M f n).1 = -1 → b = ofM M f 6 ∧ c = totM M) ∧ (¬ (brS M f n).1 = -1 → (brS M f n).2 ≤ totM M → b = (brS M f n).1 ∧ c = (brS M f n).2) ∧ (¬ (brS M f n).1 = -1 → totM M < (brS M f n).2 → b = ofM M f 6 ∧ c = totM M))
theorem brS_s {f : Int} {n : Nat} : brS M f (n + 1) = if shr (ofM M f 5) n % 2 = 1 ∧ ((brS M f n).1 = -1 ∨ totM (asgM M f n) < (brS M f n).2) then ((n : Int), totM (asgM M f n)) else brS M f n := rfl
/-- its own runway -/
theorem brI_own {f b c : Int} {n : Nat} (h5 : shr (ofM M f 5) (ofM M f 6) % 2 = 1) (hn : (n : Int) = ofM M f 6) (h : brI M f n b c) : brI M f (n + 1) b c := by
  have h2 := h.2 (by omega)
  have e : totM (asgM M f n) = totM M := by rw [hn, asg_id]
  have i := brS_in (M := M) (f := f) n
  refine ⟨fun _ => ?_, fun z => absurd z (by omega)⟩
  rw [brS_s, hn, h5]
  rw [hn] at e
  by_cases c1 : (brS M f n).1 = -1
  · have := h2.1 c1
    rw [if_pos ⟨rfl, Or.inl c1⟩]
    exact ⟨this.1.symm, by rw [asg_id]; exact this.2.symm, by omega⟩
  · by_cases c2 : totM M < (brS M f n).2
    · have := h2.2.2 c1 c2
      rw [if_pos ⟨rfl, Or.inr (by rw [asg_id]; exact c2)⟩]
      exact ⟨this.1.symm, by rw [asg_id]; exact this.2.symm, by omega⟩
    · have := h2.2.1 c1 (by omega)
      rw [if_neg (fun z => by rcases z.2 with z | z; exact c1 z; rw [asg_id] at z; exact c2 z)]
      exact ⟨this.1.symm, this.2.symm, by omega⟩
theorem brI_no {f b c : Int} {n : Nat} (h5 : ¬ shr (ofM M f 5) n % 2 = 1) (hn : ¬ (n : Int) = ofM M f 6) (h : brI M f n b c) : brI M f (n + 1) b c := by
  have e : brS M f (n + 1) = brS M f n := by rw [brS_s, if_neg (fun z => h5 z.1)]
  unfold brI
  rw [e]
  exact ⟨fun z => h.1 (by omega), fun z => h.2 (by omega)⟩
theorem brI_yes {f b c y : Int} {n : Nat} (h5 : shr (ofM M f 5) n % 2 = 1) (hn : ¬ (n : Int) = ofM M f 6) (hy : y = totM (asgM M f n)) (h : brI M f n b c) : ((y < c ∨ (y = c ∧ (n : Int) < b)) → brI M f (n + 1) n y) ∧ (¬ (y < c ∨ (y = c ∧ (n : Int) < b)) → brI M f (n + 1) b c) := by
  have i := brS_in (M := M) (f := f) n
  obtain ⟨h1, h2⟩ := h
  have e : brS M f (n + 1) = if (brS M f n).1 = -1 ∨ y < (brS M f n).2 then ((n : Int), y) else brS M f n := by
    rw [brS_s, ← hy]
    by_cases c1 : (brS M f n).1 = -1 ∨ y < (brS M f n).2
    · rw [if_pos c1, if_pos ⟨h5, c1⟩]
    · rw [if_neg c1, if_neg (fun z => c1 z.2)]
  unfold brI
  rw [e]
  by_cases c1 : (brS M f n).1 = -1 ∨ y < (brS M f n).2
  · rw [if_pos c1]
    refine ⟨fun q => ⟨fun z => ⟨rfl, rfl, by omega⟩, fun z => ?_⟩, fun q => ⟨fun z => ?_, fun z => ?_⟩⟩
    · have g := h2 (by omega)
      refine ⟨fun z2 => absurd z2 (by show ¬ (n : Int) = -1; omega), fun _ _ => ⟨rfl, rfl⟩, fun _ z3 => ?_⟩
      have z3 : totM M < y := z3
      exfalso
      by_cases w1 : (brS M f n).1 = -1
      · have := g.1 w1; omega
      · by_cases w2 : totM M < (brS M f n).2
        · have := g.2.2 w1 w2; omega
        · have := g.2.1 w1 (by omega); omega
    · have g := h1 (by omega)
      exfalso
      rcases c1 with c1 | c1 <;> omega
    · have g := h2 (by omega)
      refine ⟨fun z2 => absurd z2 (by show ¬ (n : Int) = -1; omega), fun _ z3 => ?_, fun _ z3 => ?_⟩
      · have z3 : y ≤ totM M := z3
        exfalso
        by_cases w1 : (brS M f n).1 = -1
        · have := g.1 w1; omega
        · by_cases w2 : totM M < (brS M f n).2
          · have := g.2.2 w1 w2; omega
          · have := g.2.1 w1 (by omega); omega
      · have z3 : totM M < y := z3
        by_cases w1 : (brS M f n).1 = -1
        · exact g.1 w1
        · by_cases w2 : totM M < (brS M f n).2
          · exact g.2.2 w1 w2
          · have := g.2.1 w1 (by omega); omega
  · rw [if_neg c1]
    have c2 : ¬ (brS M f n).1 = -1 ∧ (brS M f n).2 ≤ y := by omega
    refine ⟨fun q => ?_, fun q => ⟨fun z => h1 (by omega), fun z => h2 (by omega)⟩⟩
    exfalso
    by_cases w : ofM M f 6 < n
    · have := h1 w; omega
    · have g := h2 (by omega)
      by_cases w2 : totM M < (brS M f n).2
      · have := g.2.2 c2.1 w2; omega
      · have := g.2.1 c2.1 (by omega); omega
theorem k_bestRunway {f : Int} (hG : GX l G) (hR : RX H x M) (hd : 14 ≤ d := by omega) : CL l G mX7_bestRunway d 4 24 [vR x, vI f] H (xP x M (1 - bi (decide (fl M f))) 1 (vI (vBest M f)) H) := by
  obtain ⟨d, rfl⟩ : ∃ k, d = k + 1 := ⟨d - 1, by omega⟩
  have h5 := okM_5 hR.ok
  refine CL.of (by decide) rfl (Nat.le_of_ble_eq_true rfl) (s_X7_bestRunway_0 hG hR.sk hR.la ⟨fun c => xP.id hR (ans_f c).symm, fun c => ⟨c, fun c2 => CL.mono (k_wholeCost hR.sx hR.pl (by omega)) ?_, fun c2 => xP.id hR ?_⟩⟩)
  · rintro v H1 ⟨rfl, q1⟩
    obtain ⟨R1, w1⟩ := hR.rf q1
    refine ⟨R1.la, R1.sk, _, rfl, ?_⟩
    obtain ⟨-, -, -, -, -, -, g6, -, -, g9⟩ := hR.ok.2 f c.1 c.2
    have key : ∀ j, j ≤ (M 5).toNat → ∀ H2 b cc, only H H2 (pX x) → RX H2 x M → brI M f j b cc → AW l G mX7_bestRunway (d + 1) 4 24 (xP x M (1 - bi (decide (fl M f))) 1 (vI (vBest M f)) H) 45 [vR x, vI f, vI b, vJ cc, vU, vI j, vU, vU] [] 1 6 H2 := by
      refine upN _ ?_ ?_
      · intro j hj ih H2 b cc o2 R2 hI
        refine s_X7_bestRunway_45 hG R2.sk R2.la ⟨fun q => absurd q (by omega), fun _ => ⟨c, fun q => ⟨by omega, ih H2 b cc o2 R2 (brI_own g9 q hI)⟩, fun q => ⟨c, by omega, fun q2 => ⟨by omega, ih H2 b cc o2 R2 (brI_no q2 q hI)⟩, fun q2 => ?_⟩⟩⟩
        have ok : okAs M f j := ⟨⟨c, by omega, by omega⟩, refu_of c2 q2⟩
        refine CL.mono (k_costMoved R2 ok) ?_
        rintro v H3 ⟨rfl, o3, R3⟩
        obtain ⟨y1, y2⟩ := brI_yes q2 q rfl hI
        exact ⟨R3.la, R3.sk, _, rfl, fun z => ⟨by omega, ih H3 _ _ (o2.trans o3) R3 (y1 (Or.inl z))⟩, fun z => ⟨fun z2 => ⟨by omega, ih H3 _ _ (o2.trans o3) R3 (y2 (by omega))⟩, fun z2 => ⟨fun z3 => ⟨by omega, ih H3 _ _ (o2.trans o3) R3 (y2 (by omega))⟩, fun z3 => ⟨by omega, ih H3 _ _ (o2.trans o3) R3 (y1 (Or.inr ⟨z2, z3⟩))⟩⟩⟩⟩
      · intro H2 b cc o2 R2 hI
        refine s_X7_bestRunway_45 hG R2.sk R2.la ⟨fun _ => ⟨?_, o2, R2⟩, fun q => absurd q (by omega)⟩
        rw [ans_t c, vBest, if_pos c, if_pos c2, (hI.1 (by omega)).1]
    exact key 0 (Nat.zero_le _) H1 _ _ w1 R1 ⟨fun z => absurd z (by omega), fun _ => ⟨fun _ => ⟨rfl, rfl⟩, fun z => absurd rfl z, fun z => absurd rfl z⟩⟩
  · rw [ans_t c, vBest, if_pos c, if_neg c2]
theorem k_moveBest (hR : RX H x M) (hd : 14 ≤ d := by omega) : CL l G mX7_moveBest d 0 0 [vR x] H (fun v H' => v = vI (bi (decide (btr M))) ∧ only H H' (pX x) ∧ RX H' x (betM M)) := by
  obtain ⟨d, rfl⟩ : ∃ k, d = k + 1 := ⟨d - 1, by omega⟩
  have hM := hR.ok
  have h5 := okM_5 hM
  have hn := okM_n hM
  refine CL.of (by decide) rfl (Nat.le_of_ble_eq_true rfl) (s_X7_moveBest_0 hR.sk hR.la (CL.mono (k_wholeCost hR.sx hR.pl (by omega)) ?_))
  rintro v H1 ⟨rfl, q1⟩
  obtain ⟨R1, w1⟩ := hR.rf q1
  refine ⟨R1.la, R1.sk, _, rfl, ?_⟩
  have key : ∀ j, j ≤ (M 6).toNat → ∀ H2, only H H2 (pX x) → RX H2 x M → AW l G mX7_moveBest (d + 1) 0 0 (fun v H' => v = vI (bi (decide (btr M))) ∧ only H H' (pX x) ∧ RX H' x (betM M)) 20 [vR x, vJ (btF M j).1, vU, vI (btF M j).2.1, vI (btF M j).2.2, vI j, vU, vU, vU] [] 0 0 H2 := by
    refine upN _ ?_ ?_
    · intro j hj ih H2 o2 R2
      have hjf : fl M j := ⟨by omega, by omega⟩
      have h6 := (hM.2 j hjf.1 hjf.2).2.2.2.2.2.2.1
      refine s_X7_moveBest_20 R2.sk R2.la ⟨fun q => absurd q (by omega), fun _ => ?_⟩
      have inner : ∀ k, k ≤ (M 5).toNat → ∀ H3, only H H3 (pX x) → RX H3 x M → AW l G mX7_moveBest (d + 1) 0 0 (fun v H' => v = vI (bi (decide (btr M))) ∧ only H H' (pX x) ∧ RX H' x (betM M)) 38 [vR x, vJ (btR M j (btF M j) k).1, vU, vI (btR M j (btF M j) k).2.1, vI (btR M j (btF M j) k).2.2, vI j, vI k, vU, vU] [] 0 0 H3 := by
        refine upN _ ?_ ?_
        · intro k hk ihk H3 o3 R3
          have bi3 := btR_i hM hjf (btF_i hM j (by omega)) k (by omega)
          obtain ⟨s, hs⟩ : ∃ s, s = btR M j (btF M j) k := ⟨_, rfl⟩
          have e1 : btR M j (btF M j) (k + 1) = bt1 M s j k := by rw [hs]; rfl
          rw [← hs] at bi3 ⊢
          rw [e1] at ihk
          refine s_X7_moveBest_38 R3.sk R3.la ⟨fun q => absurd q (by omega), fun _ => ⟨hjf, fun q => ⟨by omega, ?_⟩, fun q => ⟨hjf, by omega, fun q2 => ⟨by omega, ?_⟩, fun q2 => ?_⟩⟩⟩
          · have e : bt1 M s j k = s := by
              rw [bt1, if_neg]
              intro z
              have z2 := z.2
              rw [q, asg_id] at z2
              have := bi3.1
              omega
            rw [e] at ihk
            exact ihk H3 o3 R3
          · have e : bt1 M s j k = s := by
              rw [bt1, if_neg]
              intro z
              exact q2 (refu_of z.1.1 z.1.2)
            rw [e] at ihk
            exact ihk H3 o3 R3
          · have ok : okAs M j k := ⟨⟨hjf, by omega, by omega⟩, q2⟩
            have r0 := refu_0 q2
            refine CL.mono (k_trial R3) ?_
            rintro v H4 ⟨rfl, o4, X4, R4⟩
            refine ⟨M, R4.la, R4.sk, X4.1, rfl, CL.mono (k_moveTo X4 ok) ?_⟩
            rintro v H5 ⟨rfl, o5, X5⟩
            have p5 : only H3 H5 (pTr x) := o4.trans (o5.mono fun c i q => Or.inr q.1)
            obtain ⟨R5, w5⟩ := R3.tr p5 (Or.inl X5)
            refine ⟨_, R5.la, R5.sk, X5.1, rfl, CL.mono (k_wholeCost X5 R5.pl (by omega)) ?_⟩
            rintro v H6 ⟨rfl, o6, X6, L6⟩
            have p6 : only H3 H6 (pTr x) := p5.trans (o6.mono fun c i q => pTm_tr c i (pRf_tm c i q))
            obtain ⟨R6, w6⟩ := R3.tr p6 (Or.inl X6)
            refine ⟨R6.la, R6.sk, X6.1, _, rfl, fun z => ⟨by omega, ?_⟩, fun z => ⟨by omega, ?_⟩⟩
            · have e : bt1 M s j k = s := by
                rw [bt1, if_neg]
                intro z2
                have := z2.2
                omega
              rw [e] at ihk
              exact ihk H6 (o3.trans w6) R6
            · have e : bt1 M s j k = (totM (asgM M j k), (j : Int), (k : Int)) := by rw [bt1, if_pos ⟨r0, z⟩]
              rw [e] at ihk
              exact ihk H6 (o3.trans w6) R6
        · intro H3 o3 R3
          exact s_X7_moveBest_38 R3.sk R3.la ⟨fun _ => ⟨by omega, ih H3 o3 R3⟩, fun q => absurd q (by omega)⟩
      exact inner 0 (Nat.zero_le _) H2 o2 R2
    · intro H2 o2 R2
      refine s_X7_moveBest_20 R2.sk R2.la ⟨fun _ => ⟨fun q => ?_, fun q => ?_⟩, fun q => absurd q (by omega)⟩
      · have q : btr M := q
        have ok := bet_ok hM q
        refine CL.mono (k_moveTo R2.sx ok) ?_
        rintro v H3 ⟨rfl, o3, X3⟩
        obtain ⟨R3, w3⟩ := R2.go (su_tm o3) X3 (lo_up (by omega) ok.1.1.1 (by omega)) (nm_one (by omega))
        refine ⟨_, R3.la, R3.sk, rfl, by rw [bi_t q], o2.trans w3, ?_⟩
        rw [betM, if_pos q]
        exact R3
      · refine ⟨by rw [bi_f (fun z => z q)], o2, ?_⟩
        rw [betM, if_neg (fun z => z q)]
        exact R2
  exact key 0 (Nat.zero_le _) H1 w1 R1
theorem k_balance (hR : RX H x M) (hd : 15 ≤ d := by omega) : CL l G mX7_balance d 0 0 [vR x] H (xP x (balS 10 M).2 0 0 (vI (balS 10 M).1) H) := by
  obtain ⟨d, rfl⟩ : ∃ k, d = k + 1 := ⟨d - 1, by omega⟩
  have key : ∀ (n k : Nat) (N : Row) (H1 : AH), k + n = 10 → only H H1 (pX x) → RX H1 x N → (balS n N).1 + k = (balS 10 M).1 → (balS n N).2 = (balS 10 M).2 → AW l G mX7_balance (d + 1) 0 0 (xP x (balS 10 M).2 0 0 (vI (balS 10 M).1) H) 2 [vR x, vI k] [] 0 0 H1 := by
    intro n
    induction n with
    | zero =>
      intro k N H1 hk o1 R1 e1 e2
      have e1 : (0 : Int) + k = (balS 10 M).1 := e1
      have e2 : N = (balS 10 M).2 := e2
      refine s_X7_balance_2 R1.sk R1.la ⟨fun _ => ⟨?_, o1, by rw [← e2]; exact R1⟩, fun q => absurd q (by omega)⟩
      rw [ans_0, ← e1, Int.zero_add]
    | succ n ih =>
      intro k N H1 hk o1 R1 e1 e2
      refine s_X7_balance_2 R1.sk R1.la ⟨fun q => absurd q (by omega), fun _ => CL.mono (k_moveBest R1) ?_⟩
      rintro v H2 ⟨rfl, o2, R2⟩
      refine ⟨_, R2.la, R2.sk, _, rfl, fun q => ?_, fun q => ⟨by omega, ?_⟩⟩
      · have nb : ¬ btr N := bi_0 q
        rw [balS, if_neg nb] at e1 e2
        have e1 : (0 : Int) + k = (balS 10 M).1 := e1
        have e2 : N = (balS 10 M).2 := e2
        rw [betM, if_neg nb] at R2
        exact ⟨by rw [ans_0, ← e1, Int.zero_add], o1.trans o2, by rw [← e2]; exact R2⟩
      · have nb : btr N := bi_1 q
        rw [balS, if_pos nb] at e1 e2
        have := ih (k + 1) (betM N) H2 (by omega) (o1.trans o2) R2 (by have e1 : (balS n (betM N)).1 + 1 + (k : Int) = (balS 10 M).1 := e1; omega) e2
        exact this
  exact CL.of (by decide) rfl (Nat.le_of_ble_eq_true rfl) (s_X7_balance_0 hR.sk hR.la (key 10 0 M H (by omega) only.rf hR (by omega) rfl))
end
