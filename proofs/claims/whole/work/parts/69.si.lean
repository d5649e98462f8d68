/-! the class: simulation -/
section
variable {l : Launch} {G : GT} {H : AH} {x : Int} {M : Row} {d : Nat}
theorem k_outcome {N : Row} {w : Int} (hR : RX H x M) (hX : SX H (x + 43) N) (hd : 13 ≤ d := by omega) : CL l G mX7_outcome d 0 0 [vR x, vI w] H (fun v H' => v = vI (if w = 0 then N 7 else if w = 2 then lateM N else af2i (vMean N)) ∧ only H H' (pX x) ∧ RX H' x M ∧ SK H' (x + 43) N) := by
  obtain ⟨d, rfl⟩ : ∃ k, d = k + 1 := ⟨d - 1, by omega⟩
  refine CL.of (by decide) rfl (Nat.le_of_ble_eq_true rfl) (s_X7_outcome_0 hR.sk hX.1 hR.la ⟨fun c => CL.mono (k_refreshAll hX hR.pl (by omega)) ?_, fun c => ⟨by rw [if_pos c], only.rf, hR, hX.1⟩⟩)
  rintro v H1 ⟨rfl, ⟨o1, X1, L1⟩, fA⟩
  have q1 : only H H1 (pTr x) := o1.mono fun c i q => pTm_tr c i (pRf_tm c i q)
  obtain ⟨R1, w1⟩ := hR.tr q1 (Or.inl X1)
  refine ⟨R1.la, R1.sk, X1.1, rfl, fun c2 => CL.mono (k_averageDelay X1.1 X1.2.1 fA) ?_, fun c2 => CL.mono (k_countLate X1.1 X1.2.1 fA) ?_⟩
  · rintro v H2 ⟨rfl, rfl⟩
    exact ⟨R1.la, R1.sk, X1.1, _, rfl, by rw [if_neg c, if_neg c2], w1, R1, X1.1⟩
  · rintro v H2 ⟨rfl, rfl⟩
    exact ⟨R1.la, R1.sk, X1.1, _, rfl, by rw [if_neg c, if_pos c2], w1, R1, X1.1⟩
theorem lcg_t {y : Int} (h : 0 ≤ y) : ((1103515245 * y) + 12345).tmod 2147483648 = lcg y := by
  rw [Int.tmod_eq_emod_of_nonneg (by omega)]
  rfl
theorem lcg_q {y : Int} (h : 0 ≤ y) : (y.tdiv 65536).tmod 1000 = y / 65536 % 1000 := by
  rw [Int.tdiv_eq_ediv_of_nonneg h, Int.tmod_eq_emod_of_nonneg (by omega)]
theorem simN_end {p e : Int} {s : S3} (h : ¬ s.1 0 < e) : ∀ n, simN p e n s = s
  | 0 => rfl
  | n + 1 => by unfold simN; rw [if_neg h]
theorem k_simulate {y p s w : Int} (hG : GX l G) (hR : RX H x M) (hy : inI y) (h0 : M 0 ≤ 200000) (hD : okD M) (hB : arB M 800000000) (hd : 15 ≤ d := by omega) : CL l G mX7_simulate d 4 24 [vR x, vI y, vI p, vI s, vI w] H (xP x M (1 - bi (decide (okSi y p s w))) 0 (vI (vSim M y p s w)) H) := by
  obtain ⟨d, rfl⟩ : ∃ k, d = k + 1 := ⟨d - 1, by omega⟩
  have hM := hR.ok
  have no : ¬ okSi y p s w → xP x M (1 - bi (decide (okSi y p s w))) 0 (vI (vSim M y p s w)) H (vT 0) H := fun c => xP.id hR (ans_f c).symm
  refine CL.of (by decide) rfl (Nat.le_of_ble_eq_true rfl) (s_X7_simulate_0 hG hR.sk hR.la ⟨fun c => no (fun z => by have := z.1; omega), fun c1 => ⟨fun c => no (fun z => by have := z.2.1.1; omega), fun c2 => ⟨fun c => no (fun z => by have := z.2.1.2; omega), fun c3 => ⟨fun c => no (fun z => by have := z.2.2.2.1; omega), fun c4 => ⟨fun c5 => ⟨fun c => no (fun z => c z.2.2.1), fun c6 => ?_⟩, fun c => no (fun z => by have := z.2.2.2.2; omega)⟩⟩⟩⟩⟩)
  have ok : okSi y p s w := ⟨c1, ⟨c2, c3⟩, c6, c4, c5⟩
  have m0 := hM.1.1
  refine CL.mono (k_trial hR) ?_
  rintro v H1 ⟨rfl, o1, X1, R1⟩
  refine ⟨M, R1.la, R1.sk, X1.1, rfl, ?_⟩
  have key : ∀ (n k : Nat) (S : S3) (H2 : AH), k + n = 120 → only H H2 (pTr x) → SX H2 (x + 43) S.1 → okQ (M 0 + s) (800000000 + 24 * k) S → S.1 0 = min (M 0 + 60 * k) (M 0 + s) → simN p (M 0 + s) n S = simE M y p s →
      AW l G mX7_simulate (d + 1) 4 24 (xP x M (1 - bi (decide (okSi y p s w))) 0 (vI (vSim M y p s w)) H) 62 [vR x, vI y, vI p, vI s, vI w, vI S.2.2, vJ S.2.1, vU, vI (60 * k), vU, vU] [] 2 12 H2 := by
    intro n
    induction n with
    | zero =>
      intro k S H2 hk o2 X2 hQ hS he
      obtain ⟨R2, w2⟩ := hR.tr o2 (Or.inl X2)
      have he : S = simE M y p s := he
      refine s_X7_simulate_62 hG R2.sk X2.1 R2.la ⟨fun _ => ⟨fun q => CL.mono (k_outcome R2 X2) ?_, fun q => ⟨?_, w2, R2⟩⟩, fun q => absurd q (by omega)⟩
      · rintro v H3 ⟨rfl, o3, R3, K3⟩
        refine ⟨R3.la, R3.sk, K3, _, rfl, ?_, w2.trans o3, R3⟩
        rw [ans_t ok, vSim, if_pos ok, he]
        by_cases q2 : w = 0
        · rw [if_pos q2, if_pos q2]
        · rw [if_neg q2, if_neg q2, if_neg q]
      · rw [ans_t ok, vSim, if_pos ok, if_neg (by omega), if_pos q, he]
    | succ n ih =>
      intro k S H2 hk o2 X2 hQ hS he
      obtain ⟨R2, w2⟩ := hR.tr o2 (Or.inl X2)
      have q0 := hQ.1.1.1.1
      refine s_X7_simulate_62 hG R2.sk X2.1 R2.la ⟨fun q9 => ⟨fun q => CL.mono (k_outcome R2 X2) ?_, fun q => ⟨?_, w2, R2⟩⟩, fun q9 => ⟨by omega, ?_⟩⟩
      · rintro v H3 ⟨rfl, o3, R3, K3⟩
        refine ⟨R3.la, R3.sk, K3, _, rfl, ?_, w2.trans o3, R3⟩
        rw [simN_end (by omega)] at he
        rw [ans_t ok, vSim, if_pos ok, he]
        by_cases q2 : w = 0
        · rw [if_pos q2, if_pos q2]
        · rw [if_neg q2, if_neg q2, if_neg q]
      · rw [simN_end (by omega)] at he
        rw [ans_t ok, vSim, if_pos ok, if_neg (by omega), if_pos q, he]
      · have hlt : S.1 0 < M 0 + s := by omega
        obtain ⟨r1, r2, r3, r4, r5⟩ := sim_step (p := p) (by omega) hQ hlt
        unfold simN at he
        rw [if_pos hlt] at he
        have go : ∀ t, t = min (M 0 + s) (S.1 0 + 60) → CL l G mX2_pass d 0 0 [vR (x + 3), vR (x + 43), vI t] H2 (fun r9 H3 => ∃ M1 : Row, Lay LRun H3 x ∧ SK H3 (x + 20) M ∧ SK H3 (x + 43) M1 ∧ ∃ y1 : Int, r9 = vI y1 ∧ AW l G mX7_simulate (d + 1) 4 24 (xP x M (1 - bi (decide (okSi y p s w))) 0 (vI (vSim M y p s w)) H) 111 [vR x, vI y, vI p, vI s, vI w, vI S.2.2, vJ S.2.1, vU, vI (60 * k), vI (s - 60 * k), vI 0] [] 2 12 H3) := by
          intro t ht
          refine CL.mono (k_pass X2 hQ.1.2 R2.pl (by omega) (by omega) (by omega)) ?_
          rintro v H3 ⟨rfl, o3, X3, L3⟩
          have p3 : only H H3 (pTr x) := o2.trans (o3.mono pTm_tr)
          obtain ⟨R3, w3⟩ := hR.tr p3 (Or.inl X3)
          refine ⟨_, R3.la, R3.sk, X3.1, _, rfl, ?_⟩
          rw [ht] at X3
          obtain ⟨P, hP⟩ : ∃ P, P = pasM S.1 (min (M 0 + s) (S.1 0 + 60)) := ⟨_, rfl⟩
          rw [← hP] at X3 r1 r2 r3 r4 r5 he
          have hn6 := okM_n hQ.1.1
          have inner : ∀ j, j ≤ (S.1 6).toNat → ∀ H4, only H H4 (pTr x) → SX H4 (x + 43) (drN p (P, S.2) j).1 → AW l G mX7_simulate (d + 1) 4 24 (xP x M (1 - bi (decide (okSi y p s w))) 0 (vI (vSim M y p s w)) H) 111 [vR x, vI y, vI p, vI s, vI w, vI (drN p (P, S.2) j).2.2, vJ (drN p (P, S.2) j).2.1, vU, vI (60 * k), vI (s - 60 * k), vI j] [] 2 12 H4 := by
            refine upN _ ?_ ?_
            · intro j hj ihj H4 o4 X4
              obtain ⟨R4, w4⟩ := hR.tr o4 (Or.inl X4)
              have D := drN_ok (p := p) r1 j (by omega)
              obtain ⟨T, hT⟩ : ∃ T, T = drN p (P, S.2) j := ⟨_, rfl⟩
              have e1 : drN p (P, S.2) (j + 1) = dr1 p T j := by rw [hT]; rfl
              rw [← hT] at D X4 ⊢
              rw [e1] at ihj
              have t6 : T.1 6 = S.1 6 := D.1.2.2.1.trans r3
              have hjf : fl T.1 j := ⟨by omega, by omega⟩
              have hu := D.2.1
              have hv := D.2.2.1
              have lc := lcg_in (x := T.2.1)
              refine s_X7_simulate_111 hG R4.sk X4.1 R4.la ⟨fun q => absurd q (by omega), fun _ => ⟨hjf, fun q => ⟨by omega, ?_⟩, fun q => ⟨fun q2 => ⟨by omega, ?_⟩, fun q2 => ?_⟩⟩⟩
              · have e : dr1 p T j = T := by rw [dr1, if_neg (by rw [noarM, if_neg q]; decide)]
                rw [e] at ihj
                exact ihj H4 o4 X4
              · have e : dr1 p T j = T := by rw [dr1, if_neg (by rw [noarM, if_pos q, if_neg (by omega)]; decide)]
                rw [e] at ihj
                exact ihj H4 o4 X4
              · have z0 := (X4.1.2.1.2 j hjf.1 hjf.2).1
                have na : noarM T.1 j = 0 := by rw [noarM, if_pos q, if_pos (by omega)]
                have td : ((1103515245 * T.2.1) + 12345).tdiv 2147483648 = (1103515245 * T.2.1 + 12345) / 2147483648 := Int.tdiv_eq_ediv_of_nonneg (by omega)
                rw [lcg_t hu.1, lcg_q lc.1, td]
                have td2 : (lcg T.2.1).tdiv 65536 = lcg T.2.1 / 65536 := Int.tdiv_eq_ediv_of_nonneg lc.1
                have td3 : (lcg T.2.1 / 65536).tdiv 1000 = lcg T.2.1 / 65536 / 1000 := Int.tdiv_eq_ediv_of_nonneg (by omega)
                rw [td2, td3]
                refine ⟨by omega, by omega, ⟨by omega, by omega, by omega⟩, by omega, ⟨by omega, by omega, by omega⟩, fun q3 => ⟨by omega, ?_⟩, fun q3 => ?_⟩
                · have e : dr1 p T j = (T.1, lcg T.2.1, T.2.2) := by rw [dr1, if_pos na, if_neg (by omega)]
                  rw [e] at ihj
                  exact ihj H4 o4 X4
                · have e : dr1 p T j = (arM T.1 j, lcg T.2.1, T.2.2 + 1) := by rw [dr1, if_pos na, if_pos q3]
                  rw [e] at ihj
                  have ar := D.2.2.2 j hjf
                  refine CL.mono (k_turn X4 hjf (by omega)) ?_
                  rintro v H5 ⟨rfl, o5, X5⟩
                  have p5 : only H H5 (pTr x) := o4.trans (o5.mono fun c i q => Or.inr q.1)
                  obtain ⟨R5, w5⟩ := hR.tr p5 (Or.inl X5)
                  exact ⟨_, R5.la, R5.sk, X5.1, rfl, by omega, by omega, ihj H5 p5 X5⟩
            · intro H4 o4 X4
              obtain ⟨R4, w4⟩ := hR.tr o4 (Or.inl X4)
              have D := drN_ok (p := p) r1 (S.1 6).toNat (by omega)
              have t6 := D.1.2.2.1.trans r3
              refine s_X7_simulate_111 hG R4.sk X4.1 R4.la ⟨fun _ => ⟨by omega, ?_⟩, fun q => absurd q (by omega)⟩
              have := ih (k + 1) (drN p (P, S.2) (S.1 6).toNat) H4 (by omega) o4 X4 (by rw [show 800000000 + 24 * ((k + 1 : Nat) : Int) = 800000000 + 24 * k + 24 by omega]; exact r4) (by rw [r5]; omega) he
              rw [show 60 * ((k + 1 : Nat) : Int) = 60 * k + 60 by omega] at this
              exact this
          exact inner 0 (Nat.zero_le _) H3 p3 X3
        exact ⟨fun q => ⟨by omega, go _ (by omega)⟩, fun q => ⟨by omega, go _ (by omega)⟩⟩
  have := key 120 0 (M, y, 0) H1 (by omega) o1 X1 ⟨⟨hM, hD⟩, by show M 0 ≤ M 0 + s; omega, by unfold inI at hy; show 0 ≤ y ∧ y ≤ 2147483647; omega, by show (0 : Int) ≤ 0 ∧ (0 : Int) ≤ _; omega, fun f hf => by have h9 := hB f hf; show 0 ≤ ofM M f 9 ∧ ofM M f 9 ≤ _; omega⟩ (by show M 0 = _; omega) rfl
  exact this
end
