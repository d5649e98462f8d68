/-! the class: a state copied, a state cleared -/
section
variable {l : Launch} {G : GT}
set_option maxHeartbeats 1000000 in
theorem k_copyState {d : Nat} {H : AH} {a b : Int} {M : Row} (hX : SX H b M) (hN : NM H b M) (hA : SB H a) (hsep : a + 23 ≤ b ∨ b + 23 ≤ a) (hd : 2 ≤ d := by omega) :
    CL l G mX6_copyFrom d 0 0 [vR a, vR b] H (fun v H' => v = vV ∧ only H H' (pSt a) ∧ SX H' a M ∧ NM H' a M) := by
  obtain ⟨d, rfl⟩ : ∃ k, d = k + 1 := ⟨d - 1, by omega⟩
  obtain ⟨hS, hT, hF⟩ := id hX
  have hM := hS.2.1
  have hn := okM_n hM
  have h7 := okM_7 hM
  obtain ⟨⟨a1, a2⟩, ⟨a3, a4, a5, a6, a7⟩, ⟨a8, a9, a10⟩, a11, a12, a13⟩ := hS.2.2
  have nr := pSt_nrf hA.1
  have env : ∀ H1, only H H1 (pSt a) → Lay LSta H1 a ∧ Lay LSta H1 b ∧ ∀ c i, (c < a ∨ a + 23 ≤ c) → hg H1 c i = hg H c i := fun H1 o => ⟨hA.1.only ok_Sta o nr, hS.1.only ok_Sta o nr, fun c i h => o.2.2 _ _ (fun q => by have := pSt_in q; omega)⟩
  refine CL.of (by decide) rfl (Nat.le_of_ble_eq_true rfl) (s_X6_copyFrom_0 hA.1 hS.1 (CL.mono (k_copyRules (s_Sta_Rul_1 hA.1) (s_Sta_Rul_1 hS.1) (by omega)) ?_))
  rintro v H1 ⟨rfl, o1, r1, r2, r3, r4⟩
  have q1 : only H H1 (pSt a) := o1.mono fun c i h => by
    rcases h with h | h
    · exact Or.inr (Or.inl ⟨h.1, h.2⟩)
    · exact Or.inr (Or.inr (Or.inl (by omega)))
  obtain ⟨A1, B1, w1⟩ := env H1 q1
  have c5 : hg H1 (b + 5) 0 = M 6 := (w1 _ _ (by omega)).trans a11
  refine ⟨A1, B1, rfl, CL.mono (k_copyFlights (n := M 6) (s_Sta_Fli_5 A1) (s_Sta_Fli_5 B1) (by omega) c5 hn (fun i hi => ?_)) ?_⟩
  · rw [show b + 5 + 3 = b + 8 by omega, w1 _ _ (by omega), (a12 i hi).1]
    exact (hM.2 i hi.1 hi.2).1
  rintro v H2 ⟨rfl, o2, f0, f1, f2⟩
  have q2 : only H H2 (pSt a) := q1.trans (o2.mono fun c i h => by
    rcases h with h | h
    · exact Or.inr (Or.inr (Or.inr (Or.inl h)))
    · exact Or.inr (Or.inr (Or.inr (Or.inr (by omega)))))
  obtain ⟨A2, B2, w2⟩ := env H2 q2
  refine ⟨A2, B2, rfl, fun H3 e3 H4 e4 => ?_⟩
  rw [f0]
  rw [w2 b 2 (by omega), a1] at e3
  have g38 : hg H3 b 8 = M 7 := by rw [e3, hg_ne _ (by omega), w2 b 8 (by omega)]; exact a2
  rw [g38] at e4
  have q4 : only H H4 (pSt a) := by rw [e4, e3]; exact (q2.then (Or.inl ⟨rfl, Or.inl rfl⟩)).then (Or.inl ⟨rfl, Or.inr rfl⟩)
  obtain ⟨A4, B4, w4⟩ := env H4 q4
  refine ⟨by omega, by omega, fun H5 o5 v5 H6 o6 v6 H7 o7 v7 H8 o8 v8 => ?_⟩
  have hi : ∀ c i, a + 6 ≤ c ∧ c ≤ a + 22 → pSt a c i := fun c i h => Or.inr (Or.inr (Or.inr (Or.inr h)))
  have q5 : only H H5 (pSt a) := q4.trans (o5.mono fun c i h => hi c i (by omega))
  have q6 : only H H6 (pSt a) := q5.trans (o6.mono fun c i h => hi c i (by omega))
  have q7 : only H H7 (pSt a) := q6.trans (o7.mono fun c i h => hi c i (by omega))
  have q8 : only H H8 (pSt a) := q7.trans (o8.mono fun c i h => hi c i (by omega))
  obtain ⟨A5, B5, w5⟩ := env H5 q5
  obtain ⟨A6, B6, w6⟩ := env H6 q6
  obtain ⟨A7, B7, w7⟩ := env H7 q7
  obtain ⟨A8, B8, w8⟩ := env H8 q8
  have g88 : hg H8 a 8 = M 7 := by rw [o8.2.2 _ _ (by omega), o7.2.2 _ _ (by omega), o6.2.2 _ _ (by omega), o5.2.2 _ _ (by omega), e4, hg_same]
  rw [g88]
  refine ⟨by omega, by omega, fun H9 o9 v9 => ?_⟩
  have q9 : only H H9 (pSt a) := q8.trans (o9.mono fun c i h => hi c i (by omega))
  obtain ⟨A9, B9, w9⟩ := env H9 q9
  -- what lies there now, below the plans
  have lowA : ∀ c i, c ≤ a + 13 → ¬ (c = a ∧ (i = 2 ∨ i = 8)) → hg H9 c i = hg H2 c i := fun c i h1 h2 => by rw [o9.2.2 _ _ (by omega), o8.2.2 _ _ (by omega), o7.2.2 _ _ (by omega), o6.2.2 _ _ (by omega), o5.2.2 _ _ (by omega), e4, hg_ne _ (by omega), e3, hg_ne _ (by omega)]
  have hiA : ∀ c i, a + 19 ≤ c → c ≤ a + 22 → hg H9 c i = hg H c i := fun c i h1 h2 => by rw [o9.2.2 _ _ (by omega), o8.2.2 _ _ (by omega), o7.2.2 _ _ (by omega), o6.2.2 _ _ (by omega), o5.2.2 _ _ (by omega), e4, hg_ne _ (by omega), e3, hg_ne _ (by omega), o2.2.2 _ _ (by omega), o1.2.2 _ _ (by omega)]
  have ei : ∀ i : Int, 0 + (i - 0) = i := fun i => by omega
  have s2 : hg H9 a 2 = M 0 := by rw [o9.2.2 _ _ (by omega), o8.2.2 _ _ (by omega), o7.2.2 _ _ (by omega), o6.2.2 _ _ (by omega), o5.2.2 _ _ (by omega), e4, hg_ne _ (by omega), e3, hg_same]
  have s8 : hg H9 a 8 = M 7 := (o9.2.2 _ _ (by omega)).trans g88
  have g1 : ∀ i, 0 ≤ i ∧ i ≤ 4 → hg H9 (a + 1) i = hg H (b + 1) i := fun i hi => by rw [lowA _ _ (by omega) (by omega), o2.2.2 _ _ (by omega)]; exact r1 i hi
  have g2 : ∀ i, 0 ≤ i ∧ i < 16 → hg H9 (a + 2) i = hg H (b + 2) i := fun i hi => by
    rw [lowA _ _ (by omega) (by omega), o2.2.2 _ _ (by omega)]
    have := r2 i hi
    rw [show a + 1 + 1 = a + 2 by omega, show b + 1 + 1 = b + 2 by omega] at this
    exact this
  have g3 : ∀ i, 0 ≤ i ∧ i < 4 → hg H9 (a + 3) i = hg H (b + 3) i := fun i hi => by
    rw [lowA _ _ (by omega) (by omega), o2.2.2 _ _ (by omega)]
    have := r3 i hi
    rw [show a + 1 + 2 = a + 3 by omega, show b + 1 + 2 = b + 3 by omega] at this
    exact this
  have g4 : ∀ i, 0 ≤ i ∧ i < 4 → hg H9 (a + 4) i = hg H (b + 4) i := fun i hi => by
    rw [lowA _ _ (by omega) (by omega), o2.2.2 _ _ (by omega)]
    have := r4 i hi
    rw [show a + 1 + 3 = a + 4 by omega, show b + 1 + 3 = b + 4 by omega] at this
    exact this
  have g5 : hg H9 (a + 5) 0 = M 6 := by rw [lowA _ _ (by omega) (by omega)]; exact f0
  have g6 : ∀ i, 0 ≤ i ∧ i < M 6 * 6 → hg H9 (a + 6) i = hg H (b + 6) i := fun i hi => by
    rw [lowA _ _ (by omega) (by omega)]
    have := f1 i hi
    rw [show a + 5 + 1 = a + 6 by omega, show b + 5 + 1 = b + 6 by omega, w1 _ _ (by omega)] at this
    exact this
  have gF : ∀ o i, 7 ≤ o → o ≤ 13 → 0 ≤ i → i < M 6 → hg H9 (a + o) i = hg H (b + o) i := fun o i z1 z2 z3 z4 => by
    rw [lowA _ _ (by omega) (by omega)]
    have := f2 (o - 5) i (by omega) (by omega) z3 z4
    rw [show a + 5 + (o - 5) = a + o by omega, show b + 5 + (o - 5) = b + o by omega, w1 _ _ (by omega)] at this
    exact this
  have g14 : ∀ i, 0 ≤ i → i < M 6 → hg H9 (a + 14) i = hg H (b + 14) i := fun i z1 z2 => by rw [o9.2.2 _ _ (by omega), o8.2.2 _ _ (by omega), o7.2.2 _ _ (by omega), o6.2.2 _ _ (by omega), v5 i (by omega) (by omega), w4 _ _ (by omega), ei]
  have g15 : ∀ i, 0 ≤ i → i < M 6 → hg H9 (a + 15) i = hg H (b + 15) i := fun i z1 z2 => by rw [o9.2.2 _ _ (by omega), o8.2.2 _ _ (by omega), o7.2.2 _ _ (by omega), v6 i (by omega) (by omega), w5 _ _ (by omega), ei]
  have g16 : ∀ i, 0 ≤ i → i < M 6 → hg H9 (a + 16) i = hg H (b + 16) i := fun i z1 z2 => by rw [o9.2.2 _ _ (by omega), o8.2.2 _ _ (by omega), v7 i (by omega) (by omega), w6 _ _ (by omega), ei]
  have g17 : ∀ i, 0 ≤ i → i < M 6 → hg H9 (a + 17) i = hg H (b + 17) i := fun i z1 z2 => by rw [o9.2.2 _ _ (by omega), v8 i (by omega) (by omega), w7 _ _ (by omega), ei]
  have g18 : ∀ i, 0 ≤ i → i < M 7 → hg H9 (a + 18) i = hg H (b + 18) i := fun i z1 z2 => by rw [v9 i (by omega) (by omega), w8 _ _ (by omega), ei]
  have g16' : ∀ i, M 6 ≤ i → hg H9 (a + 16) i = hg H (a + 16) i := fun i z => by rw [o9.2.2 _ _ (by omega), o8.2.2 _ _ (by omega), o7.2.2 _ _ (by omega), o6.2.2 _ _ (by omega), o5.2.2 _ _ (by omega), e4, hg_ne _ (by omega), e3, hg_ne _ (by omega), o2.2.2 _ _ (by omega), o1.2.2 _ _ (by omega)]
  have ss : SS H9 a M := by
    refine ⟨⟨s2, s8⟩, ⟨?_, ?_, ?_, ?_, ?_⟩, ⟨fun k hk => ?_, fun k hk => ?_, fun k hk => ?_⟩, g5, fun f hf => ?_, fun k hk => ?_⟩
    · rw [g1 0 (by omega)]; exact a3
    · rw [g1 1 (by omega)]; exact a4
    · rw [g1 2 (by omega)]; exact a5
    · rw [g1 3 (by omega)]; exact a6
    · rw [g1 4 (by omega)]; exact a7
    · rw [g2 k hk]; exact a8 k hk
    · rw [g3 k hk]; exact a9 k hk
    · rw [g4 k hk]; exact a10 k hk
    · have z1 := hf.1
      have z2 := hf.2
      rw [gF 8 f (by omega) (by omega) z1 z2, gF 9 f (by omega) (by omega) z1 z2, gF 10 f (by omega) (by omega) z1 z2, gF 11 f (by omega) (by omega) z1 z2, gF 12 f (by omega) (by omega) z1 z2, gF 13 f (by omega) (by omega) z1 z2, g14 f z1 z2, g15 f z1 z2, g17 f z1 z2]
      exact a12 f hf
    · rw [g18 k hk.1 hk.2]; exact a13 k hk
  have nm : NM H9 a M := by
    intro f hf
    have z1 := hf.1
    have z2 := hf.2
    obtain ⟨n1, n2⟩ := hN f hf
    refine ⟨by rw [gF 7 f (by omega) (by omega) z1 z2]; exact n1, fun k hk => ?_⟩
    rw [gF 7 f (by omega) (by omega) z1 z2, g6 (f * 6 + k) (by omega)]
    exact n2 k hk
  have key : ∀ j : Nat, j ≤ 3 → ∀ H', only H9 H' (fun c i => a + 19 ≤ c ∧ c ≤ a + 22) → (∀ q : Int, 0 ≤ q → q < j → hg H' (a + 20) q = hg H (b + 20) q ∧ hg H' (a + 21) q = hg H (b + 21) q ∧ hg H' (a + 22) q = hg H (b + 22) q ∧ ∀ i, 24 * q ≤ i → i < 24 * q + hg H (b + 20) q → hg H' (a + 19) i = hg H (b + 19) i) →
      AW l G mX6_copyFrom (d + 1) 0 0 (fun v H' => v = vV ∧ only H H' (pSt a) ∧ SX H' a M ∧ NM H' a M) 121 [vR a, vR b, vI (M 6), vI (j : Nat)] [] 0 0 H' := by
    refine upN 3 ?_ ?_
    · intro j hj ih H1' o' p'
      have q' : only H H1' (pSt a) := q9.trans (o'.mono fun c i h => hi c i (by omega))
      obtain ⟨A', B', w'⟩ := env H1' q'
      obtain ⟨fp, ff⟩ := hF j (by omega)
      refine s_X6_copyFrom_121 A' B' ⟨fun c => absurd c (by omega), fun _ => ⟨by omega, fun G1 d1 => ?_⟩⟩
      rw [w' (b + 20) j (by omega)] at d1
      have x1 : ∀ c i, (c < a ∨ a + 23 ≤ c) → hg G1 c i = hg H c i := fun c i h => by rw [d1, hg_ne _ (by omega)]; exact w' c i h
      rw [x1 (b + 21) j (by omega)]
      refine ⟨by rcases ff with z | z; exact Or.inl z; exact Or.inr z.1, fun G2 d2 G3 d3 => ?_⟩
      have x2 : hg G2 (b + 22) j = hg H (b + 22) j := by rw [d2, hg_ne _ (by omega)]; exact x1 _ _ (by omega)
      rw [x2] at d3
      have x20 : hg G3 (a + 20) j = hg H (b + 20) j := by rw [d3, hg_ne _ (by omega), d2, hg_ne _ (by omega), d1, hg_same]
      rw [x20]
      refine ⟨by omega, by omega, by omega, fun G4 o4' v4' => ⟨by omega, ih G4 ?_ (fun q z1 z2 => ?_)⟩⟩
      · refine (o'.trans ?_).trans (o4'.mono fun c i h => by omega)
        rw [d3, d2, d1]
        exact ((only.wr (by omega)).then (by omega)).then (by omega)
      · have x19 : ∀ i, hg G3 (a + 19) i = hg H1' (a + 19) i := fun i => by rw [d3, hg_ne _ (by omega), d2, hg_ne _ (by omega), d1, hg_ne _ (by omega)]
        have xb : ∀ i, hg G3 (b + 19) i = hg H (b + 19) i := fun i => by rw [d3, hg_ne _ (by omega), d2, hg_ne _ (by omega)]; exact x1 _ _ (by omega)
        by_cases c : q = j
        · subst c
          refine ⟨?_, ?_, ?_, fun i y1 y2 => ?_⟩
          · rw [o4'.2.2 _ _ (by omega)]; exact x20
          · rw [o4'.2.2 _ _ (by omega), d3, hg_ne _ (by omega), d2, hg_same]
          · rw [o4'.2.2 _ _ (by omega), d3, hg_same]
          · rw [v4' i (by omega) (by omega), xb]
            congr 1
            omega
        · obtain ⟨p1, p2, p3, p4⟩ := p' q z1 (by omega)
          have fq := (hF q (by omega)).1
          refine ⟨?_, ?_, ?_, fun i y1 y2 => ?_⟩
          · rw [o4'.2.2 _ _ (by omega), d3, hg_ne _ (by omega), d2, hg_ne _ (by omega), d1, hg_ne _ (by omega)]; exact p1
          · rw [o4'.2.2 _ _ (by omega), d3, hg_ne _ (by omega), d2, hg_ne _ (by omega), d1, hg_ne _ (by omega)]; exact p2
          · rw [o4'.2.2 _ _ (by omega), d3, hg_ne _ (by omega), d2, hg_ne _ (by omega), d1, hg_ne _ (by omega)]; exact p3
          · rw [o4'.2.2 _ _ (by omega), x19]; exact p4 i y1 y2
    · intro H1' o' p'
      have q' : only H H1' (pSt a) := q9.trans (o'.mono fun c i h => hi c i (by omega))
      obtain ⟨A', B', w'⟩ := env H1' q'
      have lo' : ∀ c i, c ≤ a + 18 → hg H1' c i = hg H9 c i := fun c i h => o'.2.2 _ _ (by omega)
      have sk' : SK H1' a M := ⟨A', hM, ssO ss o' (fun c i h => by unfold offS; omega)⟩
      refine s_X6_copyFrom_121 A' B' ⟨fun _ => ⟨rfl, q', ⟨sk', ⟨fun i i1 i2 => ?_, fun f hf h9 => ?_⟩, fun q hq => ?_⟩, ?_⟩, fun c => absurd c (by decide)⟩
      · rw [lo' _ _ (by omega)]
        by_cases c : i < M 6
        · rw [g16 i i1 c]; exact hT.1 i i1 i2
        · rw [g16' i (by omega)]; exact hA.2 i ⟨i1, i2⟩
      · rw [lo' _ _ (by omega), g16 f hf.1 hf.2]; exact hT.2 f hf h9
      · obtain ⟨p1, p2, p3, p4⟩ := p' q hq.1 (by omega)
        obtain ⟨fp, ff⟩ := hF q hq
        refine ⟨by rw [p1]; exact fp, ?_⟩
        rw [p2]
        rcases ff with z | ⟨z, fr⟩
        · exact Or.inl z
        · obtain ⟨pp1, pp2, pp3⟩ := planL_perm hM (r := q)
          have fr1 := fr.1
          refine Or.inr ⟨z, by rw [p1]; exact fr1, fun k x hx => ?_, fun t ht => ?_, fun f hf => by rw [p3]; exact fr.2.2.2 f hf⟩
          · have hk := (List.getElem?_eq_some_iff.mp hx).1
            rw [p4 _ (by omega) (by omega)]
            exact fr.2.1 k x hx
          · have hm : t.1 ∈ planL M q := by rw [← plan_fst]; exact List.mem_map.mpr ⟨t, ht, rfl⟩
            have hf := ((comeL_mem hM).mp ((pp3 _).mp hm)).1
            rw [lo' _ _ (by omega), g16 _ hf.1 hf.2]
            exact fr.2.2.1 t ht
      · exact nm.step rfl (fun _ _ _ _ _ => rfl) (fun c i h => lo' _ _ (by omega))
  exact key 0 (Nat.zero_le _) H9 only.rf (fun q z1 z2 => by omega)
end
