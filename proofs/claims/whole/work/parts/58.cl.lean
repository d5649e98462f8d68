/-! the class: the empty state -/
/-- the row that a reading begins with -/
def begM (r : Int) : Row := fun k => if k = 1 then 2 else if k = 2 then 120 else if k = 3 then 600 else if k = 4 then 60 else if k = 5 then r else if 8 ≤ k ∧ k < 24 then 60 else if 24 ≤ k ∧ k < 28 then 1000 else if 28 ≤ k ∧ k < 32 then 2000 else 0
theorem begM_w {r k : Int} (h : 0 ≤ k ∧ k < 16) : begM r (8 + k) = 60 := by unfold begM; rw [if_neg (by omega), if_neg (by omega), if_neg (by omega), if_neg (by omega), if_neg (by omega), if_pos (by omega)]
theorem begM_e {r k : Int} (h : 0 ≤ k ∧ k < 4) : begM r (24 + k) = 1000 := by unfold begM; rw [if_neg (by omega), if_neg (by omega), if_neg (by omega), if_neg (by omega), if_neg (by omega), if_neg (by omega), if_pos (by omega)]
theorem begM_l {r k : Int} (h : 0 ≤ k ∧ k < 4) : begM r (28 + k) = 2000 := by unfold begM; rw [if_neg (by omega), if_neg (by omega), if_neg (by omega), if_neg (by omega), if_neg (by omega), if_neg (by omega), if_neg (by omega), if_pos (by omega)]
theorem begM_0 {r k : Int} (h : k = 0 ∨ k = 6 ∨ k = 7 ∨ 32 ≤ k) : begM r k = 0 := by unfold begM; rw [if_neg (by omega), if_neg (by omega), if_neg (by omega), if_neg (by omega), if_neg (by omega), if_neg (by omega), if_neg (by omega), if_neg (by omega)]
theorem begM_1 {r : Int} : begM r 1 = 2 ∧ begM r 2 = 120 ∧ begM r 3 = 600 ∧ begM r 4 = 60 ∧ begM r 5 = r := ⟨rfl, rfl, rfl, rfl, rfl⟩
theorem begM_ok {r : Int} (h : 1 ≤ r ∧ r ≤ 3) : okM (begM r) := by
  refine ⟨?_, fun f h1 h2 => ?_⟩
  · unfold okS
    rw [begM_0 (k := 0) (by omega), begM_0 (k := 6) (by omega), begM_0 (k := 7) (by omega), begM_1.1, begM_1.2.1, begM_1.2.2.1, begM_1.2.2.2.1, begM_1.2.2.2.2]
    refine ⟨by omega, by omega, by omega, by omega, by omega, h, by omega, by omega, fun k q1 q2 => ?_, fun k q1 q2 => ?_, fun k q1 q2 => ?_⟩
    · rw [begM_w ⟨q1, q2⟩]; omega
    · by_cases c : k < 4
      · rw [begM_e ⟨q1, c⟩]; omega
      · have := begM_l (r := r) (k := k - 4) (by omega)
        rw [show 28 + (k - 4) = 24 + k by omega] at this
        rw [this]; omega
    · omega
  · rw [begM_0 (k := 6) (by omega)] at h2
    omega
section
variable {l : Launch} {G : GT}
def pRu (a : Int) : Int → Int → Prop := fun c i => (c = a ∧ 0 ≤ i ∧ i ≤ 4) ∨ (a + 1 ≤ c ∧ c ≤ a + 3)
theorem pRu_nrf {H : AH} {a : Int} (hA : Lay LRul H a) : ∀ c i, pRu a c i → nrf H c i := by
  rintro c i (⟨rfl, h1, h2⟩ | ⟨h1, h2⟩)
  · have : i = 0 ∨ i = 1 ∨ i = 2 ∨ i = 3 ∨ i = 4 := by omega
    rcases this with rfl | rfl | rfl | rfl | rfl
    · exact nrf_fld 0 (kRul_0 hA) (by decide) (by decide)
    · exact nrf_fld 1 (kRul_0 hA) (by decide) (by decide)
    · exact nrf_fld 2 (kRul_0 hA) (by decide) (by decide)
    · exact nrf_fld 3 (kRul_0 hA) (by decide) (by decide)
    · exact nrf_fld 4 (kRul_0 hA) (by decide) (by decide)
  · have : c = a + 1 ∨ c = a + 2 ∨ c = a + 3 := by omega
    rcases this with rfl | rfl | rfl
    · exact nrf_arr (kRul_1 hA) (by decide) (by decide)
    · exact nrf_arr (kRul_2 hA) (by decide) (by decide)
    · exact nrf_arr (kRul_3 hA) (by decide) (by decide)
def DF (H : AH) (a : Int) : Prop := (hg H a 0 = 1 ∧ hg H a 1 = 60 ∧ hg H a 2 = 2 ∧ hg H a 3 = 120 ∧ hg H a 4 = 600) ∧ (∀ i, 0 ≤ i ∧ i < 16 → hg H (a + 1) i = 60) ∧ (∀ i, 0 ≤ i ∧ i < 4 → hg H (a + 2) i = 1000) ∧ ∀ i, 0 ≤ i ∧ i < 4 → hg H (a + 3) i = 2000
theorem k_setDefaults {d : Nat} {H : AH} {a : Int} (hA : Lay LRul H a) : CL l G mX4_setDefaults d 0 0 [vR a] H (fun v H' => v = vV ∧ only H H' (pRu a) ∧ DF H' a) := by
  refine CL.of (by decide) rfl (Nat.le_of_ble_eq_true rfl) (s_X4_setDefaults_0 hA fun H1 e1 H2 e2 H3 e3 H4 e4 H5 e5 => ?_)
  have o5 : only H H5 (pRu a) := by
    rw [e5, e4, e3, e2, e1]
    exact ((((only.wr (Or.inl ⟨rfl, by omega, by omega⟩)).then (Or.inl ⟨rfl, by omega, by omega⟩)).then (Or.inl ⟨rfl, by omega, by omega⟩)).then (Or.inl ⟨rfl, by omega, by omega⟩)).then (Or.inl ⟨rfl, by omega, by omega⟩)
  have f0 : hg H5 a 0 = 1 := by rw [e5, hg_ne _ (by omega), e4, hg_ne _ (by omega), e3, hg_ne _ (by omega), e2, hg_ne _ (by omega), e1, hg_same]
  have f1 : hg H5 a 1 = 60 := by rw [e5, hg_ne _ (by omega), e4, hg_ne _ (by omega), e3, hg_ne _ (by omega), e2, hg_same]
  have f2 : hg H5 a 2 = 2 := by rw [e5, hg_ne _ (by omega), e4, hg_ne _ (by omega), e3, hg_same]
  have f3 : hg H5 a 3 = 120 := by rw [e5, hg_ne _ (by omega), e4, hg_same]
  have f4 : hg H5 a 4 = 600 := by rw [e5, hg_same]
  have env : ∀ H1, only H H1 (pRu a) → Lay LRul H1 a := fun H1 o => hA.only ok_Rul o (pRu_nrf hA)
  have sec : ∀ j : Nat, j ≤ 4 → ∀ H6, only H5 H6 (fun c _ => c = a + 1 ∨ c = a + 2 ∨ c = a + 3) → (∀ i, 0 ≤ i ∧ i < 16 → hg H6 (a + 1) i = 60) → (∀ i : Int, 0 ≤ i ∧ i < j → hg H6 (a + 2) i = 1000 ∧ hg H6 (a + 3) i = 2000) → AW l G mX4_setDefaults d 0 0 (fun v H' => v = vV ∧ only H H' (pRu a) ∧ DF H' a) 53 [vR a, vI (j : Nat)] [] 0 0 H6 := by
    refine upN 4 ?_ ?_
    · intro j hj ih H6 o6 g1 g2
      have w6 : only H H6 (pRu a) := o5.trans (o6.mono fun c i h => Or.inr (by omega))
      refine s_X4_setDefaults_53 (env H6 w6) ⟨fun c => absurd c (by omega), fun _ => ⟨by omega, fun H7 e7 H8 e8 => ⟨by omega, ih H8 (by rw [e8, e7]; exact (o6.then (Or.inr (Or.inl rfl))).then (Or.inr (Or.inr rfl))) (fun i hi => by rw [e8, hg_ne _ (by omega), e7, hg_ne _ (by omega)]; exact g1 i hi) (fun i hi => ?_)⟩⟩⟩
      by_cases c : i = j
      · subst c
        exact ⟨by rw [e8, hg_ne _ (by omega), e7, hg_same], by rw [e8, hg_same]⟩
      · rw [e8, hg_ne _ (by omega), hg_ne _ (by omega), e7, hg_ne _ (by omega), hg_ne _ (by omega)]
        exact g2 i (by omega)
    · intro H6 o6 g1 g2
      have w6 : only H H6 (pRu a) := o5.trans (o6.mono fun c i h => Or.inr (by omega))
      have z : ∀ i, hg H6 a i = hg H5 a i := fun i => o6.2.2 _ _ (by omega)
      exact s_X4_setDefaults_53 (env H6 w6) ⟨fun _ => ⟨rfl, w6, ⟨by rw [z]; exact f0, by rw [z]; exact f1, by rw [z]; exact f2, by rw [z]; exact f3, by rw [z]; exact f4⟩, g1, fun i hi => (g2 i hi).1, fun i hi => (g2 i hi).2⟩, fun c => absurd c (by decide)⟩
  have fst : ∀ j : Nat, j ≤ 16 → ∀ H6, only H5 H6 (fun c _ => c = a + 1 ∨ c = a + 2 ∨ c = a + 3) → (∀ i : Int, 0 ≤ i ∧ i < j → hg H6 (a + 1) i = 60) → AW l G mX4_setDefaults d 0 0 (fun v H' => v = vV ∧ only H H' (pRu a) ∧ DF H' a) 31 [vR a, vI (j : Nat)] [] 0 0 H6 := by
    refine upN 16 ?_ ?_
    · intro j hj ih H6 o6 g1
      have w6 : only H H6 (pRu a) := o5.trans (o6.mono fun c i h => Or.inr (by omega))
      refine s_X4_setDefaults_31 (env H6 w6) ⟨fun c => absurd c (by omega), fun _ => ⟨by omega, fun H7 e7 => ⟨by omega, ih H7 (by rw [e7]; exact o6.then (Or.inl rfl)) (fun i hi => ?_)⟩⟩⟩
      by_cases c : i = j
      · rw [c, e7, hg_same]
      · rw [e7, hg_ne _ (by omega)]; exact g1 i (by omega)
    · intro H6 o6 g1
      have w6 : only H H6 (pRu a) := o5.trans (o6.mono fun c i h => Or.inr (by omega))
      exact s_X4_setDefaults_31 (env H6 w6) ⟨fun _ => sec 0 (Nat.zero_le _) H6 o6 (fun i hi => g1 i hi) (fun i hi => by omega), fun c => absurd c (by decide)⟩
  exact fst 0 (Nat.zero_le _) H5 only.rf (fun i hi => by omega)
theorem k_forgetPlans {d : Nat} {H : AH} {b : Int} {M : Row} (hS : SK H b M) : CL l G mX6_forgetPlans d 0 0 [vR b] H (fun v H' => v = vV ∧ only H H' (fun c _ => c = b + 20 ∨ c = b + 21) ∧ ∀ q, 0 ≤ q ∧ q < 3 → hg H' (b + 20) q = 0 ∧ hg H' (b + 21) q = 0) := by
  have nr : ∀ c i, (c = b + 20 ∨ c = b + 21) → nrf H c i := fun c i h => pSt_nrf hS.1 c i (Or.inr (Or.inr (Or.inr (Or.inr (by omega)))))
  have env : ∀ H1, only H H1 (fun c _ => c = b + 20 ∨ c = b + 21) → SK H1 b M := fun H1 o => skO hS o nr (fun c i h => by unfold offS; omega)
  have key : ∀ j : Nat, j ≤ 3 → ∀ H1, only H H1 (fun c _ => c = b + 20 ∨ c = b + 21) → (∀ q : Int, 0 ≤ q ∧ q < j → hg H1 (b + 20) q = 0 ∧ hg H1 (b + 21) q = 0) → AW l G mX6_forgetPlans d 0 0 (fun v H' => v = vV ∧ only H H' (fun c _ => c = b + 20 ∨ c = b + 21) ∧ ∀ q, 0 ≤ q ∧ q < 3 → hg H' (b + 20) q = 0 ∧ hg H' (b + 21) q = 0) 2 [vR b, vI (j : Nat)] [] 0 0 H1 := by
    refine upN 3 ?_ ?_
    · intro j hj ih H1 o1 g1
      refine s_X6_forgetPlans_2 (env H1 o1) ⟨fun c => absurd c (by omega), fun _ => ⟨by omega, fun H2 e2 H3 e3 => ⟨by omega, ih H3 (by rw [e3, e2]; exact (o1.then (Or.inl rfl)).then (Or.inr rfl)) (fun q hq => ?_)⟩⟩⟩
      by_cases c : q = j
      · subst c
        exact ⟨by rw [e3, hg_ne _ (by omega), e2, hg_same], by rw [e3, hg_same]⟩
      · rw [e3, hg_ne _ (by omega), hg_ne _ (by omega), e2, hg_ne _ (by omega), hg_ne _ (by omega)]
        exact g1 q (by omega)
    · intro H1 o1 g1
      exact s_X6_forgetPlans_2 (env H1 o1) ⟨fun _ => ⟨rfl, o1, g1⟩, fun c => absurd c (by decide)⟩
  exact CL.of (by decide) rfl (Nat.le_of_ble_eq_true rfl) (s_X6_forgetPlans_0 hS (key 0 (Nat.zero_le _) H only.rf (fun q hq => by omega)))
/-- plans forgotten: any row will do that the flights bear -/
theorem FR_none {H : AH} {b : Int} {M : Row} (h : ∀ q, 0 ≤ q ∧ q < 3 → hg H (b + 20) q = 0 ∧ hg H (b + 21) q = 0) : FR H b M := fun q hq => ⟨by rw [(h q hq).1]; omega, Or.inl (h q hq).2⟩
/-- no flights: no names, no times -/
theorem NM_none {H : AH} {b : Int} {M : Row} (h : M 6 = 0) : NM H b M := fun f hf => by have := hf.1; have := hf.2; omega
theorem k_clear {d : Nat} {H : AH} {b : Int} (hA : SB H b) (hd : 1 ≤ d := by omega) : CL l G mX6_clear d 0 0 [vR b] H (fun v H' => v = vV ∧ only H H' (pSu b) ∧ SX H' b (begM 1) ∧ ∀ q, 0 ≤ q ∧ q < 3 → hg H' (b + 20) q = 0) := by
  obtain ⟨d, rfl⟩ : ∃ k, d = k + 1 := ⟨d - 1, by omega⟩
  have hL := hA.1
  refine CL.of (by decide) rfl (Nat.le_of_ble_eq_true rfl) (s_X6_clear_0 hL (CL.mono (k_setDefaults (s_Sta_Rul_1 hL)) ?_))
  rintro v H1 ⟨rfl, o1, ⟨d0, d1, d2, d3, d4⟩, dw, de, dl⟩
  have q1 : only H H1 (pSu b) := o1.mono fun c i h => by
    rcases h with h | h
    · exact ⟨Or.inr (Or.inl h), by omega, by omega⟩
    · exact ⟨Or.inr (Or.inr (Or.inl (by omega))), by omega, by omega⟩
  have nr : ∀ c i, pSu b c i → nrf H c i := fun c i h => pSt_nrf hL c i h.1
  refine ⟨hL.only ok_Sta q1 nr, rfl, fun H2 e2 H3 e3 H4 e4 => ?_⟩
  have q4 : only H H4 (pSu b) := by
    rw [e4, e3, e2]
    exact ((q1.then ⟨Or.inr (Or.inr (Or.inr (Or.inl ⟨rfl, rfl⟩))), by omega, by omega⟩).then ⟨Or.inl ⟨rfl, Or.inl rfl⟩, by omega, by omega⟩).then ⟨Or.inl ⟨rfl, Or.inr rfl⟩, by omega, by omega⟩
  have ev : ∀ c i, c ≠ b → c ≠ b + 5 → hg H4 c i = hg H1 c i := fun c i h1 h2 => by rw [e4, hg_ne _ (by omega), e3, hg_ne _ (by omega), e2, hg_ne _ (by omega)]
  have sk4 : SK H4 b (begM 1) := by
    refine ⟨hL.only ok_Sta q4 nr, begM_ok (by omega), ⟨?_, ?_⟩, ⟨?_, ?_, ?_, ?_, ?_⟩, ⟨fun k hk => ?_, fun k hk => ?_, fun k hk => ?_⟩, ?_, fun f hf => ?_, fun k hk => ?_⟩
    · rw [e4, hg_ne _ (by omega), e3, hg_same, begM_0 (by omega)]
    · rw [e4, hg_same, begM_0 (by omega)]
    · rw [ev _ _ (by omega) (by omega)]; exact d0
    · rw [ev _ _ (by omega) (by omega)]; exact d1
    · rw [ev _ _ (by omega) (by omega)]; exact d2
    · rw [ev _ _ (by omega) (by omega)]; exact d3
    · rw [ev _ _ (by omega) (by omega)]; exact d4
    · rw [ev _ _ (by omega) (by omega), begM_w hk]; have := dw k hk; rwa [show b + 1 + 1 = b + 2 by omega] at this
    · rw [ev _ _ (by omega) (by omega), begM_e hk]; have := de k hk; rwa [show b + 1 + 2 = b + 3 by omega] at this
    · rw [ev _ _ (by omega) (by omega), begM_l hk]; have := dl k hk; rwa [show b + 1 + 3 = b + 4 by omega] at this
    · rw [e4, hg_ne _ (by omega), e3, hg_ne _ (by omega), e2, hg_same, begM_0 (by omega)]
    · have h1 := hf.1
      have h2 := hf.2
      rw [begM_0 (by omega)] at h2
      omega
    · rw [begM_0 (by omega)] at hk
      omega
  refine CL.mono (k_forgetPlans sk4) ?_
  rintro v H5 ⟨rfl, o5, g5⟩
  have n4 : ∀ c i, (c = b + 20 ∨ c = b + 21) → nrf H4 c i := fun c i h => pSt_nrf sk4.1 c i (Or.inr (Or.inr (Or.inr (Or.inr (by omega)))))
  have sk5 : SK H5 b (begM 1) := skO sk4 o5 n4 (fun c i h => by unfold offS; omega)
  refine ⟨sk5.1, rfl, rfl, q4.trans (o5.mono fun c i h => pSu_hi (by omega)), ⟨sk5, ⟨fun i i1 i2 => ?_, fun f hf _ => ?_⟩, FR_none g5⟩, fun q hq => (g5 q hq).1⟩
  · rw [o5.2.2 _ _ (by omega), ev _ _ (by omega) (by omega), o1.2.2 _ _ (by rintro (h | h) <;> omega)]
    exact hA.2 i ⟨i1, i2⟩
  · have h1 := hf.1
    have h2 := hf.2
    rw [begM_0 (by omega)] at h2
    omega
end
