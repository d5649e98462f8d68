/-! the class: a block made new, its plans too -/
section
variable {l : Launch} {G : GT}
theorem k_clear2 {d : Nat} {H : AH} {b : Int} (hA : SB H b) (hd : 1 ≤ d := by omega) : CL l G mX6_clear d 0 0 [vR b] H (fun v H' => v = vV ∧ only H H' (pSu b) ∧ SX H' b (begM 1) ∧ ∀ q, 0 ≤ q ∧ q < 3 → hg H' (b + 20) q = 0 ∧ hg H' (b + 21) q = 0) := by
  obtain ⟨d, rfl⟩ : ∃ k, d = k + 1 := ⟨d - 1, by omega⟩
  have hL := hA.1
  refine CL.of (by decide) rfl (Nat.le_of_ble_eq_true rfl) (s_X6_clear_0 hL (CL.mono (k_setDefaults (s_Sta_Rul_1 hL)) ?_))
  rintro v H1 ⟨rfl, o1, ⟨d0, d1, d2, d3, d4⟩, dw, de, dl⟩
  have q1 : only H H1 (pSu b) := o1.mono fun c i h => by
    rcases h with h | h
    · exact ⟨Or.inr (Or.inl h), by omega, by omega⟩
    · exact ⟨Or.inr (Or.inr (Or.inl (by omega))), by omega, by omega⟩
  have nr : ∀ c i, pSu b c i → nrf H c i := fun c i h => pSt_nrf hL c i h.1
  refine ⟨hL.only ok_Sta q1 nr, rfl, fun H2 e2 H3 e3 H4 e4 => ?_⟩
  have q4 : only H H4 (pSu b) := by
    rw [e4, e3, e2]
    exact ((q1.then ⟨Or.inr (Or.inr (Or.inr (Or.inl ⟨rfl, rfl⟩))), by omega, by omega⟩).then ⟨Or.inl ⟨rfl, Or.inl rfl⟩, by omega, by omega⟩).then ⟨Or.inl ⟨rfl, Or.inr rfl⟩, by omega, by omega⟩
  have ev : ∀ c i, c ≠ b → c ≠ b + 5 → hg H4 c i = hg H1 c i := fun c i h1 h2 => by rw [e4, hg_ne _ (by omega), e3, hg_ne _ (by omega), e2, hg_ne _ (by omega)]
  have sk4 : SK H4 b (begM 1) := by
    refine ⟨hL.only ok_Sta q4 nr, begM_ok (by omega), ⟨?_, ?_⟩, ⟨?_, ?_, ?_, ?_, ?_⟩, ⟨fun k hk => ?_, fun k hk => ?_, fun k hk => ?_⟩, ?_, fun f hf => ?_, fun k hk => ?_⟩
    · rw [e4, hg_ne _ (by omega), e3, hg_same, begM_0 (by omega)]
    · rw [e4, hg_same, begM_0 (by omega)]
    · rw [ev _ _ (by omega) (by omega)]; exact d0
    · rw [ev _ _ (by omega) (by omega)]; exact d1
    · rw [ev _ _ (by omega) (by omega)]; exact d2
    · rw [ev _ _ (by omega) (by omega)]; exact d3
    · rw [ev _ _ (by omega) (by omega)]; exact d4
    · rw [ev _ _ (by omega) (by omega), begM_w hk]; have := dw k hk; rwa [show b + 1 + 1 = b + 2 by omega] at this
    · rw [ev _ _ (by omega) (by omega), begM_e hk]; have := de k hk; rwa [show b + 1 + 2 = b + 3 by omega] at this
    · rw [ev _ _ (by omega) (by omega), begM_l hk]; have := dl k hk; rwa [show b + 1 + 3 = b + 4 by omega] at this
    · rw [e4, hg_ne _ (by omega), e3, hg_ne _ (by omega), e2, hg_same, begM_0 (by omega)]
    · have h1 := hf.1
      have h2 := hf.2
      rw [begM_0 (by omega)] at h2
      omega
    · rw [begM_0 (by omega)] at hk
      omega
  refine CL.mono (k_forgetPlans sk4) ?_
  rintro v H5 ⟨rfl, o5, g5⟩
  have n4 : ∀ c i, (c = b + 20 ∨ c = b + 21) → nrf H4 c i := fun c i h => pSt_nrf sk4.1 c i (Or.inr (Or.inr (Or.inr (Or.inr (by omega)))))
  have sk5 : SK H5 b (begM 1) := skO sk4 o5 n4 (fun c i h => by unfold offS; omega)
  refine ⟨sk5.1, rfl, rfl, q4.trans (o5.mono fun c i h => pSu_hi (by omega)), ⟨sk5, ⟨fun i i1 i2 => ?_, fun f hf _ => ?_⟩, FR_none g5⟩, g5⟩
  · rw [o5.2.2 _ _ (by omega), ev _ _ (by omega) (by omega), o1.2.2 _ _ (by rintro (h | h) <;> omega)]
    exact hA.2 i ⟨i1, i2⟩
  · have h1 := hf.1
    have h2 := hf.2
    rw [begM_0 (by omega)] at h2
    omega
end
