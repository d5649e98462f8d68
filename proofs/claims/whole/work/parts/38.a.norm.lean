/-! what lies behind an array's end is nobody's -/
def nsame (H H' : AH) : Prop := H'.1 = H.1 ∧ H'.2.1 = H.2.1 ∧ ∀ a i : Int, 0 ≤ i → (10 ≤ hk H a → i < hn H a) → hg H' a i = hg H a i
theorem aEnt.norm {ca : Nat → ClassId} {ws : va_W} {kd : Nat × Int} {g g' : Int → Int} {e : va_E} (h : aEnt ca ws kd g e) (hg : ∀ i : Nat, (10 ≤ kd.1 → (i : Int) < kd.2) → g' i = g i) : aEnt ca ws kd g' e := by
  match e, h with
  | .inr (ci, fs), h => exact ⟨h.1, h.2.1, h.2.2.1, fun k v hv => by rw [hg k (fun q => by have := h.1; have := h.2.1; omega)]; exact h.2.2.2 k v hv⟩
  | .inl (cA, n, .inl f), h => exact ⟨h.1, h.2.1, fun k hk => by rw [hg k (fun _ => by have := h.2.1; omega)]; exact h.2.2 k hk⟩
  | .inl (cA, n, .inr (.inl f)), h => exact ⟨h.1, h.2.1, h.2.2.1, fun k hk => by rw [hg k (fun _ => by have := h.2.2.1; omega)]; exact h.2.2.2 k hk⟩
  | .inl (cA, n, .inr (.inr (.inr (.inl f)))), h => exact ⟨h.1, h.2.1, h.2.2.1, fun k hk => by rw [hg k (fun _ => by have := h.2.2.1; omega)]; exact h.2.2.2 k hk⟩
  | .inl (cA, n, .inr (.inr (.inr (.inr f)))), h => exact ⟨h.1, h.2.1, h.2.2.1, fun k hk => by rw [hg k (fun _ => by have := h.2.2.1; omega)]; exact h.2.2.2 k hk⟩
theorem aHp.norm {ca : Nat → ClassId} {ws : va_W} {H H' : AH} (h : aHp ca ws H) (hn : nsame H H') : aHp ca ws H' := by
  refine ⟨h.1.trans hn.1.symm, by rw [hn.2.1]; exact h.2.1, fun p q e he => ?_⟩
  have := h.2.2 p q e he
  rw [hn.2.1]
  exact this.norm (fun i hi => hn.2.2 _ _ (by omega) hi)
theorem CL.norm {l : Launch} {G : GT} {M : MI} {d mc ms : Nat} {as : List AV} {H : AH} {Q Q' : AV → AH → Prop} (h : CL l G M d mc ms as H Q) (hq : ∀ r H', Q r H' → ∃ H2 : AH, nsame H' H2 ∧ Q' r H2) : CL l G M d mc ms as H Q' := by
  intro z D ca ws p e ha hc hk s m args below hf happ hP hK
  obtain ⟨n, o, h1, h2, h3, h4⟩ := h z D ca ws p e ha hc hk s m args below hf happ hP hK
  refine ⟨n, o, h1, h2, h3, ?_⟩
  rcases h4 with ⟨⟨ov, ao, ws', H', q1, q2, q3, q4, q5, q6⟩, q7⟩ | ⟨q, q1, E, ce, L, ⟨k, ws', H', x1, x2, x3, x4, x5⟩, q3⟩
  · obtain ⟨H2, hs, hq2⟩ := hq _ _ q5
    exact Or.inl ⟨⟨ov, ao, ws', H2, q1, q2, ⟨q3.1, q3.2.1, q3.2.2.norm hs⟩, q4, hq2, q6⟩, q7⟩
  · obtain ⟨H2, hs, hq2⟩ := hq _ _ x4
    exact Or.inr ⟨q, q1, E, ce, L, ⟨k, ws', H2, x1, ⟨x2.1, x2.2.1, x2.2.2.norm hs⟩, x3, hq2, x5⟩, q3⟩
/-- the row as it is said to be -/
theorem row_norm {H : AH} {a : Int} {M : Row} (hL : Lay LMod H a) (h : ∀ k, 0 ≤ k → k < 440 → hg H (a + 1) k = M k) : ∃ H2 : AH, nsame H H2 ∧ only H H2 (fun b _ => b = a + 1) ∧ Lay LMod H2 a ∧ rowM H2 a = M := by
  refine ⟨(H.1, H.2.1, fun b i => if b = a + 1 then M i else H.2.2 b i), ⟨rfl, rfl, fun b i h0 hb => ?_⟩, ⟨rfl, rfl, fun b i hn => ?_⟩, ?_, ?_⟩
  · show (if b = a + 1 then M i else H.2.2 b i) = H.2.2 b i
    split
    · rename_i e
      rw [e]
      rw [e] at hb
      have := hb (by rw [kMod_1 hL]; decide)
      rw [nMod_1 hL] at this
      exact (h i h0 this).symm
    · rfl
  · show (if b = a + 1 then M i else H.2.2 b i) = H.2.2 b i
    rw [if_neg hn]
  · refine hL.same rfl (fun b i hn => ?_) ok_Mod
    show (if b = a + 1 then M i else H.2.2 b i) = H.2.2 b i
    rw [if_neg]
    intro e
    rw [e] at hn
    exact hn (nrf_arr (kMod_1 hL) (by decide) (by decide))
  · funext i
    show (if a + 1 = a + 1 then M i else H.2.2 (a + 1) i) = M i
    rw [if_pos rfl]
