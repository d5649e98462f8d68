/-- an answer, or a throw, with writes P -/
abbrev xQ (P : Int → Int → Prop) (x : Int) (M' : Row) (th e : Int) (v : AV) (H : AH) : AV → AH → Prop := fun r H' => r = ans th e v ∧ only H H' P ∧ RX H' x M'
/-! worlds side by side: what stays where others write -/
def agr (H H' : AH) (lo hi : Int) : Prop := ∀ b, lo ≤ b → b ≤ hi → H'.2.1 b = H.2.1 b ∧ ∀ i, hg H' b i = hg H b i
def mixH (H H' : AH) : AH := (H.1, H.2.1, H'.2.2)
section
variable {H H' H2 : AH} {lo hi lo' hi' a b x n er i : Int} {M B : Row} {P : Int → Int → Prop}
theorem agr.sub (h : agr H H' lo hi) (h1 : lo ≤ lo') (h2 : hi' ≤ hi) : agr H H' lo' hi' := fun b b1 b2 => h b (by omega) (by omega)
theorem agr.trans (h : agr H H' lo hi) (h2 : agr H' H2 lo hi) : agr H H2 lo hi := fun b b1 b2 => ⟨(h2 b b1 b2).1.trans (h b b1 b2).1, fun i => ((h2 b b1 b2).2 i).trans ((h b b1 b2).2 i)⟩
theorem only.agr (h : only H H' P) (hp : ∀ c i, P c i → c < lo ∨ hi < c) : agr H H' lo hi := fun b b1 b2 => ⟨by rw [h.2.1], fun i => h.2.2 b i (fun q => by have := hp b i q; omega)⟩
theorem agr_hs {y : Int} (h : a < lo ∨ hi < a) : agr H (hs H a i y) lo hi := fun b b1 b2 => ⟨rfl, fun j => hg_ne _ (by omega)⟩
theorem agr.k (h : agr H H' lo hi) (h1 : lo ≤ b) (h2 : b ≤ hi) : H'.2.1 b = H.2.1 b := (h b h1 h2).1
theorem agr.g (h : agr H H' lo hi) (i : Int) (h1 : lo ≤ b) (h2 : b ≤ hi) : hg H' b i = hg H b i := (h b h1 h2).2 i
theorem Lay.agr {T : LT} (h : Lay T H b) (h1 : ∀ e ∈ T.1, H'.2.1 (b + e.1) = H.2.1 (b + e.1)) (h2 : ∀ e ∈ T.2, ∀ i, hg H' (b + e.1) i = hg H (b + e.1) i) : Lay T H' b := ⟨fun e he => (h1 e he).trans (h.1 e he), fun e he => (h2 e he _).trans (h.2 e he)⟩
theorem sta_1 : ∀ e ∈ LSta.1, 0 ≤ e.1 ∧ e.1 ≤ 22 := by decide
theorem sta_2 : ∀ e ∈ LSta.2, 0 ≤ e.1 ∧ e.1 ≤ 22 := by decide
theorem mod_1 : ∀ e ∈ LMod.1, 0 ≤ e.1 ∧ e.1 ≤ 13 := by decide
theorem mod_2 : ∀ e ∈ LMod.2, 0 ≤ e.1 ∧ e.1 ≤ 13 := by decide
theorem run_1 : ∀ e ∈ LRun.1, 0 ≤ e.1 ∧ e.1 ≤ 66 := by decide
theorem run_2 : ∀ e ∈ LRun.2, 0 ≤ e.1 ∧ e.1 ≤ 65 := by decide
theorem agr.mix (h : agr H H' lo hi) : only H (mixH H H') (fun c _ => c < lo ∨ hi < c) := ⟨rfl, rfl, fun c i hn => (h c (by omega) (by omega)).2 i⟩
theorem SX.agr (h : SX H b M) (e : agr H H' b (b + 22)) : SX H' b M := by
  have ss : SS (mixH H H') b M := ssO h.1.2.2 e.mix (fun c i q => by unfold offS; omega)
  refine ⟨⟨h.1.1.agr (fun z hz => e.k (by have := sta_1 z hz; omega) (by have := sta_1 z hz; omega)) (fun z hz i => e.g i (by have := sta_2 z hz; omega) (by have := sta_2 z hz; omega)), h.1.2.1, ss⟩, ⟨fun i h1 h2 => ?_, fun f hf h1 => ?_⟩, fun r hr => ?_⟩
  · rw [e.g i (by omega) (by omega)]; exact h.2.1.1 i h1 h2
  · rw [e.g f (by omega) (by omega)]; exact h.2.1.2 f hf h1
  · obtain ⟨h1, h2⟩ := h.2.2 r hr
    rw [e.g r (by omega) (by omega), e.g r (by omega) (by omega)]
    refine ⟨h1, ?_⟩
    rcases h2 with h2 | ⟨h2, h3⟩
    · exact Or.inl h2
    · exact Or.inr ⟨h2, h3.keep h.1.2.1 (e.g _ (by omega) (by omega)) (fun i _ _ => e.g _ (by omega) (by omega)) (fun f _ => e.g _ (by omega) (by omega)) (e.g _ (by omega) (by omega))⟩
theorem NM.agr (h : NM H b M) (e : agr H H' b (b + 22)) : NM H' b M := h.step rfl (fun _ _ _ _ _ => rfl) (fun c i q => e.g i (by omega) (by omega))
theorem SB.agr (h : SB H b) (e : agr H H' b (b + 22)) : SB H' b := ⟨h.1.agr (fun z hz => e.k (by have := sta_1 z hz; omega) (by have := sta_1 z hz; omega)) (fun z hz i => e.g i (by have := sta_2 z hz; omega) (by have := sta_2 z hz; omega)), fun i hi => by rw [e.g i (by omega) (by omega)]; exact h.2 i hi⟩
theorem RX.agr (h : RX H x M) (e : agr H H' x (x + 65)) (k : H'.2.1 (x + 66) = H.2.1 (x + 66)) : RX H' x M := by
  refine ⟨h.1.agr (fun z hz => ?_) (fun z hz i => e.g i (by have := run_2 z hz; omega) (by have := run_2 z hz; omega)), ⟨h.2.1.1.agr (e.sub (by omega) (by omega)), h.2.1.2.agr (e.sub (by omega) (by omega))⟩, h.2.2.agr (e.sub (by omega) (by omega))⟩
  have := run_1 z hz
  by_cases c : z.1 = 66
  · rw [c]; exact k
  · exact e.k (by omega) (by omega)
theorem MW.agr (h : MW H a M) (e : agr H H' a (a + 13)) : MW H' a M := by
  have m : mkd (mixH H H') a := mkd_only h.2.2.2 e.mix (fun i q => by omega) (fun b i b1 b2 q => by omega) (fun q => by omega)
  refine ⟨h.1.agr (fun z hz => e.k (by have := mod_1 z hz; omega) (by have := mod_1 z hz; omega)) (fun z hz i => e.g i (by have := mod_2 z hz; omega) (by have := mod_2 z hz; omega)), ?_, h.2.2.1, m⟩
  rw [← h.2.1]
  funext i
  exact e.g i (by omega) (by omega)
theorem IB.agr (h : IB H x B n) (e : agr H H' (x + 1) (x + 2)) : IB H' x B n := ⟨(e.g _ (by omega) (by omega)).trans h.1, h.2.1, fun i h1 h2 => (e.g _ (by omega) (by omega)).trans (h.2.2 i h1 h2)⟩
theorem BM.agr (h : BM H a B n) (e : agr H H' (a + 6) (a + 6)) : BM H' a B n := fun i h1 h2 => by rw [e.g i (by omega) (by omega)]; exact h i h1 h2
/-- the class's part, the reference's part -/
def CP (H : AH) (x : Int) (M B : Row) (n er : Int) : Prop := RX H x M ∧ IB H x B n ∧ hg H x 5 = er
def RP (H : AH) (a : Int) (M B : Row) (n er : Int) : Prop := MW H a M ∧ hg H a 7 = n ∧ BM H a B n ∧ hg H a 12 = er
theorem CP.agr (h : CP H x M B n er) (e : agr H H' x (x + 65)) (k : H'.2.1 (x + 66) = H.2.1 (x + 66)) : CP H' x M B n er := ⟨h.1.agr e k, h.2.1.agr (e.sub (by omega) (by omega)), (e.g 5 (by omega) (by omega)).trans h.2.2⟩
theorem RP.agr (h : RP H a M B n er) (e : agr H H' a (a + 13)) : RP H' a M B n er := ⟨h.1.agr e, (e.g 7 (by omega) (by omega)).trans h.2.1, h.2.2.1.agr (e.sub (by omega) (by omega)), (e.g 12 (by omega) (by omega)).trans h.2.2.2⟩
/-- snapshots: which there are, their rows, where they lie -/
def SC (H : AH) (x u : Int) (T : Int → Bool) (S : Int → Row) (Y : Int → Int) : Prop :=
  (∀ k, 0 ≤ k → k < 2 → (T k = false → hg H (x + 66) k = 0) ∧ (T k = true → hg H (x + 66) k = Y k ∧ (u ≤ Y k ∧ Y k + 22 ≤ H.1) ∧ SX H (Y k) (S k) ∧ NM H (Y k) (S k))) ∧ (T 0 = true → T 1 = true → Y 0 + 23 ≤ Y 1 ∨ Y 1 + 23 ≤ Y 0)
def SR (H : AH) (a : Int) (T : Int → Bool) (S : Int → Row) : Prop :=
  ∀ k, 0 ≤ k → k < 2 → hg H (a + 5) k = bi (T k) ∧ (T k = true → (∀ j, 0 ≤ j → j < 440 → hg H (a + 4) (440 * k + j) = S k j) ∧ okM (S k))
theorem SC.agr {u : Int} {T : Int → Bool} {S : Int → Row} {Y : Int → Int} (h : SC H x u T S Y) (e : agr H H' (x + 66) (x + 66)) (e2 : agr H H' u H.1) (h1 : (H.1 : Int) ≤ H'.1) : SC H' x u T S Y := by
  refine ⟨fun k k1 k2 => ?_, h.2⟩
  obtain ⟨q1, q2⟩ := h.1 k k1 k2
  rw [e.g k (by omega) (by omega)]
  refine ⟨q1, fun t => ?_⟩
  obtain ⟨q3, q4, q5, q6⟩ := q2 t
  exact ⟨q3, by omega, q5.agr (e2.sub (by omega) (by omega)), q6.agr (e2.sub (by omega) (by omega))⟩
theorem SR.agr {T : Int → Bool} {S : Int → Row} (h : SR H a T S) (e : agr H H' (a + 4) (a + 5)) : SR H' a T S := by
  intro k k1 k2
  obtain ⟨q1, q2⟩ := h k k1 k2
  refine ⟨(e.g k (by omega) (by omega)).trans q1, fun t => ⟨fun j j1 j2 => (e.g _ (by omega) (by omega)).trans ((q2 t).1 j j1 j2), (q2 t).2⟩⟩
/-- where all lies -/
def AD (x a o v u : Int) : Prop := 0 < x ∧ a = x + 67 ∧ o = x + 81 ∧ v = x + 82 ∧ u = x + 83
/-- the law's world: the class's part, the reference's part, the law's own arrays -/
def LW (H : AH) (x a o v u : Int) (M B : Row) (n er : Int) (T : Int → Bool) (S : Int → Row) (M' B' : Row) (n' er' : Int) (T' : Int → Bool) (S' : Int → Row) (Y : Int → Int) : Prop :=
  CP H x M B n er ∧ RP H a M' B' n' er' ∧ SC H x u T S Y ∧ SR H a T' S' ∧ H.2.1 o = (13, 1) ∧ H.2.1 v = (14, 1) ∧ u ≤ H.1 + 1
end
section
variable {H H1 H' : AH} {x a o v u n er n' er' : Int} {M B M' B' N : Row} {T T' : Int → Bool} {S S' : Int → Row} {Y : Int → Int}
theorem LW.cla {P : Int → Int → Prop} (hA : AD x a o v u) (h : LW H x a o v u M B n er T S M' B' n' er' T' S' Y) (ho : only H H1 P) (hP : ∀ c i, P c i → x + 4 ≤ c ∧ c ≤ x + 65) (hR : RX H1 x N) : LW H1 x a o v u N B n er T S M' B' n' er' T' S' Y := by
  obtain ⟨h0, rfl, rfl, rfl, rfl⟩ := hA
  obtain ⟨h1, h2, h3, h4, h5, h6, h7⟩ := h
  have e : ∀ hi, agr H H1 (x + 66) hi := fun hi => ho.agr (fun c i q => by have := hP c i q; omega)
  have e2 : agr H H1 x (x + 3) := ho.agr (fun c i q => by have := hP c i q; omega)
  refine ⟨⟨hR, h1.2.1.agr (e2.sub (by omega) (by omega)), (e2.g 5 (by omega) (by omega)).trans h1.2.2⟩, h2.agr ((e _).sub (by omega) (Int.le_refl _)), h3.agr (e _) ((e _).sub (by omega) (Int.le_refl _)) (by rw [ho.1]; omega), h4.agr ((e _).sub (by omega) (Int.le_refl _)), ?_, ?_, ?_⟩
  · rw [ho.2.1]; exact h5
  · rw [ho.2.1]; exact h6
  · rw [ho.1]; exact h7
theorem LW.out (hA : AD x a o v u) (h : LW H x a o v u M B n er T S M' B' n' er' T' S' Y) {c y : Int} (hc : c = o ∨ c = v) : LW (hs H c 0 y) x a o v u M B n er T S M' B' n' er' T' S' Y := by
  obtain ⟨h0, rfl, rfl, rfl, rfl⟩ := hA
  obtain ⟨h1, h2, h3, h4, h5, h6, h7⟩ := h
  exact ⟨h1.agr (agr_hs (by omega)) rfl, h2.agr (agr_hs (by omega)), h3.agr (agr_hs (by omega)) (agr_hs (by omega)) (Int.le_refl _), h4.agr (agr_hs (by omega)), h5, h6, h7⟩
/-- the reference has written, not into copies -/
theorem LW.ref {P : Int → Int → Prop} (hA : AD x a o v u) (h : LW H x a o v u M B n er T S M' B' n' er' T' S' Y) (ho : only H H1 P) (hP : ∀ c i, P c i → (a ≤ c ∧ c ≤ a + 13) ∧ c ≠ a + 4 ∧ c ≠ a + 5) {m9 : Int} {B9 : Row} {e9 : Int} (hR : RP H1 a N B9 m9 e9) : LW H1 x a o v u M B n er T S N B9 m9 e9 T' S' Y ∧ (∀ i, hg H1 o i = hg H o i) ∧ ∀ i, hg H1 v i = hg H v i := by
  obtain ⟨h0, rfl, rfl, rfl, rfl⟩ := hA
  obtain ⟨h1, h2, h3, h4, h5, h6, h7⟩ := h
  have lo : ∀ lo hi, hi < x + 67 → agr H H1 lo hi := fun lo hi q => ho.agr (fun c i w => by have := hP c i w; omega)
  have up : ∀ lo hi, x + 80 < lo → agr H H1 lo hi := fun lo hi q => ho.agr (fun c i w => by have := hP c i w; omega)
  have mi : agr H H1 (x + 67 + 4) (x + 67 + 5) := ho.agr (fun c i w => by have := hP c i w; omega)
  exact ⟨⟨h1.agr (lo _ _ (by omega)) (by rw [ho.2.1]), hR, h3.agr (lo _ _ (by omega)) (up _ _ (by omega)) (by rw [ho.1]; omega), h4.agr mi, by rw [ho.2.1]; exact h5, by rw [ho.2.1]; exact h6, by rw [ho.1]; exact h7⟩, fun i => (up (x + 81) (x + 81) (by omega)).g i (by omega) (by omega), fun i => (up (x + 82) (x + 82) (by omega)).g i (by omega) (by omega)⟩
theorem LW.mut {th : Int} (hA : AD x a o v u) (h : LW H x a o v u M B n er T S M' B' n' er' T' S' Y) (hw : pmW a N th H H1) : LW H1 x a o v u M B n er T S N B' n' er' T' S' Y ∧ (∀ i, hg H1 o i = hg H o i) ∧ ∀ i, hg H1 v i = hg H v i := by
  obtain ⟨w1, w2, w3⟩ := hw
  obtain ⟨r1, r2, r3, r4⟩ := h.2.1
  have hP : ∀ c i, pMut a c i → (a ≤ c ∧ c ≤ a + 13) ∧ c ≠ a + 4 ∧ c ≠ a + 5 ∧ c ≠ a + 6 ∧ ¬ (c = a ∧ (i = 7 ∨ i = 12)) := fun c i q => by
    unfold pMut pPub at q
    omega
  refine h.ref hA w2 (fun c i q => by have := hP c i q; omega) ⟨w3, (w2.2.2 _ _ (fun q => by have := hP _ _ q; omega)).trans r2, r3.agr (w2.agr (fun c i q => by have := hP c i q; omega)), (w2.2.2 _ _ (fun q => by have := hP _ _ q; omega)).trans r4⟩
theorem LW.pub {th : Int} (hA : AD x a o v u) (h : LW H x a o v u M B n er T S M' B' n' er' T' S' Y) (hw : pbW a M' th H H1) : LW H1 x a o v u M B n er T S M' B' n' er' T' S' Y ∧ (∀ i, hg H1 o i = hg H o i) ∧ ∀ i, hg H1 v i = hg H v i := h.mut hA (pb_pm hw)
/-! what a wrapper of the law leaves behind -/
def lQ (c e : Int) (V : Int → AV) (f : Int → Int) (Q : AV → AH → Prop) : AV → AH → Prop := fun r H' => (∃ (y : Int) (H1 : AH), Q (V y) H1 ∧ r = vI 0 ∧ H' = hs H1 c 0 (f y)) ∨ (Q (vT e) H' ∧ r = vI 1)
theorem lqx {P : Int → Int → Prop} {th e : Int} {c : Int} {V : Int → AV} {f : Int → Int} {y : Int} {r : AV} {N : Row} (hV : ∀ y y' : Int, V y = V y' → y = y') (hV2 : ∀ (y : Int) (k : Int), V y ≠ vT k) (hP : ∀ c i, P c i → x + 4 ≤ c ∧ c ≤ x + 65) (hA : AD x a o v u) (hc : c = o ∨ c = v) (h : LW H x a o v u M B n er T S M' B' n' er' T' S' Y) (h01 : th = 0 ∨ th = 1) (q : lQ c e V f (xQ P x N th e (V y) H) r H') : r = vI th ∧ LW H' x a o v u N B n er T S M' B' n' er' T' S' Y ∧ (th = 0 → hg H' c 0 = f y) := by
  rcases q with ⟨y', H1, ⟨q1, q2, q3⟩, rfl, rfl⟩ | ⟨⟨q1, q2, q3⟩, rfl⟩
  · have ht : th = 0 := by
      rcases h01 with h01 | h01
      · exact h01
      · rw [h01] at q1
        exact absurd q1 (hV2 _ _)
    subst ht
    rw [ans_0] at q1
    have := hV _ _ q1
    subst this
    exact ⟨rfl, (h.cla hA q2 hP q3).out hA hc, fun _ => hg_same _ _ _ _⟩
  · have ht : th = 1 := by
      rcases h01 with h01 | h01
      · rw [h01, ans_0] at q1
        exact absurd q1.symm (hV2 _ _)
      · exact h01
    subst ht
    exact ⟨rfl, h.cla hA q2 hP q3, fun w => absurd w (by decide)⟩
theorem vI_in (y y' : Int) (h : vI y = vI y') : y = y' := (Prod.mk.inj h).2
theorem vJ_in (y y' : Int) (h : vJ y = vJ y') : y = y' := (Prod.mk.inj h).2
theorem vF_in (y y' : Int) (h : vF y = vF y') : y = y' := (Prod.mk.inj h).2
theorem vI_nt (y k : Int) : vI y ≠ vT k := fun h => absurd (Prod.mk.inj h).1 (by decide)
theorem vJ_nt (y k : Int) : vJ y ≠ vT k := fun h => absurd (Prod.mk.inj h).1 (by decide)
theorem vF_nt (y k : Int) : vF y ≠ vT k := fun h => absurd (Prod.mk.inj h).1 (by decide)
theorem th01 (P : Prop) {i : Decidable P} : 1 - bi (@decide P i) = 0 ∨ 1 - bi (@decide P i) = 1 := by
  by_cases h : P
  · left; rw [bi_t h]; rfl
  · right; rw [bi_f h]; rfl
theorem ans_or {th e : Int} {w r : AV} (h : r = ans th e w) : r = w ∨ r = vT e := by
  unfold ans at h
  split at h
  · exact Or.inl h
  · exact Or.inr h
theorem ans_I {th e : Int} {y : Int} {r : AV} (h : r = ans th e (vI y)) : (∃ y, r = vI y) ∨ r = vT e := (ans_or h).imp (fun q => ⟨_, q⟩) id
theorem ans_J {th e : Int} {y : Int} {r : AV} (h : r = ans th e (vJ y)) : (∃ y, r = vJ y) ∨ r = vT e := (ans_or h).imp (fun q => ⟨_, q⟩) id
theorem ans_Z {th e : Int} {y : Int} {r : AV} (h : r = ans th e (vI y)) (hy : y = 0 ∨ y = 1) : (∃ y, r = vI y ∧ (y = 0 ∨ y = 1)) ∨ r = vT e := (ans_or h).imp (fun q => ⟨_, q, hy⟩) id
theorem ans_F {th e : Int} {y : Int} {r : AV} (h : r = ans th e (vF y)) (hy : fnn y) : (∃ y, r = vF y ∧ fnn y) ∨ r = vT e := (ans_or h).imp (fun q => ⟨_, q, hy⟩) id
theorem CLH.mono {l : Launch} {G : GT} {M : MI} {d mc ms : Nat} {as : List AV} {H : AH} {Q Q' : AV → AH → Prop} (h : CLH l G M d mc ms as H Q) (hq : ∀ r H', Q r H' → Q' r H') : CLH l G M d mc ms as H Q' := by
  intro z D ca ws p e ha hc hk s m args below hf happ hP hK
  obtain ⟨n, o, h1, h2, h3, h4⟩ := h z D ca ws p e ha hc hk s m args below hf happ hP hK
  refine ⟨n, o, h1, h2, h3, ?_⟩
  rcases h4 with ⟨⟨ov, ao, ws', H', q1, q2, q3, q4, q5, q6⟩, q7⟩ | ⟨q, q1, E, ce, L, ⟨k, ws', H', x1, x2, x3, x4, x5⟩, q3⟩
  · exact Or.inl ⟨⟨ov, ao, ws', H', q1, q2, q3, q4, hq _ _ q5, q6⟩, q7⟩
  · exact Or.inr ⟨q, q1, E, ce, L, ⟨k, ws', H', x1, x2, x3, hq _ _ x4, x5⟩, q3⟩
end
