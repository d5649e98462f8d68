/-! worlds after the calls that aren't like the others -/
section
variable {H H1 H' : AH} {x a o v u n er n' er' : Int} {M B M' B' N : Row} {T T' : Int → Bool} {S S' : Int → Row} {Y : Int → Int}
/-- the class has written, somewhere in its own block -/
theorem LW.clg {P : Int → Int → Prop} {B9 : Row} {n9 e9 : Int} (hA : AD x a o v u) (h : LW H x a o v u M B n er T S M' B' n' er' T' S' Y) (ho : only H H1 P) (hP : ∀ c i, P c i → x ≤ c ∧ c ≤ x + 65) (hC : CP H1 x N B9 n9 e9) : LW H1 x a o v u N B9 n9 e9 T S M' B' n' er' T' S' Y := by
  obtain ⟨h0, rfl, rfl, rfl, rfl⟩ := hA
  obtain ⟨h1, h2, h3, h4, h5, h6, h7⟩ := h
  have e : ∀ hi, agr H H1 (x + 66) hi := fun hi => ho.agr (fun c i q => by have := hP c i q; omega)
  refine ⟨hC, h2.agr ((e _).sub (by omega) (Int.le_refl _)), h3.agr (e _) ((e _).sub (by omega) (Int.le_refl _)) (by rw [ho.1]; omega), h4.agr ((e _).sub (by omega) (Int.le_refl _)), ?_, ?_, ?_⟩
  · rw [ho.2.1]; exact h5
  · rw [ho.2.1]; exact h6
  · rw [ho.1]; exact h7
theorem lqg {th e : Int} {c : Int} {V : Int → AV} {f : Int → Int} {y : Int} {r : AV} {N B9 : Row} {n9 e9 : Int} {T9 : Int → Bool} {S9 : Int → Row} {Y9 : Int → Int} {K : AH → Prop} (hV : ∀ y y' : Int, V y = V y' → y = y') (hV2 : ∀ (y : Int) (k : Int), V y ≠ vT k) (hA : AD x a o v u) (hc : c = o ∨ c = v) (hK : ∀ H1, K H1 → LW H1 x a o v u N B9 n9 e9 T9 S9 M' B' n' er' T' S' Y9) (h01 : th = 0 ∨ th = 1) (q : lQ c e V f (fun r H' => r = ans th e (V y) ∧ K H') r H') : r = vI th ∧ LW H' x a o v u N B9 n9 e9 T9 S9 M' B' n' er' T' S' Y9 ∧ (th = 0 → hg H' c 0 = f y) := by
  rcases q with ⟨y', H1, ⟨q1, q2⟩, rfl, rfl⟩ | ⟨⟨q1, q2⟩, rfl⟩
  · have ht : th = 0 := by
      rcases h01 with h01 | h01
      · exact h01
      · rw [h01] at q1
        exact absurd q1 (hV2 _ _)
    subst ht
    rw [ans_0] at q1
    have := hV _ _ q1
    subst this
    exact ⟨rfl, (hK _ q2).out hA hc, fun _ => hg_same _ _ _ _⟩
  · have ht : th = 1 := by
      rcases h01 with h01 | h01
      · rw [h01, ans_0] at q1
        exact absurd q1.symm (hV2 _ _)
      · exact h01
    subst ht
    exact ⟨rfl, hK _ q2, fun w => absurd w (by decide)⟩
theorem th0 {P : Prop} {i : Decidable P} (h : 1 - bi (@decide P i) = 0) : P := bi_1 (by omega)
theorem pLd_in {c i : Int} (h : pLd x c i) : x ≤ c ∧ c ≤ x + 65 := by
  rcases h with h | h | h | h
  · omega
  · omega
  · have := pSt_in h; omega
  · have := pSt_in h; omega
/-- a snapshot is kept: which there are then -/
abbrev svT (s : Int) (T : Int → Bool) : Int → Bool := fun k => if okSl s ∧ k = s then true else T k
abbrev svS (s : Int) (M : Row) (S : Int → Row) : Int → Row := fun k => if okSl s ∧ k = s then M else S k
theorem svT_no {s : Int} (h : ¬ okSl s) : svT s T = T := by funext k; exact if_neg (fun w => h w.1)
theorem svS_no {s : Int} (h : ¬ okSl s) : svS s M S = S := by funext k; exact if_neg (fun w => h w.1)
theorem SC.at {s : Int} (h : SC H x u T S Y) (hs : okSl s) (hu : 0 < u) : (T s = true ↔ hg H (x + 66) s ≠ 0) ∧ (T s = true → hg H (x + 66) s = Y s ∧ (u ≤ Y s ∧ Y s + 22 ≤ H.1) ∧ SX H (Y s) (S s) ∧ NM H (Y s) (S s)) := by
  obtain ⟨h1, h2⟩ := h.1 s hs.1 (by have := hs.2; omega)
  refine ⟨⟨fun t => ?_, fun t => ?_⟩, h2⟩
  · obtain ⟨e1, e2, -⟩ := h2 t
    omega
  · by_cases c : T s = true
    · exact c
    · exact absurd (h1 (by simpa using c)) t
theorem sv_cla {s : Int} (hA : AD x a o v u) (h : LW H x a o v u M B n er T S M' B' n' er' T' S' Y) (h1 : okSl s → svP x s M H H1) (h2 : ¬ okSl s → H1 = H) : ∃ Y9, LW H1 x a o v u M B n er (svT s T) (svS s M S) M' B' n' er' T' S' Y9 := by
  by_cases hs : okSl s
  · obtain ⟨y, ey, X9, N9, hy⟩ := h1 hs
    obtain ⟨h0, rfl, rfl, rfl, rfl⟩ := hA
    obtain ⟨p1, p2, p3, p4, p5, p6, p7⟩ := h
    have hsat := p3.at hs (by omega)
    have hs1 : 0 ≤ s ∧ s ≤ 1 := hs
    -- where it lies, and what stays
    have key : (x + 83 ≤ y ∧ y + 22 ≤ H1.1) ∧ ((H.1 : Int) ≤ H1.1) ∧ (∀ b : Int, b ≤ H.1 → (b < y ∨ y + 22 < b) → H1.2.1 b = H.2.1 b ∧ ∀ i, ¬ (b = x + 66 ∧ i = s) → hg H1 b i = hg H b i) ∧ (∀ k, 0 ≤ k → k < 2 → k ≠ s → T k = true → Y k + 23 ≤ y ∨ y + 23 ≤ Y k) := by
      rcases hy with ⟨e1, e2, o1⟩ | ⟨e1, e2, e3, e4⟩
      · have ht := hsat.1.mpr (by rw [e1]; exact e2)
        obtain ⟨g1, g2, -⟩ := hsat.2 ht
        have e5 : y = Y s := by rw [← e1]; exact g1
        subst e5
        refine ⟨⟨g2.1, by rw [o1.1]; exact g2.2⟩, by rw [o1.1]; omega, fun b _ hb => ⟨by rw [o1.2.1], fun i _ => o1.2.2 _ _ (fun w => by have := pSt_in w; omega)⟩, fun k k1 k2 k3 tk => ?_⟩
        have hs9 : s = 0 ∨ s = 1 := by omega
        have hk9 : k = 0 ∨ k = 1 := by omega
        rcases hs9 with rfl | rfl
        · rcases hk9 with rfl | rfl
          · exact absurd rfl k3
          · exact (p3.2 ht tk).symm
        · rcases hk9 with rfl | rfl
          · exact p3.2 tk ht
          · exact absurd rfl k3
      · refine ⟨by omega, by omega, fun b hb _ => e4 b hb, fun k k1 k2 k3 tk => ?_⟩
        obtain ⟨-, g2, -⟩ := (p3.1 k k1 k2).2 tk
        omega
    obtain ⟨⟨y1, y2⟩, hn, st, sep⟩ := key
    have ag : ∀ lo hi, hi ≤ x + 65 ∨ (x + 67 ≤ lo ∧ hi ≤ x + 82) → agr H H1 lo hi := fun lo hi w b b1 b2 => ⟨(st b (by omega) (by omega)).1, fun i => (st b (by omega) (by omega)).2 i (by omega)⟩
    refine ⟨fun k => if k = s then y else Y k, p1.agr (ag _ _ (by omega)) (st _ (by omega) (by omega)).1, p2.agr (ag _ _ (by omega)), ⟨fun k k1 k2 => ?_, fun t0 t1 => ?_⟩, p4.agr (ag _ _ (by omega)), ?_, ?_, by omega⟩
    · by_cases c : k = s
      · subst c
        have e1 : svT k T k = true := if_pos ⟨hs, rfl⟩
        have e2 : svS k M S k = M := if_pos ⟨hs, rfl⟩
        rw [e1, e2]
        simp only [if_true]
        exact ⟨fun w => absurd w (by decide), fun _ => ⟨ey, ⟨y1, y2⟩, X9, N9⟩⟩
      · have e1 : svT s T k = T k := if_neg (fun w => c w.2)
        have e2 : svS s M S k = S k := if_neg (fun w => c w.2)
        rw [e1, e2]
        simp only [c, if_false]
        obtain ⟨q1, q2⟩ := p3.1 k k1 k2
        have e3 : hg H1 (x + 66) k = hg H (x + 66) k := (st _ (by omega) (by omega)).2 k (fun w => c w.2)
        rw [e3]
        refine ⟨q1, fun tk => ?_⟩
        obtain ⟨r1, r2, r3, r4⟩ := q2 tk
        have sp := sep k k1 k2 c tk
        have ga : agr H H1 (Y k) (Y k + 22) := fun b b1 b2 => ⟨(st b (by omega) (by omega)).1, fun i => (st b (by omega) (by omega)).2 i (by omega)⟩
        exact ⟨r1, by omega, r3.agr ga, r4.agr ga⟩
    · have hs9 : s = 0 ∨ s = 1 := by omega
      rcases hs9 with rfl | rfl
      · have t1 : T 1 = true := by
          have e1 : svT 0 T 1 = T 1 := if_neg (fun w => absurd w.2 (by decide))
          rw [← e1]; exact t1
        have := sep 1 (by decide) (by decide) (by decide) t1
        show (if (0 : Int) = 0 then y else Y 0) + 23 ≤ (if (1 : Int) = 0 then y else Y 1) ∨ (if (1 : Int) = 0 then y else Y 1) + 23 ≤ (if (0 : Int) = 0 then y else Y 0)
        rw [if_pos rfl, if_neg (by decide)]
        exact this.symm
      · have t0 : T 0 = true := by
          have e1 : svT 1 T 0 = T 0 := if_neg (fun w => absurd w.2 (by decide))
          rw [← e1]; exact t0
        have := sep 0 (by decide) (by decide) (by decide) t0
        show (if (0 : Int) = 1 then y else Y 0) + 23 ≤ (if (1 : Int) = 1 then y else Y 1) ∨ (if (1 : Int) = 1 then y else Y 1) + 23 ≤ (if (0 : Int) = 1 then y else Y 0)
        rw [if_pos rfl, if_neg (by decide)]
        exact this
    · rw [(st _ (by omega) (by omega)).1]; exact p5
    · rw [(st _ (by omega) (by omega)).1]; exact p6
  · rw [svT_no hs, svS_no hs, h2 hs]
    exact ⟨Y, h⟩
/-- the reference keeps a snapshot -/
theorem sv_ref {s : Int} {T9 : Int → Bool} {S9 : Int → Row} (hA : AD x a o v u) (h : LW H x a o v u M B n er T9 S9 M' B' n' er' T' S' Y) (hok : okM M') (h1 : okSl s → only H H1 (pSv a s) ∧ MW H1 a M' ∧ (∀ k, 0 ≤ k → k < 440 → hg H1 (a + 4) (440 * s + k) = M' k) ∧ hg H1 (a + 5) s = 1) (h2 : ¬ okSl s → ∃ th, pbW a M' th H H1) : LW H1 x a o v u M B n er T9 S9 M' B' n' er' (svT s T') (svS s M' S') Y ∧ ∀ i, hg H1 o i = hg H o i := by
  by_cases hs : okSl s
  · obtain ⟨w1, w2, w3, w4⟩ := h1 hs
    have hP : ∀ c i, pSv a s c i → (a ≤ c ∧ c ≤ a + 5) ∧ (c = a → i = 5) := fun c i q => by
      unfold pSv at q
      omega
    obtain ⟨h0, rfl, rfl, rfl, rfl⟩ := hA
    obtain ⟨p1, p2, p3, p4, p5, p6, p7⟩ := h
    have lo : ∀ lo hi, hi < x + 67 → agr H H1 lo hi := fun lo hi q => w1.agr (fun c i w => by have := hP c i w; omega)
    have up : ∀ lo hi, x + 72 < lo → agr H H1 lo hi := fun lo hi q => w1.agr (fun c i w => by have := hP c i w; omega)
    have hs1 : 0 ≤ s ∧ s ≤ 1 := hs
    refine ⟨⟨p1.agr (lo _ _ (by omega)) (by rw [w1.2.1]), ⟨w2, (w1.2.2 _ _ (fun w => by have := hP _ _ w; omega)).trans p2.2.1, p2.2.2.1.agr (up _ _ (by omega)), (w1.2.2 _ _ (fun w => by have := hP _ _ w; omega)).trans p2.2.2.2⟩, p3.agr (lo _ _ (by omega)) (up _ _ (by omega)) (by rw [w1.1]; omega), fun k k1 k2 => ?_, by rw [w1.2.1]; exact p5, by rw [w1.2.1]; exact p6, by rw [w1.1]; exact p7⟩, fun i => (up (x + 81) (x + 81) (by omega)).g i (by omega) (by omega)⟩
    by_cases c : k = s
    · subst c
      have e1 : svT k T' k = true := if_pos ⟨hs, rfl⟩
      have e2 : svS k M' S' k = M' := if_pos ⟨hs, rfl⟩
      rw [e1, e2]
      exact ⟨w4, fun _ => ⟨w3, hok⟩⟩
    · have e1 : svT s T' k = T' k := if_neg (fun w => c w.2)
      have e2 : svS s M' S' k = S' k := if_neg (fun w => c w.2)
      rw [e1, e2]
      obtain ⟨q1, q2⟩ := p4 k k1 k2
      refine ⟨(w1.2.2 _ _ (fun w => by unfold pSv at w; omega)).trans q1, fun t => ⟨fun j j1 j2 => (w1.2.2 _ _ (fun w => by unfold pSv at w; omega)).trans ((q2 t).1 j j1 j2), (q2 t).2⟩⟩
  · rw [svT_no hs, svS_no hs]
    obtain ⟨th, w⟩ := h2 hs
    obtain ⟨r1, r2, -⟩ := h.pub hA w
    exact ⟨r1, r2⟩
end
