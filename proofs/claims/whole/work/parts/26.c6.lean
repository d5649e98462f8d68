/-! the reference's search: goes -/
theorem ior_lt {x k : Int} (hx : 0 ≤ x ∧ x < 128) (hk : 0 ≤ k ∧ k < 7) : 0 ≤ ior x (pw k) ∧ ior x (pw k) < 128 := by
  unfold ior pw
  have h1 : x.toNat < 2 ^ 7 := by omega
  have h3 : (2 : Int) ^ k.toNat = ((2 ^ k.toNat : Nat) : Int) := by simp
  rw [h3, Int.toNat_natCast]
  have h2 : 2 ^ k.toNat < 2 ^ 7 := Nat.pow_lt_pow_right (by decide) (by omega)
  have := Nat.or_lt_two_pow h1 h2
  omega
theorem pw_nn (k : Int) : 0 ≤ pw k := by
  unfold pw
  exact Int.le_of_lt (Int.pow_pos (by decide))
section
variable {l : Launch} {G : GT}
/-- the found sequence is laid -/
theorem goes_lay {d : Nat} {Q : AV → AH → Prop} {a r : Int} {M : Row} {C : List Int} (hr : 0 ≤ r ∧ r < 3) (hd : 2 ≤ d) (P : List Int) (hP : P.length ≤ 7) (x3 x4 : Int) : ∀ k, k ≤ P.length → ∀ H, GE H a r M C → lst H (a + 12) 0 P → lst H (a + 9) (24 * r) (P.take k) →
    (∀ H', only H H' (fun b i => b = a + 9 ∧ 24 * r ≤ i ∧ i < 24 * r + 24) → lst H' (a + 9) (24 * r) P → Q vV H') → AW l G mX8_goes (d + 1) 0 0 Q 33 [vR a, vI r, vI P.length, vI x3, vJ x4, vU, vI k, vU] [] 0 0 H := by
  refine upN _ ?_ ?_
  · intro k hk ih H hE hl hp hq
    have hv : hg H (a + 12) k = P[k] := by
      have := hl.at hk
      rwa [Int.zero_add] at this
    refine s_X8_goes_33 hE.1 ⟨fun c => absurd c (by omega), fun c => ⟨by omega, by omega, by omega, by omega, fun H1 e1 => ⟨by omega, ?_⟩⟩⟩
    rw [hv] at e1
    have ho : only H H1 (fun b i => b = a + 9 ∧ 24 * r ≤ i ∧ i < 24 * r + 24) := by rw [e1]; exact only.wr ⟨rfl, by omega, by omega⟩
    refine ih H1 (hE.only (p := 0) (ho.mono fun b i q => Or.inr (Or.inl q))) (hl.only ho (fun _ _ q => by have := q.1; omega)) ?_ (fun H' ho' hl' => hq H' (ho.trans ho') hl')
    rw [List.take_succ_eq_append_getElem hk]
    have hlen : (P.take k).length = k := by rw [List.length_take]; omega
    refine lst.snoc ?_ ?_
    · intro i x hx
      have hi := (List.getElem?_eq_some_iff.mp hx).1
      rw [e1, hg_ne H (Or.inr (by omega))]
      exact hp i x hx
    · rw [hlen, e1, hg_same]
  · intro H hE hl hp hq
    rw [List.take_length] at hp
    exact s_X8_goes_33 hE.1 ⟨fun _ => hq H only.rf hp, fun c => absurd c (by omega)⟩
theorem c_goes {a r : Int} {M : Row} {C : List Int} (hM : okM M) (hr : 0 ≤ r ∧ r < 3) (hC : ∀ x ∈ C, 0 ≤ x ∧ x < M 6) (hnd : C.Nodup) : ∀ (n d : Nat) (H : AH) (used : Int) (T : List (Int × Int)) (c : Int), GE H a r M C → (C.take 7).length = T.length + n → lst H (a + 12) 0 (T.map Prod.fst) → lst H (a + 13) 0 (T.map Prod.snd) → okT M T (300000 + 600 * T.length) → (0 ≤ used ∧ used < 128) → (0 ≤ c ∧ c ≤ 5000000000 * T.length) → n + 4 ≤ d →
    CL l G mX8_goes d 0 0 [vR a, vI r, vI T.length, vI used, vJ c] H (fun v H' => v = vV ∧ only H H' (pGoes a r T.length) ∧ (hg H' a 21, rdL H' (a + 9) (24 * r) (C.take 7).length) = bestOf (hg H a 21, rdL H (a + 9) (24 * r) (C.take 7).length) (lvs M r (C.take 7) n T.length used T c)) := by
  have hW : ∀ x ∈ C.take 7, 0 ≤ x ∧ x < M 6 := fun x hx => hC x (List.mem_of_mem_take hx)
  have hWn : (C.take 7).Nodup := hnd.sublist (List.take_sublist _ _)
  have hwl := win_len C
  have hw7 : (C.take 7).length ≤ 7 := by rw [List.length_take]; omega
  intro n
  induction n with
  | zero =>
    intro d H used T c hE hlen h1 h2 hT hu hc hd
    obtain ⟨d, rfl⟩ : ∃ k, d = k + 1 := ⟨d - 1, by omega⟩
    obtain ⟨hL, hrow, hm, hl, hb⟩ := id hE
    refine CL.of (by decide) rfl (Nat.le_of_ble_eq_true rfl) (s_X8_goes_0 hL ⟨fun c1 => ⟨hr, fun c2 => absurd (by rw [hm]; omega) c2, fun _ H1 e1 => ?_⟩, fun c1 => ⟨rfl, only.rf, ?_⟩⟩)
    · have ho : only H H1 (pGoes a r T.length) := by rw [e1]; exact only.wr (Or.inr (Or.inr ⟨rfl, rfl⟩))
      have hml : (T.map Prod.fst).length = T.length := List.length_map _
      have hl1 : lst H1 (a + 12) 0 (T.map Prod.fst) := by
        intro k x hx
        rw [e1, hg_ne H (Or.inl (by omega))]
        exact h1 k x hx
      have := goes_lay (l := l) (G := G) (d := d) (Q := fun v H' => v = vV ∧ only H H' (pGoes a r T.length) ∧ (hg H' a 21, rdL H' (a + 9) (24 * r) (C.take 7).length) = bestOf (hg H a 21, rdL H (a + 9) (24 * r) (C.take 7).length) (lvs M r (C.take 7) 0 T.length used T c)) hr (by omega) (T.map Prod.fst) (by omega) used c 0 (Nat.zero_le _) H1 (hE.only ho) hl1 (by intro k x hx; simp at hx) (fun H' ho' hl' => ?_)
      · rw [hml] at this
        exact this
      · refine ⟨rfl, ho.trans (ho'.mono fun b i q => Or.inr (Or.inl q)), ?_⟩
        have e2 : hg H' a 21 = c := by rw [ho'.2.2 _ _ (fun q => by have := q.1; omega), e1, hg_same]
        have e3 : rdL H' (a + 9) (24 * r) (C.take 7).length = T.map Prod.fst := by
          have := rdL_lst hl'
          rw [hml] at this
          rw [hlen]
          exact this
        rw [e2, e3]
        show _ = upd' _ _
        rw [upd', if_pos c1]
    · rw [bestOf_none]
      intro x hx
      have := lvs_ge hM hW (B := 300000 + 600 * T.length) hT (by omega) (by omega) x hx
      omega
  | succ n ih =>
    intro d H used T c hE hlen h1 h2 hT hu hc hd
    obtain ⟨d, rfl⟩ : ∃ k, d = k + 1 := ⟨d - 1, by omega⟩
    obtain ⟨hL, hrow, hm, hl, hb⟩ := id hE
    have hn := okM_n hM
    -- the loop over those that may come next
    have loop : ∀ (R : List Int) (above y : Int) (H' : AH), remK (C.take 7) above (oks M (C.take 7) T.length used) = R → nxt M (C.take 7) T.length used above (C.take 7).length y → only H H' (pGoes a r T.length) → bestOf (hg H a 21, rdL H (a + 9) (24 * r) (C.take 7).length) (lvs M r (C.take 7) (n + 1) T.length used T c) = bestOf (hg H' a 21, rdL H' (a + 9) (24 * r) (C.take 7).length) (R.flatMap (lv1 M r (C.take 7) n T.length used T c)) →
        AW l G mX8_goes (d + 1) 0 0 (fun v H' => v = vV ∧ only H H' (pGoes a r T.length) ∧ (hg H' a 21, rdL H' (a + 9) (24 * r) (C.take 7).length) = bestOf (hg H a 21, rdL H (a + 9) (24 * r) (C.take 7).length) (lvs M r (C.take 7) (n + 1) T.length used T c)) 79 [vR a, vI r, vI T.length, vI used, vJ c, vU, vI above, vI y] [] 0 0 H' := by
      intro R
      induction R with
      | nil =>
        intro above y H' hR hy ho hbest
        have hy1 : y = -1 := by
          rcases nxt_head hWn hy with ⟨-, q⟩ | ⟨-, -, -, R, q⟩
          · exact q
          · rw [hR] at q; cases q
        exact s_X8_goes_79 (hE.only ho).1 ⟨fun _ => ⟨rfl, ho, hbest.symm⟩, fun c1 => absurd hy1 c1⟩
      | cons k R ihR =>
        intro above y H' hR hy ho hbest
        obtain ⟨hk0, hk1, hok⟩ : 0 ≤ k ∧ k < (C.take 7).length ∧ okK M T.length used k ∧ y = k := by
          rcases nxt_head hWn hy with ⟨q, -⟩ | ⟨q1, q2, q3, R', q⟩
          · rw [hR] at q; cases q
          · rw [hR] at q
            obtain ⟨rfl, -⟩ := List.cons.inj q
            exact ⟨q1, q2, q3, rfl⟩
        obtain ⟨hok, rfl⟩ := hok
        obtain ⟨hrem, hab, -⟩ := remK_cons (oks_sorted (M := M) hWn) hR
        have hE' := hE.only ho
        obtain ⟨hL', hrow', hm', hl', hb'⟩ := id hE'
        have hv := win_at hl' ⟨hk0, hk1⟩
        have hwm := wAt_mem ⟨hk0, hk1⟩
        have hwr := hW _ hwm
        have hwC : wAt (C.take 7) y ∈ C := List.mem_of_mem_take hwm
        have hbM := baseM_in hM (r := r) hwr
        have ht := tmA_in hM (b := baseM M r (wAt (C.take 7) y)) (B := 300000 + 600 * T.length) hwr (by omega) hT
        have hcost := hM.cost hwr (t := tmA M (baseM M r (wAt (C.take 7) y)) T (wAt (C.take 7) y)) (by omega)
        have hml1 : (T.map Prod.fst).length = T.length := List.length_map _
        have hml2 : (T.map Prod.snd).length = T.length := List.length_map _
        refine s_X8_goes_79 hL' ⟨fun c1 => absurd c1 (by omega), fun _ => ⟨by omega, by omega, by omega, by omega, fun H1 e1 => ?_⟩⟩
        rw [hv] at e1 ⊢
        have ho1 : only H H1 (pGoes a r T.length) := by rw [e1]; exact ho.then (Or.inl ⟨Or.inl rfl, Int.le_refl _⟩)
        have hE1 := hE.only ho1
        have l1 : lst H1 (a + 12) 0 (T.map Prod.fst) := h1.only ho1 (fun k hk q => by
          rcases q with ⟨-, q⟩ | ⟨q, -⟩ | ⟨q, -⟩ <;> omega)
        have l2 : lst H1 (a + 13) 0 (T.map Prod.snd) := h2.only ho1 (fun k hk q => by
          rcases q with ⟨-, q⟩ | ⟨q, -⟩ | ⟨q, -⟩ <;> omega)
        have e12 : hg H1 (a + 12) T.length = wAt (C.take 7) y := by rw [e1, hg_same]
        refine CL.mono (c_timeAt hE1.1 hE1.2.1 hM hwr l1 l2 hT (by omega) (by omega) (by omega)) ?_
        rintro r9 H2 ⟨rfl, e2⟩
        refine ⟨by rw [e2]; exact hE1.1, _, rfl, fun H3 e3 => ?_⟩
        rw [hE1.2.2.2.2 _ hwC] at e3
        have ho3 : only H H3 (pGoes a r T.length) := by rw [e3, e2]; exact ho1.then (Or.inl ⟨Or.inr rfl, Int.le_refl _⟩)
        have hE3 := hE.only ho3
        have e13 : hg H3 (a + 13) T.length = tmA M (baseM M r (wAt (C.take 7) y)) T (wAt (C.take 7) y) := by rw [e3, hg_same]
        have hrow3 := hE3.2.1
        rw [e13, hrow3]
        refine ⟨by omega, by omega, ⟨by omega, pw_nn _⟩, hM, hwr, by omega, by omega, ?_⟩
        have l13 : lst H3 (a + 12) 0 ((T ++ [(wAt (C.take 7) y, tmA M (baseM M r (wAt (C.take 7) y)) T (wAt (C.take 7) y))]).map Prod.fst) := by
          rw [List.map_append]
          refine lst.snoc ?_ ?_
          · intro k x hx
            rw [e3, hg_ne H2 (Or.inl (by omega)), e2]
            exact l1 k x hx
          · rw [hml1, Int.zero_add, e3, hg_ne H2 (Or.inl (by omega)), e2]
            exact e12
        have l23 : lst H3 (a + 13) 0 ((T ++ [(wAt (C.take 7) y, tmA M (baseM M r (wAt (C.take 7) y)) T (wAt (C.take 7) y))]).map Prod.snd) := by
          rw [List.map_append]
          refine lst.snoc ?_ ?_
          · intro k x hx
            have hk := (List.getElem?_eq_some_iff.mp hx).1
            rw [e3, hg_ne H2 (Or.inr (by omega)), e2]
            exact l2 k x hx
          · rw [hml2, Int.zero_add]
            exact e13
        have hT' := hT.snoc (B' := 300000 + 600 * ((T ++ [(wAt (C.take 7) y, tmA M (baseM M r (wAt (C.take 7) y)) T (wAt (C.take 7) y))]).length : Nat)) (by rw [List.length_append]; simp; omega) hwr (t := tmA M (baseM M r (wAt (C.take 7) y)) T (wAt (C.take 7) y)) (by rw [List.length_append]; simp; omega)
        have hTl : ((T ++ [(wAt (C.take 7) y, tmA M (baseM M r (wAt (C.take 7) y)) T (wAt (C.take 7) y))]).length : Int) = T.length + 1 := by rw [List.length_append]; simp
        have hgo := ih d H3 (ior used (pw y)) (T ++ [(wAt (C.take 7) y, tmA M (baseM M r (wAt (C.take 7) y)) T (wAt (C.take 7) y))]) (c + costM M (wAt (C.take 7) y) (tmA M (baseM M r (wAt (C.take 7) y)) T (wAt (C.take 7) y))) hE3 (by rw [List.length_append]; simp; omega) l13 l23 hT' (ior_lt hu (by omega)) (by rw [hTl]; omega) (by omega)
        rw [hTl] at hgo
        refine CL.mono hgo ?_
        rintro r9 H4 ⟨rfl, ho4, hb4⟩
        have ho4' : only H H4 (pGoes a r T.length) := ho3.trans (ho4.mono (by
          rintro b i (⟨q1, q2⟩ | q)
          · exact Or.inl ⟨q1, by omega⟩
          · exact Or.inr q))
        have hE4 := hE.only ho4'
        refine ⟨hE4.1, rfl, ?_⟩
        refine CL.mono (c_nextAt hE4 hM hr (by omega) (by omega)) ?_
        rintro r9 H5 ⟨e5, y5, rfl, hy5⟩
        refine ⟨by rw [e5]; exact hE4.1, y5, rfl, ?_⟩
        rw [e5]
        refine ihR (wAt (C.take 7) y) y5 H4 hrem hy5 ho4' ?_
        rw [hbest, hb4, List.flatMap_cons, bestOf_app]
        have k1 : hg H3 a 21 = hg H' a 21 := by rw [e3, hg_ne H2 (Or.inl (by omega)), e2, e1, hg_ne H' (Or.inl (by omega))]
        have k2 : rdL H3 (a + 9) (24 * r) (C.take 7).length = rdL H' (a + 9) (24 * r) (C.take 7).length := rdL_congr fun k hk => by rw [e3, hg_ne H2 (Or.inl (by omega)), e2, e1, hg_ne H' (Or.inl (by omega))]
        rw [k1, k2]
        rfl
    refine CL.of (by decide) rfl (Nat.le_of_ble_eq_true rfl) (s_X8_goes_0 hL ⟨fun c1 => ⟨hr, fun _ => ?_, fun c2 => absurd c2 (by rw [hm]; omega)⟩, fun c1 => ⟨rfl, only.rf, ?_⟩⟩)
    · refine CL.mono (c_nextAt hE hM hr (by omega) (by omega)) ?_
      rintro r9 H1 ⟨e1, y, rfl, hy⟩
      refine ⟨by rw [e1]; exact hL, y, rfl, ?_⟩
      rw [e1]
      refine loop _ (-1) y H rfl hy only.rf ?_
      rw [lvs_succ]
      congr 2
      exact (List.filter_eq_self.mpr fun k hk => by
        obtain ⟨q1, -⟩ := oks_mem.mp hk
        have := hW _ (wAt_mem q1)
        simp
        omega).symm
    · rw [bestOf_none]
      intro x hx
      have := lvs_ge hM hW (B := 300000 + 600 * T.length) hT (by omega) (by omega) x hx
      omega
end
