/-! counting the allowed sequences -/
section
variable {l : Launch} {G : GT}
def phi (p : Leaf → Bool) (L : List Leaf) : Int := (L.filter p).length
theorem phi_app {p : Leaf → Bool} (A B : List Leaf) : phi p (A ++ B) = phi p A + phi p B := by
  unfold phi
  rw [List.filter_append, List.length_append]
  omega
theorem phi_nn {p : Leaf → Bool} (A : List Leaf) : 0 ≤ phi p A := by unfold phi; omega
def smL (f : Int → Int) : List Int → Int
  | [] => 0
  | k :: L => f k + smL f L
theorem phi_flat {p : Leaf → Bool} (g : Int → List Leaf) : ∀ L : List Int, phi p (L.flatMap g) = smL (fun k => phi p (g k)) L
  | [] => rfl
  | k :: L => by
    rw [List.flatMap_cons, phi_app, phi_flat g L]
    rfl
theorem smL_insK {f key : Int → Int} {x : Int} : ∀ {L : List Int}, smL f (insK key x L) = f x + smL f L
  | [] => rfl
  | g :: L => by
    unfold insK
    split
    · rfl
    · show f g + smL f (insK key x L) = f x + (f g + smL f L)
      rw [smL_insK]
      omega
theorem smL_srt {f : Int → Int} {W : List Int} : ∀ {n : Nat}, smL f (srtN W n) = sm (fun k => f k) n
  | 0 => rfl
  | n + 1 => by
    show smL f (insK (wAt W) n (srtN W n)) = sm (fun k => f k) n + f n
    rw [smL_insK, smL_srt]
    omega
theorem smL_filter {f : Int → Int} {q : Int → Bool} : ∀ {L : List Int}, smL f (L.filter q) = smL (fun k => if q k then f k else 0) L
  | [] => rfl
  | k :: L => by
    rw [List.filter_cons]
    by_cases h : q k = true
    · rw [if_pos h]
      show f k + smL f (L.filter q) = (if q k = true then f k else 0) + _
      rw [if_pos h, smL_filter]
    · rw [if_neg h]
      show smL f (L.filter q) = (if q k = true then f k else 0) + _
      rw [if_neg h, smL_filter]
      omega
noncomputable def phK (p : Leaf → Bool) (M : Row) (r : Int) (W : List Int) (n : Nat) (place used : Int) (T : List (Int × Int)) (c : Int) (k : Nat) : Int := if pdec (okK M place used k) = true then phi p (lv1 M r W n place used T c k) else 0
theorem phi_lvs {p : Leaf → Bool} {M : Row} {r : Int} {W : List Int} {n : Nat} {place used : Int} {T : List (Int × Int)} {c : Int} : phi p (lvs M r W (n + 1) place used T c) = sm (phK p M r W n place used T c) W.length := by
  rw [lvs_succ, phi_flat]
  unfold oks
  rw [smL_filter, smL_srt]
  rfl
theorem phK_nn {p : Leaf → Bool} {M : Row} {r : Int} {W : List Int} {n : Nat} {place used : Int} {T : List (Int × Int)} {c : Int} (k : Nat) : 0 ≤ phK p M r W n place used T c k := by
  unfold phK
  split
  · exact phi_nn _
  · exact Int.le_refl _
theorem sm_mono {f : Nat → Int} (h : ∀ k, 0 ≤ f k) : ∀ {m n : Nat}, m ≤ n → sm f m ≤ sm f n
  | m, 0, hm => by rw [show m = 0 by omega]; exact Int.le_refl _
  | m, n + 1, hm => by
    by_cases e : m = n + 1
    · rw [e]; exact Int.le_refl _
    · have := sm_mono h (m := m) (n := n) (by omega)
      have := h n
      show sm f m ≤ sm f n + f n
      omega
theorem lvs_len {p : Leaf → Bool} {M : Row} {r : Int} {W : List Int} (hW : W.length ≤ 7) : ∀ {n : Nat} {place used : Int} {T : List (Int × Int)} {c : Int}, phi p (lvs M r W n place used T c) ≤ 7 ^ n
  | 0, place, used, T, c => by
    show ((List.filter p [(c, T.map Prod.fst)]).length : Int) ≤ 7 ^ 0
    have := List.length_filter_le p [(c, T.map Prod.fst)]
    simp only [List.length_singleton] at this
    have : (7 : Int) ^ 0 = 1 := rfl
    omega
  | n + 1, place, used, T, c => by
    rw [phi_lvs]
    have := sm_in (f := phK p M r W n place used T c) (lo := 0) (hi := 7 ^ n) (n := W.length) (fun k _ => ⟨phK_nn k, by
      unfold phK
      split
      · exact lvs_len hW
      · exact Int.le_of_lt (Int.pow_pos (by decide))⟩)
    have h2 : (7 : Int) ^ n * W.length ≤ 7 ^ n * 7 := Int.mul_le_mul_of_nonneg_left (by omega) (Int.le_of_lt (Int.pow_pos (by decide)))
    rw [Int.pow_succ]
    omega
/-- where counting writes -/
def pCnt (a place : Int) : Int → Int → Prop := fun b i => ((b = a + 12 ∨ b = a + 13) ∧ place ≤ i) ∨ (b = a ∧ (i = 22 ∨ i = 23))
theorem pCnt_nrf {H : AH} {a p : Int} (hL : Lay LMod H a) : ∀ c i, pCnt a p c i → nrf H c i := by
  rintro c i (⟨rfl | rfl, -⟩ | ⟨rfl, rfl | rfl⟩)
  · exact nrf_arr (kMod_12 hL) (by decide) (by decide)
  · exact nrf_arr (kMod_13 hL) (by decide) (by decide)
  · exact nrf_fld 22 (kMod_0 hL) (by decide) (by decide)
  · exact nrf_fld 23 (kMod_0 hL) (by decide) (by decide)
theorem pCnt_no {a p b i : Int} (h1 : b ≠ a + 12) (h2 : b ≠ a + 13) (h4 : b ≠ a) : ¬ pCnt a p b i := by
  rintro (⟨h | h, -⟩ | ⟨h, -⟩)
  · exact h1 h
  · exact h2 h
  · exact h4 h
theorem geC {H H' : AH} {a r p : Int} {M : Row} {C : List Int} (h : GE H a r M C) (ho : only H H' (pCnt a p)) : GE H' a r M C := by
  obtain ⟨h1, h2, h3, h4, h5⟩ := h
  refine ⟨h1.only ok_Mod ho (pCnt_nrf h1), (rowM_only ho (fun i => pCnt_no (by omega) (by omega) (by omega))).trans h2, ?_, h4.only ho (fun k _ => pCnt_no (by omega) (by omega) (by omega)), fun x hx => ?_⟩
  · rw [ho.2.2 _ _ (pCnt_no (by omega) (by omega) (by omega))]; exact h3
  · rw [ho.2.2 _ _ (pCnt_no (by omega) (by omega) (by omega))]; exact h5 x hx
abbrev pT : Leaf → Bool := fun _ => true
abbrev pE (w : Int) : Leaf → Bool := fun x => x.1 == w
theorem c_counts {a r w : Int} {M : Row} {C : List Int} (hM : okM M) (hr : 0 ≤ r ∧ r < 3) (hC : ∀ x ∈ C, 0 ≤ x ∧ x < M 6) : ∀ (n d : Nat) (H : AH) (used : Int) (T : List (Int × Int)) (c : Int), GE H a r M C → (C.take 7).length = T.length + n → lst H (a + 12) 0 (T.map Prod.fst) → lst H (a + 13) 0 (T.map Prod.snd) → okT M T (300000 + 600 * T.length) → (0 ≤ used ∧ used < 128) → (0 ≤ c ∧ c ≤ 5000000000 * T.length) → (0 ≤ hg H a 23 ∧ hg H a 23 + phi pT (lvs M r (C.take 7) n T.length used T c) ≤ 2000000) → (0 ≤ hg H a 22 ∧ hg H a 22 + phi (pE w) (lvs M r (C.take 7) n T.length used T c) ≤ 2000000) → n + 4 ≤ d →
    CL l G mX8_counts d 0 0 [vR a, vI r, vI T.length, vI used, vJ c, vJ w] H (fun v H' => v = vV ∧ only H H' (pCnt a T.length) ∧ hg H' a 23 = hg H a 23 + phi pT (lvs M r (C.take 7) n T.length used T c) ∧ hg H' a 22 = hg H a 22 + phi (pE w) (lvs M r (C.take 7) n T.length used T c)) := by
  have hW : ∀ x ∈ C.take 7, 0 ≤ x ∧ x < M 6 := fun x hx => hC x (List.mem_of_mem_take hx)
  have hwl := win_len C
  have hw7 : (C.take 7).length ≤ 7 := by rw [List.length_take]; omega
  intro n
  induction n with
  | zero =>
    intro d H used T c hE hlen h1 h2 hT hu hc h23 h22 hd
    obtain ⟨d, rfl⟩ : ∃ k, d = k + 1 := ⟨d - 1, by omega⟩
    obtain ⟨hL, hrow, hm, hl, hb⟩ := id hE
    have p1 : phi pT (lvs M r (C.take 7) 0 T.length used T c) = 1 := rfl
    have p2 := phi_nn (p := pE w) (lvs M r (C.take 7) 0 T.length used T c)
    refine CL.of (by decide) rfl (Nat.le_of_ble_eq_true rfl) (s_X8_counts_0 hL ⟨hr, fun c2 => absurd (by rw [hm]; omega) c2, fun _ => ⟨by omega, fun H1 e1 => ?_⟩⟩)
    have g22 : hg H1 a 22 = hg H a 22 := by rw [e1, hg_ne _ (by omega)]
    rw [g22]
    have fin : ∀ (x : Int) (H2 : AH), phi (pE w) (lvs M r (C.take 7) 0 T.length used T c) = x → H2 = hs H1 a 22 (hg H a 22 + x) → vV = vV ∧ only H H2 (pCnt a T.length) ∧ hg H2 a 23 = hg H a 23 + phi pT (lvs M r (C.take 7) 0 T.length used T c) ∧ hg H2 a 22 = hg H a 22 + phi (pE w) (lvs M r (C.take 7) 0 T.length used T c) := by
      intro x H2 hx e2
      refine ⟨rfl, ?_, ?_, ?_⟩
      · rw [e2, e1]; exact (only.wr (Or.inr ⟨rfl, Or.inr rfl⟩)).then (Or.inr ⟨rfl, Or.inl rfl⟩)
      · rw [e2, hg_ne _ (by omega), e1, hg_same, p1]
      · rw [e2, hg_same, hx]
    refine ⟨fun q => ⟨by omega, fun H2 e2 => fin 0 H2 ?_ e2⟩, fun q => ⟨by omega, fun H2 e2 => fin 1 H2 ?_ e2⟩⟩
    · show ((List.filter (pE w) [(c, T.map Prod.fst)]).length : Int) = 0
      have : (c == w) = false := by simpa using q
      simp [pE, this]
    · show ((List.filter (pE w) [(c, T.map Prod.fst)]).length : Int) = 1
      have : (c == w) = true := by simpa using q
      simp [pE, this]
  | succ n ih =>
    intro d H used T c hE hlen h1 h2 hT hu hc h23 h22 hd
    obtain ⟨d, rfl⟩ : ∃ k, d = k + 1 := ⟨d - 1, by omega⟩
    obtain ⟨hL, hrow, hm, hl, hb⟩ := id hE
    have hn := okM_n hM
    rw [phi_lvs] at h23 h22
    rw [phi_lvs, phi_lvs]
    have key : ∀ j, j ≤ (C.take 7).length → ∀ H', only H H' (pCnt a T.length) → hg H' a 23 = hg H a 23 + sm (phK pT M r (C.take 7) n T.length used T c) j → hg H' a 22 = hg H a 22 + sm (phK (pE w) M r (C.take 7) n T.length used T c) j → AW l G mX8_counts (d + 1) 0 0 (fun v H' => v = vV ∧ only H H' (pCnt a T.length) ∧ hg H' a 23 = hg H a 23 + sm (phK pT M r (C.take 7) n T.length used T c) (C.take 7).length ∧ hg H' a 22 = hg H a 22 + sm (phK (pE w) M r (C.take 7) n T.length used T c) (C.take 7).length) 53 [vR a, vI r, vI T.length, vI used, vJ c, vU, vJ w, vU, vI (C.take 7).length, vI j, vU] [] 0 0 H' := by
      refine upN _ ?_ ?_
      · intro j hj ihj H' ho g23 g22
        have hE' := geC hE ho
        obtain ⟨hL', hrow', hm', hl', hb'⟩ := id hE'
        have m23 := sm_mono (f := phK pT M r (C.take 7) n T.length used T c) phK_nn (m := j + 1) (n := (C.take 7).length) (by omega)
        have m22 := sm_mono (f := phK (pE w) M r (C.take 7) n T.length used T c) phK_nn (m := j + 1) (n := (C.take 7).length) (by omega)
        have s23 := sm_mono (f := phK pT M r (C.take 7) n T.length used T c) phK_nn (Nat.zero_le j)
        have s22 := sm_mono (f := phK (pE w) M r (C.take 7) n T.length used T c) phK_nn (Nat.zero_le j)
        have z23 : sm (phK pT M r (C.take 7) n T.length used T c) 0 = 0 := rfl
        have z22 : sm (phK (pE w) M r (C.take 7) n T.length used T c) 0 = 0 := rfl
        have no : ¬ okK M T.length used j → AW l G mX8_counts (d + 1) 0 0 (fun v H' => v = vV ∧ only H H' (pCnt a T.length) ∧ hg H' a 23 = hg H a 23 + sm (phK pT M r (C.take 7) n T.length used T c) (C.take 7).length ∧ hg H' a 22 = hg H a 22 + sm (phK (pE w) M r (C.take 7) n T.length used T c) (C.take 7).length) 53 [vR a, vI r, vI T.length, vI used, vJ c, vU, vJ w, vU, vI (C.take 7).length, vI (j + 1), vU] [] 0 0 H' := fun z => by
          refine ihj H' ho ?_ ?_
          · rw [g23, sm, phK, pdec_f z]; simp
          · rw [g22, sm, phK, pdec_f z]; simp
        refine s_X8_counts_53 hL' ⟨fun q => absurd q (by omega), fun _ => ⟨by omega, fun q => ⟨by omega, no (fun z => by have := z.1; omega)⟩, fun q => ⟨by omega, by omega, fun q2 => ?_, fun q2 => ⟨by omega, no (fun z => by have := z.2; rw [hrow'] at q2; omega)⟩⟩⟩⟩
        rw [hrow'] at q2
        have hok : okK M T.length used j := ⟨by omega, q2⟩
        have hk1 : 0 ≤ (j : Int) ∧ (j : Int) < (C.take 7).length := by omega
        have hv := win_at hl' hk1
        have hwm := wAt_mem hk1
        have hwr := hW _ hwm
        have hwC : wAt (C.take 7) j ∈ C := List.mem_of_mem_take hwm
        have hbM := baseM_in hM (r := r) hwr
        have ht := tmA_in hM (b := baseM M r (wAt (C.take 7) j)) (B := 300000 + 600 * T.length) hwr (by omega) hT
        have hcost := hM.cost hwr (t := tmA M (baseM M r (wAt (C.take 7) j)) T (wAt (C.take 7) j)) (by omega)
        have hml1 : (T.map Prod.fst).length = T.length := List.length_map _
        have hml2 : (T.map Prod.snd).length = T.length := List.length_map _
        refine ⟨by omega, by omega, by omega, by omega, fun H1 e1 => ?_⟩
        rw [hv] at e1 ⊢
        have ho1 : only H H1 (pCnt a T.length) := by rw [e1]; exact ho.then (Or.inl ⟨Or.inl rfl, Int.le_refl _⟩)
        have hE1 := geC hE ho1
        have l1 : lst H1 (a + 12) 0 (T.map Prod.fst) := h1.only ho1 (fun k hk q => by
          rcases q with ⟨-, q⟩ | ⟨q, -⟩ <;> omega)
        have l2 : lst H1 (a + 13) 0 (T.map Prod.snd) := h2.only ho1 (fun k hk q => by
          rcases q with ⟨-, q⟩ | ⟨q, -⟩ <;> omega)
        have e12 : hg H1 (a + 12) T.length = wAt (C.take 7) j := by rw [e1, hg_same]
        refine CL.mono (c_timeAt hE1.1 hE1.2.1 hM hwr l1 l2 hT (by omega) (by omega) (by omega)) ?_
        rintro r9 H2 ⟨rfl, e2⟩
        refine ⟨by rw [e2]; exact hE1.1, _, rfl, fun H3 e3 => ?_⟩
        rw [hE1.2.2.2.2 _ hwC] at e3
        have ho3 : only H H3 (pCnt a T.length) := by rw [e3, e2]; exact ho1.then (Or.inl ⟨Or.inr rfl, Int.le_refl _⟩)
        have hE3 := geC hE ho3
        have e13 : hg H3 (a + 13) T.length = tmA M (baseM M r (wAt (C.take 7) j)) T (wAt (C.take 7) j) := by rw [e3, hg_same]
        have hrow3 := hE3.2.1
        rw [e13, hrow3]
        refine ⟨by omega, by omega, ⟨by omega, pw_nn _⟩, hM, hwr, by omega, by omega, ?_⟩
        have l13 : lst H3 (a + 12) 0 ((T ++ [(wAt (C.take 7) j, tmA M (baseM M r (wAt (C.take 7) j)) T (wAt (C.take 7) j))]).map Prod.fst) := by
          rw [List.map_append]
          refine lst.snoc ?_ ?_
          · intro k x hx
            rw [e3, hg_ne H2 (Or.inl (by omega)), e2]
            exact l1 k x hx
          · rw [hml1, Int.zero_add, e3, hg_ne H2 (Or.inl (by omega)), e2]
            exact e12
        have l23 : lst H3 (a + 13) 0 ((T ++ [(wAt (C.take 7) j, tmA M (baseM M r (wAt (C.take 7) j)) T (wAt (C.take 7) j))]).map Prod.snd) := by
          rw [List.map_append]
          refine lst.snoc ?_ ?_
          · intro k x hx
            have hk := (List.getElem?_eq_some_iff.mp hx).1
            rw [e3, hg_ne H2 (Or.inr (by omega)), e2]
            exact l2 k x hx
          · rw [hml2, Int.zero_add]
            exact e13
        have hT' := hT.snoc (B' := 300000 + 600 * ((T ++ [(wAt (C.take 7) j, tmA M (baseM M r (wAt (C.take 7) j)) T (wAt (C.take 7) j))]).length : Nat)) (by rw [List.length_append]; simp; omega) hwr (t := tmA M (baseM M r (wAt (C.take 7) j)) T (wAt (C.take 7) j)) (by rw [List.length_append]; simp; omega)
        have hTl : ((T ++ [(wAt (C.take 7) j, tmA M (baseM M r (wAt (C.take 7) j)) T (wAt (C.take 7) j))]).length : Int) = T.length + 1 := by rw [List.length_append]; simp
        have k23 : hg H3 a 23 = hg H' a 23 := by rw [e3, hg_ne H2 (Or.inl (by omega)), e2, e1, hg_ne H' (Or.inl (by omega))]
        have k22 : hg H3 a 22 = hg H' a 22 := by rw [e3, hg_ne H2 (Or.inl (by omega)), e2, e1, hg_ne H' (Or.inl (by omega))]
        have f23 : phK pT M r (C.take 7) n T.length used T c j = phi pT (lvs M r (C.take 7) n (T.length + 1) (ior used (pw j)) (T ++ [(wAt (C.take 7) j, tmA M (baseM M r (wAt (C.take 7) j)) T (wAt (C.take 7) j))]) (c + costM M (wAt (C.take 7) j) (tmA M (baseM M r (wAt (C.take 7) j)) T (wAt (C.take 7) j)))) := by
          rw [phK, if_pos (pdec_t hok)]; rfl
        have f22 : phK (pE w) M r (C.take 7) n T.length used T c j = phi (pE w) (lvs M r (C.take 7) n (T.length + 1) (ior used (pw j)) (T ++ [(wAt (C.take 7) j, tmA M (baseM M r (wAt (C.take 7) j)) T (wAt (C.take 7) j))]) (c + costM M (wAt (C.take 7) j) (tmA M (baseM M r (wAt (C.take 7) j)) T (wAt (C.take 7) j)))) := by
          rw [phK, if_pos (pdec_t hok)]; rfl
        rw [sm, f23] at m23
        rw [sm, f22] at m22
        have hgo := ih d H3 (ior used (pw j)) (T ++ [(wAt (C.take 7) j, tmA M (baseM M r (wAt (C.take 7) j)) T (wAt (C.take 7) j))]) (c + costM M (wAt (C.take 7) j) (tmA M (baseM M r (wAt (C.take 7) j)) T (wAt (C.take 7) j))) hE3 (by rw [List.length_append]; simp; omega) l13 l23 hT' (ior_lt hu (by omega)) (by rw [hTl]; omega) (by rw [hTl, k23, g23]; omega) (by rw [hTl, k22, g22]; omega) (by omega)
        rw [hTl] at hgo
        refine CL.mono hgo ?_
        rintro r9 H4 ⟨rfl, ho4, b23, b22⟩
        have ho4' : only H H4 (pCnt a T.length) := ho3.trans (ho4.mono (by
          rintro b i (⟨q1, q2⟩ | q)
          · exact Or.inl ⟨q1, by omega⟩
          · exact Or.inr q))
        refine ⟨(geC hE ho4').1, rfl, by omega, ihj H4 ho4' ?_ ?_⟩
        · rw [b23, k23, g23, sm, f23]; omega
        · rw [b22, k22, g22, sm, f22]; omega
      · intro H' ho g23 g22
        exact s_X8_counts_53 (geC hE ho).1 ⟨fun _ => ⟨rfl, ho, g23, g22⟩, fun q => absurd q (by omega)⟩
    refine CL.of (by decide) rfl (Nat.le_of_ble_eq_true rfl) (s_X8_counts_0 hL ⟨hr, fun _ => ?_, fun c2 => absurd c2 (by rw [hm]; omega)⟩)
    have k0 := key 0 (Nat.zero_le _) H only.rf (by rw [sm]; omega) (by rw [sm]; omega)
    rw [hwl] at k0
    rw [hm]
    rw [show (min 7 (C.length : Int)) = ((min 7 C.length : Nat) : Int) by omega]
    exact k0
/-- a leaf's cost -/
theorem leaf_cost {M : Row} {r : Int} {W : List Int} : ∀ {n : Nat} {place used : Int} {T : List (Int × Int)} {c : Int}, ∀ x ∈ lvs M r W n place used T c, ∃ L : List Int, x.2 = T.map Prod.fst ++ L ∧ x.1 - c = csum M (tmS M r T L) - csum M T
  | 0, place, used, T, c, x, hx => by
    have : x = (c, T.map Prod.fst) := by simpa [lvs] using hx
    rw [this]
    refine ⟨[], by simp, ?_⟩
    show c - c = csum M T - csum M T
    omega
  | n + 1, place, used, T, c, x, hx => by
    rw [lvs_succ] at hx
    obtain ⟨k, -, hx⟩ := List.mem_flatMap.mp hx
    unfold lv1 at hx
    obtain ⟨L, h1, h2⟩ := leaf_cost x hx
    refine ⟨wAt W k :: L, ?_, ?_⟩
    · rw [h1]; simp
    · rw [csum_snoc] at h2
      rw [tmS]
      simp only [] at h2
      omega
theorem csum_sm {M : Row} : ∀ (T : List (Int × Int)), csum M T = sm (fun k => costM M (T.getD k (0, 0)).1 (T.getD k (0, 0)).2) T.length := by
  intro T
  suffices h : ∀ n, n ≤ T.length → csum M (T.take n) = sm (fun k => costM M (T.getD k (0, 0)).1 (T.getD k (0, 0)).2) n by
    have := h T.length (Nat.le_refl _)
    rwa [List.take_length] at this
  intro n
  induction n with
  | zero => intro _; rfl
  | succ n ih =>
    intro hn
    have hlt : n < T.length := by omega
    have e : T.getD n (0, 0) = T[n] := by rw [List.getD_eq_getElem?_getD, List.getElem?_eq_getElem hlt]; rfl
    rw [List.take_succ_eq_append_getElem hlt, csum_snoc, ih (by omega), sm, e]
theorem bestW_cost {M : Row} (hM : okM M) {r : Int} : (bestW M r).1 = csum M (tmS M r [] (bestW M r).2) := by
  obtain ⟨L, h1, h2⟩ := leaf_cost _ (bestW_leaf hM (r := r)).1
  rw [List.map_nil, List.nil_append] at h1
  rw [h1]
  have : csum M [] = 0 := rfl
  omega
/-- the window's cost as the plan has it -/
noncomputable def winN (M : Row) (r : Int) : Nat → Int := sm (fun k => costM M (wAt (planL M r) k) (planT M (wAt (planL M r) k)))
theorem win_cost {M : Row} (hM : okM M) {r : Int} : winN M r ((comeL M r).take 7).length = (bestW M r).1 := by
  obtain ⟨p1, p2, p3⟩ := leaf_perm (W := (comeL M r).take 7) (by rw [List.length_take]; omega) ((comeN_nodup (M := M) (r := r)).sublist (List.take_sublist _ _)) _ (bestW_leaf hM (r := r)).1
  rw [bestW_cost hM, csum_sm, tmS_len, List.length_nil, Nat.zero_add, p2]
  unfold winN
  refine sm_congr fun k hk => ?_
  have hb : k < (bestW M r).2.length := by rw [p2]; exact hk
  have hlen : (tmS M r [] (bestW M r).2).length = (bestW M r).2.length := by rw [tmS_len]; simp
  have hT : k < (tmS M r [] (bestW M r).2).length := by rw [hlen]; exact hb
  have e0 : (tmS M r [] (bestW M r).2).getD k (0, 0) = (tmS M r [] (bestW M r).2)[k] := by rw [List.getD_eq_getElem?_getD, List.getElem?_eq_getElem hT]; rfl
  have e1 : (tmS M r [] (bestW M r).2)[k].1 = (bestW M r).2[k] := by
    have h := tmS_fst M r (bestW M r).2 []
    rw [List.map_nil, List.nil_append] at h
    have : ((tmS M r [] (bestW M r).2).map Prod.fst)[k]'(by rw [List.length_map]; exact hT) = (bestW M r).2[k] := by simp only [h]
    rw [List.getElem_map] at this
    exact this
  have e2 : wAt (planL M r) k = (bestW M r).2[k] := by
    have hp : (k : Int).toNat < (planL M r).length := by unfold planL; rw [List.length_append]; omega
    rw [wAt_eq hp]
    show (planL M r)[k] = _
    unfold planL
    exact List.getElem_append_left hb
  have hmem : (tmS M r [] (bestW M r).2)[k] ∈ tmS M r [] (planL M r) := by
    unfold planL
    rw [tmS_app]
    have pre : ∀ (A : List Int) (T : List (Int × Int)), ∀ q ∈ T, q ∈ tmS M r T A := by
      intro A
      induction A with
      | nil => intro T q hq; exact hq
      | cons f A ih => intro T q hq; rw [tmS]; exact ih _ q (List.mem_append_left _ hq)
    exact pre _ _ _ (List.getElem_mem hT)
  have hin := pl_at hM (r := r) (k := k) ⟨by omega, by rw [← (planL_perm hM).2.1]; unfold planL; rw [List.length_append]; omega⟩
  have e3 : planT M (wAt (planL M r) k) = (tmS M r [] (bestW M r).2)[k].2 := by
    unfold planT
    rw [hin.2.2]
    refine tmOf_mem (by rw [plan_fst]; exact (planL_perm hM).1) ?_
    rw [e2, ← e1]
    exact hmem
  show costM M (wAt (planL M r) k) (planT M (wAt (planL M r) k)) = costM M ((tmS M r [] (bestW M r).2).getD k (0, 0)).1 ((tmS M r [] (bestW M r).2).getD k (0, 0)).2
  rw [e0, e1, e3, e2]
noncomputable def lvW (M : Row) (r : Int) : List Leaf := lvs M r ((comeL M r).take 7) ((comeL M r).take 7).length 0 0 [] 0
theorem c_countsAll {d : Nat} {H : AH} {a r : Int} {M : Row} (hW : MW H a M) (hr : rl M r) (hd : 15 ≤ d := by omega) : CL l G mX8_countsAll d 0 0 [vR a, vI r] H (fun v H' => v = vV ∧ only H H' (fun b i => pMks a b i ∨ pCnt a 0 b i) ∧ MW H' a M ∧ hg H' a 23 = phi pT (lvW M r) ∧ hg H' a 22 = phi (pE (bestW M r).1) (lvW M r)) := by
  obtain ⟨d, rfl⟩ : ∃ k, d = k + 1 := ⟨d - 1, by omega⟩
  have hM := hW.2.2.1
  have hn5 := okM_5 hM
  have hC : ∀ x ∈ comeL M r, 0 ≤ x ∧ x < M 6 := fun x hx => ((comeL_mem hM).mp hx).1
  have hlen := comeL_len hM (r := r)
  have hr3 : 0 ≤ r ∧ r < 3 := by omega
  have hwl := win_len (comeL M r)
  refine CL.of (by decide) rfl (Nat.le_of_ble_eq_true rfl) (s_X8_countsAll_0 hW fun H1 o1 w1 m1 => ?_)
  obtain ⟨q1, q2, q3, q4⟩ := m1 r hr.1 hr.2
  refine CL.mono (c_laysBase w1.1 w1.2.1 hM hr3 q1 q2 hC hlen (by omega)) ?_
  rintro r9 H2 ⟨rfl, o2, t2⟩
  have n11 : ∀ c i, c = a + 11 → nrf H1 c i := fun c i q => pMks_nrf w1.1 c i (Or.inl (by omega))
  have w2 := w1.only o2 n11 (fun i q => by omega) (fun b i z1 z2 q => by omega) (fun q => by omega)
  have o2' : only H H2 (fun b i => pMks a b i ∨ pCnt a 0 b i) := (o1.mono (fun b i q => Or.inl q)).trans (o2.mono (fun b i q => Or.inl (Or.inl (by omega))))
  have m2 := m1.only o2 (fun b i z1 z2 q => by omega)
  have m := m2 r hr.1 hr.2
  have hE2 : GE H2 a r M (comeL M r) := ⟨w2.1, w2.2.1, m.1, m.2.1, t2⟩
  refine ⟨w2.1, rfl, ?_⟩
  have key : ∀ j, j ≤ ((comeL M r).take 7).length → AW l G mX8_countsAll (d + 1) 0 0 (fun v H' => v = vV ∧ only H H' (fun b i => pMks a b i ∨ pCnt a 0 b i) ∧ MW H' a M ∧ hg H' a 23 = phi pT (lvW M r) ∧ hg H' a 22 = phi (pE (bestW M r).1) (lvW M r)) 14 [vR a, vI r, vJ (winN M r j), vU, vI j, vU] [] 0 0 H2 := by
    refine upN _ ?_ ?_
    · intro j hj ih
      have hk : 0 ≤ (j : Int) ∧ (j : Int) < (comeL M r).length := by omega
      have p := pl_at hM hk
      have t := planT_in hM p.1 p.2.1
      have hc := hM.cost p.1 (t := planT M (wAt (planL M r) j)) (by omega)
      have hs := sm_in (f := fun k => costM M (wAt (planL M r) k) (planT M (wAt (planL M r) k))) (lo := 0) (hi := 5000000000) (n := j) (fun k hk2 => by
        have p' := pl_at hM (r := r) (k := k) (by omega)
        have t' := planT_in hM p'.1 p'.2.1
        exact hM.cost p'.1 (t := planT M (wAt (planL M r) k)) (by omega))
      have hs' : 0 ≤ winN M r j ∧ winN M r j ≤ 5000000000 * j := by unfold winN; omega
      refine s_X8_countsAll_14 w2 ?_
      rw [m.1, m.pl hM hk rfl, m2.time hM p.1 p.2.1]
      have hn6 := okM_n hM
      exact ⟨hr3, fun q => absurd q (by omega), fun _ => ⟨by omega, by omega, by omega, by omega, p.1, by omega, by omega, by omega, ih⟩⟩
    · refine s_X8_countsAll_14 w2 ?_
      rw [m.1, win_cost hM]
      refine ⟨hr3, fun _ H3 e3 H4 e4 => ?_, fun q => absurd q (by omega)⟩
      have o24 : only H2 H4 (pCnt a 0) := by rw [e4, e3]; exact (only.wr (Or.inr ⟨rfl, Or.inr rfl⟩)).then (Or.inr ⟨rfl, Or.inl rfl⟩)
      have g23 : hg H4 a 23 = 0 := by rw [e4, hg_ne _ (by omega), e3, hg_same]
      have g22 : hg H4 a 22 = 0 := by rw [e4, hg_same]
      have hE4 := geC hE2 o24
      have b1 := lvs_len (p := pT) (M := M) (r := r) (W := (comeL M r).take 7) (by rw [List.length_take]; omega) (n := ((comeL M r).take 7).length) (place := 0) (used := 0) (T := []) (c := 0)
      have b2 := lvs_len (p := pE (bestW M r).1) (M := M) (r := r) (W := (comeL M r).take 7) (by rw [List.length_take]; omega) (n := ((comeL M r).take 7).length) (place := 0) (used := 0) (T := []) (c := 0)
      have b3 : (7 : Int) ^ ((comeL M r).take 7).length ≤ 823543 := by
        have h7 : ((comeL M r).take 7).length ≤ 7 := by rw [List.length_take]; omega
        have : (7 : Nat) ^ ((comeL M r).take 7).length ≤ 7 ^ 7 := Nat.pow_le_pow_right (by decide) h7
        have e : (7 : Int) ^ ((comeL M r).take 7).length = ((7 ^ ((comeL M r).take 7).length : Nat) : Int) := by simp
        rw [e]
        omega
      have h7 : ((comeL M r).take 7).length ≤ 7 := by rw [List.length_take]; omega
      have z0 : (([] : List (Int × Int)).length : Int) = 0 := rfl
      have hgo := c_counts (l := l) (G := G) (w := (bestW M r).1) hM hr3 hC ((comeL M r).take 7).length d H4 0 [] 0 hE4 (by rw [List.length_nil, Nat.zero_add]) (fun k x hx => by simp at hx) (fun k x hx => by simp at hx) (fun p hp => by cases hp) (by omega) (by rw [z0]; omega) (by rw [g23, z0]; omega) (by rw [g22, z0]; omega) (by omega)
      refine CL.mono hgo ?_
      rintro r9 H5 ⟨rfl, o5, c23, c22⟩
      have o25 := o24.trans o5
      have w5 := w2.only o25 (pCnt_nrf w2.1) (fun i => pCnt_no (by omega) (by omega) (by omega)) (fun b i z1 z2 => pCnt_no (by omega) (by omega) (by omega)) (by rintro (⟨z | z, -⟩ | ⟨-, z | z⟩) <;> omega)
      refine ⟨w5.1, rfl, rfl, o2'.trans (o25.mono (fun b i q => Or.inr q)), w5, ?_, ?_⟩
      · rw [c23, g23, Int.zero_add]; rfl
      · rw [c22, g22, Int.zero_add]; rfl
  exact key 0 (Nat.zero_le _)
theorem pb_cnt {H H1 H2 : AH} {a th : Int} {M : Row} (h : pbW a M th H H1) (o : only H1 H2 (fun b i => pMks a b i ∨ pCnt a 0 b i)) (w : MW H2 a M) : pbW a M th H H2 := by
  refine ⟨(o.2.2 a 5 (by rintro ((⟨q, -⟩ | ⟨-, q | q⟩) | (⟨q | q, -⟩ | ⟨-, q | q⟩)) <;> omega)).trans h.1, h.2.1.trans (o.mono ?_), w⟩
  rintro b i (q | (⟨q | q, -⟩ | ⟨q, q2⟩))
  · exact pMks_pub _ _ q
  · exact Or.inr (Or.inr (Or.inr (by omega)))
  · exact Or.inr (Or.inr (Or.inr (by omega)))
  · exact Or.inl ⟨q, by omega⟩
noncomputable def vAllS (M : Row) (r : Int) : Int := if rl M r then phi pT (lvW M r) else 0
noncomputable def vEqS (M : Row) (r : Int) : Int := if rl M r then phi (pE (bestW M r).1) (lvW M r) else 0
theorem c_allowedSequences {d : Nat} {H : AH} {a r : Int} {M : Row} (hW : MW H a M) (hd : 16 ≤ d := by omega) : CL l G mX8_allowedSequences d 0 0 [vR a, vI r] H (pubP a M (vI (vAllS M r)) (1 - bi (decide (rl M r))) H) := by
  obtain ⟨d, rfl⟩ : ∃ k, d = k + 1 := ⟨d - 1, by omega⟩
  have hn5 := okM_5 hW.2.2.1
  refine CL.of (by decide) rfl (Nat.le_of_ble_eq_true rfl) (s_X8_allowedSequences_0 hW ⟨by omega, fun H1 e1 => ⟨fun c => CL.mono (c_countsAll (pb1 hW e1).2.2 c (by omega)) ?_, fun c => ⟨by rw [vAllS, if_neg c], pb1 hW e1⟩⟩⟩)
  rintro r9 H2 ⟨rfl, o2, w2, c23, c22⟩
  exact ⟨w2.1, rfl, by rw [vAllS, if_pos c, c23], pb_cnt (pb1 hW e1) o2 w2⟩
theorem c_equalSequences {d : Nat} {H : AH} {a r : Int} {M : Row} (hW : MW H a M) (hd : 16 ≤ d := by omega) : CL l G mX8_equalSequences d 0 0 [vR a, vI r] H (pubP a M (vI (vEqS M r)) (1 - bi (decide (rl M r))) H) := by
  obtain ⟨d, rfl⟩ : ∃ k, d = k + 1 := ⟨d - 1, by omega⟩
  have hn5 := okM_5 hW.2.2.1
  refine CL.of (by decide) rfl (Nat.le_of_ble_eq_true rfl) (s_X8_equalSequences_0 hW ⟨by omega, fun H1 e1 => ⟨fun c => CL.mono (c_countsAll (pb1 hW e1).2.2 c (by omega)) ?_, fun c => ⟨by rw [vEqS, if_neg c], pb1 hW e1⟩⟩⟩)
  rintro r9 H2 ⟨rfl, o2, w2, c23, c22⟩
  exact ⟨w2.1, rfl, by rw [vEqS, if_pos c, c22], pb_cnt (pb1 hW e1) o2 w2⟩
end
