/-! the class's search is prepared -/
section
variable {l : Launch} {G : GT}
theorem insK_split (key : Int → Int) (f : Int) : ∀ (L : List Int) (k : Nat), k ≤ L.length → (∀ g ∈ L.drop k, key f < key g) → (∀ (j : Nat) (g : Int), k = j + 1 → L[j]? = some g → key g ≤ key f) → insK key f L = L.take k ++ f :: L.drop k
  | [], k, hk, _, _ => by
    have : k = 0 := by simpa using hk
    subst this
    rfl
  | g :: L, 0, _, hg, _ => by
    rw [insK, if_pos (by simpa using hg)]
    rfl
  | g :: L, k + 1, hk, hg, hl => by
    have hk' : k ≤ L.length := by simpa using hk
    have hne : ¬ ∀ x ∈ g :: L, key f < key x := by
      intro q
      have hlt : k < (g :: L).length := by simp; omega
      have h1 := hl k (g :: L)[k] rfl (List.getElem?_eq_getElem hlt)
      have h2 := q _ (List.getElem_mem hlt)
      omega
    rw [insK, if_neg hne, insK_split key f L k hk' (by simpa using hg) (fun j x hj hx => hl (j + 1) x (by omega) (by simpa using hx))]
    rfl
/-- a list with one more laid in between -/
theorem lst_ins {H : AH} {b o x : Int} {L : List Int} {k : Nat} (hk : k ≤ L.length) (h1 : lst H b o (L.take k)) (h2 : hg H b (o + k) = x) (h3 : lst H b (o + k + 1) (L.drop k)) : lst H b o (L.take k ++ x :: L.drop k) := by
  intro i y hy
  have hlt : (L.take k).length = k := by rw [List.length_take]; omega
  by_cases c1 : i < k
  · rw [List.getElem?_append_left (by omega)] at hy
    exact h1 i y hy
  · rw [List.getElem?_append_right (by omega), hlt] at hy
    by_cases c2 : i = k
    · subst c2
      rw [Nat.sub_self] at hy
      have : x = y := by simpa using hy
      rw [← this]; exact h2
    · rw [show i - k = (i - k - 1) + 1 by omega, List.getElem?_cons_succ] at hy
      have := h3 (i - k - 1) y hy
      rw [show o + (k : Int) + 1 + ((i - k - 1 : Nat) : Int) = o + i by omega] at this
      exact this
/-- what is laid of the first i flights -/
def PP (H0 H : AH) (s : Int) (M : Row) (r : Int) (W : List Int) (i m : Nat) : Prop := only H0 H (pSea s) ∧ (hg H s 0 = W.length ∧ hg H s 1 = M 1 ∧ hg H (s + 8) 0 = 0) ∧ (∀ j : Int, 0 ≤ j ∧ j < i → (hg H (s + 3) j = ofM M (wAt W j) 3 ∧ hg H (s + 4) j = ofM M (wAt W j) 4 ∧ hg H (s + 5) j = M (24 + ofM M (wAt W j) 1) ∧ hg H (s + 6) j = M (28 + ofM M (wAt W j) 1)) ∧ hg H (s + 7) j = baseM M r (wAt W j)) ∧ ∀ j k : Int, 0 ≤ j → 0 ≤ k → k < W.length → (j + 1 < i ∨ (j + 1 = i ∧ k < m)) → hg H (s + 2) (j * 7 + k) = apartM M (wAt W j) (wAt W k)
theorem PP.wr {H0 H : AH} {s : Int} {M : Row} {r : Int} {W : List Int} {i m : Nat} (h : PP H0 H s M r W i m) {j x : Int} : PP H0 (hs H (s + 1) j x) s M r W i m := by
  obtain ⟨h1, ⟨h2, h3, h4⟩, h5, h6⟩ := h
  refine ⟨h1.then (Or.inr (by omega)), ⟨?_, ?_, ?_⟩, fun j hj => ?_, fun j k a b c e => ?_⟩
  · rw [hg_ne _ (by omega)]; exact h2
  · rw [hg_ne _ (by omega)]; exact h3
  · rw [hg_ne _ (by omega)]; exact h4
  · rw [hg_ne _ (by omega), hg_ne _ (by omega), hg_ne _ (by omega), hg_ne _ (by omega), hg_ne _ (by omega)]; exact h5 j hj
  · rw [hg_ne _ (by omega)]; exact h6 j k a b c e
theorem k_prepare {d : Nat} {H : AH} {s b q u r : Int} {M : Row} {L : List Int} (hS : SK H b M) (hL : Lay LSea H s) (h2 : Lay (LArr 10 24) H q) (h4 : Lay (LArr 10 24) H u) (hsep : b + 23 ≤ s ∨ s + 11 ≤ b) (hq : q < s ∨ s + 10 < q) (hu : u < s ∨ s + 10 < u) (hl : lst H q 0 L) (hLf : ∀ x ∈ L, fl M x) (hLn : L.length ≤ 24) (hb : ∀ x ∈ L, hg H u x = baseM M r x) (hd : 1 ≤ d := by omega) :
    CL l G mX5_prepare d 0 0 [vR s, vR b, vR q, vI L.length, vR u] H (fun v H' => v = vV ∧ only H H' (pSea s) ∧ SE H' s M (L.take 7) ∧ RT H' s M r (L.take 7) 0 [] 0 ∧ hg H' (s + 8) 0 = 0) := by
  obtain ⟨d, rfl⟩ : ∃ k, d = k + 1 := ⟨d - 1, by omega⟩
  have hM := hS.2.1
  have hn6 := okM_n hM
  obtain ⟨W, hW⟩ : ∃ W, W = L.take 7 := ⟨_, rfl⟩
  have hWl : W.length = min 7 L.length := by rw [hW, List.length_take]
  rw [← hW]
  have nr := pSea_nrf hL
  have offb : ∀ c i, pSea s c i → offS b c := by
    rintro c i (⟨rfl, -⟩ | ⟨z1, z2⟩) <;> unfold offS <;> omega
  have okS' : ∀ H1, only H H1 (pSea s) → SK H1 b M ∧ Lay LSea H1 s ∧ Lay (LArr 10 24) H1 q ∧ Lay (LArr 10 24) H1 u := fun H1 ho => ⟨skO hS ho nr offb, hL.only ok_Sea ho nr, h2.only ok_Arr ho nr, h4.only ok_Arr ho nr⟩
  have wq : ∀ H1, only H H1 (pSea s) → ∀ k : Int, 0 ≤ k ∧ k < W.length → hg H1 q k = wAt W k := fun H1 ho k hk => by
    rw [ho.2.2 _ _ (by rintro (⟨z, -⟩ | ⟨z1, z2⟩) <;> omega)]
    have := hl.w (k := k) (by omega)
    rw [Int.zero_add] at this
    have hk9 : k.toNat < L.length := by omega
    have hk8 : k.toNat < W.length := by omega
    rw [this, wAt_eq hk9, wAt_eq hk8]
    simp only [hW, List.getElem_take]
  have wf : ∀ k : Int, 0 ≤ k ∧ k < W.length → fl M (wAt W k) := fun k hk => hLf _ (List.mem_of_mem_take (by rw [← hW]; exact wAt_mem hk))
  have wb : ∀ H1, only H H1 (pSea s) → ∀ k : Int, 0 ≤ k ∧ k < W.length → hg H1 u (wAt W k) = baseM M r (wAt W k) := fun H1 ho k hk => by
    rw [ho.2.2 _ _ (by rintro (⟨z, -⟩ | ⟨z1, z2⟩) <;> omega)]
    exact hb _ (List.mem_of_mem_take (by rw [← hW]; exact wAt_mem hk))
  have out : ∀ i, i ≤ W.length → ∀ H1, PP H H1 s M r W i W.length → lst H1 (s + 1) 0 (srtN W i) → AW l G mX5_prepare (d + 1) 0 0 (fun v H' => v = vV ∧ only H H' (pSea s) ∧ SE H' s M W ∧ RT H' s M r W 0 [] 0 ∧ hg H' (s + 8) 0 = 0) 37 [vR s, vR b, vR q, vI L.length, vR u, vI i, vU, vU, vU] [] 0 0 H1 := by
    refine upN _ ?_ ?_
    · intro i hi ih H1 hP hsr
      obtain ⟨ho, ⟨g0, g1, g8⟩, hv, hgp⟩ := hP
      obtain ⟨k1, k2, k3, k4⟩ := okS' H1 ho
      have hfi := wf i (by omega)
      obtain ⟨c1, c3, c4⟩ := okF_123 hM hfi
      -- the inner loops
      have lay : ∀ k : Nat, k ≤ i → ∀ H2, PP H H2 s M r W (i + 1) W.length → lst H2 (s + 1) 0 ((srtN W i).take k) → lst H2 (s + 1) (k + 1) ((srtN W i).drop k) → (∀ g ∈ (srtN W i).drop k, wAt W i < wAt W g) →
          AW l G mX5_prepare (d + 1) 0 0 (fun v H' => v = vV ∧ only H H' (pSea s) ∧ SE H' s M W ∧ RT H' s M r W 0 [] 0 ∧ hg H' (s + 8) 0 = 0) 189 [vR s, vR b, vR q, vI L.length, vR u, vI i, vI (wAt W i), vI (ofM M (wAt W i) 1), vI k] [] 0 0 H2 := by
        have hsl : (srtN W i).length = i := srtN_len i
        have fin : ∀ k : Nat, k ≤ i → ∀ H2, PP H H2 s M r W (i + 1) W.length → lst H2 (s + 1) 0 ((srtN W i).take k) → lst H2 (s + 1) (k + 1) ((srtN W i).drop k) → (∀ g ∈ (srtN W i).drop k, wAt W i < wAt W g) → (∀ (j : Nat) (g : Int), k = j + 1 → (srtN W i)[j]? = some g → wAt W g ≤ wAt W i) → ∀ H3, H3 = hs H2 (s + 1) k i →
            AW l G mX5_prepare (d + 1) 0 0 (fun v H' => v = vV ∧ only H H' (pSea s) ∧ SE H' s M W ∧ RT H' s M r W 0 [] 0 ∧ hg H' (s + 8) 0 = 0) 37 [vR s, vR b, vR q, vI L.length, vR u, vI (i + 1), vU, vU, vU] [] 0 0 H3 := by
          intro k hk H2 hP2 l1 l2 hgt hle H3 e3
          have hlt : ((srtN W i).take k).length = k := by rw [List.length_take]; omega
          refine ih H3 (by rw [e3]; exact hP2.wr) ?_
          show lst H3 (s + 1) 0 (insK (wAt W) i (srtN W i))
          rw [insK_split (wAt W) i (srtN W i) k (by omega) hgt hle]
          refine lst_ins (by omega) ?_ ?_ ?_
          · intro m x hx
            have hm := (List.getElem?_eq_some_iff.mp hx).1
            rw [e3, hg_ne _ (by omega)]
            exact l1 m x hx
          · rw [e3, Int.zero_add, hg_same]
          · intro m x hx
            rw [e3, Int.zero_add, hg_ne _ (by omega)]
            exact l2 m x hx
        intro k
        induction k with
        | zero =>
          intro hk H2 hP2 l1 l2 hgt
          obtain ⟨m1, m2, m3, m4⟩ := okS' H2 hP2.1
          exact s_X5_prepare_189 m1 m2 m3 m4 hsep ⟨fun _ => ⟨by omega, fun H3 e3 => ⟨by omega, fin 0 hk H2 hP2 l1 l2 hgt (fun j g h => by omega) H3 e3⟩⟩, fun c => absurd c (by decide)⟩
        | succ k ihk =>
          intro hk H2 hP2 l1 l2 hgt
          obtain ⟨m1, m2, m3, m4⟩ := okS' H2 hP2.1
          have hlt : k < (srtN W i).length := by omega
          have hv : hg H2 (s + 1) (((k + 1 : Nat) : Int) - 1) = (srtN W i)[k] := by
            have := l1 k (srtN W i)[k] (by rw [List.getElem?_take, if_pos (by omega)]; exact List.getElem?_eq_getElem hlt)
            rw [show ((k + 1 : Nat) : Int) - 1 = 0 + (k : Int) by omega]
            exact this
          have hr := srtN_mem.mp (List.getElem_mem hlt)
          refine s_X5_prepare_189 m1 m2 m3 m4 hsep ?_
          rw [hv, wq H2 hP2.1 _ (by omega)]
          refine ⟨fun c => absurd c (by omega), fun c => ⟨by omega, by omega, by omega, fun c2 => ⟨by omega, fun H3 e3 => ⟨by omega, fin (k + 1) hk H2 hP2 l1 l2 hgt (fun j g h hj => by
            have : j = k := by omega
            subst this
            rw [List.getElem?_eq_getElem hlt] at hj
            cases hj
            exact c2) H3 e3⟩⟩, fun c2 => ⟨by omega, fun H3 e3 => ⟨by omega, ?_⟩⟩⟩⟩
          rw [show ((k + 1 : Nat) : Int) + -1 = (k : Int) by omega]
          refine ihk (by omega) H3 (by rw [e3]; exact hP2.wr) ?_ ?_ ?_
          · intro m x hx
            have hm := (List.getElem?_eq_some_iff.mp hx).1
            rw [List.length_take] at hm
            rw [e3, hg_ne _ (by omega)]
            refine l1 m x ?_
            rw [List.getElem?_take, if_pos (by omega)] at hx ⊢
            exact hx
          · intro m x hx
            rw [List.drop_eq_getElem_cons hlt] at hx
            cases m with
            | zero =>
              have : (srtN W i)[k] = x := by rw [List.getElem?_cons_zero] at hx; exact Option.some.inj hx
              rw [e3, ← this, show (k : Int) + 1 + ((0 : Nat) : Int) = ((k + 1 : Nat) : Int) by omega, hg_same]
            | succ m =>
              rw [e3, hg_ne _ (by omega)]
              have := l2 m x (by rw [List.getElem?_cons_succ] at hx; exact hx)
              rw [show (k : Int) + 1 + ((m + 1 : Nat) : Int) = ((k + 1 : Nat) : Int) + 1 + (m : Int) by omega]
              exact this
          · intro g hg'
            rw [List.drop_eq_getElem_cons hlt] at hg'
            rcases List.mem_cons.mp hg' with rfl | hg'
            · exact c2
            · exact hgt g hg'
      have gap : ∀ m, m ≤ W.length → ∀ H2, PP H H2 s M r W (i + 1) m → lst H2 (s + 1) 0 (srtN W i) → AW l G mX5_prepare (d + 1) 0 0 (fun v H' => v = vV ∧ only H H' (pSea s) ∧ SE H' s M W ∧ RT H' s M r W 0 [] 0 ∧ hg H' (s + 8) 0 = 0) 147 [vR s, vR b, vR q, vI L.length, vR u, vI i, vI (wAt W i), vI (ofM M (wAt W i) 1), vI m] [] 0 0 H2 := by
        refine upN _ ?_ ?_
        · intro m hm ihm H2 hP2 hsr2
          obtain ⟨m1, m2, m3, m4⟩ := okS' H2 hP2.1
          have hfm := wf m (by omega)
          refine s_X5_prepare_147 m1 m2 m3 m4 hsep ?_
          rw [hP2.2.1.1, wq H2 hP2.1 m (by omega)]
          refine ⟨fun c => absurd c (by omega), fun _ => ⟨by omega, by omega, by omega, hfi, hfm, by omega, fun H3 e3 => ⟨by omega, ihm H3 ⟨?_, ⟨?_, ?_, ?_⟩, fun j hj => ?_, fun j k a1 a2 a3 a4 => ?_⟩ ?_⟩⟩⟩
          · rw [e3]; exact hP2.1.then (Or.inr (by omega))
          · rw [e3, hg_ne _ (by omega)]; exact hP2.2.1.1
          · rw [e3, hg_ne _ (by omega)]; exact hP2.2.1.2.1
          · rw [e3, hg_ne _ (by omega)]; exact hP2.2.1.2.2
          · rw [e3, hg_ne _ (by omega), hg_ne _ (by omega), hg_ne _ (by omega), hg_ne _ (by omega), hg_ne _ (by omega)]; exact hP2.2.2.1 j hj
          · by_cases e : j = i ∧ k = m
            · rw [e3, e.1, e.2, hg_same]
            · rw [e3, hg_ne _ (by omega)]; exact hP2.2.2.2 j k a1 a2 a3 (by omega)
          · intro k x hx
            rw [e3, hg_ne _ (by omega)]
            exact hsr2 k x hx
        · intro H2 hP2 hsr2
          obtain ⟨m1, m2, m3, m4⟩ := okS' H2 hP2.1
          refine s_X5_prepare_147 m1 m2 m3 m4 hsep ?_
          rw [hP2.2.1.1]
          have hsl : (srtN W i).length = i := srtN_len i
          refine ⟨fun _ => lay i (Nat.le_refl _) H2 hP2 ?_ ?_ ?_, fun c => absurd c (by omega)⟩
          · rw [List.take_of_length_le (by omega)]; exact hsr2
          · rw [List.drop_eq_nil_of_le (by omega)]
            intro k x hx
            simp at hx
          · rw [List.drop_eq_nil_of_le (by omega)]
            intro g hg'
            cases hg'
      refine s_X5_prepare_37 k1 k2 k3 k4 hsep ?_
      rw [g0, wq H1 ho i (by omega)]
      refine ⟨fun c => absurd c (by omega), fun _ => ⟨by omega, hfi, by omega, fun H2 e2 H3 e3 => ⟨by omega, fun H4 e4 H5 e5 => ⟨by omega, by omega, fun H6 e6 => ?_⟩⟩⟩⟩
      have hub : hg H5 u (wAt W i) = baseM M r (wAt W i) := by
        rw [e5, hg_ne _ (by omega), e4, hg_ne _ (by omega), e3, hg_ne _ (by omega), e2, hg_ne _ (by omega)]
        exact wb H1 ho i (by omega)
      rw [hub] at e6
      refine gap 0 (Nat.zero_le _) H6 ⟨?_, ⟨?_, ?_, ?_⟩, fun j hj => ?_, fun j k a1 a2 a3 a4 => ?_⟩ ?_
      · rw [e6, e5, e4, e3, e2]
        exact ((((ho.then (Or.inr (by omega))).then (Or.inr (by omega))).then (Or.inr (by omega))).then (Or.inr (by omega))).then (Or.inr (by omega))
      · rw [e6, hg_ne _ (by omega), e5, hg_ne _ (by omega), e4, hg_ne _ (by omega), e3, hg_ne _ (by omega), e2, hg_ne _ (by omega)]; exact g0
      · rw [e6, hg_ne _ (by omega), e5, hg_ne _ (by omega), e4, hg_ne _ (by omega), e3, hg_ne _ (by omega), e2, hg_ne _ (by omega)]; exact g1
      · rw [e6, hg_ne _ (by omega), e5, hg_ne _ (by omega), e4, hg_ne _ (by omega), e3, hg_ne _ (by omega), e2, hg_ne _ (by omega)]; exact g8
      · by_cases e : j = i
        · subst e
          refine ⟨⟨?_, ?_, ?_, ?_⟩, ?_⟩
          · rw [e6, hg_ne _ (by omega), e5, hg_ne _ (by omega), e4, hg_ne _ (by omega), e3, hg_ne _ (by omega), e2, hg_same]
          · rw [e6, hg_ne _ (by omega), e5, hg_ne _ (by omega), e4, hg_ne _ (by omega), e3, hg_same]
          · rw [e6, hg_ne _ (by omega), e5, hg_ne _ (by omega), e4, hg_same]
          · rw [e6, hg_ne _ (by omega), e5, hg_same]
          · rw [e6, hg_same]
        · have hji : 0 ≤ j ∧ j < i := by omega
          obtain ⟨⟨v3, v4, v5, v6⟩, v7⟩ := hv j hji
          refine ⟨⟨?_, ?_, ?_, ?_⟩, ?_⟩
          · rw [e6, hg_ne _ (by omega), e5, hg_ne _ (by omega), e4, hg_ne _ (by omega), e3, hg_ne _ (by omega), e2, hg_ne _ (by omega)]; exact v3
          · rw [e6, hg_ne _ (by omega), e5, hg_ne _ (by omega), e4, hg_ne _ (by omega), e3, hg_ne _ (by omega), e2, hg_ne _ (by omega)]; exact v4
          · rw [e6, hg_ne _ (by omega), e5, hg_ne _ (by omega), e4, hg_ne _ (by omega), e3, hg_ne _ (by omega), e2, hg_ne _ (by omega)]; exact v5
          · rw [e6, hg_ne _ (by omega), e5, hg_ne _ (by omega), e4, hg_ne _ (by omega), e3, hg_ne _ (by omega), e2, hg_ne _ (by omega)]; exact v6
          · rw [e6, hg_ne _ (by omega), e5, hg_ne _ (by omega), e4, hg_ne _ (by omega), e3, hg_ne _ (by omega), e2, hg_ne _ (by omega)]; exact v7
      · rw [e6, hg_ne _ (by omega), e5, hg_ne _ (by omega), e4, hg_ne _ (by omega), e3, hg_ne _ (by omega), e2, hg_ne _ (by omega)]
        exact hgp j k a1 a2 a3 (by omega)
      · intro k x hx
        rw [e6, hg_ne _ (by omega), e5, hg_ne _ (by omega), e4, hg_ne _ (by omega), e3, hg_ne _ (by omega), e2, hg_ne _ (by omega)]
        exact hsr k x hx
    · intro H1 hP hsr
      obtain ⟨ho, ⟨g0, g1, g8⟩, hv, hgp⟩ := hP
      obtain ⟨k1, k2, k3, k4⟩ := okS' H1 ho
      refine s_X5_prepare_37 k1 k2 k3 k4 hsep ⟨fun _ => ⟨rfl, ho, ⟨k2, ⟨g0, g1, hsr⟩, fun i hi => (hv i hi).1, fun i j hi hj => hgp i j hi.1 hj.1 hj.2 (by omega)⟩, fun j hj _ => ?_, g8⟩, fun c => absurd c (by rw [g0]; omega)⟩
      rw [Int.zero_mul, Int.zero_add, (hv j hj).2]
      rfl
  have st : ∀ H1, H1 = hs H s 0 W.length → ∀ H2, H2 = hs H1 s 1 (M 1) → ∀ H3, H3 = hs H2 (s + 8) 0 0 → AW l G mX5_prepare (d + 1) 0 0 (fun v H' => v = vV ∧ only H H' (pSea s) ∧ SE H' s M W ∧ RT H' s M r W 0 [] 0 ∧ hg H' (s + 8) 0 = 0) 37 [vR s, vR b, vR q, vI L.length, vR u, vI 0, vU, vU, vU] [] 0 0 H3 := by
    intro H1 e1 H2 e2 H3 e3
    refine out 0 (Nat.zero_le _) H3 ⟨?_, ⟨?_, ?_, ?_⟩, fun j hj => by omega, fun j k a1 a2 a3 a4 => by omega⟩ (fun k x hx => by simp [srtN] at hx)
    · rw [e3, e2, e1]
      exact ((only.wr (Or.inl ⟨rfl, Or.inl rfl⟩)).then (Or.inl ⟨rfl, Or.inr (Or.inl rfl)⟩)).then (Or.inr (by omega))
    · rw [e3, hg_ne _ (by omega), e2, hg_ne _ (by omega), e1, hg_same]
    · rw [e3, hg_ne _ (by omega), e2, hg_same]
    · rw [e3, hg_same]
  refine CL.of (by decide) rfl (Nat.le_of_ble_eq_true rfl) (s_X5_prepare_0 hS hL h2 h4 hsep ⟨fun c => ?_, fun c => ?_⟩)
  · intro H1 e1
    have : W.length = 7 := by omega
    exact st H1 (by rw [this]; exact e1)
  · intro H1 e1
    have : W.length = L.length := by omega
    exact st H1 (by rw [this]; exact e1)
end
