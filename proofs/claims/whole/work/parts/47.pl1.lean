/-! the class's planner: lines, bases, times -/
section
variable {l : Launch} {G : GT}
def pPla (p : Int) : Int → Int → Prop := fun c i => pSea (p + 1) c i ∨ (p + 12 ≤ c ∧ c ≤ p + 16)
theorem pPla_nrf {H : AH} {p : Int} (hL : Lay LPla H p) : ∀ c i, pPla p c i → nrf H c i := by
  rintro c i (h | ⟨h1, h2⟩)
  · exact pSea_nrf (s_Pla_Sea_1 hL) c i h
  · have : c = p + 12 ∨ c = p + 13 ∨ c = p + 14 ∨ c = p + 15 ∨ c = p + 16 := by omega
    rcases this with rfl | rfl | rfl | rfl | rfl
    · exact nrf_arr (kPla_12 hL) (by decide) (by decide)
    · exact nrf_arr (kPla_13 hL) (by decide) (by decide)
    · exact nrf_arr (kPla_14 hL) (by decide) (by decide)
    · exact nrf_arr (kPla_15 hL) (by decide) (by decide)
    · exact nrf_arr (kPla_16 hL) (by decide) (by decide)
theorem pPla_in {p c i : Int} (h : pPla p c i) : p + 1 ≤ c ∧ c ≤ p + 16 := by
  rcases h with (⟨h, -⟩ | h) | h <;> omega
theorem pPla_off {p b : Int} (hsep : b + 23 ≤ p ∨ p + 17 ≤ b) : ∀ c i, pPla p c i → offS b c := fun c i h => by
  have := pPla_in h
  unfold offS
  omega
theorem k_lineUp {d : Nat} {H : AH} {p b r : Int} {M : Row} (hS : SK H b M) (hP : Lay LPla H p) (hsep : b + 23 ≤ p ∨ p + 17 ≤ b) (hd : 1 ≤ d := by omega) : CL l G mX2_lineUp d 0 0 [vR p, vR b, vI r] H (fun v H' => v = vI (comeL M r).length ∧ only H H' (fun c _ => c = p + 12) ∧ lst H' (p + 12) 0 (comeL M r)) := by
  obtain ⟨d, rfl⟩ : ∃ k, d = k + 1 := ⟨d - 1, by omega⟩
  have hM := hS.2.1
  have hn := okM_n hM
  have toP : ∀ c i, c = p + 12 → pPla p c i := fun c i h => Or.inr (by omega)
  have env : ∀ H1, only H H1 (fun c _ => c = p + 12) → SK H1 b M ∧ Lay LPla H1 p := fun H1 ho => ⟨skO hS (ho.mono toP) (pPla_nrf hP) (pPla_off hsep), hP.only ok_Pla (ho.mono toP) (pPla_nrf hP)⟩
  have key : ∀ j, j ≤ (M 6).toNat → ∀ H1, only H H1 (fun c _ => c = p + 12) → lst H1 (p + 12) 0 (comeN M r j) → AW l G mX2_lineUp (d + 1) 0 0 (fun v H' => v = vI (comeL M r).length ∧ only H H' (fun c _ => c = p + 12) ∧ lst H' (p + 12) 0 (comeL M r)) 5 [vR p, vR b, vI r, vI (comeN M r j).length, vI j, vU] [] 0 0 H1 := by
    refine upN _ ?_ ?_
    · intro j hj ih H1 ho hl
      obtain ⟨hS1, hP1⟩ := env H1 ho
      have hjf : fl M j := ⟨by omega, by omega⟩
      have hlen : (comeN M r j).length ≤ j := comeN_len
      refine s_X2_lineUp_5 hS1 hP1 hsep ⟨fun c => absurd c (by omega), fun _ => ⟨hjf, fun c => ⟨by omega, ?_⟩, fun c => ⟨fun c2 => ⟨by omega, ?_⟩, fun c2 => ?_⟩⟩⟩
      · rw [comeN, if_neg (fun z => c z.1)] at ih; exact ih H1 ho hl
      · rw [comeN, if_neg (fun z => c2 z.2)] at ih; exact ih H1 ho hl
      · have eL : comeN M r (j + 1) = insF M j (comeN M r j) := by rw [comeN, if_pos ⟨c, c2⟩]
        rw [eL, insF_len] at ih
        have ltj : ∀ g ∈ comeN M r j, fl M g ∧ g < j := fun g hg' => by
          obtain ⟨i, h1, h2, -⟩ := comeN_mem.mp hg'
          exact ⟨⟨by omega, by omega⟩, by omega⟩
        obtain ⟨L, hL⟩ : ∃ L, L = comeN M r j := ⟨_, rfl⟩
        rw [← hL] at ih hl ltj hlen ⊢
        have fin : ∀ k : Nat, k ≤ L.length → ∀ H2, only H H2 (fun c _ => c = p + 12) → lst H2 (p + 12) 0 (L.take k) → lst H2 (p + 12) (k + 1) (L.drop k) → (∀ g ∈ L.drop k, ofM M j 3 < ofM M g 3) → (∀ (i : Nat) (g : Int), k = i + 1 → L[i]? = some g → ofM M g 3 ≤ ofM M j 3) → ∀ H3, H3 = hs H2 (p + 12) k j →
            AW l G mX2_lineUp (d + 1) 0 0 (fun v H' => v = vI (comeL M r).length ∧ only H H' (fun c _ => c = p + 12) ∧ lst H' (p + 12) 0 (comeL M r)) 5 [vR p, vR b, vI r, vI (L.length + 1), vI (j + 1), vU] [] 0 0 H3 := by
          intro k hk H2 o2 l1 l2 hgt hle H3 e3
          refine ih H3 (by rw [e3]; exact o2.then rfl) ?_
          rw [insF_split M j L k hk hgt hle]
          refine lst_ins hk ?_ ?_ ?_
          · intro m x hx
            have hm := (List.getElem?_eq_some_iff.mp hx).1
            rw [List.length_take] at hm
            rw [e3, hg_ne _ (by omega)]
            exact l1 m x hx
          · rw [e3, Int.zero_add, hg_same]
          · intro m x hx
            rw [e3, Int.zero_add, hg_ne _ (by omega)]
            exact l2 m x hx
        have lay : ∀ k : Nat, k ≤ L.length → ∀ H2, only H H2 (fun c _ => c = p + 12) → lst H2 (p + 12) 0 (L.take k) → lst H2 (p + 12) (k + 1) (L.drop k) → (∀ g ∈ L.drop k, ofM M j 3 < ofM M g 3) →
            AW l G mX2_lineUp (d + 1) 0 0 (fun v H' => v = vI (comeL M r).length ∧ only H H' (fun c _ => c = p + 12) ∧ lst H' (p + 12) 0 (comeL M r)) 41 [vR p, vR b, vI r, vI L.length, vI j, vI k] [] 0 0 H2 := by
          intro k
          induction k with
          | zero =>
            intro hk H2 o2 l1 l2 hgt
            obtain ⟨m1, m2⟩ := env H2 o2
            exact s_X2_lineUp_41 m1 m2 hsep ⟨fun _ => ⟨by omega, fun H3 e3 => ⟨by omega, by omega, fin 0 hk H2 o2 l1 l2 hgt (fun i g h => by omega) H3 e3⟩⟩, fun c => absurd c (by decide)⟩
          | succ k ihk =>
            intro hk H2 o2 l1 l2 hgt
            obtain ⟨m1, m2⟩ := env H2 o2
            have hlt : k < L.length := by omega
            have hv : hg H2 (p + 12) (((k + 1 : Nat) : Int) - 1) = L[k] := by
              have := l1 k L[k] (by rw [List.getElem?_take, if_pos (by omega)]; exact List.getElem?_eq_getElem hlt)
              rw [show ((k + 1 : Nat) : Int) - 1 = 0 + (k : Int) by omega]
              exact this
            obtain ⟨hf, hlj⟩ := ltj _ (List.getElem_mem hlt)
            refine s_X2_lineUp_41 m1 m2 hsep ?_
            rw [hv]
            refine ⟨fun c => absurd c (by omega), fun c => ⟨by omega, by omega, hjf, hf, fun c2 => ⟨by omega, fun H3 e3 => ⟨by omega, by omega, fin (k + 1) hk H2 o2 l1 l2 hgt (fun i g h hi => by
              have : i = k := by omega
              subst this
              rw [List.getElem?_eq_getElem hlt] at hi
              cases hi
              unfold cbf at c2
              omega) H3 e3⟩⟩, fun c2 => ⟨by omega, fun H3 e3 => ⟨by omega, ?_⟩⟩⟩⟩
            have c3 : ofM M j 3 < ofM M L[k] 3 := by unfold cbf at c2; omega
            rw [show ((k + 1 : Nat) : Int) + -1 = (k : Int) by omega]
            refine ihk (by omega) H3 (by rw [e3]; exact o2.then rfl) ?_ ?_ ?_
            · intro m x hx
              have hm := (List.getElem?_eq_some_iff.mp hx).1
              rw [List.length_take] at hm
              rw [e3, hg_ne _ (by omega)]
              refine l1 m x ?_
              rw [List.getElem?_take, if_pos (by omega)] at hx ⊢
              exact hx
            · intro m x hx
              rw [List.drop_eq_getElem_cons hlt] at hx
              cases m with
              | zero =>
                have : L[k] = x := by rw [List.getElem?_cons_zero] at hx; exact Option.some.inj hx
                rw [e3, ← this, show (k : Int) + 1 + ((0 : Nat) : Int) = ((k + 1 : Nat) : Int) by omega, hg_same]
              | succ m =>
                rw [e3, hg_ne _ (by omega)]
                have := l2 m x (by rw [List.getElem?_cons_succ] at hx; exact hx)
                rw [show (k : Int) + 1 + ((m + 1 : Nat) : Int) = ((k + 1 : Nat) : Int) + 1 + (m : Int) by omega]
                exact this
            · intro g hg'
              rw [List.drop_eq_getElem_cons hlt] at hg'
              rcases List.mem_cons.mp hg' with rfl | hg'
              · exact c3
              · exact hgt g hg'
        refine lay L.length (Nat.le_refl _) H1 ho ?_ ?_ ?_
        · rw [List.take_length]; exact hl
        · rw [List.drop_length]; intro k x hx; simp at hx
        · rw [List.drop_length]; intro g hg'; cases hg'
    · intro H1 ho hl
      obtain ⟨hS1, hP1⟩ := env H1 ho
      exact s_X2_lineUp_5 hS1 hP1 hsep ⟨fun _ => ⟨rfl, ho, hl⟩, fun c => absurd c (by omega)⟩
  exact CL.of (by decide) rfl (Nat.le_of_ble_eq_true rfl) (s_X2_lineUp_0 hS hP hsep (key 0 (Nat.zero_le _) H only.rf (fun k x hx => by simp [comeN] at hx)))
/-- the fixed flights of a runway -/
def fixN (M : Row) (r : Int) : Nat → List Int
  | 0 => []
  | n + 1 => if (ofM M n 7 = 1 ∨ ofM M n 7 = 2) ∧ ofM M n 6 = r then fixN M r n ++ [(n : Int)] else fixN M r n
def bfo (M : Row) (f : Int) (L : List Int) : Int := L.foldl (fun a g => max a (ofM M g 8 + apartM M g f)) (max (M 0) (ofM M f 2))
theorem bfo_snoc {M : Row} {f g : Int} {L : List Int} : bfo M f (L ++ [g]) = max (bfo M f L) (ofM M g 8 + apartM M g f) := by simp [bfo, List.foldl_append]
theorem bfo_base {M : Row} {r f : Int} : ∀ n, bfo M f (fixN M r n) = baseN M r f n
  | 0 => rfl
  | n + 1 => by
    unfold fixN baseN
    split
    · rw [bfo_snoc, bfo_base n]
    · exact bfo_base n
theorem fixN_mem {M : Row} {r x : Int} : ∀ {n : Nat}, x ∈ fixN M r n → (0 ≤ x ∧ x < n) ∧ (ofM M x 7 = 1 ∨ ofM M x 7 = 2) ∧ ofM M x 6 = r
  | 0, h => by cases h
  | n + 1, h => by
    unfold fixN at h
    split at h
    · rename_i hc
      rcases List.mem_append.mp h with h | h
      · have := fixN_mem h
        exact ⟨by omega, this.2⟩
      · have : x = n := by simpa using h
        subst this
        exact ⟨by omega, hc⟩
    · have := fixN_mem h
      exact ⟨by omega, this.2⟩
theorem fixN_len {M : Row} {r : Int} : ∀ {n : Nat}, (fixN M r n).length ≤ n
  | 0 => Nat.le_refl _
  | n + 1 => by
    unfold fixN
    have := fixN_len (M := M) (r := r) (n := n)
    split
    · rw [List.length_append]; simp; omega
    · omega
theorem bfo_in {M : Row} (hM : okM M) {r f : Int} (hf : fl M f) {n : Nat} (hn : (n : Int) ≤ M 6) : ∀ k, 0 ≤ bfo M f ((fixN M r n).take k) ∧ bfo M f ((fixN M r n).take k) ≤ 300000 := by
  intro k
  induction k with
  | zero =>
    obtain ⟨-, -, h2, -⟩ := hM.2 f hf.1 hf.2
    have h0 := hM.1.1
    show 0 ≤ max (M 0) (ofM M f 2) ∧ max (M 0) (ofM M f 2) ≤ 300000
    omega
  | succ k ih =>
    by_cases hk : k < (fixN M r n).length
    · rw [List.take_succ_eq_append_getElem hk, bfo_snoc]
      obtain ⟨h1, h2, h3⟩ := fixN_mem (List.getElem_mem hk)
      have hg' : fl M (fixN M r n)[k] := ⟨by omega, by omega⟩
      obtain ⟨-, -, -, -, -, -, -, -, h8, -⟩ := hM.2 _ hg'.1 hg'.2
      have := h8 h2
      have ha := hM.apart hg' hf
      omega
    · rw [List.take_of_length_le (by omega)]
      rw [List.take_of_length_le (by omega)] at ih
      exact ih
theorem k_setBases {d : Nat} {H : AH} {p b r : Int} {M : Row} {L : List Int} (hS : SK H b M) (hT : ST H b M) (hP : Lay LPla H p) (hsep : b + 23 ≤ p ∨ p + 17 ≤ b) (hl : lst H (p + 12) 0 L) (hLf : ∀ x ∈ L, fl M x) (hLn : L.length ≤ 24) (hd : 1 ≤ d := by omega) :
    CL l G mX2_setBases d 0 0 [vR p, vR b, vI r, vI L.length] H (fun v H' => (∃ y : Int, v = vI y ∧ (0 ≤ y ∧ y ≤ 2147483647) ∧ ∀ x ∈ L, y ≤ baseM M r x) ∧ only H H' (fun c _ => c = p + 13 ∨ c = p + 14) ∧ ∀ x ∈ L, hg H' (p + 14) x = baseM M r x) := by
  obtain ⟨d, rfl⟩ : ∃ k, d = k + 1 := ⟨d - 1, by omega⟩
  have hM := hS.2.1
  have hn := okM_n hM
  have toP : ∀ c i, (c = p + 13 ∨ c = p + 14) → pPla p c i := fun c i h => Or.inr (by omega)
  have env : ∀ H1, only H H1 (fun c _ => c = p + 13 ∨ c = p + 14) → SK H1 b M ∧ Lay LPla H1 p := fun H1 ho => ⟨skO hS (ho.mono toP) (pPla_nrf hP) (pPla_off hsep), hP.only ok_Pla (ho.mono toP) (pPla_nrf hP)⟩
  obtain ⟨F, hF⟩ : ∃ F, F = fixN M r (M 6).toNat := ⟨_, rfl⟩
  have hFl : F.length ≤ 24 := by rw [hF]; have := fixN_len (M := M) (r := r) (n := (M 6).toNat); omega
  have second : ∀ j, j ≤ L.length → ∀ H1 (y : Int), (0 ≤ y ∧ y ≤ 2147483647) → (∀ (i : Nat) (x : Int), i < j → L[i]? = some x → y ≤ baseM M r x) → only H H1 (fun c _ => c = p + 13 ∨ c = p + 14) → lst H1 (p + 13) 0 F → (∀ (i : Nat) (x : Int), i < j → L[i]? = some x → hg H1 (p + 14) x = baseM M r x) → AW l G mX2_setBases (d + 1) 0 0 (fun v H' => (∃ y : Int, v = vI y ∧ (0 ≤ y ∧ y ≤ 2147483647) ∧ ∀ x ∈ L, y ≤ baseM M r x) ∧ only H H' (fun c _ => c = p + 13 ∨ c = p + 14) ∧ ∀ x ∈ L, hg H' (p + 14) x = baseM M r x) 63 [vR p, vR b, vI r, vI L.length, vI F.length, vI y, vI j, vU, vU, vU, vU] [] 0 0 H1 := by
    refine upN _ ?_ ?_
    · intro j hj ih H1 y hy hyl ho hlF hbs
      obtain ⟨hS1, hP1⟩ := env H1 ho
      have hv : hg H1 (p + 12) j = L[j] := by
        rw [ho.2.2 _ _ (by omega)]
        have := hl.at hj
        rwa [Int.zero_add] at this
      have hf := hLf _ (List.getElem_mem hj)
      obtain ⟨f, hfe⟩ : ∃ f, f = L[j] := ⟨_, rfl⟩
      rw [← hfe] at hv hf
      have inner : ∀ m, m ≤ F.length → AW l G mX2_setBases (d + 1) 0 0 (fun v H' => (∃ y : Int, v = vI y ∧ (0 ≤ y ∧ y ≤ 2147483647) ∧ ∀ x ∈ L, y ≤ baseM M r x) ∧ only H H' (fun c _ => c = p + 13 ∨ c = p + 14) ∧ ∀ x ∈ L, hg H' (p + 14) x = baseM M r x) 117 [vR p, vR b, vI r, vI L.length, vI F.length, vI y, vI j, vI f, vI (bfo M f (F.take m)), vI m, vU] [] 0 0 H1 := by
        refine upN _ ?_ ?_
        · intro m hm ihm
          have hgv : hg H1 (p + 13) m = F[m] := by have := hlF.at hm; rwa [Int.zero_add] at this
          obtain ⟨h1, h2, h3⟩ := fixN_mem (M := M) (r := r) (n := (M 6).toNat) (by rw [← hF]; exact List.getElem_mem hm)
          have hgf : fl M F[m] := ⟨by omega, by omega⟩
          have tv : hg H1 (b + 16) F[m] = ofM M F[m] 8 := by
            rw [ho.2.2 _ _ (by omega)]
            exact hT.2 _ hgf h2
          obtain ⟨-, -, -, -, -, -, -, -, h8, -⟩ := hM.2 _ hgf.1 hgf.2
          have h8 := h8 h2
          have ha := hM.apart hgf hf
          have bb := bfo_in hM (r := r) hf (n := (M 6).toNat) (by omega) m
          rw [← hF] at bb
          rw [List.take_succ_eq_append_getElem hm, bfo_snoc] at ihm
          refine s_X2_setBases_117 hS1 hP1 hsep ?_
          rw [hgv, tv]
          refine ⟨fun c => absurd c (by omega), fun _ => ⟨by omega, by omega, hgf, hf, by omega, fun c => ⟨by omega, ?_⟩, fun c => ⟨by omega, ?_⟩⟩⟩
          · rw [mx_eq' c] at ihm; exact ihm
          · rw [mx_eq (by omega)] at ihm; exact ihm
        · have e : bfo M f F = baseM M r f := by rw [hF]; exact bfo_base _
          have bI := baseM_in hM (r := r) hf
          rw [List.take_length, e]
          refine s_X2_setBases_117 hS1 hP1 hsep ⟨fun _ => ⟨by omega, fun H2 e2 => ?_⟩, fun c => absurd c (by omega)⟩
          have go : ∀ z : Int, (0 ≤ z ∧ z ≤ 2147483647) → z ≤ y → z ≤ baseM M r f → AW l G mX2_setBases (d + 1) 0 0 (fun v H' => (∃ y : Int, v = vI y ∧ (0 ≤ y ∧ y ≤ 2147483647) ∧ ∀ x ∈ L, y ≤ baseM M r x) ∧ only H H' (fun c _ => c = p + 13 ∨ c = p + 14) ∧ ∀ x ∈ L, hg H' (p + 14) x = baseM M r x) 63 [vR p, vR b, vI r, vI L.length, vI F.length, vI z, vI (j + 1), vU, vU, vU, vU] [] 0 0 H2 := by
            intro z hz hz1 hz2
            refine ih H2 z hz ?_ (by rw [e2]; exact ho.then (Or.inr rfl)) ?_ ?_
            · intro i x hi hx
              by_cases hij : i = j
              · subst hij
                rw [List.getElem?_eq_getElem hj] at hx
                cases hx
                rw [← hfe]; exact hz2
              · have := hyl i x (by omega) hx
                omega
            · intro i x hx
              rw [e2, hg_ne _ (by omega)]
              exact hlF i x hx
            · intro i x hi hx
              by_cases hxf : x = f
              · rw [hxf, e2, hg_same]
              · rw [e2, hg_ne _ (by omega)]
                by_cases hij : i = j
                · subst hij
                  rw [List.getElem?_eq_getElem hj] at hx
                  cases hx
                  exact absurd hfe.symm hxf
                · exact hbs i x (by omega) hx
          exact ⟨fun c => ⟨by omega, go y hy (by omega) (by omega)⟩, fun c => ⟨by omega, go _ (by omega) (by omega) (by omega)⟩⟩
      have i0 := inner 0 (Nat.zero_le _)
      have eb : bfo M f (F.take 0) = max (M 0) (ofM M f 2) := rfl
      rw [eb] at i0
      refine s_X2_setBases_63 hS1 hP1 hsep ?_
      rw [hv]
      refine ⟨fun c => absurd c (by omega), fun _ => ⟨by omega, hf, fun c => ?_, fun c => ?_⟩⟩
      · rw [mx_eq' c] at i0; exact i0
      · rw [mx_eq (by omega)] at i0; exact i0
    · intro H1 y hy hyl ho hlF hbs
      obtain ⟨hS1, hP1⟩ := env H1 ho
      refine s_X2_setBases_63 hS1 hP1 hsep ⟨fun _ => ⟨⟨y, rfl, hy, fun x hx => ?_⟩, ho, fun x hx => ?_⟩, fun c => absurd c (by omega)⟩
      · obtain ⟨i, hi, e⟩ := List.getElem_of_mem hx
        exact hyl i x hi (by rw [List.getElem?_eq_getElem hi, e])
      · obtain ⟨i, hi, e⟩ := List.getElem_of_mem hx
        exact hbs i x hi (by rw [List.getElem?_eq_getElem hi, e])
  have first : ∀ j, j ≤ (M 6).toNat → ∀ H1, only H H1 (fun c _ => c = p + 13 ∨ c = p + 14) → lst H1 (p + 13) 0 (fixN M r j) → AW l G mX2_setBases (d + 1) 0 0 (fun v H' => (∃ y : Int, v = vI y ∧ (0 ≤ y ∧ y ≤ 2147483647) ∧ ∀ x ∈ L, y ≤ baseM M r x) ∧ only H H' (fun c _ => c = p + 13 ∨ c = p + 14) ∧ ∀ x ∈ L, hg H' (p + 14) x = baseM M r x) 6 [vR p, vR b, vI r, vI L.length, vI (fixN M r j).length, vI j, vU, vU, vU, vU, vU] [] 0 0 H1 := by
    refine upN _ ?_ ?_
    · intro j hj ih H1 ho hlF
      obtain ⟨hS1, hP1⟩ := env H1 ho
      have hjf : fl M j := ⟨by omega, by omega⟩
      have hjl := fixN_len (M := M) (r := r) (n := j)
      refine s_X2_setBases_6 hS1 hP1 hsep ⟨fun c => absurd c (by omega), fun _ => ⟨hjf, fun c => ⟨by omega, ?_⟩, fun c => ⟨hjf, fun c2 => ⟨by omega, ?_⟩, fun c2 => ⟨by omega, fun H2 e2 => ⟨by omega, by omega, ?_⟩⟩⟩⟩⟩
      · rw [fixN, if_neg (fun z => c z.2)] at ih; exact ih H1 ho hlF
      · rw [fixN, if_neg (fun z => c2 z.1)] at ih; exact ih H1 ho hlF
      · rw [fixN, if_pos ⟨c2, c⟩, List.length_append] at ih
        refine ih H2 (by rw [e2]; exact ho.then (Or.inl rfl)) (lst.snoc ?_ ?_)
        · intro i x hx
          have hi := (List.getElem?_eq_some_iff.mp hx).1
          rw [e2, hg_ne _ (by omega)]
          exact hlF i x hx
        · rw [Int.zero_add, e2, hg_same]
    · intro H1 ho hlF
      obtain ⟨hS1, hP1⟩ := env H1 ho
      rw [← hF] at hlF ⊢
      exact s_X2_setBases_6 hS1 hP1 hsep ⟨fun _ => second 0 (Nat.zero_le _) H1 _ (by decide) (fun i x h => by omega) ho hlF (fun i x h => by omega), fun c => absurd c (by omega)⟩
  exact CL.of (by decide) rfl (Nat.le_of_ble_eq_true rfl) (s_X2_setBases_0 hS hP hsep (first 0 (Nat.zero_le _) H only.rf (fun k x hx => by simp [fixN] at hx)))
theorem tmA_take {M : Row} {b f : Int} {T : List (Int × Int)} {m : Nat} (hm : m < T.length) : tmA M b (T.take (m + 1)) f = max (tmA M b (T.take m) f) (T[m].2 + apartM M T[m].1 f) := by
  rw [List.take_succ_eq_append_getElem hm, tmA_snoc]
theorem k_setTimes {d : Nat} {H : AH} {p b q u r o n : Int} {M : Row} {L : List Int} (hS : SK H b M) (hP : Lay LPla H p) (hq : Lay (LArr 10 n) H q) (hu : Lay (LArr 10 24) H u) (hsep : (b + 23 ≤ p ∨ p + 17 ≤ b) ∧ (u < b ∨ b + 23 ≤ u ∨ u = b + 16)) (hqu : q ≠ u ∧ u ≠ p + 14) (ho : 0 ≤ o ∧ o + L.length ≤ n ∧ n ≤ 1000) (hl : lst H q o L) (hLf : ∀ x ∈ L, fl M x) (hLd : L.Nodup) (hLn : L.length ≤ 24) (hb : ∀ x ∈ L, hg H (p + 14) x = baseM M r x) (hd : 1 ≤ d := by omega) :
    CL l G mX2_setTimes d 0 0 [vR p, vR b, vR q, vI o, vI L.length, vR u] H (fun v H' => v = vV ∧ only H H' (fun c i => c = u ∧ i ∈ L) ∧ ∀ t ∈ tmS M r [] L, hg H' u t.1 = t.2) := by
  obtain ⟨d, rfl⟩ : ∃ k, d = k + 1 := ⟨d - 1, by omega⟩
  have hM := hS.2.1
  have hn6 := okM_n hM
  have nr : ∀ c i, (c = u ∧ i ∈ L) → nrf H c i := fun c i h => by rw [h.1]; exact nrf_arr (kArr_0 hu) (by decide) (by decide)
  have env : ∀ H1, only H H1 (fun c i => c = u ∧ i ∈ L) → SK H1 b M ∧ Lay LPla H1 p ∧ Lay (LArr 10 n) H1 q ∧ Lay (LArr 10 24) H1 u := fun H1 o1 => ⟨skO hS o1 nr (fun c i h => by unfold offS; omega), hP.only ok_Pla o1 nr, hq.only ok_Arr o1 nr, hu.only ok_Arr o1 nr⟩
  have key : ∀ j, j ≤ L.length → ∀ H1, only H H1 (fun c i => c = u ∧ i ∈ L) → (∀ t ∈ tmS M r [] (L.take j), hg H1 u t.1 = t.2) → AW l G mX2_setTimes (d + 1) 0 0 (fun v H' => v = vV ∧ only H H' (fun c i => c = u ∧ i ∈ L) ∧ ∀ t ∈ tmS M r [] L, hg H' u t.1 = t.2) 3 [vR p, vR b, vR q, vI o, vI L.length, vR u, vI (o + j), vU, vU, vU, vU] [] 0 0 H1 := by
    refine upN _ ?_ ?_
    · intro j hj ih H1 o1 ht
      obtain ⟨m1, m2, m3, m4⟩ := env H1 o1
      have qv : ∀ i (hi : i < L.length), hg H1 q (o + i) = L[i] := fun i hi => by
        rw [o1.2.2 _ _ (by omega)]
        exact hl.at hi
      have hf := hLf _ (List.getElem_mem hj)
      have hbv : hg H1 (p + 14) L[j] = baseM M r L[j] := by
        rw [o1.2.2 _ _ (by omega)]
        exact hb _ (List.getElem_mem hj)
      have hbI := baseM_in hM (r := r) hf
      obtain ⟨T, hT⟩ : ∃ T, T = tmS M r [] (L.take j) := ⟨_, rfl⟩
      have hTl : T.length = j := by rw [hT, tmS_len, List.length_take, List.length_nil]; omega
      have hTo : okT M T (300000 + 600 * j) := by
        have := tmS_ok hM (r := r) (L.take j) [] (fun x hx => hLf x (List.mem_of_mem_take hx)) (fun p hp => by cases hp)
        rw [← hT, List.length_take] at this
        simp only [List.length_nil, Nat.zero_add] at this
        rw [Nat.min_eq_left (by omega)] at this
        exact this
      have hTf : ∀ i (hi : i < T.length), T[i].1 = L[i]'(by omega) := by
        intro i hi
        have h1 : (T.map Prod.fst)[i]? = some T[i].1 := by rw [List.getElem?_map, List.getElem?_eq_getElem hi]; rfl
        have h0 : T.map Prod.fst = L.take j := by rw [hT, tmS_fst]; rfl
        rw [h0, List.getElem?_take, if_pos (by omega), List.getElem?_eq_getElem (by omega)] at h1
        exact (Option.some.inj h1).symm
      rw [← hT] at ht
      have e1 : tmS M r [] (L.take (j + 1)) = T ++ [(L[j], tmA M (baseM M r L[j]) T L[j])] := by
        rw [List.take_succ_eq_append_getElem hj, tmS_app, ← hT]
        rfl
      rw [e1] at ih
      have inner : ∀ m, m ≤ j → AW l G mX2_setTimes (d + 1) 0 0 (fun v H' => v = vV ∧ only H H' (fun c i => c = u ∧ i ∈ L) ∧ ∀ t ∈ tmS M r [] L, hg H' u t.1 = t.2) 30 [vR p, vR b, vR q, vI o, vI L.length, vR u, vI (o + j), vI L[j], vI (tmA M (baseM M r L[j]) (T.take m) L[j]), vI (o + m), vU] [] 0 0 H1 := by
        refine upN _ ?_ ?_
        · intro m hm ihm
          have hmT : m < T.length := by omega
          have hmf := hTo _ (List.getElem_mem hmT)
          have tv := ht _ (List.getElem_mem hmT)
          rw [hTf m hmT] at tv hmf
          have ha := hM.apart hmf.1 hf
          have bb := tmA_in hM (b := baseM M r L[j]) (B := 300000 + 600 * j) hf (by omega) (T := T.take m) (fun x hx => hTo x (List.mem_of_mem_take hx))
          rw [tmA_take hmT, hTf m hmT] at ihm
          rw [show o + ((m + 1 : Nat) : Int) = o + m + 1 by omega] at ihm
          refine s_X2_setTimes_30 m1 m2 m3 m4 hsep ?_
          rw [qv m (by omega), tv]
          refine ⟨fun c => absurd c (by omega), fun _ => ⟨by omega, by omega, hmf.1, hf, by omega, fun c => ⟨by omega, ?_⟩, fun c => ⟨by omega, ?_⟩⟩⟩
          · rw [mx_eq' c] at ihm; exact ihm
          · rw [mx_eq (by omega)] at ihm; exact ihm
        · rw [List.take_of_length_le (by omega)]
          refine s_X2_setTimes_30 m1 m2 m3 m4 hsep ⟨fun _ => ⟨by omega, fun H2 e2 => ⟨by omega, ?_⟩⟩, fun c => absurd c (by omega)⟩
          rw [show o + ((j + 1 : Nat) : Int) = o + j + 1 by omega] at ih
          refine ih H2 (by rw [e2]; exact o1.then ⟨rfl, List.getElem_mem hj⟩) ?_
          intro t htm
          rcases List.mem_append.mp htm with htm | htm
          · obtain ⟨i, hi, rfl⟩ := List.getElem_of_mem htm
            have hne : T[i].1 ≠ L[j] := by
              rw [hTf i hi]
              have hp := List.pairwise_iff_getElem.mp hLd
              exact hp i j (by omega) hj (by omega)
            rw [e2, hg_ne _ (Or.inr hne)]
            exact ht _ htm
          · have : t = (L[j], tmA M (baseM M r L[j]) T L[j]) := by simpa using htm
            rw [this, e2, hg_same]
      have i0 := inner 0 (Nat.zero_le _)
      rw [show o + ((0 : Nat) : Int) = o by omega] at i0
      refine s_X2_setTimes_3 m1 m2 m3 m4 hsep ?_
      rw [qv j hj, hbv]
      exact ⟨by omega, fun c => absurd c (by omega), fun _ => ⟨by omega, by omega, i0⟩⟩
    · intro H1 o1 ht
      obtain ⟨m1, m2, m3, m4⟩ := env H1 o1
      rw [List.take_length] at ht
      exact s_X2_setTimes_3 m1 m2 m3 m4 hsep ⟨by omega, fun _ => ⟨rfl, o1, ht⟩, fun c => absurd c (by omega)⟩
  have := key 0 (Nat.zero_le _) H only.rf (fun t ht => by simp [tmS] at ht)
  rw [show o + ((0 : Nat) : Int) = o by omega] at this
  exact CL.of (by decide) rfl (Nat.le_of_ble_eq_true rfl) (s_X2_setTimes_0 hS hP hq hu hsep this)
theorem k_costAlong {d : Nat} {H : AH} {b q u o n : Int} {M : Row} {T : List (Int × Int)} (hS : SK H b M) (hq : Lay (LArr 10 n) H q) (hu : Lay (LArr 10 24) H u) (ho : 0 ≤ o ∧ o + T.length ≤ n ∧ n ≤ 1000) (hl : lst H q o (T.map Prod.fst)) (hT : okT M T 400000) (hLn : T.length ≤ 24) (ht : ∀ t ∈ T, hg H u t.1 = t.2) (hd : 1 ≤ d := by omega) :
    CL l G mX6_costAlong d 0 0 [vR b, vR q, vI o, vI T.length, vR u] H (PQ (vJ (csum M T)) H) := by
  obtain ⟨d, rfl⟩ : ∃ k, d = k + 1 := ⟨d - 1, by omega⟩
  have hM := hS.2.1
  have hn6 := okM_n hM
  have key : ∀ j, j ≤ T.length → AW l G mX6_costAlong (d + 1) 0 0 (PQ (vJ (csum M T)) H) 6 [vR b, vR q, vI o, vI T.length, vR u, vJ (csum M (T.take j)), vU, vI (o + j)] [] 0 0 H := by
    refine upN _ ?_ ?_
    · intro j hj ih
      have hv : hg H q (o + j) = T[j].1 := by
        have := hl j T[j].1 (by rw [List.getElem?_map, List.getElem?_eq_getElem hj]; rfl)
        exact this
      have hf := hT _ (List.getElem_mem hj)
      have htv := ht _ (List.getElem_mem hj)
      have hc := hM.cost hf.1 (t := T[j].2) hf.2
      have hs := csum_in hM (T := T.take j) (B := 400000) (fun x hx => hT x (List.mem_of_mem_take hx)) (by omega)
      rw [List.length_take] at hs
      rw [List.take_succ_eq_append_getElem hj, csum_snoc, show o + ((j + 1 : Nat) : Int) = o + j + 1 by omega] at ih
      refine s_X6_costAlong_6 hS hq hu ?_
      rw [hv, htv]
      exact ⟨by omega, fun c => absurd c (by omega), fun _ => ⟨by omega, by omega, hf.1, hf.2, by omega, by omega, ih⟩⟩
    · rw [List.take_length]
      exact s_X6_costAlong_6 hS hq hu ⟨by omega, fun _ => ⟨rfl, rfl⟩, fun c => absurd c (by omega)⟩
  have := key 0 (Nat.zero_le _)
  rw [show o + ((0 : Nat) : Int) = o by omega] at this
  exact CL.of (by decide) rfl (Nat.le_of_ble_eq_true rfl) (s_X6_costAlong_0 hS hq hu this)
end
