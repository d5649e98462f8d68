/-! the class's search: findBest, countAsGood, prepare -/
section
variable {l : Launch} {G : GT}
/-- where a search writes -/
def pSea (s : Int) : Int → Int → Prop := fun b i => (b = s ∧ (i = 0 ∨ i = 1 ∨ i = 12 ∨ i = 13 ∨ i = 14)) ∨ (s + 1 ≤ b ∧ b ≤ s + 10)
theorem pSea_nrf {H : AH} {s : Int} (hL : Lay LSea H s) : ∀ c i, pSea s c i → nrf H c i := by
  rintro c i (⟨rfl, rfl | rfl | rfl | rfl | rfl⟩ | ⟨h1, h2⟩)
  · exact nrf_fld 0 (kSea_0 hL) (by decide) (by decide)
  · exact nrf_fld 1 (kSea_0 hL) (by decide) (by decide)
  · exact nrf_fld 12 (kSea_0 hL) (by decide) (by decide)
  · exact nrf_fld 13 (kSea_0 hL) (by decide) (by decide)
  · exact nrf_fld 14 (kSea_0 hL) (by decide) (by decide)
  · have : c = s + 1 ∨ c = s + 2 ∨ c = s + 3 ∨ c = s + 4 ∨ c = s + 5 ∨ c = s + 6 ∨ c = s + 7 ∨ c = s + 8 ∨ c = s + 9 ∨ c = s + 10 := by omega
    rcases this with rfl | rfl | rfl | rfl | rfl | rfl | rfl | rfl | rfl | rfl
    · exact nrf_arr (kSea_1 hL) (by decide) (by decide)
    · exact nrf_arr (kSea_2 hL) (by decide) (by decide)
    · exact nrf_arr (kSea_3 hL) (by decide) (by decide)
    · exact nrf_arr (kSea_4 hL) (by decide) (by decide)
    · exact nrf_arr (kSea_5 hL) (by decide) (by decide)
    · exact nrf_arr (kSea_6 hL) (by decide) (by decide)
    · exact nrf_arr (kSea_7 hL) (by decide) (by decide)
    · exact nrf_arr (kSea_8 hL) (by decide) (by decide)
    · exact nrf_arr (kSea_9 hL) (by decide) (by decide)
    · exact nrf_arr (kSea_10 hL) (by decide) (by decide)
def pFB (s : Int) : Int → Int → Prop := fun b i => (b = s ∧ (i = 12 ∨ i = 13 ∨ i = 14)) ∨ (b = s + 7 ∧ 7 ≤ i) ∨ (b = s + 8 ∧ 1 ≤ i) ∨ b = s + 9 ∨ b = s + 10
theorem pFB_sea {s : Int} : ∀ c i, pFB s c i → pSea s c i := by
  rintro c i (⟨h, h2⟩ | ⟨h, -⟩ | ⟨h, -⟩ | h | h)
  · exact Or.inl ⟨h, by omega⟩
  · exact Or.inr (by omega)
  · exact Or.inr (by omega)
  · exact Or.inr (by omega)
  · exact Or.inr (by omega)
theorem pFB_nrf {H : AH} {s : Int} (hL : Lay LSea H s) : ∀ c i, pFB s c i → nrf H c i := fun c i h => pSea_nrf hL c i (pFB_sea c i h)
theorem pFB_off {s : Int} : ∀ c i, pFB s c i → offE s c i := by
  rintro c i (⟨h, h2⟩ | ⟨h, -⟩ | ⟨h, -⟩ | h | h)
  · exact Or.inr ⟨h, by omega⟩
  · exact Or.inl (by omega)
  · exact Or.inl (by omega)
  · exact Or.inl (by omega)
  · exact Or.inl (by omega)
theorem pPl_FB {s : Int} : ∀ c i, pPl s 0 c i → pFB s c i := by
  rintro c i (⟨q, q2⟩ | ⟨q, q2⟩ | ⟨q, q2⟩ | ⟨q, -⟩ | q)
  · exact Or.inl ⟨q, by omega⟩
  · exact Or.inr (Or.inl ⟨q, by omega⟩)
  · exact Or.inr (Or.inr (Or.inl ⟨q, by omega⟩))
  · exact Or.inr (Or.inr (Or.inr (Or.inl q)))
  · exact Or.inr (Or.inr (Or.inr (Or.inr q)))
theorem isKs_nil {W : List Int} : isKs W 0 [] [] := by
  refine ⟨rfl, List.nodup_nil, fun k hk => (by cases hk), fun k _ _ => ?_⟩
  have : bt 0 k = false := by unfold bt; simp
  rw [this]
  simp
noncomputable abbrev lvA (M : Row) (r : Int) (W : List Int) : List Leaf := lvs M r W W.length 0 0 [] 0
noncomputable abbrev bestA (M : Row) (r : Int) (W : List Int) : Leaf := bestOf (9223372036854775807, []) (lvA M r W)
theorem fc_leaf {M : Row} (hM : okM M) {r : Int} {W : List Int} (hW : ∀ x ∈ W, fl M x) (hW7 : W.length ≤ 7) : (csum M (tmS M r [] W), W) ∈ lvA M r W ∧ 0 ≤ csum M (tmS M r [] W) ∧ csum M (tmS M r [] W) ≤ 35000000000 := by
  have h1 := leaf_fc hM (r := r) (W := W) hW7 W.length [] (by simp)
  have h2 : okT M (tmS M r [] W) (300000 + 600 * (0 + W.length : Nat)) := tmS_ok hM _ [] hW (fun p hp => by cases hp)
  have h3 := csum_in hM h2 (by omega)
  rw [tmS_len] at h3
  have e0 : pw (([] : List (Int × Int)).length : Int) - 1 = 0 := by decide
  rw [e0] at h1
  have e1 : (([] : List (Int × Int)).length : Int) = 0 := rfl
  rw [e1, List.length_nil, List.drop_zero, tmS_fst, List.map_nil, List.nil_append] at h1
  simp only [List.length_nil] at h3
  have hc0 : csum M [] = 0 := rfl
  rw [hc0] at h1
  exact ⟨h1, h3.1, by omega⟩
theorem k_findBest {d : Nat} {H : AH} {s r : Int} {M : Row} {W : List Int} (hE : SE H s M W) (hM : okM M) (hW : ∀ x ∈ W, fl M x) (hWn : W.Nodup) (hW7 : W.length ≤ 7) (hR : RT H s M r W 0 [] 0) (hc : hg H (s + 8) 0 = 0) (hd : 10 ≤ d := by omega) :
    CL l G mX5_findBest d 0 0 [vR s] H (fun v H' => v = vV ∧ only H H' (pFB s) ∧ hg H' s 12 + 1 = (bestA M r W).1 ∧ (rdL H' (s + 10) 0 W.length).map (wB W) = (bestA M r W).2) := by
  obtain ⟨d, rfl⟩ : ∃ k, d = k + 1 := ⟨d - 1, by omega⟩
  refine CL.of (by decide) rfl (Nat.le_of_ble_eq_true rfl) (s_X5_findBest_0 hE.1 fun H1 e1 => ?_)
  obtain ⟨fc1, fc2, fc3⟩ := fc_leaf hM (r := r) hW hW7
  have key : ∀ j, j ≤ W.length → ∀ H2, only H H2 (pFB s) → hg H2 s 13 = 0 → RT H2 s M r W (pw j - 1) (tmS M r [] (W.take j)) j → hg H2 (s + 8) j = csum M (tmS M r [] (W.take j)) → AW l G mX5_findBest (d + 1) 0 0 (fun v H' => v = vV ∧ only H H' (pFB s) ∧ hg H' s 12 + 1 = (bestA M r W).1 ∧ (rdL H' (s + 10) 0 W.length).map (wB W) = (bestA M r W).2) 7 [vR s, vI j] [] 0 0 H2 := by
    refine upN _ ?_ ?_
    · intro j hj ih H2 ho g13 hR2 g8
      have hE2 := seO hE ho (pFB_nrf hE.1) pFB_off
      have hb := pw_bits ⟨j, by omega⟩
      have hb1 : shr (pw j - 1) j % 2 = 0 := hb.1
      have hb2 : ior (pw j - 1) (pw j) = pw (j + 1 : Nat) - 1 := hb.2
      have hp : 0 ≤ pw j - 1 ∧ pw j - 1 < 128 := by
        have : ∀ k : Fin 7, 0 ≤ pw k.val - 1 ∧ pw k.val - 1 < 128 := by decide
        exact this ⟨j, by omega⟩
      have hlen : (W.take j).length = j := by rw [List.length_take]; omega
      have hWt : ∀ x ∈ W.take j, fl M x := fun x hx => hW x (List.mem_of_mem_take hx)
      have hT : okT M (tmS M r [] (W.take j)) (300000 + 600 * j) := by
        have := tmS_ok hM (r := r) (W.take j) [] hWt (fun p hp => by cases hp)
        rw [hlen] at this
        simpa using this
      have hcs := csum_in hM hT (by omega)
      rw [tmS_len, hlen, List.length_nil] at hcs
      have hw : wAt W j = W[j] := by rw [wAt_eq (by simpa using hj)]; rfl
      have eT : TI M r W (tmS M r [] (W.take j)) j = tmS M r [] (W.take (j + 1)) := by
        rw [List.take_succ_eq_append_getElem hj, tmS_app]
        show _ ++ [(wAt W j, tmA M (baseM M r (wAt W j)) _ (wAt W j))] = _
        rw [hw]
        rfl
      have eC : csum M (tmS M r [] (W.take j)) + costM M (wAt W j) (tI M r W (tmS M r [] (W.take j)) j) = csum M (tmS M r [] (W.take (j + 1))) := by
        rw [← eT, csum_snoc]
      refine s_X5_findBest_7 hE2.1 ?_
      rw [hE2.2.1.1]
      refine ⟨fun q => absurd q (by omega), fun _ => ⟨by omega, by omega, CL.mono (k_put (B := 300000 + 600 * j) (r := r) hE2 hM hW hW7 (by omega) (by omega) hp hb1 hR2 hT (by omega) g8 (by omega) (by omega)) ?_⟩⟩
      rintro r9 H3 ⟨rfl, o3, g83, hR3⟩
      have ho3 : only H H3 (pFB s) := ho.trans (o3.mono (by
        rintro b i (⟨z1, z2⟩ | ⟨z1, z2⟩)
        · exact Or.inr (Or.inr (Or.inl ⟨z1, by omega⟩))
        · exact Or.inr (Or.inl ⟨z1, by omega⟩)))
      refine ⟨(seO hE ho3 (pFB_nrf hE.1) pFB_off).1, _, rfl, by omega, ih H3 ho3 ?_ ?_ ?_⟩
      · rw [o3.2.2 _ _ (by rintro (⟨z, -⟩ | ⟨z, -⟩) <;> omega)]; exact g13
      · rw [hb2, eT] at hR3; exact hR3
      · rw [eC] at g83; exact g83
    · intro H2 ho g13 hR2 g8
      have hE2 := seO hE ho (pFB_nrf hE.1) pFB_off
      rw [List.take_length] at g8
      refine s_X5_findBest_7 hE2.1 ?_
      rw [hE2.2.1.1]
      refine ⟨fun _ => ⟨by omega, fun H3 e3 => ?_⟩, fun q => absurd q (by omega)⟩
      rw [g8] at e3
      have ho3 : only H H3 (pFB s) := by rw [e3]; exact ho.then (Or.inl ⟨rfl, Or.inl rfl⟩)
      have hE3 := seO hE ho3 (pFB_nrf hE.1) pFB_off
      have g12 : hg H3 s 12 = csum M (tmS M r [] W) := by rw [e3, hg_same]
      have hR3 : RT H3 s M r W 0 [] (([] : List Int).length : Nat) := fun m hm q => by
        rw [List.length_nil] at *
        rw [ho3.2.2 _ _ (by rintro (⟨z, -⟩ | ⟨-, z⟩ | ⟨z, -⟩ | z | z) <;> omega)]
        exact hR m hm q
      have hc3 : hg H3 (s + 8) (([] : List Int).length : Nat) = 0 := by
        rw [List.length_nil, ho3.2.2 _ _ (by rintro (⟨z, -⟩ | ⟨z, -⟩ | ⟨-, z⟩ | z | z) <;> omega)]
        exact hc
      have g133 : hg H3 s 13 = 0 := by rw [e3, hg_ne _ (by omega)]; exact g13
      have := k_place (l := l) (G := G) (s := s) (k := 0) (r := r) hM hW hWn hW7 (Or.inl rfl) W.length d H3 0 0 [] [] hE3 g133 isKs_nil (by simp) (fun i x hx => by simp at hx) (by omega) hR3 (fun p hp => by cases hp) hc3 (by omega) (by rw [g12]; omega) (by rw [g12]; omega) (fun j h1 h2 => by have := hM.1.2.1; simp at h2; omega) (fun z => absurd z (by decide)) (by omega)
      refine CL.mono this ?_
      rintro r9 H4 ⟨rfl, o4, ha⟩
      have o4' : only H3 H4 (pFB s) := o4.mono pPl_FB
      have ho4 := ho3.trans o4'
      have e12 : bestOf ((ac H3 s W).1, (ac H3 s W).2.2) (lvA M r W) = bestA M r W := by
        refine bestOf_two ⟨_, fc1, ?_, ?_⟩
        · show csum M (tmS M r [] W) < hg H3 s 12 + 1
          rw [g12]; omega
        · show csum M (tmS M r [] W) < 9223372036854775807
          omega
      have ha' : ac H4 s W = ((bestA M r W).1, (ac H3 s W).2.1, (bestA M r W).2) := by
        rw [ha, ← e12]
        rfl
      refine ⟨(seO hE ho4 (pFB_nrf hE.1) pFB_off).1, rfl, rfl, ho4, ?_, ?_⟩
      · exact congrArg (fun a : Ac => a.1) ha'
      · exact congrArg (fun a : Ac => a.2.2) ha'
  refine key 0 (Nat.zero_le _) H1 (by rw [e1]; exact only.wr (Or.inl ⟨rfl, Or.inr (Or.inl rfl)⟩)) (by rw [e1, hg_same]) ?_ ?_
  · intro m hm q
    rw [e1, hg_ne _ (by omega)]
    exact hR m hm q
  · rw [e1, hg_ne _ (by omega)]
    exact hc
theorem phi_congr {p q : Leaf → Bool} {L : List Leaf} (h : ∀ x ∈ L, p x = q x) : phi p L = phi q L := by
  unfold phi
  rw [List.filter_congr h]
theorem k_countAsGood {d : Nat} {H : AH} {s r : Int} {M : Row} {W : List Int} (hE : SE H s M W) (hM : okM M) (hW : ∀ x ∈ W, fl M x) (hWn : W.Nodup) (hW7 : W.length ≤ 7) (hR : RT H s M r W 0 [] 0) (hc : hg H (s + 8) 0 = 0) (hbest : hg H s 12 + 1 = (bestA M r W).1) (hd : 10 ≤ d := by omega) :
    CL l G mX5_countAsGood d 0 0 [vR s] H (fun v H' => v = vI (phi (pE (bestA M r W).1) (lvA M r W)) ∧ only H H' (pFB s)) := by
  obtain ⟨d, rfl⟩ : ∃ k, d = k + 1 := ⟨d - 1, by omega⟩
  obtain ⟨fc1, fc2, fc3⟩ := fc_leaf hM (r := r) hW hW7
  have b1 : (bestA M r W).1 ≤ csum M (tmS M r [] W) := (bestOf_le (b := ((9223372036854775807 : Int), ([] : List Int))) (L := lvA M r W)).2 _ fc1
  have b0 : 0 ≤ (bestA M r W).1 := by
    rcases bestOf_mem (b := ((9223372036854775807 : Int), ([] : List Int))) (L := lvA M r W) with q | q
    · rw [show bestA M r W = _ from q]; decide
    · exact lvs_ge hM hW (B := 300000) (fun p hp => by cases hp) (by omega) (by omega) _ q
  refine CL.of (by decide) rfl (Nat.le_of_ble_eq_true rfl) (s_X5_countAsGood_0 hE.1 fun H1 e1 H2 e2 => ?_)
  have g12 : hg H2 s 12 = hg H s 12 := by rw [e2, hg_ne _ (by omega), e1, hg_ne _ (by omega)]
  rw [g12]
  refine ⟨by omega, fun H3 e3 => ?_⟩
  have ho3 : only H H3 (pFB s) := by
    rw [e3, e2, e1]
    exact ((only.wr (Or.inl ⟨rfl, Or.inr (Or.inl rfl)⟩)).then (Or.inl ⟨rfl, Or.inr (Or.inr rfl)⟩)).then (Or.inl ⟨rfl, Or.inl rfl⟩)
  have hE3 := seO hE ho3 (pFB_nrf hE.1) pFB_off
  have a12 : hg H3 s 12 = (bestA M r W).1 := by rw [e3, hg_same]; exact hbest
  have a13 : hg H3 s 13 = 1 := by rw [e3, hg_ne _ (by omega), e2, hg_ne _ (by omega), e1, hg_same]
  have a14 : hg H3 s 14 = 0 := by rw [e3, hg_ne _ (by omega), e2, hg_same]
  have hR3 : RT H3 s M r W 0 [] (([] : List Int).length : Nat) := fun m hm q => by
    rw [List.length_nil] at *
    rw [ho3.2.2 _ _ (by rintro (⟨z, -⟩ | ⟨-, z⟩ | ⟨z, -⟩ | z | z) <;> omega)]
    exact hR m hm q
  have hc3 : hg H3 (s + 8) (([] : List Int).length : Nat) = 0 := by
    rw [List.length_nil, ho3.2.2 _ _ (by rintro (⟨z, -⟩ | ⟨z, -⟩ | ⟨-, z⟩ | z | z) <;> omega)]
    exact hc
  have h7 : phi pT (lvs M r W W.length 0 0 [] 0) ≤ 823543 := by
    have h1 := lvs_len (p := pT) (M := M) (r := r) hW7 (n := W.length) (place := 0) (used := 0) (T := []) (c := 0)
    have h2 : (7 : Int) ^ W.length ≤ 7 ^ 7 := by
      have := Nat.pow_le_pow_right (n := 7) (by decide) hW7
      exact_mod_cast this
    have h3 : (7 : Int) ^ 7 = 823543 := by decide
    omega
  have := k_place (l := l) (G := G) (s := s) (k := 1) (r := r) hM hW hWn hW7 (Or.inr rfl) W.length d H3 0 0 [] [] hE3 a13 isKs_nil (by simp) (fun i x hx => by simp at hx) (by omega) hR3 (fun p hp => by cases hp) hc3 (by omega) (by rw [a12]; omega) (by rw [a12]; omega) (fun j h1 h2 => by have := hM.1.2.1; simp at h2; omega) (fun z => ⟨by rw [a14]; omega, by
    rw [a14]
    have e : phi pT (lvs M r W W.length (([] : List Int).length : Nat) 0 [] 0) = phi pT (lvs M r W W.length 0 0 [] 0) := rfl
    rw [e]
    omega⟩) (by omega)
  refine CL.mono this ?_
  rintro r9 H4 ⟨rfl, o4, ha⟩
  have ho4 := ho3.trans (o4.mono pPl_FB)
  have g14 : hg H4 s 14 = 0 + phi (fun x => decide (x.1 < (bestA M r W).1 + 1)) (lvA M r W) := by
    have h1 : hg H4 s 14 = (uA 1 (ac H3 s W) (lvA M r W)).2.1 := congrArg (fun a : Ac => a.2.1) ha
    rw [uA, if_neg (by decide)] at h1
    have h2 : (ac H3 s W).1 = (bestA M r W).1 + 1 := by
      show hg H3 s 12 + 1 = _
      rw [a12]
    have h3 : (ac H3 s W).2.1 = 0 := a14
    simp only [h2, h3] at h1
    exact h1
  refine ⟨(seO hE ho4 (pFB_nrf hE.1) pFB_off).1, rfl, ?_, ho4⟩
  rw [g14, Int.zero_add]
  refine congrArg vI (phi_congr fun x hx => ?_)
  have hge : (bestA M r W).1 ≤ x.1 := (bestOf_le (b := ((9223372036854775807 : Int), ([] : List Int))) (L := lvA M r W)).2 _ hx
  by_cases e : x.1 = (bestA M r W).1
  · have : x.1 < (bestA M r W).1 + 1 := by omega
    rw [e]
    have h9 : (bestA M r W).1 < (bestA M r W).1 + 1 := by omega
    simp [pE, e, h9]
  · have : ¬ x.1 < (bestA M r W).1 + 1 := by omega
    simp [pE, e, this]
end
