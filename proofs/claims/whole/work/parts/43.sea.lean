/-! the class's search -/
section
variable {l : Launch} {G : GT}
theorem insK_len {key : Int → Int} {x : Int} : ∀ {L : List Int}, (insK key x L).length = L.length + 1
  | [] => rfl
  | g :: L => by
    unfold insK
    split
    · rfl
    · simp only [List.length_cons, insK_len (L := L)]
theorem srtN_len {W : List Int} : ∀ n, (srtN W n).length = n
  | 0 => rfl
  | n + 1 => by
    show (insK (wAt W) n (srtN W n)).length = n + 1
    rw [insK_len, srtN_len n]
/-- what a search gathers: one more than the limit, how many it found, the best -/
abbrev Ac : Type := Int × Int × List Int
/-- the flight at a place of the window; none -/
def wB (W : List Int) (k : Int) : Int := if 0 ≤ k ∧ k < W.length then wAt W k else -1
theorem wB_map {W Ks : List Int} (h : ∀ k ∈ Ks, 0 ≤ k ∧ k < W.length) : Ks.map (wB W) = Ks.map (wAt W) := List.map_congr_left fun k hk => by unfold wB; rw [if_pos (h k hk)]
def ac (H : AH) (s : Int) (W : List Int) : Ac := (hg H s 12 + 1, hg H s 14, (rdL H (s + 10) 0 W.length).map (wB W))
def uA (k : Int) (a : Ac) (L : List Leaf) : Ac := if k = 0 then ((bestOf (a.1, a.2.2) L).1, a.2.1, (bestOf (a.1, a.2.2) L).2) else (a.1, a.2.1 + phi (fun x => decide (x.1 < a.1)) L, a.2.2)
theorem uA_nil {k : Int} {a : Ac} : uA k a [] = a := by
  unfold uA
  split
  · rfl
  · have : phi (fun x => decide (x.1 < a.1)) [] = 0 := rfl
    rw [this, Int.add_zero]
theorem uA_app {k : Int} {a : Ac} {L1 L2 : List Leaf} : uA k a (L1 ++ L2) = uA k (uA k a L1) L2 := by
  unfold uA
  by_cases c : k = 0
  · simp only [if_pos c, bestOf_app]
  · simp only [if_neg c, phi_app, Int.add_assoc]
theorem uA_none {k : Int} {a : Ac} {L : List Leaf} (h : ∀ x ∈ L, a.1 ≤ x.1) : uA k a L = a := by
  unfold uA
  split
  · have : bestOf (a.1, a.2.2) L = (a.1, a.2.2) := bestOf_none h
    rw [this]
  · have : phi (fun x => decide (x.1 < a.1)) L = 0 := by
      unfold phi
      rw [List.filter_eq_nil_iff.mpr (fun x hx => by have := h x hx; simp; omega)]
      rfl
    rw [this, Int.add_zero]
theorem uA_le {k : Int} {a : Ac} {L : List Leaf} : (uA k a L).1 ≤ a.1 := by
  unfold uA
  split
  · exact (bestOf_le (b := (a.1, a.2.2))).1
  · exact Int.le_refl _
def pAcc (s : Int) : Int → Int → Prop := fun b i => (b = s ∧ (i = 12 ∨ i = 14)) ∨ b = s + 10
theorem rdL_setL {H : AH} {b : Int} {L : List Int} (h : lst H b 0 L) : rdL H b 0 L.length = L := rdL_lst h
theorem k_accept {d : Nat} {H : AH} {s k c : Int} {M : Row} {W : List Int} {Ks : List Int} (hE : SE H s M W) (hW7 : W.length ≤ 7) (hk : hg H s 13 = k) (hk01 : k = 0 ∨ k = 1) (hc : hg H (s + 8) W.length = c) (hcb : 0 ≤ c ∧ c ≤ 100000000000) (hKl : Ks.length = W.length) (hK : lst H (s + 9) 0 Ks) (hlim : c < hg H s 12 + 1) (hfd : k = 1 → 0 ≤ hg H s 14 ∧ hg H s 14 ≤ 2000000) : CL l G mX5_accept d 0 0 [vR s] H (fun v H' => v = vV ∧ only H H' (pAcc s) ∧ ac H' s W = uA k (ac H s W) [(c, Ks.map (wB W))]) := by
  have n1 : ∀ c i, pAcc s c i → nrf H c i := by
    rintro c i (⟨rfl, rfl | rfl⟩ | rfl)
    · exact nrf_fld 12 (kSea_0 hE.1) (by decide) (by decide)
    · exact nrf_fld 14 (kSea_0 hE.1) (by decide) (by decide)
    · exact nrf_arr (kSea_10 hE.1) (by decide) (by decide)
  have off : ∀ c i, pAcc s c i → offE s c i := by
    rintro c i (⟨q, q2⟩ | q)
    · exact Or.inr ⟨q, by omega⟩
    · exact Or.inl (by omega)
  refine CL.of (by decide) rfl (Nat.le_of_ble_eq_true rfl) (s_X5_accept_0 hE.1 ?_)
  rw [hE.2.1.1, hc, hk]
  refine ⟨fun q => ⟨by omega, by omega, fun H1 e1 => ?_⟩, fun q => ⟨by have := hfd (by omega); omega, fun H1 e1 => ⟨rfl, ?_, ?_⟩⟩⟩
  · have key : ∀ j, j ≤ W.length → ∀ H2, only H H2 (pAcc s) → hg H2 s 12 = c - 1 → hg H2 s 14 = hg H s 14 → lst H2 (s + 10) 0 (Ks.take j) → AW l G mX5_accept d 0 0 (fun v H' => v = vV ∧ only H H' (pAcc s) ∧ ac H' s W = uA k (ac H s W) [(c, Ks.map (wB W))]) 35 [vR s, vI j] [] 0 0 H2 := by
      refine upN _ ?_ ?_
      · intro j hj ih H2 ho g12 g14 hl
        have hE2 := seO hE ho n1 off
        have hjK : j < Ks.length := by omega
        have v9 : hg H2 (s + 9) j = Ks[j] := by
          rw [ho.2.2 _ _ (by rintro (⟨z, -⟩ | z) <;> omega)]
          have := hK.at hjK
          rwa [Int.zero_add] at this
        refine s_X5_accept_35 hE2.1 ?_
        rw [hE2.2.1.1, v9]
        refine ⟨fun z => absurd z (by omega), fun _ => ⟨by omega, fun H3 e3 => ⟨by omega, ih H3 ?_ ?_ ?_ ?_⟩⟩⟩
        · rw [e3]; exact ho.then (Or.inr rfl)
        · rw [e3, hg_ne _ (by omega)]; exact g12
        · rw [e3, hg_ne _ (by omega)]; exact g14
        · rw [List.take_succ_eq_append_getElem hjK]
          have hlen : (Ks.take j).length = j := by rw [List.length_take]; omega
          refine lst.snoc ?_ ?_
          · intro i x hx
            have hi := (List.getElem?_eq_some_iff.mp hx).1
            rw [e3, hg_ne _ (by omega)]
            exact hl i x hx
          · rw [hlen, Int.zero_add, e3, hg_same]
      · intro H2 ho g12 g14 hl
        have hE2 := seO hE ho n1 off
        refine s_X5_accept_35 hE2.1 ⟨fun _ => ⟨rfl, ho, ?_⟩, fun z => absurd z (by rw [hE2.2.1.1]; omega)⟩
        rw [← hKl, List.take_length] at hl
        have e : rdL H2 (s + 10) 0 W.length = Ks := by rw [← hKl]; exact rdL_lst hl
        unfold ac uA
        rw [if_pos q, g12, g14, e]
        have e2 : bestOf (hg H s 12 + 1, (rdL H (s + 10) 0 W.length).map (wB W)) [(c, Ks.map (wB W))] = (c, Ks.map (wB W)) := by
          show upd' _ _ = _
          rw [upd', if_pos hlim]
        simp only [e2]
        rw [show c - 1 + 1 = c by omega]
    refine key 0 (Nat.zero_le _) H1 (by rw [e1]; exact only.wr (Or.inl ⟨rfl, Or.inl rfl⟩)) (by rw [e1, hg_same]) (by rw [e1, hg_ne _ (by omega)]) (fun i x hx => by simp at hx)
  · rw [e1]; exact only.wr (Or.inl ⟨rfl, Or.inr rfl⟩)
  · unfold ac uA
    have er : rdL H1 (s + 10) 0 W.length = rdL H (s + 10) 0 W.length := rdL_congr fun k _ => by rw [e1, hg_ne _ (by omega)]
    have e14 : hg H1 s 14 = hg H s 14 + 1 := by rw [e1, hg_same]
    have e12 : hg H1 s 12 = hg H s 12 := by rw [e1, hg_ne _ (by omega)]
    rw [if_neg q, er, e14, e12]
    have : phi (fun x => decide (x.1 < hg H s 12 + 1)) [(c, Ks.map (wB W))] = 1 := by
      unfold phi
      simp [hlim]
    simp only [this]
/-- where the search writes below a depth -/
def pPl (s dp : Int) : Int → Int → Prop := fun b i => (b = s ∧ (i = 12 ∨ i = 14)) ∨ (b = s + 7 ∧ (dp + 1) * 7 ≤ i) ∨ (b = s + 8 ∧ dp + 1 ≤ i) ∨ (b = s + 9 ∧ dp ≤ i) ∨ b = s + 10
theorem pPl_nrf {H : AH} {s dp : Int} (hL : Lay LSea H s) : ∀ c i, pPl s dp c i → nrf H c i := by
  rintro c i (⟨rfl, rfl | rfl⟩ | ⟨rfl, -⟩ | ⟨rfl, -⟩ | ⟨rfl, -⟩ | rfl)
  · exact nrf_fld 12 (kSea_0 hL) (by decide) (by decide)
  · exact nrf_fld 14 (kSea_0 hL) (by decide) (by decide)
  · exact nrf_arr (kSea_7 hL) (by decide) (by decide)
  · exact nrf_arr (kSea_8 hL) (by decide) (by decide)
  · exact nrf_arr (kSea_9 hL) (by decide) (by decide)
  · exact nrf_arr (kSea_10 hL) (by decide) (by decide)
theorem pPl_off {s dp : Int} : ∀ c i, pPl s dp c i → offE s c i := by
  rintro c i (⟨q, q2⟩ | ⟨q, -⟩ | ⟨q, -⟩ | ⟨q, -⟩ | q)
  · exact Or.inr ⟨q, by omega⟩
  · exact Or.inl (by omega)
  · exact Or.inl (by omega)
  · exact Or.inl (by omega)
  · exact Or.inl (by omega)
noncomputable def gK (M : Row) (r : Int) (W : List Int) (n : Nat) (place used : Int) (T : List (Int × Int)) (c k : Int) : List Leaf := if pdec (okK M place used k) = true then lv1 M r W n place used T c k else []
theorem flat_fil {α β : Type} (q : α → Bool) (f : α → List β) : ∀ L : List α, (L.filter q).flatMap f = L.flatMap (fun k => if q k = true then f k else [])
  | [] => rfl
  | a :: L => by
    rw [List.filter_cons, List.flatMap_cons, ← flat_fil q f L]
    by_cases h : q a = true
    · rw [if_pos h, if_pos h, List.flatMap_cons]
    · rw [if_neg h, if_neg h, List.nil_append]
theorem lvs_gK {M : Row} {r : Int} {W : List Int} {n : Nat} {place used : Int} {T : List (Int × Int)} {c : Int} : lvs M r W (n + 1) place used T c = (srt W).flatMap (gK M r W n place used T c) := by
  rw [lvs_succ]
  exact flat_fil (fun k => pdec (okK M place used k)) (lv1 M r W n place used T c) (srt W)
abbrev bigA (k : Int) (H : AH) (s : Int) (L : List Leaf) : Prop := k = 1 → 0 ≤ hg H s 14 ∧ hg H s 14 + phi pT L ≤ 2000000
theorem phi_le {p : Leaf → Bool} (L : List Leaf) : phi p L ≤ phi pT L := by
  unfold phi
  have h1 := List.length_filter_le p L
  have h2 : (L.filter pT).length = L.length := by rw [List.filter_eq_self.mpr (fun _ _ => rfl)]
  omega
theorem k_place {s k r : Int} {M : Row} {W : List Int} (hM : okM M) (hW : ∀ x ∈ W, fl M x) (hWn : W.Nodup) (hW7 : W.length ≤ 7) (hk01 : k = 0 ∨ k = 1) : ∀ (n d : Nat) (H : AH) (used c : Int) (T : List (Int × Int)) (Ks : List Int), SE H s M W → hg H s 13 = k → isKs W used T Ks → Ks.length + n = W.length → lst H (s + 9) 0 Ks → (0 ≤ used ∧ used < 128) → RT H s M r W used T Ks.length → okT M T (300000 + 600 * Ks.length) → hg H (s + 8) Ks.length = c → (0 ≤ c ∧ c ≤ 5000000000 * Ks.length) → c < hg H s 12 + 1 → hg H s 12 ≤ 100000000000 → (∀ j : Int, 0 ≤ j → j + M 1 < Ks.length → ¬ shr used j % 2 = 0) → bigA k H s (lvs M r W n Ks.length used T c) → n + 2 ≤ d →
    CL l G mX5_place d 0 0 [vR s, vI Ks.length, vI used] H (fun v H' => v = vV ∧ only H H' (pPl s Ks.length) ∧ ac H' s W = uA k (ac H s W) (lvs M r W n Ks.length used T c)) := by
  have h1 := hM.1.2.1
  intro n
  induction n with
  | zero =>
    intro d H used c T Ks hE hk hK hl hKl hu hR hT hc hcb hlim hlb hdue hbig hd
    obtain ⟨d, rfl⟩ : ∃ k, d = k + 1 := ⟨d - 1, by omega⟩
    have hl' : Ks.length = W.length := by omega
    refine CL.of (by decide) rfl (Nat.le_of_ble_eq_true rfl) (s_X5_place_0 hE.1 ⟨fun q => absurd q (by rw [hE.2.1.1]; omega), fun _ => ?_⟩)
    have p1 : phi pT (lvs M r W 0 Ks.length used T c) = 1 := rfl
    have e0 : T.map Prod.fst = Ks.map (wAt W) := hK.1
    refine CL.mono (k_accept hE hW7 hk hk01 (c := c) (by rw [← hl']; exact hc) (by omega) hl' hKl hlim (fun z => by have := hbig z; omega)) ?_
    rintro r9 H1 ⟨rfl, ho, ha⟩
    refine ⟨(seO hE (ho.mono (P' := pPl s Ks.length) ?_) (pPl_nrf hE.1) pPl_off).1, rfl, rfl, ho.mono ?_, ?_⟩
    · rintro b i (q | q)
      · exact Or.inl q
      · exact Or.inr (Or.inr (Or.inr (Or.inr q)))
    · rintro b i (q | q)
      · exact Or.inl q
      · exact Or.inr (Or.inr (Or.inr (Or.inr q)))
    · rw [ha]
      show uA k (ac H s W) [(c, Ks.map (wB W))] = uA k (ac H s W) [(c, T.map Prod.fst)]
      rw [e0, wB_map hK.2.2.1]
  | succ n ih =>
    intro d H used c T Ks hE hk hK hl hKl hu hR hT hc hcb hlim hlb hdue hbig hd
    obtain ⟨d, rfl⟩ : ∃ k, d = k + 1 := ⟨d - 1, by omega⟩
    have hsl : (srt W).length = W.length := srtN_len _
    have loop : ∀ x4 : Int, ((x4 = 0 ∧ ¬ (0 ≤ (Ks.length : Int) - M 1 ∧ shr used ((Ks.length : Int) - M 1) % 2 = 0)) ∨ (x4 = 1 ∧ 0 ≤ (Ks.length : Int) - M 1 ∧ shr used ((Ks.length : Int) - M 1) % 2 = 0)) → ∀ j, j ≤ W.length → ∀ H', only H H' (pPl s Ks.length) → uA k (ac H s W) (lvs M r W (n + 1) Ks.length used T c) = uA k (ac H' s W) (((srt W).drop j).flatMap (gK M r W n Ks.length used T c)) → (ac H' s W).1 ≤ hg H s 12 + 1 → bigA k H' s (((srt W).drop j).flatMap (gK M r W n Ks.length used T c)) →
        AW l G mX5_place (d + 1) 0 0 (fun v H' => v = vV ∧ only H H' (pPl s Ks.length) ∧ ac H' s W = uA k (ac H s W) (lvs M r W (n + 1) Ks.length used T c)) 42 [vR s, vI Ks.length, vI used, vI (Ks.length - M 1), vI x4, vI j, vU, vU] [] 0 0 H' := by
      intro x4 hx4
      refine upN _ ?_ ?_
      · intro j hj ihj H' ho hac hle hbg
        have hE' := seO hE ho (pPl_nrf hE.1) pPl_off
        have hjs : j < (srt W).length := by omega
        obtain ⟨i, hidef⟩ : ∃ i, i = (srt W)[j] := ⟨_, rfl⟩
        have hi : 0 ≤ i ∧ i < W.length := srtN_mem.mp (by rw [hidef]; exact List.getElem_mem hjs)
        have hv : hg H' (s + 1) j = i := by
          have := hE'.2.1.2.2.at hjs
          rw [Int.zero_add] at this
          rw [this, hidef]
        have hdrop : (srt W).drop j = i :: (srt W).drop (j + 1) := by rw [hidef]; exact List.drop_eq_getElem_cons hjs
        rw [hdrop, List.flatMap_cons] at hac hbg
        have hR' : RT H' s M r W used T Ks.length := fun m hm q => by
          rw [ho.2.2 _ _ (by rintro (⟨z, -⟩ | ⟨-, z⟩ | ⟨z, -⟩ | ⟨z, -⟩ | z) <;> omega)]
          exact hR m hm q
        have hc' : hg H' (s + 8) Ks.length = c := by
          rw [ho.2.2 _ _ (by rintro (⟨z, -⟩ | ⟨z, -⟩ | ⟨-, z⟩ | ⟨z, -⟩ | z) <;> omega)]
          exact hc
        have hk' : hg H' s 13 = k := by
          rw [ho.2.2 _ _ (by rintro (⟨-, z | z⟩ | ⟨z, -⟩ | ⟨z, -⟩ | ⟨z, -⟩ | z) <;> omega)]
          exact hk
        have hKl' : lst H' (s + 9) 0 Ks := hKl.only ho (fun m hm => by rintro (⟨z, -⟩ | ⟨z, -⟩ | ⟨z, -⟩ | ⟨-, z⟩ | z) <;> omega)
        -- going on without this one
        have skip : ∀ H2, only H H2 (pPl s Ks.length) → ac H2 s W = ac H' s W → uA k (ac H' s W) (gK M r W n Ks.length used T c i) = ac H' s W → (-2147483648 ≤ (j : Int) + 1 ∧ (j : Int) + 1 ≤ 2147483647) ∧ AW l G mX5_place (d + 1) 0 0 (fun v H' => v = vV ∧ only H H' (pPl s Ks.length) ∧ ac H' s W = uA k (ac H s W) (lvs M r W (n + 1) Ks.length used T c)) 42 [vR s, vI Ks.length, vI used, vI (Ks.length - M 1), vI x4, vI (j + 1), vU, vU] [] 0 0 H2 := by
          intro H2 o2 e2 eu
          refine ⟨by omega, ihj H2 o2 ?_ (by rw [e2]; exact hle) (fun z => ?_)⟩
          · rw [hac, uA_app, eu, e2]
          · have g14 : hg H2 s 14 = hg H' s 14 := congrArg (fun a : Ac => a.2.1) e2
            have := hbg z
            rw [phi_app] at this
            have := phi_nn (p := pT) (gK M r W n Ks.length used T c i)
            rw [g14]
            omega
        have gno : ¬ okK M Ks.length used i → uA k (ac H' s W) (gK M r W n Ks.length used T c i) = ac H' s W := fun z => by
          rw [gK, pdec_f z]
          exact uA_nil
        refine s_X5_place_42 hE'.1 ?_
        rw [hE'.2.1.1, hE'.2.1.2.1, hv]
        refine ⟨fun q => absurd q (by omega), fun _ => ⟨by omega, by omega, fun q => skip H' ho rfl (gno (fun z => q z.1)), fun q => ⟨by omega, fun q2 => skip H' ho rfl (gno (fun z => by
            have := z.2
            unfold ab at this
            split at this <;> omega)), fun q2 => ?_⟩⟩⟩
        -- it may stand here, but for the one that must
        have hge : (Ks.length : Int) - M 1 ≤ i := by
          refine Decidable.byContradiction fun z => hdue i hi.1 (by omega) q
        have hok : okK M Ks.length used i := ⟨q, by unfold ab; split <;> omega⟩
        have gyes : gK M r W n Ks.length used T c i = lv1 M r W n Ks.length used T c i := by rw [gK, if_pos (pdec_t hok)]
        have hK2 := isKs_snoc (t := tI M r W T i) hK hu hi q
        have hu2 := ior_lt hu (k := i) (by omega)
        have hl2 : (Ks ++ [i]).length + n = W.length := by rw [List.length_append]; simp; omega
        have hf := hW _ (wAt_mem hi)
        have hbM := baseM_in hM (r := r) hf
        have ht : 0 ≤ tI M r W T i ∧ tI M r W T i ≤ 300000 + 600 * Ks.length + 600 := tmA_in hM (b := baseM M r (wAt W i)) (B := 300000 + 600 * Ks.length) hf (by omega) hT
        have hco := hM.cost hf (t := tI M r W T i) (by omega)
        have go : (¬ i = (Ks.length : Int) - M 1 → x4 = 0) → CL l G mX5_put d 0 0 [vR s, vI i, vI Ks.length, vI used] H' (fun r9 H1 => Lay LSea H1 s ∧ ∃ y1 : Int, r9 = vJ y1 ∧ (hg H1 s 12 < y1 → (-2147483648 ≤ (j : Int) + 1 ∧ (j : Int) + 1 ≤ 2147483647) ∧ AW l G mX5_place (d + 1) 0 0 (fun v H' => v = vV ∧ only H H' (pPl s Ks.length) ∧ ac H' s W = uA k (ac H s W) (lvs M r W (n + 1) Ks.length used T c)) 42 [vR s, vI Ks.length, vI used, vI (Ks.length - M 1), vI x4, vI (j + 1), vU, vU] [] 0 0 H1) ∧ (y1 ≤ hg H1 s 12 → (0 ≤ (Ks.length : Int) ∧ (Ks.length : Int) < 7) ∧ ∀ H2 : AH, H2 = hs H1 (s + 9) Ks.length i → (-2147483648 ≤ (Ks.length : Int) + 1 ∧ (Ks.length : Int) + 1 ≤ 2147483647) ∧ (0 ≤ i ∧ i ≤ 30) ∧ (0 ≤ used ∧ 0 ≤ pw i) ∧ CL l G mX5_place d 0 0 [vR s, vI (Ks.length + 1), vI (ior used (pw i))] H2 (fun r9 H3 => Lay LSea H3 s ∧ r9 = vV ∧ (-2147483648 ≤ (j : Int) + 1 ∧ (j : Int) + 1 ≤ 2147483647) ∧ AW l G mX5_place (d + 1) 0 0 (fun v H' => v = vV ∧ only H H' (pPl s Ks.length) ∧ ac H' s W = uA k (ac H s W) (lvs M r W (n + 1) Ks.length used T c)) 42 [vR s, vI Ks.length, vI used, vI (Ks.length - M 1), vI x4, vI (j + 1), vU, vU] [] 0 0 H3))) := by
          intro hx0
          refine CL.mono (k_put (B := 300000 + 600 * Ks.length) hE' hM hW hW7 hi (by omega) hu q hR' hT (by omega) hc' (by omega) (by omega)) ?_
          rintro r9 H1 ⟨rfl, o1, g8, hR1⟩
          have o1' : only H' H1 (pPl s Ks.length) := o1.mono (by
            rintro b m (⟨z1, z2⟩ | ⟨z1, z2⟩)
            · exact Or.inr (Or.inr (Or.inl ⟨z1, by omega⟩))
            · exact Or.inr (Or.inl ⟨z1, z2⟩))
          have ho1 := ho.trans o1'
          have hE1 := seO hE ho1 (pPl_nrf hE.1) pPl_off
          have a12 : hg H1 s 12 = hg H' s 12 := o1.2.2 _ _ (by rintro (⟨z, -⟩ | ⟨z, -⟩) <;> omega)
          have a14 : hg H1 s 14 = hg H' s 14 := o1.2.2 _ _ (by rintro (⟨z, -⟩ | ⟨z, -⟩) <;> omega)
          have a13 : hg H1 s 13 = k := (o1.2.2 _ _ (by rintro (⟨z, -⟩ | ⟨z, -⟩) <;> omega)).trans hk'
          have ac1 : ac H1 s W = ac H' s W := by
            unfold ac
            rw [a12, a14, rdL_congr (H' := H1) (H := H') fun m _ => o1.2.2 _ _ (by rintro (⟨z, -⟩ | ⟨z, -⟩) <;> omega)]
          refine ⟨hE1.1, _, rfl, fun z => skip H1 ho1 ac1 ?_, fun z => ⟨by omega, fun H2 e2 => ⟨by omega, by omega, ⟨hu.1, pw_nn _⟩, ?_⟩⟩⟩
          · rw [gyes]
            refine uA_none fun x hx => ?_
            have : c + costM M (wAt W i) (tI M r W T i) + lbS M r W (ior used (pw i)) (TI M r W T i) W.length ≤ x.1 := lvs_lb hM hW hW7 hK2 hl2 hu2 x hx
            show hg H' s 12 + 1 ≤ x.1
            rw [a12] at z
            omega
          · have o2 : only H1 H2 (pPl s Ks.length) := by rw [e2]; exact only.wr (Or.inr (Or.inr (Or.inr (Or.inl ⟨rfl, Int.le_refl _⟩))))
            have ho2 := ho1.trans o2
            have hE2 := seO hE ho2 (pPl_nrf hE.1) pPl_off
            have b12 : hg H2 s 12 = hg H' s 12 := by rw [e2, hg_ne _ (by omega)]; exact a12
            have b14 : hg H2 s 14 = hg H' s 14 := by rw [e2, hg_ne _ (by omega)]; exact a14
            have b13 : hg H2 s 13 = k := by rw [e2, hg_ne _ (by omega)]; exact a13
            have ac2 : ac H2 s W = ac H' s W := by
              rw [← ac1]
              unfold ac
              rw [b12, b14, a12, a14, rdL_congr (H' := H2) (H := H1) fun m _ => by rw [e2, hg_ne _ (by omega)]]
            have hlen2 : ((Ks ++ [i]).length : Int) = Ks.length + 1 := by rw [List.length_append]; simp
            have l2 : lst H2 (s + 9) 0 (Ks ++ [i]) := by
              refine lst.snoc ?_ ?_
              · intro m x hx
                have hm := (List.getElem?_eq_some_iff.mp hx).1
                rw [e2, hg_ne _ (by omega), o1.2.2 _ _ (by rintro (⟨z, -⟩ | ⟨z, -⟩) <;> omega)]
                exact hKl' m x hx
              · rw [Int.zero_add, e2, hg_same]
            have hR2 : RT H2 s M r W (ior used (pw i)) (TI M r W T i) (Ks ++ [i]).length := by
              rw [hlen2]
              intro m hm qm
              rw [e2, hg_ne _ (by omega)]
              exact hR1 m hm qm
            have hT2 : okT M (TI M r W T i) (300000 + 600 * ((Ks ++ [i]).length : Nat)) := by
              rw [hlen2]
              exact hT.snoc (by omega) hf (by omega)
            have g82 : hg H2 (s + 8) (Ks ++ [i]).length = c + costM M (wAt W i) (tI M r W T i) := by rw [hlen2, e2, hg_ne _ (by omega)]; exact g8
            have lb0 : 0 ≤ lbS M r W (ior used (pw i)) (TI M r W T i) W.length := by
              have := sm_in (f := lbK M r W (ior used (pw i)) (TI M r W T i)) (lo := 0) (hi := 5000000000) (n := W.length) (fun m hm => by
                have hT3 : okT M (TI M r W T i) (300000 + 600 * Ks.length + 600) := hT.snoc (by omega) hf ht
                exact lbK_in (r := r) hM hW hT3 (by omega) hm)
              unfold lbS
              omega
            have hle2 : hg H' s 12 + 1 ≤ hg H s 12 + 1 := hle
            have hdue2 : ∀ m : Int, 0 ≤ m → m + M 1 < (Ks ++ [i]).length → ¬ shr (ior used (pw i)) m % 2 = 0 := by
              intro m hm1 hm2 zz
              rw [hlen2] at hm2
              obtain ⟨z1, z2⟩ := (shr_ior hu.1 hi.1 hm1).mp zz
              by_cases em : m = (Ks.length : Int) - M 1
              · rcases hx4 with ⟨-, h4⟩ | ⟨h4, -⟩
                · exact h4 ⟨by omega, by rw [← em]; exact z2⟩
                · have : i = (Ks.length : Int) - M 1 := Decidable.byContradiction fun z3 => by have := hx0 z3; omega
                  exact z1 (by omega)
              · exact hdue m hm1 (by omega) z2
            have hbg2 : bigA k H2 s (lvs M r W n (Ks ++ [i]).length (ior used (pw i)) (TI M r W T i) (c + costM M (wAt W i) (tI M r W T i))) := fun zk => by
              have := hbg zk
              rw [phi_app, gyes] at this
              have h9 := phi_nn (p := pT) (((srt W).drop (j + 1)).flatMap (gK M r W n Ks.length used T c))
              have e9 : phi pT (lv1 M r W n Ks.length used T c i) = phi pT (lvs M r W n (Ks.length + 1) (ior used (pw i)) (TI M r W T i) (c + costM M (wAt W i) (tI M r W T i))) := rfl
              rw [e9] at this
              rw [b14, hlen2]
              omega
            have hgo := ih d H2 (ior used (pw i)) (c + costM M (wAt W i) (tI M r W T i)) (TI M r W T i) (Ks ++ [i]) hE2 b13 hK2 hl2 l2 hu2 hR2 hT2 g82 (by rw [hlen2]; omega) (by rw [b12]; rw [a12] at z; omega) (by rw [b12]; omega) hdue2 hbg2 (by omega)
            rw [hlen2] at hgo
            refine CL.mono hgo ?_
            rintro r9 H3 ⟨rfl, o3, ac3⟩
            have o3' : only H2 H3 (pPl s Ks.length) := o3.mono (by
              rintro b m (z1 | ⟨z1, z2⟩ | ⟨z1, z2⟩ | ⟨z1, z2⟩ | z1)
              · exact Or.inl z1
              · exact Or.inr (Or.inl ⟨z1, by omega⟩)
              · exact Or.inr (Or.inr (Or.inl ⟨z1, by omega⟩))
              · exact Or.inr (Or.inr (Or.inr (Or.inl ⟨z1, by omega⟩)))
              · exact Or.inr (Or.inr (Or.inr (Or.inr z1))))
            have ho3 := ho2.trans o3'
            have ac3' : ac H3 s W = uA k (ac H' s W) (gK M r W n Ks.length used T c i) := by rw [ac3, ac2, gyes]; rfl
            refine ⟨(seO hE ho3 (pPl_nrf hE.1) pPl_off).1, rfl, by omega, ihj H3 ho3 ?_ ?_ (fun zk => ?_)⟩
            · rw [hac, uA_app, ac3']
            · rw [ac3']; exact Int.le_trans uA_le hle
            · have := hbg zk
              rw [phi_app] at this
              have h14 : hg H3 s 14 = (uA k (ac H' s W) (gK M r W n Ks.length used T c i)).2.1 := congrArg (fun a : Ac => a.2.1) ac3'
              rw [uA, if_neg (by omega)] at h14
              have h9 := phi_le (p := fun x => decide (x.1 < (ac H' s W).1)) (gK M r W n Ks.length used T c i)
              have h8 := phi_nn (p := fun x => decide (x.1 < (ac H' s W).1)) (gK M r W n Ks.length used T c i)
              have e14 : (ac H' s W).2.1 = hg H' s 14 := rfl
              simp only [e14] at h14
              omega
        refine ⟨fun q3 => go (fun z => absurd q3 z), fun q3 => ⟨fun q4 => skip H' ho rfl ?_, fun q4 => go (fun _ => q4)⟩⟩
        rcases hx4 with ⟨h4, -⟩ | ⟨-, h4, h5⟩
        · exact absurd h4 q4
        · rw [gyes]
          unfold lv1
          rw [lvs_dead (k0 := (Ks.length : Int) - M 1) (by omega) hW7 hK2 hl2 hu2 ((shr_ior hu.1 hi.1 h4).mpr ⟨fun z => q3 z.symm, h5⟩) (by omega)]
          exact uA_nil
      · intro H' ho hac hle hbg
        have hE' := seO hE ho (pPl_nrf hE.1) pPl_off
        refine s_X5_place_42 hE'.1 ⟨fun _ => ⟨rfl, ho, ?_⟩, fun q => absurd q (by rw [hE'.2.1.1]; omega)⟩
        rw [hac, List.drop_eq_nil_of_le (by omega)]
        exact uA_nil.symm
    refine CL.of (by decide) rfl (Nat.le_of_ble_eq_true rfl) (s_X5_place_0 hE.1 ?_)
    rw [hE.2.1.1, hE.2.1.2.1]
    have st : ∀ x4 : Int, ((x4 = 0 ∧ ¬ (0 ≤ (Ks.length : Int) - M 1 ∧ shr used ((Ks.length : Int) - M 1) % 2 = 0)) ∨ (x4 = 1 ∧ 0 ≤ (Ks.length : Int) - M 1 ∧ shr used ((Ks.length : Int) - M 1) % 2 = 0)) → AW l G mX5_place (d + 1) 0 0 (fun v H' => v = vV ∧ only H H' (pPl s Ks.length) ∧ ac H' s W = uA k (ac H s W) (lvs M r W (n + 1) Ks.length used T c)) 42 [vR s, vI Ks.length, vI used, vI (Ks.length - M 1), vI x4, vI 0, vU, vU] [] 0 0 H := fun x4 hx4 => loop x4 hx4 0 (Nat.zero_le _) H only.rf (by rw [List.drop_zero, lvs_gK]) (Int.le_refl _) (by rw [List.drop_zero, ← lvs_gK]; exact hbig)
    refine ⟨fun _ => ⟨by omega, fun q => st 0 (Or.inl ⟨rfl, fun z => by omega⟩), fun q => ⟨by omega, fun q2 => st 0 (Or.inl ⟨rfl, fun z => q2 z.2⟩), fun q2 => st 1 (Or.inr ⟨rfl, q, q2⟩)⟩⟩, fun q => absurd q (by omega)⟩
end
