/-! the reference's plans -/
section
variable {l : Launch} {G : GT}
def pTry (a : Int) : Int → Int → Prop := fun b _ => b = a + 12 ∨ b = a + 13
theorem pTry_nrf {H : AH} {a : Int} (hL : Lay LMod H a) : ∀ c i, pTry a c i → nrf H c i := by
  rintro c i (rfl | rfl)
  · exact nrf_arr (kMod_12 hL) (by decide) (by decide)
  · exact nrf_arr (kMod_13 hL) (by decide) (by decide)
theorem c_laysTimes {d : Nat} {H : AH} {a r q : Int} {M : Row} {L : List Int} (hL : Lay LMod H a) (hA : Lay (LArr 10 72) H q) (hq : q ≠ a + 12 ∧ q ≠ a + 13) (hrow : rowM H a = M) (hM : okM M) (hr : 0 ≤ r ∧ r < 3) (hm : hg H (a + 7) r = L.length) (hl : lst H q (24 * r) L) (hC : ∀ x ∈ L, 0 ≤ x ∧ x < M 6) (hlen : L.length ≤ 24) (hb : ∀ x ∈ L, hg H (a + 11) x = baseM M r x) (hd : 4 ≤ d) :
    CL l G mX8_laysTimes d 0 0 [vR a, vI r, vR q] H (fun v H' => v = vJ (csum M (tmS M r [] L)) ∧ only H H' (pTry a) ∧ lst H' (a + 12) 0 ((tmS M r [] L).map Prod.fst) ∧ lst H' (a + 13) 0 ((tmS M r [] L).map Prod.snd)) := by
  obtain ⟨d, rfl⟩ : ∃ k, d = k + 1 := ⟨d - 1, by omega⟩
  have hn := okM_n hM
  refine CL.of (by decide) rfl (Nat.le_of_ble_eq_true rfl) ?_
  have key : ∀ k, k ≤ L.length → ∀ H', only H H' (pTry a) → lst H' (a + 12) 0 ((tmS M r [] (L.take k)).map Prod.fst) → lst H' (a + 13) 0 ((tmS M r [] (L.take k)).map Prod.snd) → AW l G mX8_laysTimes (d + 1) 0 0 (fun v H' => v = vJ (csum M (tmS M r [] L)) ∧ only H H' (pTry a) ∧ lst H' (a + 12) 0 ((tmS M r [] L).map Prod.fst) ∧ lst H' (a + 13) 0 ((tmS M r [] L).map Prod.snd)) 5 [vR a, vI r, vR q, vJ (csum M (tmS M r [] (L.take k))), vU, vI k, vU] [] 0 0 H' := by
    refine upN _ ?_ ?_
    · intro k hk ih H' ho h1 h2
      have hL' := hL.only ok_Mod ho (pTry_nrf hL)
      have hA' := hA.only ok_Arr ho (pTry_nrf hL)
      have hrw : rowM H' a = M := (rowM_only ho (fun _ q => by rcases q with q | q <;> omega)).trans hrow
      have hm' : hg H' (a + 7) r = L.length := (ho.2.2 _ _ (fun q => by rcases q with q | q <;> omega)).trans hm
      have hv : hg H' q (24 * r + k) = L[k] := (ho.2.2 _ _ (fun q9 => by rcases q9 with q9 | q9; exact hq.1 q9; exact hq.2 q9)).trans (hl.at hk)
      have hf := hC _ (List.getElem_mem hk)
      have htl : (tmS M r [] (L.take k)).length = k := by rw [tmS_len, List.length_take]; simp; omega
      have hT : okT M (tmS M r [] (L.take k)) (300000 + 600 * (0 + (L.take k).length : Nat)) := tmS_ok hM _ [] (fun x hx => hC x (List.mem_of_mem_take hx)) (fun p hp => by cases hp)
      rw [List.length_take, Nat.min_eq_left (Nat.le_of_lt hk)] at hT
      have hbf := baseM_in hM (r := r) hf
      have ht := tmA_in hM (b := baseM M r L[k]) (B := 300000 + 600 * (0 + k : Nat)) hf (by omega) hT
      have hcost := hM.cost hf (t := tmA M (baseM M r L[k]) (tmS M r [] (L.take k)) L[k]) (by omega)
      have hcs := csum_in hM hT (by omega)
      rw [htl] at hcs
      have hb' : hg H' (a + 11) L[k] = baseM M r L[k] := (ho.2.2 _ _ (fun q => by rcases q with q | q <;> omega)).trans (hb _ (List.getElem_mem hk))
      have estep : tmS M r [] (L.take (k + 1)) = tmS M r [] (L.take k) ++ [(L[k], tmA M (baseM M r L[k]) (tmS M r [] (L.take k)) L[k])] := by
        rw [List.take_succ_eq_append_getElem hk, tmS_app]
        rfl
      refine s_X8_laysTimes_5 hL' hA' ⟨hr, fun c => absurd c (by rw [hm']; omega), fun c => ⟨by omega, by omega, by omega, ?_⟩⟩
      rw [hv]
      have hct := c_timeAt (l := l) (G := G) (d := d) hL' hrw hM hf h1 h2 hT (by omega) (by rw [htl]; omega) (by omega)
      rw [htl] at hct
      refine CL.mono hct ?_
      rintro r9 H1 ⟨rfl, e1⟩
      rw [hb']
      refine ⟨by rw [e1]; exact hL', by rw [e1]; exact hA', _, rfl, by omega, fun H2 e2 H3 e3 => ?_⟩
      have ho3 : only H H3 (pTry a) := by rw [e3, e2, e1]; exact (ho.then (Or.inr rfl)).then (Or.inl rfl)
      have hrw3 : rowM H3 a = M := (rowM_only ho3 (fun _ q => by rcases q with q | q <;> omega)).trans hrow
      have e13 : hg H3 (a + 13) k = tmA M (baseM M r L[k]) (tmS M r [] (L.take k)) L[k] := by rw [e3, hg_ne H2 (Or.inl (by omega)), e2, hg_same]
      have e12 : hg H3 (a + 12) k = L[k] := by rw [e3, hg_same]
      rw [e13, hrw3]
      refine ⟨hM, hf, by omega, by omega, by omega, ?_⟩
      have := ih H3 ho3 (by
        rw [estep, List.map_append]
        refine lst.snoc ?_ ?_
        · intro i x hx
          have hi := (List.getElem?_eq_some_iff.mp hx).1
          rw [List.length_map, htl] at hi
          rw [e3, hg_ne H2 (Or.inr (by omega)), e2, hg_ne H1 (Or.inl (by omega)), e1]
          exact h1 i x hx
        · rw [List.length_map, htl, Int.zero_add]
          exact e12) (by
        rw [estep, List.map_append]
        refine lst.snoc ?_ ?_
        · intro i x hx
          have hi := (List.getElem?_eq_some_iff.mp hx).1
          rw [List.length_map, htl] at hi
          rw [e3, hg_ne H2 (Or.inl (by omega)), e2, hg_ne H1 (Or.inr (by omega)), e1]
          exact h2 i x hx
        · rw [List.length_map, htl, Int.zero_add]
          exact e13)
      rw [estep, csum_snoc] at this
      exact this
    · intro H' ho h1 h2
      have hL' := hL.only ok_Mod ho (pTry_nrf hL)
      have hA' := hA.only ok_Arr ho (pTry_nrf hL)
      have hm' : hg H' (a + 7) r = L.length := (ho.2.2 _ _ (fun q => by rcases q with q | q <;> omega)).trans hm
      rw [List.take_length] at h1 h2 ⊢
      exact s_X8_laysTimes_5 hL' hA' ⟨hr, fun _ => ⟨rfl, ho, h1, h2⟩, fun c => absurd c (by rw [hm']; omega)⟩
  exact s_X8_laysTimes_0 hL hA (key 0 (Nat.zero_le _) H only.rf (by intro k x hx; simp [tmS] at hx) (by intro k x hx; simp [tmS] at hx))
/-- what makesPlan writes -/
def pMake (a r : Int) (C : List Int) : Int → Int → Prop := fun b i => pCome a r b i ∨ b = a + 11 ∨ pGoes a r 0 b i ∨ (b = a + 10 ∧ i ∈ C) ∨ pTry a b i
theorem pMake_nrf {H : AH} {a r : Int} {C : List Int} (hL : Lay LMod H a) : ∀ c i, pMake a r C c i → nrf H c i := by
  rintro c i (h | rfl | h | ⟨rfl, -⟩ | h)
  · exact pCome_nrf hL c i h
  · exact nrf_arr (kMod_11 hL) (by decide) (by decide)
  · exact pGoes_nrf hL c i h
  · exact nrf_arr (kMod_10 hL) (by decide) (by decide)
  · exact pTry_nrf hL c i h
theorem pMake_1 {a r i : Int} {C : List Int} : ¬ pMake a r C (a + 1) i := by
  rintro (h | h | h | ⟨h, -⟩ | h)
  · exact pCome_1 h
  · omega
  · exact pGoes_no (by omega) (by omega) (by omega) (by omega) h
  · omega
  · rcases h with h | h <;> omega
/-- the plan of one runway stands -/
def MadeR (H : AH) (a : Int) (M : Row) (r : Int) : Prop := hg H (a + 7) r = (comeL M r).length ∧ lst H (a + 8) (24 * r) (comeL M r) ∧ lst H (a + 9) (24 * r) (planL M r) ∧ ∀ p ∈ tmS M r [] (planL M r), hg H (a + 10) p.1 = p.2
/-- the rest of the order behind the window -/
theorem plan_rest {d : Nat} {Q : AV → AH → Prop} {H0 : AH} {a r : Int} {C B : List Int} (hL0 : Lay LMod H0 a) (hr : 0 ≤ r ∧ r < 3) (hlen : C.length ≤ 24) (hB : B.length = (C.take 7).length) (hd : 1 ≤ d) (hm : hg H0 (a + 7) r = C.length) (hl : lst H0 (a + 8) (24 * r) C)
    (hq : ∀ H', only H0 H' (fun b i => b = a + 9 ∧ 24 * r ≤ i ∧ i < 24 * r + 24) → lst H' (a + 9) (24 * r) (B ++ C.drop 7) → CL l G mX8_laysTimes d 0 0 [vR a, vI r, vR (a + 9)] H' (fun r9 H1 => Lay LMod H1 a ∧ ∃ y1 : Int, r9 = vJ y1 ∧ AW l G mX8_makesPlan (d + 1) 0 0 Q 85 [vR a, vI r, vI 0] [] 0 0 H1)) :
    ∀ k, k ≤ C.length → (C.take 7).length ≤ k → ∀ H', only H0 H' (fun b i => b = a + 9 ∧ 24 * r ≤ i ∧ i < 24 * r + 24) → lst H' (a + 9) (24 * r) (B ++ (C.drop 7).take (k - (C.take 7).length)) → AW l G mX8_makesPlan (d + 1) 0 0 Q 35 [vR a, vI r, vI k] [] 0 0 H' := by
  have hnr : ∀ c i, (fun b i => b = a + 9 ∧ 24 * r ≤ i ∧ i < 24 * r + 24) c i → nrf H0 c i := fun c i h => by
    obtain ⟨rfl, -⟩ := h
    exact nrf_arr (kMod_9 hL0) (by decide) (by decide)
  refine upN _ ?_ ?_
  · intro k hk ih hk7 H' ho hp
    have hL' := hL0.only ok_Mod ho hnr
    have hm' : hg H' (a + 7) r = C.length := (ho.2.2 _ _ (fun q => by have := q.1; omega)).trans hm
    have hv : hg H' (a + 8) (24 * r + k) = C[k] := (ho.2.2 _ _ (fun q => by have := q.1; omega)).trans (hl.at hk)
    refine s_X8_makesPlan_35 hL' ⟨hr, fun c => absurd c (by rw [hm']; omega), fun c => ⟨by omega, by omega, by omega, fun H1 e1 => ⟨by omega, ?_⟩⟩⟩
    rw [hv] at e1
    refine ih (by omega) H1 (by rw [e1]; exact ho.then ⟨rfl, by omega, by omega⟩) ?_
    have h7 : (C.take 7).length = 7 := by
      rw [List.length_take] at hk7 ⊢
      omega
    have hd7 : k - 7 < (C.drop 7).length := by rw [List.length_drop]; omega
    have e9 : (C.drop 7)[k - 7] = C[k] := by
      rw [List.getElem_drop]
      congr 1
      omega
    rw [h7] at hp ⊢
    rw [show k + 1 - 7 = (k - 7) + 1 by omega, List.take_succ_eq_append_getElem hd7, e9, ← List.append_assoc]
    refine lst.snoc ?_ ?_
    · intro i x hx
      have hi := (List.getElem?_eq_some_iff.mp hx).1
      rw [List.length_append, List.length_take] at hi
      rw [e1, hg_ne H' (Or.inr (by omega))]
      exact hp i x hx
    · rw [List.length_append, List.length_take, e1]
      rw [show (24 * r + ((B.length + min (k - 7) (C.drop 7).length : Nat) : Int)) = 24 * r + k by rw [hB, h7]; omega, hg_same]
  · intro hk7 H' ho hp
    have hL' := hL0.only ok_Mod ho hnr
    have hm' : hg H' (a + 7) r = C.length := (ho.2.2 _ _ (fun q => by have := q.1; omega)).trans hm
    refine s_X8_makesPlan_35 hL' ⟨hr, fun _ => hq H' ho ?_, fun c => absurd c (by rw [hm']; omega)⟩
    have : (C.drop 7).take (C.length - (C.take 7).length) = C.drop 7 := by
      refine List.take_of_length_le ?_
      rw [List.length_drop, List.length_take]
      omega
    rw [this] at hp
    exact hp
/-- the times are laid by flight -/
theorem plan_times {d : Nat} {Q : AV → AH → Prop} {H0 : AH} {a r : Int} {T : List (Int × Int)} (hL0 : Lay LMod H0 a) (hr : 0 ≤ r ∧ r < 3) (hlen : T.length ≤ 24) (hd : 1 ≤ d) (hm : hg H0 (a + 7) r = T.length) (h1 : lst H0 (a + 12) 0 (T.map Prod.fst)) (h2 : lst H0 (a + 13) 0 (T.map Prod.snd)) (hR : ∀ p ∈ T, 0 ≤ p.1 ∧ p.1 < 24) (hnd : (T.map Prod.fst).Nodup)
    (hq : ∀ H', only H0 H' (fun b i => b = a + 10 ∧ i ∈ T.map Prod.fst) → (∀ p ∈ T, hg H' (a + 10) p.1 = p.2) → Q vV H') :
    ∀ k, k ≤ T.length → ∀ H', only H0 H' (fun b i => b = a + 10 ∧ i ∈ T.map Prod.fst) → (∀ p ∈ T.take k, hg H' (a + 10) p.1 = p.2) → AW l G mX8_makesPlan (d + 1) 0 0 Q 85 [vR a, vI r, vI k] [] 0 0 H' := by
  have hnr : ∀ c i, (fun b i => b = a + 10 ∧ i ∈ T.map Prod.fst) c i → nrf H0 c i := fun c i h => by
    obtain ⟨rfl, -⟩ := h
    exact nrf_arr (kMod_10 hL0) (by decide) (by decide)
  refine upN _ ?_ ?_
  · intro k hk ih H' ho hp
    have hL' := hL0.only ok_Mod ho hnr
    have hm' : hg H' (a + 7) r = T.length := (ho.2.2 _ _ (fun q => by have := q.1; omega)).trans hm
    have hpk := hR _ (List.getElem_mem hk)
    have e1 : hg H' (a + 12) k = T[k].1 := by
      have := h1 k T[k].1 (by rw [List.getElem?_map, List.getElem?_eq_getElem hk]; rfl)
      rw [Int.zero_add] at this
      exact (ho.2.2 _ _ (fun q => by have := q.1; omega)).trans this
    have e2 : hg H' (a + 13) k = T[k].2 := by
      have := h2 k T[k].2 (by rw [List.getElem?_map, List.getElem?_eq_getElem hk]; rfl)
      rw [Int.zero_add] at this
      exact (ho.2.2 _ _ (fun q => by have := q.1; omega)).trans this
    refine s_X8_makesPlan_85 hL' ⟨hr, fun c => absurd c (by rw [hm']; omega), fun c => ⟨by omega, by rw [e1]; exact hpk, fun H1 e3 => ⟨by omega, ?_⟩⟩⟩
    rw [e1, e2] at e3
    refine ih H1 (by rw [e3]; exact ho.then ⟨rfl, List.mem_map.mpr ⟨_, List.getElem_mem hk, rfl⟩⟩) ?_
    intro p hp9
    rw [List.take_succ_eq_append_getElem hk] at hp9
    rcases List.mem_append.mp hp9 with hp9 | hp9
    · have hne : p.1 ≠ T[k].1 := by
        obtain ⟨i, hi, hpi⟩ := List.getElem_of_mem hp9
        rw [List.length_take] at hi
        rw [List.getElem_take] at hpi
        have hpw := List.pairwise_iff_getElem.mp hnd i k (by rw [List.length_map]; omega) (by rw [List.length_map]; omega) (by omega)
        rw [List.getElem_map, List.getElem_map, hpi] at hpw
        exact hpw
      rw [e3, hg_ne H' (Or.inr hne)]
      exact hp p hp9
    · have : p = T[k] := by simpa using hp9
      rw [this, e3, hg_same]
  · intro H' ho hp
    have hL' := hL0.only ok_Mod ho hnr
    have hm' : hg H' (a + 7) r = T.length := (ho.2.2 _ _ (fun q => by have := q.1; omega)).trans hm
    rw [List.take_length] at hp
    exact s_X8_makesPlan_85 hL' ⟨hr, fun _ => hq H' ho hp, fun c => absurd c (by rw [hm']; omega)⟩
theorem c_makesPlan {d : Nat} {H : AH} {a r : Int} {M : Row} (hL : Lay LMod H a) (hrow : rowM H a = M) (hM : okM M) (hr : 0 ≤ r ∧ r < 3) (hd : 13 ≤ d) : CL l G mX8_makesPlan d 0 0 [vR a, vI r] H (fun v H' => v = vV ∧ only H H' (pMake a r (comeL M r)) ∧ MadeR H' a M r) := by
  obtain ⟨d, rfl⟩ : ∃ k, d = k + 1 := ⟨d - 1, by omega⟩
  have hn := okM_n hM
  have hC : ∀ x ∈ comeL M r, 0 ≤ x ∧ x < M 6 := fun x hx => ((comeL_mem hM).mp hx).1
  have hlen := comeL_len hM (r := r)
  have hnd : (comeL M r).Nodup := comeN_nodup
  have hw7 : ((comeL M r).take 7).length ≤ 7 := by rw [List.length_take]; omega
  obtain ⟨pp1, pp2, pp3⟩ := planL_perm hM (r := r)
  refine CL.of (by decide) rfl (Nat.le_of_ble_eq_true rfl) (s_X8_makesPlan_0 hL (CL.mono (c_laysCome hL hrow hM hr (by omega)) ?_))
  rintro r9 H1 ⟨rfl, o1, m1, l1⟩
  have L1 := hL.only ok_Mod o1 (pCome_nrf hL)
  have w1 : rowM H1 a = M := (rowM_only o1 (fun _ => pCome_1)).trans hrow
  refine ⟨L1, rfl, CL.mono (c_laysBase L1 w1 hM hr m1 l1 hC hlen (by omega)) ?_⟩
  rintro r9 H2 ⟨rfl, o2, b2⟩
  have nr2 : ∀ c i, (fun (b : Int) (_ : Int) => b = a + 11) c i → nrf H1 c i := fun c i h => by
    have h : c = a + 11 := h
    subst h
    exact nrf_arr (kMod_11 L1) (by decide) (by decide)
  have L2 := L1.only ok_Mod o2 nr2
  have w2 : rowM H2 a = M := (rowM_only o2 (fun _ (q : a + 1 = a + 11) => by omega)).trans w1
  refine ⟨L2, rfl, fun H3 e3 => ?_⟩
  have o3 : only H2 H3 (pGoes a r 0) := by rw [e3]; exact only.wr (Or.inr (Or.inr ⟨rfl, rfl⟩))
  have E2 : GE H2 a r M (comeL M r) := ⟨L2, w2, (o2.2.2 _ _ (fun (q : a + 7 = a + 11) => by omega)).trans m1, l1.only o2 (fun _ _ (q : a + 8 = a + 11) => by omega), b2⟩
  have E3 := E2.only o3
  have hg0 := c_goes (l := l) (G := G) hM hr hC hnd ((comeL M r).take 7).length d H3 0 [] 0 E3 (by simp) (by intro k x hx; simp at hx) (by intro k x hx; simp at hx) (fun p hp => by cases hp) ⟨by omega, by omega⟩ ⟨by omega, by simp⟩ (by omega)
  refine CL.mono hg0 ?_
  rintro r9 H4 ⟨rfl, o4, b4⟩
  have E4 := E3.only o4
  refine ⟨E4.1, rfl, hr, ?_⟩
  -- the best of the window
  have hbest : (hg H4 a 21, rdL H4 (a + 9) (24 * r) ((comeL M r).take 7).length) = bestW M r := by
    rw [b4, e3, hg_same]
    obtain ⟨-, lf, h1, h2, -⟩ := bestW_leaf hM (r := r)
    exact bestOf_two ⟨lf, h1, h2, h2⟩
  have hB : rdL H4 (a + 9) (24 * r) ((comeL M r).take 7).length = (bestW M r).2 := congrArg Prod.snd hbest
  have hBl : (bestW M r).2.length = ((comeL M r).take 7).length := by rw [← hB, rdL_len]
  have hmin : min 7 (hg H4 (a + 7) r) = ((comeL M r).take 7).length := by
    have := win_len (comeL M r)
    rw [E4.2.2.1]
    omega
  rw [hmin]
  refine plan_rest (C := comeL M r) (B := (bestW M r).2) E4.1 hr hlen hBl (by omega) E4.2.2.1 E4.2.2.2.1 (fun H5 o5 l5 => ?_) _ (by rw [List.length_take]; omega) (Nat.le_refl _) H4 only.rf ?_
  · have nr5 : ∀ c i, (fun b i => b = a + 9 ∧ 24 * r ≤ i ∧ i < 24 * r + 24) c i → nrf H4 c i := fun c i h => by
      obtain ⟨rfl, -⟩ := h
      exact nrf_arr (kMod_9 E4.1) (by decide) (by decide)
    have o5' : only H4 H5 (pGoes a r 0) := o5.mono fun b i q => Or.inr (Or.inl q)
    have E5 := E4.only o5'
    have l5 : lst H5 (a + 9) (24 * r) (planL M r) := l5
    refine CL.mono (c_laysTimes (L := planL M r) E5.1 (sA_Mod_9 E5.1) ⟨by omega, by omega⟩ E5.2.1 hM hr (by rw [pp2]; exact E5.2.2.1) l5 (fun x hx => hC x ((pp3 x).mp hx)) (by omega) (fun x hx => E5.2.2.2.2 x ((pp3 x).mp hx)) (by omega)) ?_
    rintro r9 H6 ⟨rfl, o6, f6, s6⟩
    have L6 := E5.1.only ok_Mod o6 (pTry_nrf E5.1)
    refine ⟨L6, _, rfl, ?_⟩
    have htl : (tmS M r [] (planL M r)).length = (comeL M r).length := by rw [tmS_len, pp2]; simp
    have hfst : (tmS M r [] (planL M r)).map Prod.fst = planL M r := by rw [tmS_fst]; rfl
    have m6 : hg H6 (a + 7) r = (tmS M r [] (planL M r)).length := by rw [htl]; exact (o6.2.2 _ _ (fun q => by rcases q with q | q <;> omega)).trans E5.2.2.1
    refine plan_times (T := tmS M r [] (planL M r)) L6 hr (by omega) (by omega) m6 f6 s6 (fun p hp => ?_) (by rw [hfst]; exact pp1) (fun H7 o7 t7 => ?_) 0 (Nat.zero_le _) H6 only.rf (fun p hp => by simp at hp)
    · have : p.1 ∈ planL M r := by rw [← hfst]; exact List.mem_map.mpr ⟨p, hp, rfl⟩
      have := hC _ ((pp3 _).mp this)
      omega
    · rw [hfst] at o7
      have f67 : ∀ b i, b ≠ a + 10 → hg H7 b i = hg H6 b i := fun b i q => o7.2.2 b i (fun q2 => q q2.1)
      have f57 : ∀ b i, b ≠ a + 10 → b ≠ a + 12 → b ≠ a + 13 → hg H7 b i = hg H5 b i := fun b i q q1 q2 => (f67 b i q).trans (o6.2.2 b i (fun q3 => by rcases q3 with q3 | q3; exact q1 q3; exact q2 q3))
      refine ⟨rfl, ?_, ?_, ?_, ?_, t7⟩
      · have c1 : only H H1 (pMake a r (comeL M r)) := o1.mono fun b i q => Or.inl q
        have c2 : only H1 H2 (pMake a r (comeL M r)) := o2.mono fun b i q => Or.inr (Or.inl q)
        have c3 : only H2 H3 (pMake a r (comeL M r)) := o3.mono fun b i q => Or.inr (Or.inr (Or.inl q))
        have c4 : only H3 H4 (pMake a r (comeL M r)) := o4.mono fun b i q => Or.inr (Or.inr (Or.inl (by simpa using q)))
        have c5 : only H4 H5 (pMake a r (comeL M r)) := o5'.mono fun b i q => Or.inr (Or.inr (Or.inl q))
        have c6 : only H5 H6 (pMake a r (comeL M r)) := o6.mono fun b i q => Or.inr (Or.inr (Or.inr (Or.inr q)))
        have c7 : only H6 H7 (pMake a r (comeL M r)) := o7.mono fun b i q => Or.inr (Or.inr (Or.inr (Or.inl ⟨q.1, (pp3 i).mp q.2⟩)))
        exact (((((c1.trans c2).trans c3).trans c4).trans c5).trans c6).trans c7
      · rw [f57 _ _ (by omega) (by omega) (by omega)]; exact E5.2.2.1
      · intro k x hx
        rw [f57 _ _ (by omega) (by omega) (by omega)]
        exact E5.2.2.2.1 k x hx
      · intro k x hx
        rw [f57 _ _ (by omega) (by omega) (by omega)]
        exact l5 k x hx
  · rw [Nat.sub_self, List.take_zero, List.append_nil, ← hB]
    exact lst_rdL
end
