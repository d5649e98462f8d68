/-! the reference's planning: first-come order, bases, times -/
section
variable {l : Launch} {G : GT} {d : Nat}
theorem c_laysCome {H : AH} {a r : Int} {M : Row} (hL : Lay LMod H a) (hrow : rowM H a = M) (hM : okM M) (hr : 0 ≤ r ∧ r < 3) (hd : 3 ≤ d) : CL l G mX8_laysCome d 0 0 [vR a, vI r] H (fun v H' => v = vV ∧ only H H' (pCome a r) ∧ hg H' (a + 7) r = (comeL M r).length ∧ lst H' (a + 8) (24 * r) (comeL M r)) := by
  obtain ⟨d, rfl⟩ : ∃ k, d = k + 1 := ⟨d - 1, by omega⟩
  have hn := okM_n hM
  refine CL.of (by decide) rfl (Nat.le_of_ble_eq_true rfl) ?_
  have key : ∀ j, j ≤ (M 6).toNat → ∀ H', only H H' (pCome a r) → hg H' (a + 7) r = (comeN M r j).length → lst H' (a + 8) (24 * r) (comeN M r j) → AW l G mX8_laysCome (d + 1) 0 0 (fun v H' => v = vV ∧ only H H' (pCome a r) ∧ hg H' (a + 7) r = (comeL M r).length ∧ lst H' (a + 8) (24 * r) (comeL M r)) 9 [vR a, vI r, vI j, vU] [] 0 0 H' := by
    refine upN _ ?_ ?_
    · intro j hj ih H' ho hm hl
      have hL' := hL.only ok_Mod ho (pCome_nrf hL)
      have hrw := (rowM_only ho (fun _ => pCome_1)).trans hrow
      have hle := comeN_len (M := M) (r := r) (n := j)
      refine s_X8_laysCome_9 hL' ⟨fun c => absurd c (by rw [hrw]; omega), fun c => ⟨by omega, fun c2 => ⟨hr, ?_⟩, fun c2 => ⟨by omega, ?_⟩⟩⟩
      · rw [hm]
        rw [hrw] at c2
        refine laysCome_in (M := M) (by omega) hL hM hrow hr j (by omega) (comeN M r j) hle ?_ (fun H2 ho2 hm2 hl2 => ?_) _ H' (Nat.le_refl _) ho hm ?_ ?_ ?_
        · intro x hx
          obtain ⟨i, h1, rfl, -⟩ := comeN_mem.mp hx
          omega
        · refine ih H2 ho2 ?_ ?_
          · rw [comeN, if_pos c2, insF_len, hm2]; rfl
          · rw [comeN, if_pos c2]; exact hl2
        · intro i _ x hx
          exact hl i x hx
        · intro i hi x hx
          have := (List.getElem?_eq_some_iff.mp hx).1
          omega
        · intro g hg'
          rw [List.drop_length] at hg'
          cases hg'
      · rw [hrw] at c2
        refine ih H' ho ?_ ?_
        · rw [comeN, if_neg c2]; exact hm
        · rw [comeN, if_neg c2]; exact hl
    · intro H' ho hm hl
      have hL' := hL.only ok_Mod ho (pCome_nrf hL)
      have hrw := (rowM_only ho (fun _ => pCome_1)).trans hrow
      exact s_X8_laysCome_9 hL' ⟨fun _ => ⟨rfl, ho, hm, hl⟩, fun c => absurd c (by rw [hrw]; omega)⟩
  refine s_X8_laysCome_0 hL ⟨hr, fun H1 e1 => key 0 (Nat.zero_le _) H1 ?_ ?_ ?_⟩
  · rw [e1]; exact only.wr (Or.inl ⟨rfl, rfl⟩)
  · rw [e1, hg_same]; rfl
  · intro k x hx; simp [comeN] at hx
/-- the bases of those that are planned -/
theorem laysBase_in {Q : AV → AH → Prop} {H : AH} {a r : Int} {M : Row} (hd : 2 ≤ d) (hL : Lay LMod H a) (hrow : rowM H a = M) (hM : okM M) (hr : 0 ≤ r ∧ r < 3) {j f : Int} (hf : 0 ≤ f ∧ f < M 6) (hj : 0 ≤ j ∧ j < 24)
    (hk : ∀ H1, H1 = hs H (a + 11) f (baseM M r f) → AW l G mX8_laysBase (d + 1) 0 0 Q 2 [vR a, vI r, vI (j + 1), vU, vU, vU] [] 0 0 H1) : ∀ i, i ≤ (M 6).toNat → AW l G mX8_laysBase (d + 1) 0 0 Q 44 [vR a, vI r, vI j, vI f, vI (baseN M r f i), vI i] [] 0 0 H := by
  have hn := okM_n hM
  refine upN _ ?_ ?_
  · intro i hi ih
    have hfi := hM.2 i (by omega) (by omega)
    obtain ⟨-, hc1, -, -, -, -, -, -, h8, -⟩ := id hfi
    have hcf := (okF_123 hM hf).1
    have ha := hM.apart (f := i) (g := f) ⟨by omega, by omega⟩ hf
    have go : ∀ x, baseN M r f (i + 1) = x → AW l G mX8_laysBase (d + 1) 0 0 Q 44 [vR a, vI r, vI j, vI f, vI x, vI (i + 1)] [] 0 0 H := fun x hx => by rw [← hx]; exact ih
    refine s_X8_laysBase_44 hL ⟨fun c => absurd c (by rw [hrow]; omega), fun c => ⟨by omega, fun c1 => ?_, fun c1 => ⟨fun c2 => ⟨by omega, go _ ?_⟩, fun c2 => ?_⟩⟩⟩
    · rw [hrow] at c1 ⊢
      have := h8 (Or.inl c1.1)
      exact ⟨by omega, hc1, hcf, by omega, by omega, go _ (by rw [baseN, if_pos ⟨Or.inl c1.1, c1.2⟩])⟩
    · rw [hrow] at c1 c2
      rw [baseN, if_neg]
      rintro ⟨q1 | q1, q2⟩
      · exact c1 ⟨q1, q2⟩
      · exact c2 ⟨q1, q2⟩
    · rw [hrow] at c2 ⊢
      have := h8 (Or.inr c2.1)
      exact ⟨by omega, hc1, hcf, by omega, by omega, go _ (by rw [baseN, if_pos ⟨Or.inr c2.1, c2.2⟩])⟩
  · refine s_X8_laysBase_44 hL ⟨fun c => ⟨by omega, fun H1 e1 => ⟨by omega, hk H1 e1⟩⟩, fun c => absurd c (by rw [hrow]; omega)⟩
theorem c_laysBase {H : AH} {a r : Int} {M : Row} {C : List Int} (hL : Lay LMod H a) (hrow : rowM H a = M) (hM : okM M) (hr : 0 ≤ r ∧ r < 3) (hm : hg H (a + 7) r = C.length) (hl : lst H (a + 8) (24 * r) C) (hC : ∀ x ∈ C, 0 ≤ x ∧ x < M 6) (hlen : C.length ≤ 24) (hd : 3 ≤ d) : CL l G mX8_laysBase d 0 0 [vR a, vI r] H (fun v H' => v = vV ∧ only H H' (fun b _ => b = a + 11) ∧ ∀ x ∈ C, hg H' (a + 11) x = baseM M r x) := by
  obtain ⟨d, rfl⟩ : ∃ k, d = k + 1 := ⟨d - 1, by omega⟩
  have hn := okM_n hM
  refine CL.of (by decide) rfl (Nat.le_of_ble_eq_true rfl) ?_
  have hnr : ∀ c i, (fun (b : Int) (_ : Int) => b = a + 11) c i → nrf H c i := fun c i h => by
    have h : c = a + 11 := h
    subst h
    exact nrf_arr (kMod_11 hL) (by decide) (by decide)
  have key : ∀ j, j ≤ C.length → ∀ H', only H H' (fun b _ => b = a + 11) → (∀ (i : Nat) (x : Int), i < j → C[i]? = some x → hg H' (a + 11) x = baseM M r x) → AW l G mX8_laysBase (d + 1) 0 0 (fun v H' => v = vV ∧ only H H' (fun b _ => b = a + 11) ∧ ∀ x ∈ C, hg H' (a + 11) x = baseM M r x) 2 [vR a, vI r, vI j, vU, vU, vU] [] 0 0 H' := by
    refine upN _ ?_ ?_
    · intro j hj ih H' ho hb
      have hL' := hL.only ok_Mod ho hnr
      have hrw : rowM H' a = M := (rowM_only ho (fun _ (q : a + 1 = a + 11) => by omega)).trans hrow
      have hm' : hg H' (a + 7) r = C.length := (ho.2.2 _ _ (fun q => by have : a + 7 = a + 11 := q; omega)).trans hm
      have hx := List.getElem?_eq_getElem hj
      have hv : hg H' (a + 8) (24 * r + j) = C[j] := (ho.2.2 _ _ (fun q => by have : a + 8 = a + 11 := q; omega)).trans (hl j _ hx)
      have hf := hC _ (List.getElem_mem hj)
      refine s_X8_laysBase_2 hL' ⟨hr, fun c => absurd c (by rw [hm']; omega), fun c => ⟨by omega, by omega, by omega, by rw [hv]; omega, ?_⟩⟩
      rw [hv, hrw]
      refine laysBase_in (M := M) (by omega) hL' hrw hM hr hf (by omega) (fun H1 e1 => ih H1 ?_ ?_) 0 (Nat.zero_le _)
      · rw [e1]; exact ho.then rfl
      · intro i x hi hxi
        by_cases hxf : x = C[j]
        · rw [hxf, e1, hg_same]
        · rw [e1, hg_ne H' (Or.inr hxf)]
          by_cases hij : i = j
          · subst hij
            rw [hx] at hxi
            cases hxi
            exact absurd rfl hxf
          · exact hb i x (by omega) hxi
    · intro H' ho hb
      have hL' := hL.only ok_Mod ho hnr
      have hm' : hg H' (a + 7) r = C.length := (ho.2.2 _ _ (fun q => by have : a + 7 = a + 11 := q; omega)).trans hm
      refine s_X8_laysBase_2 hL' ⟨hr, fun _ => ⟨rfl, ho, fun x hx => ?_⟩, fun c => absurd c (by rw [hm']; omega)⟩
      obtain ⟨i, hi, hxi⟩ := List.getElem_of_mem hx
      exact hb i x hi (by rw [← hxi]; exact List.getElem?_eq_getElem hi)
  exact s_X8_laysBase_0 hL (key 0 (Nat.zero_le _) H only.rf (fun i x hi _ => by omega))
theorem c_timeAt {H : AH} {a f : Int} {M : Row} {T : List (Int × Int)} {B : Int} (hL : Lay LMod H a) (hrow : rowM H a = M) (hM : okM M) (hf : 0 ≤ f ∧ f < M 6) (h1 : lst H (a + 12) 0 (T.map Prod.fst)) (h2 : lst H (a + 13) 0 (T.map Prod.snd)) (hT : okT M T B) (hB : B ≤ 400000) (hlen : T.length ≤ 24) (hd : 3 ≤ d) : CL l G mX8_timeAt d 0 0 [vR a, vI f, vI T.length] H (PQ (vI (tmA M (hg H (a + 11) f) T f)) H) := by
  obtain ⟨d, rfl⟩ : ∃ k, d = k + 1 := ⟨d - 1, by omega⟩
  have hn := okM_n hM
  have hcf := (okF_123 hM hf).1
  refine CL.of (by decide) rfl (Nat.le_of_ble_eq_true rfl) ?_
  have key : ∀ k, k ≤ T.length → AW l G mX8_timeAt (d + 1) 0 0 (PQ (vI (tmA M (hg H (a + 11) f) T f)) H) 10 [vR a, vI f, vI T.length, vI (tmA M (hg H (a + 11) f) (T.take k) f), vI k] [] 0 0 H := by
    refine upN _ ?_ ?_
    · intro k hk ih
      have hp := hT _ (List.getElem_mem hk)
      have e1 : hg H (a + 12) k = T[k].1 := by
        have := h1 k T[k].1 (by rw [List.getElem?_map, List.getElem?_eq_getElem hk]; rfl)
        rwa [Int.zero_add] at this
      have e2 : hg H (a + 13) k = T[k].2 := by
        have := h2 k T[k].2 (by rw [List.getElem?_map, List.getElem?_eq_getElem hk]; rfl)
        rwa [Int.zero_add] at this
      have hck := (okF_123 hM hp.1).1
      have ha := hM.apart hp.1 hf
      refine s_X8_timeAt_10 hL ⟨fun c => absurd c (by omega), fun c => ⟨by omega, by rw [e1]; omega, by omega, by rw [e1, hrow]; exact hck, by rw [hrow]; exact hcf, by rw [e1, e2, hrow]; omega, by omega, ?_⟩⟩
      rw [e1, e2, hrow]
      rw [List.take_succ_eq_append_getElem hk, tmA_snoc] at ih
      exact ih
    · refine s_X8_timeAt_10 hL ⟨fun _ => ⟨by rw [List.take_length], rfl⟩, fun c => absurd c (by omega)⟩
  exact s_X8_timeAt_0 hL ⟨by omega, key 0 (Nat.zero_le _)⟩
end
