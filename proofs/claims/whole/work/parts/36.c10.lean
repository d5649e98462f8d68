/-! more of the reference's questions -/
theorem lst.w2 {H : AH} {b o i k : Int} {L : List Int} (h : lst H b o L) (hk : 0 ≤ k ∧ k < L.length) (e : i = o + k) : hg H b i = wAt L k := by rw [e]; exact h.w hk
theorem pl_at {M : Row} (hM : okM M) {r k : Int} (hk : 0 ≤ k ∧ k < (comeL M r).length) : fl M (wAt (planL M r) k) ∧ ofM M (wAt (planL M r) k) 7 = 0 ∧ ofM M (wAt (planL M r) k) 6 = r :=
  (comeL_mem hM).mp (((planL_perm hM).2.2 _).mp (wAt_mem (by rw [(planL_perm hM).2.1]; exact hk)))
theorem MadeR.pl {H : AH} {a : Int} {M : Row} {r i k : Int} (h : MadeR H a M r) (hM : okM M) (hk : 0 ≤ k ∧ k < (comeL M r).length) (e : i = 24 * r + k) : hg H (a + 9) i = wAt (planL M r) k := h.2.2.1.w2 (by rw [(planL_perm hM).2.1]; exact hk) e
noncomputable def pdec (P : Prop) : Bool := @decide P (Classical.propDecidable _)
theorem pdec_t {P : Prop} (h : P) : pdec P = true := by unfold pdec; simpa using h
theorem pdec_f {P : Prop} (h : ¬ P) : pdec P = false := by unfold pdec; simpa using h
noncomputable def fndP (P : Nat → Prop) : Nat → Int
  | 0 => -1
  | n + 1 => if fndP P n = -1 then (if pdec (P n) = true then (n : Int) else -1) else fndP P n
theorem fndP_none {P : Nat → Prop} : ∀ {n : Nat}, (∀ k, k < n → ¬ P k) → fndP P n = -1
  | 0, _ => rfl
  | n + 1, h => by
    rw [fndP, if_pos (fndP_none fun k hk => h k (by omega)), pdec_f (h n (by omega))]
    rfl
theorem fndP_hit {P : Nat → Prop} {j : Nat} (h : ∀ k, k < j → ¬ P k) (hp : P j) : ∀ {n : Nat}, j < n → fndP P n = j
  | 0, hn => by omega
  | n + 1, hn => by
    by_cases q : j = n
    · rw [← q, fndP, if_pos (fndP_none h), if_pos (pdec_t hp)]
    · have := fndP_hit h hp (n := n) (by omega)
      rw [fndP, this, if_neg (by omega)]
/-- what a call that changes something may write -/
def pMut (a : Int) : Int → Int → Prop := fun b i => pPub a b i ∨ b = a + 1
def pMt (a : Int) : Int → Int → Prop := fun b i => pMks a b i ∨ b = a + 1
abbrev pmW (a : Int) (M : Row) (th : Int) (H H' : AH) : Prop := hg H' a 5 = th ∧ only H H' (pMut a) ∧ MW H' a M
abbrev mutP (a : Int) (M : Row) (v : AV) (th : Int) (H : AH) : AV → AH → Prop := fun r H' => r = v ∧ pmW a M th H H'
theorem pb_pm {H H1 : AH} {a th : Int} {M : Row} (h : pbW a M th H H1) : pmW a M th H H1 := ⟨h.1, h.2.1.mono fun _ _ q => Or.inl q, h.2.2⟩
theorem pMt_mut {a : Int} : ∀ b i, pMt a b i → pMut a b i := by
  rintro b i (q | q)
  · exact Or.inl (pMks_pub _ _ q)
  · exact Or.inr q
theorem pMks_mt {a : Int} : ∀ b i, pMks a b i → pMt a b i := fun _ _ q => Or.inl q
theorem pmx {H H1 H2 : AH} {a th : Int} {M M2 : Row} (h : pmW a M th H H1) (o : only H1 H2 (pMt a)) (w : MW H2 a M2) : pmW a M2 th H H2 :=
  ⟨(o.2.2 a 5 (by rintro ((⟨q, -⟩ | ⟨-, q | q⟩) | q) <;> omega)).trans h.1, h.2.1.trans (o.mono pMt_mut), w⟩
/-- a row whose plans are unknown -/
def MX (H H' : AH) (a : Int) (M : Row) : Prop := only H H' (pMt a) ∧ Lay LMod H' a ∧ rowM H' a = M ∧ hg H' a 13 = 0
theorem MX.mw {H H' : AH} {a : Int} {M : Row} (h : MX H H' a M) (hM : okM M) : MW H' a M := ⟨h.2.1, h.2.2.1, hM, Or.inl h.2.2.2⟩
theorem MX.mk {H H' : AH} {a : Int} {M : Row} (h : MX H H' a M) : mkd H' a := Or.inl h.2.2.2
theorem mx2 {H H2 H3 : AH} {a k x : Int} {M : Row} (hL : Lay LMod H a) (hr : rowM H a = M) (e2 : H2 = hs H (a + 1) k x) (e3 : H3 = hs H2 a 13 0) : MX H H3 a (upM M k x) := by
  subst e2; subst e3
  have n1 : nrf H (a + 1) k := nrf_arr (kMod_1 hL) (by decide) (by decide)
  have hL2 := hL.wr ok_Mod n1 (x := x)
  have n2 : nrf (hs H (a + 1) k x) a 13 := nrf_fld 13 (kMod_0 hL2) (by decide) (by decide)
  refine ⟨(only.wr (Or.inr rfl)).trans (only.wr (Or.inl (Or.inr ⟨rfl, Or.inl rfl⟩))), hL2.wr ok_Mod n2, ?_, hg_same _ _ _ _⟩
  rw [rowM_ne (by omega), rowM_hs, hr]
section
variable {l : Launch} {G : GT} {d : Nat} {H : AH} {a : Int} {M : Row}
theorem c_setsX {f w x : Int} (hL : Lay LMod H a) (hr : rowM H a = M) (h : 0 ≤ f ∧ f < 24 ∧ 0 ≤ w ∧ w < 16) (hd : 1 ≤ d := by omega) : CL l G mX8_sets d 0 0 [vR a, vI f, vI w, vI x] H (fun r H' => r = vV ∧ MX H H' a (upM M (56 + 16 * f + w) x)) := by
  refine CL.mono (c_sets hL h hd) ?_
  rintro r H' ⟨rfl, e⟩
  exact ⟨rfl, mx2 hL hr rfl e⟩
noncomputable def vLast (M : Row) (r : Int) : Int := if rl M r then (if (comeL M r).length = 0 then -1 else planT M (wAt (planL M r) ((comeL M r).length - 1))) else 0
theorem c_lastTime {r : Int} (hW : MW H a M) (hd : 15 ≤ d := by omega) : CL l G mX8_lastTime d 0 0 [vR a, vI r] H (pubP a M (vI (vLast M r)) (1 - bi (decide (rl M r))) H) := by
  obtain ⟨d, rfl⟩ : ∃ k, d = k + 1 := ⟨d - 1, by omega⟩
  have hM := hW.2.2.1
  have hn := okM_n hM
  have hn5 := okM_5 hM
  have hlc := comeL_len hM (r := r)
  refine CL.of (by decide) rfl (Nat.le_of_ble_eq_true rfl) (s_X8_lastTime_0 hW ⟨by omega, fun H1 e1 => ⟨fun c H2 o2 w2 m2 => ?_, fun c => ⟨by rw [vLast, if_neg c], pb1 hW e1⟩⟩⟩)
  have m := m2 r c.1 c.2
  have hb := pbq (pb1 hW e1) o2 w2
  rw [m.1]
  refine ⟨by omega, fun c2 => ?_, fun c2 => ⟨by rw [vLast, if_pos c, if_pos (by omega)], hb⟩⟩
  have hk : 0 ≤ ((comeL M r).length : Int) - 1 ∧ ((comeL M r).length : Int) - 1 < (comeL M r).length := by omega
  have p := pl_at hM hk
  rw [m.pl hM hk (by omega)]
  exact ⟨by omega, by omega, by omega, by omega, by omega, by rw [vLast, if_pos c, if_neg (by omega), m2.time hM p.1 p.2.1], hb⟩
noncomputable def slkI (M : Row) (f k : Int) : Int := planT M (wAt (planL M (ofM M f 6)) k) - planT M f - apartM M f (wAt (planL M (ofM M f 6)) k)
noncomputable def slk (M : Row) (f i0 : Int) : Nat → Int
  | 0 => -1
  | n + 1 => if slk M f i0 n = -1 then slkI M f (i0 + n) else min (slk M f i0 n) (slkI M f (i0 + n))
noncomputable def vSlack (M : Row) (f : Int) : Int := if fl M f then (if ofM M f 7 = 0 then slk M f (ixOf (planL M (ofM M f 6)) f + 1) ((comeL M (ofM M f 6)).length - (ixOf (planL M (ofM M f 6)) f + 1)).toNat else -1) else 0
theorem ixOf_in {M : Row} (hM : okM M) {f : Int} (hf : fl M f) (hp : ofM M f 7 = 0) : 0 ≤ ixOf (planL M (ofM M f 6)) f ∧ ixOf (planL M (ofM M f 6)) f < (comeL M (ofM M f 6)).length := by
  obtain ⟨p1, p2, p3⟩ := planL_perm hM (r := ofM M f 6)
  have hin := (p3 f).mpr ((comeL_mem hM).mpr ⟨hf, hp, rfl⟩)
  have := List.idxOf_lt_length_of_mem hin
  unfold ixOf
  omega
theorem c_slack {f : Int} (hW : MW H a M) (hd : 16 ≤ d := by omega) : CL l G mX8_slack d 0 0 [vR a, vI f] H (pubP a M (vI (vSlack M f)) (1 - bi (decide (fl M f))) H) := by
  obtain ⟨d, rfl⟩ : ∃ k, d = k + 1 := ⟨d - 1, by omega⟩
  have hM := hW.2.2.1
  have hn := okM_n hM
  have hn5 := okM_5 hM
  have hlc := comeL_len hM (r := ofM M f 6)
  refine CL.of (by decide) rfl (Nat.le_of_ble_eq_true rfl) (s_X8_slack_0 hW ⟨by omega, fun H1 e1 => ⟨fun c => ⟨by omega, fun c2 => ⟨c, c2, fun H2 o2 w2 m2 => ?_⟩, fun c2 => ⟨by rw [vSlack, if_pos c, if_neg c2], pb1 hW e1⟩⟩, fun c => ⟨by rw [vSlack, if_neg c], pb1 hW e1⟩⟩⟩)
  have hx := ixOf_in hM c c2
  obtain ⟨-, -, -, -, -, -, h6, -⟩ := hM.2 f c.1 c.2
  have hb := pbq (pb1 hW e1) o2 w2
  have m := m2 _ h6.1 h6.2
  refine ⟨by omega, ?_⟩
  have key : ∀ j, j ≤ ((comeL M (ofM M f 6)).length - (ixOf (planL M (ofM M f 6)) f + 1)).toNat → AW l G mX8_slack (d + 1) 0 0 (pubP a M (vI (vSlack M f)) (1 - bi (decide (fl M f))) H) 43 [vR a, vI f, vI (ofM M f 6), vI (slk M f (ixOf (planL M (ofM M f 6)) f + 1) j), vI (ixOf (planL M (ofM M f 6)) f + 1 + j), vU, vU] [] 0 0 H2 := by
    refine upN _ ?_ ?_
    · intro j hj ih
      rw [show ixOf (planL M (ofM M f 6)) f + 1 + ((j + 1 : Nat) : Int) = ixOf (planL M (ofM M f 6)) f + 1 + j + 1 by omega] at ih
      have hk : 0 ≤ ixOf (planL M (ofM M f 6)) f + 1 + j ∧ ixOf (planL M (ofM M f 6)) f + 1 + j < (comeL M (ofM M f 6)).length := by omega
      have p := pl_at hM hk
      have t1 := planT_in hM p.1 p.2.1
      have t2 := planT_in hM c c2
      have ha := hM.apart c p.1
      refine s_X8_slack_43 hb.2.2 ?_
      rw [m.1, m.pl hM hk (by omega), m2.time hM p.1 p.2.1, m2.time hM c c2]
      refine ⟨by omega, fun c3 => absurd c3 (by omega), fun c3 => ⟨by omega, by omega, by omega, by omega, by omega, by omega, (okF_123 hM c).1, (okF_123 hM p.1).1, by omega, fun c4 => ⟨by omega, ?_⟩, fun c4 => ⟨by omega, ?_⟩⟩⟩
      · rw [slk, if_neg c4] at ih
        exact ih
      · rw [slk, if_pos c4] at ih
        exact ih
    · refine s_X8_slack_43 hb.2.2 ⟨by omega, fun c3 => ⟨by rw [vSlack, if_pos c, if_pos c2], hb⟩, fun c3 => absurd c3 (by rw [m.1]; omega)⟩
  have := key 0 (Nat.zero_le _)
  rw [show ixOf (planL M (ofM M f 6)) f + 1 + ((0 : Nat) : Int) = ixOf (planL M (ofM M f 6)) f + 1 by omega] at this
  exact this
def bndP (M : Row) (f : Int) (g : Nat) : Prop := ahd M g f ∧ tmNow M g + apartM M g f = tmNow M f
noncomputable def vBind (M : Row) (f : Int) : Int := if fl M f then (if ofM M f 7 = 0 then fndP (bndP M f) (M 6).toNat else -1) else 0
theorem c_binding {f : Int} (hW : MW H a M) (hd : 17 ≤ d := by omega) : CL l G mX8_binding d 0 0 [vR a, vI f] H (pubP a M (vI (vBind M f)) (1 - bi (decide (fl M f))) H) := by
  obtain ⟨d, rfl⟩ : ∃ k, d = k + 1 := ⟨d - 1, by omega⟩
  have hM := hW.2.2.1
  have hn := okM_n hM
  refine CL.of (by decide) rfl (Nat.le_of_ble_eq_true rfl) (s_X8_binding_0 hW ⟨by omega, fun H1 e1 => ⟨fun c => ?_, fun c => ⟨by rw [vBind, if_neg c], pb1 hW e1⟩⟩⟩)
  have key : ∀ j, j ≤ (M 6).toNat → ∀ H', pbW a M (1 - bi (decide (fl M f))) H H' → (∀ k, k < j → ¬ bndP M f k) → AW l G mX8_binding (d + 1) 0 0 (pubP a M (vI (vBind M f)) (1 - bi (decide (fl M f))) H) 12 [vR a, vI f, vI j] [] 0 0 H' := by
    refine upN _ ?_ ?_
    · intro j hj ih H' hb hno
      have hjf : fl M j := ⟨by omega, by omega⟩
      refine s_X8_binding_12 hb.2.2 ⟨by omega, fun c2 => ⟨by rw [vBind, if_pos c, if_neg c2], hb⟩, fun c2 => ⟨fun c3 => absurd c3 (by omega), fun c3 => ⟨hjf, c, c2, fun H1 o1 w1 => ⟨fun c4 => ⟨by omega, ?_⟩, fun c4 => ⟨hjf, fun H2 o2 w2 => ?_⟩⟩⟩⟩⟩
      · exact ih H1 (pbq hb o1 w1) (fun k hk q => by
          by_cases hkj : k = j
          · subst hkj; exact c4 q.1
          · exact hno k (by omega) q)
      · have t1 := tmNow_in hM hjf c4.2.1
        have ha := hM.apart hjf c
        refine ⟨by omega, (okF_123 hM hjf).1, (okF_123 hM c).1, by omega, c, fun H3 o3 w3 => ⟨fun c5 => ⟨by omega, ?_⟩, fun c5 => ⟨?_, pbq (pbq (pbq hb o1 w1) o2 w2) o3 w3⟩⟩⟩
        · exact ih H3 (pbq (pbq (pbq hb o1 w1) o2 w2) o3 w3) (fun k hk q => by
            by_cases hkj : k = j
            · subst hkj; exact c5 q.2
            · exact hno k (by omega) q)
        · rw [vBind, if_pos c, if_pos c2, fndP_hit hno ⟨c4, c5⟩ (by omega)]
    · intro H' hb hno
      exact s_X8_binding_12 hb.2.2 ⟨by omega, fun c2 => ⟨by rw [vBind, if_pos c, if_neg c2], hb⟩, fun c2 => ⟨fun c3 => ⟨by rw [vBind, if_pos c, if_pos c2, fndP_none hno], hb⟩, fun c3 => absurd c3 (by omega)⟩⟩
  exact key 0 (Nat.zero_le _) H1 (pb1 hW e1) (fun k hk => by omega)
abbrev trp (M : Row) (k : Int) : Prop := M (8 + 4 * (k / 16) + (k / 4 % 4)) + M (8 + 4 * (k / 4 % 4) + k % 4) < M (8 + 4 * (k / 16) + k % 4)
def vTrip (M : Row) : Int := sm (fun k => bi (decide (trp M k))) 64
theorem okM_wk {M : Row} (h : okM M) {x y : Int} (hx : 0 ≤ x ∧ x ≤ 3) (hy : 0 ≤ y ∧ y ≤ 3) : 0 ≤ M (8 + 4 * x + y) ∧ M (8 + 4 * x + y) ≤ 600 := by
  have := h.1.2.2.2.2.2.2.2.2.1 (4 * x + y) (by omega) (by omega)
  rw [← Int.add_assoc] at this
  exact this
theorem c_longerTriples (hW : MW H a M) (hd : 1 ≤ d := by omega) : CL l G mX8_longerTriples d 0 0 [vR a] H (pubP a M (vI (vTrip M)) 0 H) := by
  obtain ⟨d, rfl⟩ : ∃ k, d = k + 1 := ⟨d - 1, by omega⟩
  have hM := hW.2.2.1
  refine CL.of (by decide) rfl (Nat.le_of_ble_eq_true rfl) (s_X8_longerTriples_0 hW fun H1 e1 => ?_)
  have hb := pb1 hW e1
  have key : ∀ j, j ≤ 64 → AW l G mX8_longerTriples (d + 1) 0 0 (pubP a M (vI (vTrip M)) 0 H) 9 [vR a, vI (sm (fun k => bi (decide (trp M k))) j), vI j, vU, vU, vU] [] 0 0 H1 := by
    refine upN _ ?_ ?_
    · intro j hj ih
      have hs := sm_in (f := fun k => bi (decide (trp M k))) (lo := 0) (hi := 1) (n := j) (fun k hk => by rcases bi_01 (decide (trp M k)) with q | q <;> omega)
      have t1 : (j : Int).tdiv 16 = j / 16 := Int.tdiv_eq_ediv_of_nonneg (by omega)
      have t2 : (j : Int).tdiv 4 = j / 4 := Int.tdiv_eq_ediv_of_nonneg (by omega)
      have t3 : (j : Int).tmod 4 = j % 4 := Int.tmod_eq_emod_of_nonneg (by omega)
      have t4 : ((j : Int) / 4).tdiv 4 = j / 4 / 4 := Int.tdiv_eq_ediv_of_nonneg (by omega)
      have t5 : ((j : Int) / 4).tmod 4 = j / 4 % 4 := Int.tmod_eq_emod_of_nonneg (by omega)
      refine s_X8_longerTriples_9 hb.2.2 ?_
      rw [t1, t2, t3, t4, t5]
      have w1 := okM_wk hM (x := (j : Int) / 16) (y := (j : Int) / 4 % 4) (by omega) (by omega)
      have w2 := okM_wk hM (x := (j : Int) / 4 % 4) (y := (j : Int) % 4) (by omega) (by omega)
      refine ⟨fun c => absurd c (by omega), fun c => ⟨by omega, by omega, ⟨by omega, by omega, by omega⟩, ⟨by omega, by omega, by omega⟩, by omega, by omega, by omega, by omega, fun c2 => ⟨by omega, by omega, ?_⟩, fun c2 => ⟨by omega, by omega, ?_⟩⟩⟩
      · have q : ¬ trp M j := by unfold trp; omega
        rw [sm, bi_f q] at ih
        exact ih
      · have q : trp M j := by unfold trp; omega
        rw [sm, bi_t q] at ih
        exact ih
    · exact s_X8_longerTriples_9 hb.2.2 ⟨fun _ => ⟨rfl, hb⟩, fun c => absurd c (by omega)⟩
  exact key 0 (Nat.zero_le _)
/-- the time up to which nothing is to be frozen -/
noncomputable def nxN (M : Row) (t : Int) : Nat → Int
  | 0 => t
  | n + 1 => if (comeL M n).length = 0 then nxN M t n else min (nxN M t n) (planT M (wAt (planL M n) 0) - M 2)
noncomputable def nxT (M : Row) (t : Int) : Int := nxN M t (M 5).toNat
theorem c_nextTime {t : Int} (hW : MW H a M) (ht : -2147483648 ≤ t ∧ t ≤ 2147483647) (hd : 15 ≤ d := by omega) : CL l G mX8_nextTime d 0 0 [vR a, vI t] H (fun r H' => r = vI (nxT M t) ∧ only H H' (pMks a) ∧ MW H' a M ∧ Made H' a M) := by
  obtain ⟨d, rfl⟩ : ∃ k, d = k + 1 := ⟨d - 1, by omega⟩
  have hM := hW.2.2.1
  have hn := okM_n hM
  have hn5 := okM_5 hM
  have h2 := hM.1.2.2.1
  refine CL.of (by decide) rfl (Nat.le_of_ble_eq_true rfl) (s_X8_nextTime_0 hW fun H1 o1 w1 m1 => ?_)
  have key : ∀ j, j ≤ (M 5).toNat → AW l G mX8_nextTime (d + 1) 0 0 (fun r H' => r = vI (nxT M t) ∧ only H H' (pMks a) ∧ MW H' a M ∧ Made H' a M) 8 [vR a, vI t, vI (nxN M t j), vI j] [] 0 0 H1 := by
    refine upN _ ?_ ?_
    · intro j hj ih
      have m := m1 j (by omega) (by omega)
      refine s_X8_nextTime_8 w1 ⟨fun c => absurd c (by omega), fun c => ⟨by omega, fun c2 => ⟨by omega, ?_⟩, fun c2 => ?_⟩⟩
      · rw [m.1] at c2
        rw [nxN, if_pos (by omega)] at ih
        exact ih
      · rw [m.1] at c2
        have hk : 0 ≤ (0 : Int) ∧ (0 : Int) < (comeL M j).length := by omega
        have p := pl_at hM hk
        have t1 := planT_in hM p.1 p.2.1
        rw [m.pl hM hk (by omega), m1.time hM p.1 p.2.1]
        rw [nxN, if_neg (by omega)] at ih
        exact ⟨by omega, by omega, by omega, by omega, by omega, ih⟩
    · exact s_X8_nextTime_8 w1 ⟨fun _ => ⟨rfl, o1, w1, m1⟩, fun c => absurd c (by omega)⟩
  exact key 0 (Nat.zero_le _)
def ndN (M : Row) : Nat → Int
  | 0 => -1
  | n + 1 => if (ofM M n 7 = 1 ∧ ofM M n 8 ≤ M 0) ∧ (ndN M n = -1 ∨ ofM M n 8 < ofM M (ndN M n) 8) then n else ndN M n
abbrev ndM (M : Row) : Int := ndN M (M 6).toNat
theorem ndN_in {M : Row} : ∀ {n : Nat}, ndN M n = -1 ∨ (0 ≤ ndN M n ∧ ndN M n < n ∧ ofM M (ndN M n) 7 = 1 ∧ ofM M (ndN M n) 8 ≤ M 0)
  | 0 => Or.inl rfl
  | n + 1 => by
    have ih := ndN_in (M := M) (n := n)
    unfold ndN
    split
    · rename_i h
      exact Or.inr ⟨by omega, by omega, h.1⟩
    · omega
end
