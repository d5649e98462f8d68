/-! cells: reading, writing, making; ends; calls -/
theorem aext_set {ws : va_W} {p q : Nat} {e0 e : va_E} (hp : ws[p]? = some (q, e0)) : aext ws (ws.set p (q, e)) := by
  intro p' q' e' h
  by_cases hpp : p' = p
  · subst hpp
    rw [hp] at h
    cases h
    exact ⟨e, by rw [List.getElem?_set_self (List.getElem?_eq_some_iff.mp hp).1]⟩
  · exact ⟨e', by rw [List.getElem?_set_ne (Ne.symm hpp)]; exact h⟩
theorem aext_push {ws : va_W} {x : Nat × va_E} : aext ws (ws ++ [x]) := fun p q e h => ⟨e, by rw [List.getElem?_append_left (List.getElem?_eq_some_iff.mp h).1]; exact h⟩
theorem aHp.set {ca : Nat → ClassId} {ws : va_W} {H : AH} (h : aHp ca ws H) {p q : Nat} {e0 e : va_E} (hp : ws[p]? = some (q, e0)) {i x : Int} (he : aEnt ca (ws.set p (q, e)) (H.2.1 (p + 1)) (fun j => if j = i then x else H.2.2 (p + 1) j) e) : aHp ca (ws.set p (q, e)) (hs H (p + 1) i x) := by
  have hx : aext ws (ws.set p (q, e)) := aext_set hp
  obtain ⟨h1, h2, h3⟩ := h
  refine ⟨by rw [List.length_set]; exact h1, h2, fun p' q' e' hp' => ?_⟩
  by_cases hpp : p' = p
  · subst hpp
    rw [List.getElem?_set_self (List.getElem?_eq_some_iff.mp hp).1] at hp'
    cases hp'
    have e9 : (hs H (p' + 1) i x).2.2 (p' + 1) = (fun j => if j = i then x else H.2.2 (p' + 1) j) := by
      funext j
      simp [hs]
    rw [e9]
    exact he
  · rw [List.getElem?_set_ne (Ne.symm hpp)] at hp'
    have e9 : (hs H (p + 1) i x).2.2 (p' + 1) = H.2.2 (p' + 1) := by
      funext j
      have : ¬ ((p' : Int) + 1 = p + 1) := by omega
      simp [hs, this]
    rw [e9]
    exact (h3 p' q' e' hp').ext hx
theorem aHp.push {ca : Nat → ClassId} {ws : va_W} {H : AH} (h : aHp ca ws H) {q : Nat} {e : va_E} {k : Nat} {n : Int} (he : aEnt ca (ws ++ [(q, e)]) (k, n) (fun _ => 0) e) : aHp ca (ws ++ [(q, e)]) (hnew H k n) := by
  obtain ⟨h1, h2, h3⟩ := h
  have hx : aext ws (ws ++ [(q, e)]) := aext_push
  refine ⟨by rw [List.length_append, h1]; rfl, ?_, fun p' q' e' hp' => ?_⟩
  · have : ¬ ((0 : Int) = H.1 + 1) := by omega
    simp only [hnew, this, if_false]
    exact h2
  · by_cases hl : p' < ws.length
    · rw [List.getElem?_append_left hl] at hp'
      have hne : ¬ ((p' : Int) + 1 = H.1 + 1) := by omega
      have e9 : (hnew H k n).2.2 (p' + 1) = H.2.2 (p' + 1) := by
        funext j
        simp only [hnew, hne, if_false]
      have e8 : (hnew H k n).2.1 (p' + 1) = H.2.1 (p' + 1) := by
        simp only [hnew, hne, if_false]
      rw [e9, e8]
      exact (h3 p' q' e' hp').ext hx
    · rw [List.getElem?_append_right (by omega)] at hp'
      have hz : p' - ws.length < 1 := (List.getElem?_eq_some_iff.mp hp').1
      have hp0 : p' = ws.length := by omega
      subst hp0
      rw [Nat.sub_self] at hp'
      cases hp'
      have hne : (ws.length : Int) + 1 = H.1 + 1 := by omega
      have e9 : (hnew H k n).2.2 (ws.length + 1) = fun _ => 0 := by
        funext j
        simp only [hnew, hne, if_true]
      have e8 : (hnew H k n).2.1 (ws.length + 1) = (k, n) := by
        simp only [hnew, hne, if_true]
      rw [e9, e8]
      exact he
theorem aEnt_obj {ca : Nat → ClassId} {ws : va_W} {kd : Nat × Int} {g : Int → Int} {e : va_E} (h : aEnt ca ws kd g e) (hk : kd.1 < 8) : ∃ fs : List Value, e = .inr (kd.1, fs) ∧ (∃ q : vw_C, vwCl[kd.1]? = some q ∧ fs.length = q.2.2) ∧ ∀ (k : Nat) (v : Value), fs[k]? = some v → rv ws v (tgOf (aTy kd.1 k), g k) := by
  match e, h with
  | .inr (ci, fs), h =>
    obtain ⟨h1, h2, h3, h4⟩ := h
    subst h1
    exact ⟨fs, rfl, h3, h4⟩
  | .inl (cA, n, .inl f), h => obtain ⟨⟨j, h1, h2, h3⟩, h4⟩ := h; omega
  | .inl (cA, n, .inr (.inl f)), h => have := h.1; omega
  | .inl (cA, n, .inr (.inr (.inr (.inl f)))), h => have := h.1; omega
  | .inl (cA, n, .inr (.inr (.inr (.inr f)))), h => have := h.1; omega
theorem aEnt_arrI {ca : Nat → ClassId} {ws : va_W} {kd : Nat × Int} {g : Int → Int} {e : va_E} (h : aEnt ca ws kd g e) {j : Nat} (hj : j < 3) (hk : kd.1 = 10 + j) : ∃ (n : Nat) (f : Nat → Int32), e = .inl (ca j, n, .inl f) ∧ kd.2 = n ∧ ∀ k : Nat, k < n → g k = (f k).toInt := by
  match e, h with
  | .inr (ci, fs), h => have := h.1; have := h.2.1; omega
  | .inl (cA, n, .inl f), h =>
    obtain ⟨⟨i, h1, h2, h3⟩, h4⟩ := h
    have : i = j := by omega
    subst this
    subst h3
    exact ⟨n, f, rfl, h4⟩
  | .inl (cA, n, .inr (.inl f)), h => have := h.1; omega
  | .inl (cA, n, .inr (.inr (.inr (.inl f)))), h => have := h.1; omega
  | .inl (cA, n, .inr (.inr (.inr (.inr f)))), h => have := h.1; omega
theorem aEnt_arrJ {ca : Nat → ClassId} {ws : va_W} {kd : Nat × Int} {g : Int → Int} {e : va_E} (h : aEnt ca ws kd g e) (hk : kd.1 = 13) : ∃ (n : Nat) (f : Nat → Int64), e = .inl (ca 3, n, .inr (.inl f)) ∧ kd.2 = n ∧ ∀ k : Nat, k < n → g k = (f k).toInt := by
  match e, h with
  | .inr (ci, fs), h => have := h.1; have := h.2.1; omega
  | .inl (cA, n, .inl f), h => obtain ⟨⟨i, h1, h2, h3⟩, h4⟩ := h; omega
  | .inl (cA, n, .inr (.inl f)), h =>
    obtain ⟨h1, h2, h3⟩ := h
    subst h2
    exact ⟨n, f, rfl, h3⟩
  | .inl (cA, n, .inr (.inr (.inr (.inl f)))), h => have := h.1; omega
  | .inl (cA, n, .inr (.inr (.inr (.inr f)))), h => have := h.1; omega
theorem aEnt_arrD {ca : Nat → ClassId} {ws : va_W} {kd : Nat × Int} {g : Int → Int} {e : va_E} (h : aEnt ca ws kd g e) (hk : kd.1 = 14) : ∃ (n : Nat) (f : Nat → UInt64), e = .inl (ca 4, n, .inr (.inr (.inr (.inl f)))) ∧ kd.2 = n ∧ ∀ k : Nat, k < n → g k = (f k).toNat := by
  match e, h with
  | .inr (ci, fs), h => have := h.1; have := h.2.1; omega
  | .inl (cA, n, .inl f), h => obtain ⟨⟨i, h1, h2, h3⟩, h4⟩ := h; omega
  | .inl (cA, n, .inr (.inl f)), h => have := h.1; omega
  | .inl (cA, n, .inr (.inr (.inr (.inl f)))), h =>
    obtain ⟨h1, h2, h3⟩ := h
    subst h2
    exact ⟨n, f, rfl, h3⟩
  | .inl (cA, n, .inr (.inr (.inr (.inr f)))), h => have := h.1; omega
theorem aEnt_arrQ {ca : Nat → ClassId} {ws : va_W} {kd : Nat × Int} {g : Int → Int} {e : va_E} (h : aEnt ca ws kd g e) (hk : kd.1 = 15) : ∃ (n : Nat) (f : Nat → Option Nat), e = .inl (ca 5, n, .inr (.inr (.inr (.inr f)))) ∧ kd.2 = n ∧ ∀ k : Nat, k < n → rv ws (va_rf (f k)) (4, g k) := by
  match e, h with
  | .inr (ci, fs), h => have := h.1; have := h.2.1; omega
  | .inl (cA, n, .inl f), h => obtain ⟨⟨i, h1, h2, h3⟩, h4⟩ := h; omega
  | .inl (cA, n, .inr (.inl f)), h => have := h.1; omega
  | .inl (cA, n, .inr (.inr (.inr (.inl f)))), h => have := h.1; omega
  | .inl (cA, n, .inr (.inr (.inr (.inr f)))), h =>
    obtain ⟨h1, h2, h3⟩ := h
    subst h2
    exact ⟨n, f, rfl, h3⟩
/-- a field by its place in a class's pool -/
def FW (own : String) (idx ci k : Nat) : Prop := ∃ q : vw_C, vwCl[ci]? = some q ∧ ci < 8 ∧ k < q.2.2 ∧ Cond.fieldLink own idx (q.2.1 k).1 (q.2.1 k).2.1 (q.2.1 k).2.2.1 ∈ lw_good ∧ ∀ w ∈ u_ws q.1 q.2.1 q.2.2, w ∈ lw_good
/-- one that is written -/
def FP' (own : String) (idx ci k : Nat) : Prop := FW own idx ci k ∧ ∃ q : vw_C, vwCl[ci]? = some q ∧ (∀ k, k < q.2.2 → parseFieldDescriptor (q.2.1 k).2.2.1 = some (aTy ci k)) ∧ (∀ a, a < q.2.2 → ∀ b, b < q.2.2 → a ≠ b → (q.2.1 a).2.1 ≠ (q.2.1 b).2.1) ∧ (q.2.1 k).2.2.2 = false
def FPF (own : String) (idx ci k : Nat) : Prop := FW own idx ci k ∧ ∃ q : vw_C, vwCl[ci]? = some q ∧ (∀ k, k < q.2.2 → parseFieldDescriptor (q.2.1 k).2.2.1 = some (aTy ci k)) ∧ (∀ a, a < q.2.2 → ∀ b, b < q.2.2 → a ≠ b → (q.2.1 a).2.1 ≠ (q.2.1 b).2.1) ∧ (q.2.1 k).2.2.2 = true ∧ (q.2.1 k).1 = own
section AHEAP
variable {l : Launch} {G : GT} {M : MI} {d mc ms : Nat} {Q : AV → AH → Prop} {pc : Nat} {ls st : List AV} {cs sl : Nat} {H : AH}
theorem a_getf {idx ci k t : Nat} {a : Int} (hd : decode M.2.1 pc = .ok (.getfield idx, 3)) (hf : FW M.1.cls idx ci k) (ht : tgOf (aTy ci k) = t) (hkd : hk H a = ci) (kk : AW l G M d mc ms Q (pc + 3) ls ((t, hg H a k) :: st) cs sl H) : AW l G M d mc ms Q pc ls (vR a :: st) cs sl H := by
  intro p e s m args below meth c z D ca ws0 C ws Hp locs lsR stR hR hE hS hL hT
  obtain ⟨_, _, e0, hx, hT0⟩ := rvs_cons hT
  subst e0
  obtain ⟨hP, hD, hlen, h0, hA⟩ := id hR
  obtain ⟨q, hc, hci, hkN, hlink, hin⟩ := hf
  rcases rv_R hx with ⟨rfl, rfl⟩ | ⟨p9, q9, e9, rfl, hw, rfl⟩
  · have hkd : (H.2.1 0).1 = ci := hkd
    omega
  · have hkd : (H.2.1 (p9 + 1)).1 = ci := hkd
    obtain ⟨fs, rfl, ⟨q', hq', hlf⟩, hfs⟩ := aEnt_obj (hA p9 q9 e9 hw) (by omega)
    rw [hkd] at hw hq' hfs
    cases Option.some.inj (hq'.symm.trans hc)
    have hlt : k < fs.length := by rw [hlf]; exact hkN
    have hv := hfs k fs[k] (List.getElem?_eq_getElem hlt)
    rw [ht] at hv
    exact va_get C.1 C.2.1 C.2.2.2.2.2.2.1 hin C.2.2.2.2.2.1 C.2.2.2.2.2.2.2.1 hP p9 hw hc k hkN (C.2.2.2.2.2.2.1 _ hlink) (fun _ h9 => h9) (List.getElem?_eq_getElem hlt) hd (kk p e s m args below meth c z D ca ws0 C ws Hp locs lsR _ hR hE hS hL ⟨hv, hT0⟩)
/-- a field is written: what its type and value must be -/
theorem a_putf {idx ci k : Nat} {a x : Int} {t : Nat} (hd : decode M.2.1 pc = .ok (.putfield idx, 3)) (hf : FP' M.1.cls idx ci k) (ht : tgOf (aTy ci k) = t) (hv : ∀ (ws : va_W) (v : Value), rv ws v (t, x) → narrow (aTy ci k) v = v ∧ fits (aTy ci k) v = true) (hkd : hk H a = ci) (kk : AW l G M d mc ms Q (pc + 3) ls st cs sl (hs H a k x)) : AW l G M d mc ms Q pc ls ((t, x) :: vR a :: st) cs sl H := by
  intro p e s m args below meth c z D ca ws0 C ws Hp locs lsR stR hR hE hS hL hT
  obtain ⟨v, _, e0, hx, hT0⟩ := rvs_cons hT
  subst e0
  obtain ⟨_, _, e1, hy, hT1⟩ := rvs_cons hT0
  subst e1
  obtain ⟨hP, hD, hHp⟩ := hR
  have hA := hHp.2.2
  obtain ⟨⟨q, hc, hci, hkN, hlink, hin⟩, q2, hc2, hty, hnm, hfin⟩ := hf
  cases Option.some.inj (hc2.symm.trans hc)
  rcases rv_R hy with ⟨rfl, rfl⟩ | ⟨p9, q9, e9, rfl, hw, rfl⟩
  · have hkd : (H.2.1 0).1 = ci := hkd
    have := hHp.2.1
    omega
  · have hkd : (H.2.1 (p9 + 1)).1 = ci := hkd
    obtain ⟨fs, rfl, ⟨q', hq', hlf⟩, hfs⟩ := aEnt_obj (hA p9 q9 e9 hw) (by omega)
    rw [hkd] at hw hq' hfs
    cases Option.some.inj (hq'.symm.trans hc)
    have hlt : k < fs.length := by rw [hlf]; exact hkN
    obtain ⟨hn, hft⟩ := hv ws v hx
    refine va_put C.1 C.2.1 C.2.2.2.2.2.2.1 hin (aTy ci) hty hnm C.2.2.2.2.2.1 C.2.2.2.2.2.2.2.1 hP hD hS p9 hw hc k hkN (C.2.2.2.2.2.2.1 _ hlink) (fun _ h9 => h9) hfin (hty k hkN) hn hft hlt hd (fun H1 locs1 hP1 hD1 hS1 => ?_)
    have hxt : aext ws (ws.set p9 (q9, .inr (ci, fs.set k v))) := aext_set hw
    refine kk p e s m args below meth c z D ca ws0 C _ H1 locs1 lsR _ ⟨hP1, hD1, hHp.set hw ⟨hkd, hci, ⟨_, hc, by rw [List.length_set]; exact hlf⟩, fun k' v' hv' => ?_⟩⟩ (hE.trans hxt) hS1 (hL.ext hxt) (hT1.ext hxt)
    by_cases hkk : k' = k
    · subst hkk
      rw [List.getElem?_set_self hlt] at hv'
      cases hv'
      rw [ht]
      simp only [if_true]
      exact hx.ext hxt
    · rw [List.getElem?_set_ne (Ne.symm hkk)] at hv'
      have hne : ¬ ((k' : Int) = k) := by omega
      simp only [hne, if_false]
      exact (hfs k' v' hv').ext hxt
/-- a final field, in its constructor -/
theorem a_putF {idx ci k : Nat} {a x : Int} {t : Nat} (hd : decode M.2.1 pc = .ok (.putfield idx, 3)) (hf : FPF M.1.cls idx ci k) (hini : M.1.name = "<init>") (ht : tgOf (aTy ci k) = t) (hv : ∀ (ws : va_W) (v : Value), rv ws v (t, x) → narrow (aTy ci k) v = v ∧ fits (aTy ci k) v = true) (hkd : hk H a = ci) (kk : AW l G M d mc ms Q (pc + 3) ls st cs sl (hs H a k x)) : AW l G M d mc ms Q pc ls ((t, x) :: vR a :: st) cs sl H := by
  intro p e s m args below meth c z D ca ws0 C ws Hp locs lsR stR hR hE hS hL hT
  obtain ⟨v, _, e0, hx, hT0⟩ := rvs_cons hT
  subst e0
  obtain ⟨_, _, e1, hy, hT1⟩ := rvs_cons hT0
  subst e1
  obtain ⟨hP, hD, hHp⟩ := hR
  have hA := hHp.2.2
  obtain ⟨⟨q, hc, hci, hkN, hlink, hin⟩, q2, hc2, hty, hnm, hfin, hdecl⟩ := hf
  cases Option.some.inj (hc2.symm.trans hc)
  rcases rv_R hy with ⟨rfl, rfl⟩ | ⟨p9, q9, e9, rfl, hw, rfl⟩
  · have hkd : (H.2.1 0).1 = ci := hkd
    have := hHp.2.1
    omega
  · have hkd : (H.2.1 (p9 + 1)).1 = ci := hkd
    obtain ⟨fs, rfl, ⟨q', hq', hlf⟩, hfs⟩ := aEnt_obj (hA p9 q9 e9 hw) (by omega)
    rw [hkd] at hw hq' hfs
    cases Option.some.inj (hq'.symm.trans hc)
    have hlt : k < fs.length := by rw [hlf]; exact hkN
    obtain ⟨hn, hft⟩ := hv ws v hx
    refine va_putF C.1 C.2.1 C.2.2.2.2.2.2.1 hin (aTy ci) hty hnm C.2.2.2.2.2.1 C.2.2.2.2.2.2.2.1 hP hD hS p9 hw hc k hkN (C.2.2.2.2.2.2.1 _ hlink) (fun _ h9 => h9) hfin (C.2.2.2.2.2.2.2.2.2.1.trans hini) hdecl (hty k hkN) hn hft hlt hd (fun H1 locs1 hP1 hD1 hS1 => ?_)
    have hxt : aext ws (ws.set p9 (q9, .inr (ci, fs.set k v))) := aext_set hw
    refine kk p e s m args below meth c z D ca ws0 C _ H1 locs1 lsR _ ⟨hP1, hD1, hHp.set hw ⟨hkd, hci, ⟨_, hc, by rw [List.length_set]; exact hlf⟩, fun k' v' hv' => ?_⟩⟩ (hE.trans hxt) hS1 (hL.ext hxt) (hT1.ext hxt)
    by_cases hkk : k' = k
    · subst hkk
      rw [List.getElem?_set_self hlt] at hv'
      cases hv'
      rw [ht]
      simp only [if_true]
      exact hx.ext hxt
    · rw [List.getElem?_set_ne (Ne.symm hkk)] at hv'
      have hne : ¬ ((k' : Int) = k) := by omega
      simp only [hne, if_false]
      exact (hfs k' v' hv').ext hxt
/-- what may be written by its type -/
theorem pv_I {ty : FieldType} (h : ty = .int) {x : Int} (ws : va_W) (v : Value) (hr : rv ws v (vI x)) : narrow ty v = v ∧ fits ty v = true := by
  obtain ⟨y, rfl, -⟩ := rv_I hr
  subst h
  exact ⟨rfl, rfl⟩
theorem pv_J {ty : FieldType} (h : ty = .long) {x : Int} (ws : va_W) (v : Value) (hr : rv ws v (vJ x)) : narrow ty v = v ∧ fits ty v = true := by
  obtain ⟨y, rfl, -⟩ := rv_J hr
  subst h
  exact ⟨rfl, rfl⟩
theorem i32_01 {y : Int32} (h : y.toInt = 0 ∨ y.toInt = 1) : y = 0 ∨ y = 1 := by
  rcases h with h | h
  · exact Or.inl (Int32.toInt_inj.mp (by rw [h]; rfl))
  · exact Or.inr (Int32.toInt_inj.mp (by rw [h]; rfl))
theorem pv_Z {ty : FieldType} (h : ty = .boolean) {x : Int} (h01 : x = 0 ∨ x = 1) (ws : va_W) (v : Value) (hr : rv ws v (vI x)) : narrow ty v = v ∧ fits ty v = true := by
  obtain ⟨y, rfl, rfl⟩ := rv_I hr
  subst h
  rcases i32_01 h01 with rfl | rfl
  · exact ⟨by decide, by decide⟩
  · exact ⟨by decide, by decide⟩
theorem pv_R {ty : FieldType} (h : (∃ C, ty = .object C) ∨ ∃ t, ty = .array t) {x : Int} (ws : va_W) (v : Value) (hr : rv ws v (vR x)) : narrow ty v = v ∧ fits ty v = true := by
  rcases rv_R hr with ⟨rfl, -⟩ | ⟨p, q, e, rfl, -⟩ <;> rcases h with ⟨C, rfl⟩ | ⟨t, rfl⟩ <;> exact ⟨rfl, rfl⟩
end AHEAP
