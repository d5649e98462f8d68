/-! new cells of the world -/
theorem aext_app {ws : va_W} {x : Nat × va_E} : aext ws (ws ++ [x]) := by
  intro p q e h
  have hl : p < ws.length := (List.getElem?_eq_some_iff.mp h).1
  exact ⟨e, by rw [List.getElem?_append_left hl]; exact h⟩
theorem app_last {ws : va_W} {x : Nat × va_E} : (ws ++ [x])[ws.length]? = some x := by
  rw [List.getElem?_append_right (Nat.le_refl _)]
  simp
theorem aHp_new {ca : Nat → ClassId} {ws : va_W} {H : AH} {q k : Nat} {n : Int} {e : va_E} (h : aHp ca ws H) (he : aEnt ca (ws ++ [(q, e)]) (k, n) (fun _ => 0) e) : aHp ca (ws ++ [(q, e)]) (hnew H k n) := by
  have h1 := h.1
  refine ⟨?_, ?_, fun p q' e' hp => ?_⟩
  · rw [List.length_append]
    show ws.length + 1 = H.1 + 1
    omega
  · show (if (0 : Int) = H.1 + 1 then (k, n) else H.2.1 0).1 = 99
    rw [if_neg (by omega)]
    exact h.2.1
  · by_cases hl : p < ws.length
    · rw [List.getElem?_append_left hl] at hp
      have := h.2.2 p q' e' hp
      have e1 : (hnew H k n).2.1 ((p : Int) + 1) = H.2.1 ((p : Int) + 1) := by
        show (if (p : Int) + 1 = H.1 + 1 then (k, n) else H.2.1 ((p : Int) + 1)) = _
        rw [if_neg (by omega)]
      have e2 : (hnew H k n).2.2 ((p : Int) + 1) = H.2.2 ((p : Int) + 1) := by
        funext j
        show (if (p : Int) + 1 = H.1 + 1 then 0 else H.2.2 ((p : Int) + 1) j) = _
        rw [if_neg (by omega)]
      rw [e1, e2]
      exact this.ext aext_app
    · have hp2 : p = ws.length := by
        have : p < (ws ++ [(q, e)]).length := (List.getElem?_eq_some_iff.mp hp).1
        rw [List.length_append] at this
        have : p < ws.length + 1 := this
        omega
      subst hp2
      rw [app_last] at hp
      cases hp
      have e1 : (hnew H k n).2.1 ((ws.length : Int) + 1) = (k, n) := by
        show (if (ws.length : Int) + 1 = H.1 + 1 then (k, n) else H.2.1 ((ws.length : Int) + 1)) = _
        rw [if_pos (by omega)]
      have e2 : (hnew H k n).2.2 ((ws.length : Int) + 1) = fun _ => 0 := by
        funext j
        show (if (ws.length : Int) + 1 = H.1 + 1 then 0 else H.2.2 ((ws.length : Int) + 1) j) = _
        rw [if_pos (by omega)]
      rw [e1, e2]
      exact he
theorem rv_def {ws : va_W} (ty : FieldType) : rv ws (defaultValue ty) (tgOf ty, 0) := by
  cases ty <;> rfl
section
variable {l : Launch} {G : GT} {M : MI} {d mc ms : Nat} {Q : AV → AH → Prop} {pc : Nat} {ls st : List AV} {cs sl : Nat} {H : AH}
theorem a_newaI {atype : ArrayType} {ty : FieldType} {j n : Nat} (hd : decode M.2.1 pc = .ok (.newarray atype, 2)) (hty : newarray.typeOf atype = ty) (hw : Cond.arrayClass ty ∈ lw_good) (hj : ∀ ca : Nat → ClassId, (aTys ca)[j]? = some (ca j, ty)) (hj3 : j < 3) (hdf : defaultValue ty = .int 0) (hra : ∀ (U : State) (cA : ClassId), va_RA U cA ty → U.vm.findClass ("[" ++ ty.toString) = some cA) (hb : n * componentBytes ty ≤ 536870912) (hnb : n < 100000) (hcs : cs + 1 ≤ mc) (hsl : sl + n ≤ ms) (kk : AW l G M d mc ms Q (pc + 2) ls (vR (H.1 + 1) :: st) (cs + 1) (sl + n) (hnew H (10 + j) n)) : AW l G M d mc ms Q pc ls (vI n :: st) cs sl H := by
  intro p e s m args below meth c z D ca ws0 C ws Hp locs lsR stR hR hE hS hL hT
  obtain ⟨_, _, e0, hy, hT0⟩ := rvs_cons hT
  subst e0
  obtain ⟨y, rfl, hy2⟩ := rv_I hy
  have hK := C.2.2.2.2.2.2.2.1
  have hz := C.2.2.2.2.2.2.2.2.1
  have hyN : y.toNatClampNeg = n := by
    show y.toInt.toNat = n
    omega
  refine va_newa C.1 C.2.1 (C.2.2.2.2.2.2.1 _ (by rw [hty]; exact hw)) hty hK hR.1 hR.2.1 hS (fun q hq => Nat.le_trans hz hq) (N' := n) (a0 := (n, .inl fun _ => 0)) (fun cA => by rw [hdf]; rfl) (fun w => by have := Int32.lt_iff_toInt_lt.mp w; have h0 : (0 : Int32).toInt = 0 := rfl; omega) hyN hb hcs hsl hd (fun q cA H1 hK1 hP1 hD1 hS1 => ?_)
  have r1 := hra s cA (hK1.2 (aTys ca).length (cA, ty) (by rw [List.getElem?_append_right (Nat.le_refl _)]; simp)).2
  have r2 := hra s (ca j) (hK.2 j (ca j, ty) (hj ca)).2
  have ec : cA = ca j := Option.some.inj (r1.symm.trans r2)
  subst ec
  refine kk p e s m args below meth c z D ca ws0 C (ws ++ [(q, .inl (ca j, n, .inl fun _ => 0))]) H1 locs lsR _ ⟨hP1, hD1, aHp_new (e := .inl (ca j, n, .inl fun _ => 0)) hR.2.2 ⟨⟨j, hj3, rfl, rfl⟩, rfl, fun k _ => rfl⟩⟩ (hE.trans aext_app) hS1 (hL.ext aext_app) ⟨Or.inl ⟨ws.length, _, app_last, ?_⟩, hT0.ext aext_app⟩
  have := hR.2.2.1
  exact congrArg vR (by omega)
theorem a_newaJ {n : Nat} (hd : decode M.2.1 pc = .ok (.newarray .long, 2)) (hw : Cond.arrayClass .long ∈ lw_good) (hb : n * componentBytes .long ≤ 536870912) (hnb : n < 100000) (hcs : cs + 1 ≤ mc) (hsl : sl + n ≤ ms) (kk : AW l G M d mc ms Q (pc + 2) ls (vR (H.1 + 1) :: st) (cs + 1) (sl + n) (hnew H 13 n)) : AW l G M d mc ms Q pc ls (vI n :: st) cs sl H := by
  intro p e s m args below meth c z D ca ws0 C ws Hp locs lsR stR hR hE hS hL hT
  obtain ⟨_, _, e0, hy, hT0⟩ := rvs_cons hT
  subst e0
  obtain ⟨y, rfl, hy2⟩ := rv_I hy
  have hK := C.2.2.2.2.2.2.2.1
  have hz := C.2.2.2.2.2.2.2.2.1
  have hyN : y.toNatClampNeg = n := by
    show y.toInt.toNat = n
    omega
  refine va_newa (atype := .long) (ty := .long) C.1 C.2.1 (C.2.2.2.2.2.2.1 _ hw) rfl hK hR.1 hR.2.1 hS (fun q hq => Nat.le_trans hz hq) (N' := n) (a0 := (n, .inr (.inl fun _ => 0))) (fun cA => rfl) (fun w => by have := Int32.lt_iff_toInt_lt.mp w; have h0 : (0 : Int32).toInt = 0 := rfl; omega) hyN hb hcs hsl hd (fun q cA H1 hK1 hP1 hD1 hS1 => ?_)
  have r1 : s.vm.findClass ("[" ++ FieldType.long.toString) = some cA := (hK1.2 (aTys ca).length (cA, .long) (by rw [List.getElem?_append_right (Nat.le_refl _)]; simp)).2
  have r2 : s.vm.findClass ("[" ++ FieldType.long.toString) = some (ca 3) := (hK.2 3 (ca 3, .long) rfl).2
  have ec : cA = ca 3 := Option.some.inj (r1.symm.trans r2)
  subst ec
  refine kk p e s m args below meth c z D ca ws0 C (ws ++ [(q, .inl (ca 3, n, .inr (.inl fun _ => 0)))]) H1 locs lsR _ ⟨hP1, hD1, aHp_new (e := .inl (ca 3, n, .inr (.inl fun _ => 0))) hR.2.2 ⟨rfl, rfl, rfl, fun k _ => rfl⟩⟩ (hE.trans aext_app) hS1 (hL.ext aext_app) ⟨Or.inl ⟨ws.length, _, app_last, ?_⟩, hT0.ext aext_app⟩
  have := hR.2.2.1
  exact congrArg vR (by omega)
/-- the words of a new object -/
def NW (own C : String) (idx ci N : Nat) (T : u_T) : Prop := Cond.classLink own idx C ∈ lw_good ∧ Cond.instantiable C N ∈ lw_good ∧ Cond.initialized C ∈ lw_good ∧ (∀ w ∈ u_ws C T N, w ∈ lw_good) ∧ vwCl[ci]? = some (C, T, N) ∧ ci < 8 ∧ ∀ k, k < N → parseFieldDescriptor (T k).2.2.1 = some (aTy ci k)
theorem a_new {idx ci N : Nat} {C9 : String} {T : u_T} (hd : decode M.2.1 pc = .ok (.new idx, 3)) (hw : NW M.1.cls C9 idx ci N T) (hcs : cs + 1 ≤ mc) (hsl : sl + N ≤ ms) (kk : AW l G M d mc ms Q (pc + 3) ls (vR (H.1 + 1) :: st) (cs + 1) (sl + N) (hnew H ci 0)) : AW l G M d mc ms Q pc ls st cs sl H := by
  intro p e s m args below meth c z D ca ws0 C ws Hp locs lsR stR hR hE hS hL hT
  obtain ⟨w1, w2, w3, w4, w5, w6, w7⟩ := hw
  have hts := C.2.2.2.2.2.2.1
  have hK := C.2.2.2.2.2.2.2.1
  have hz := C.2.2.2.2.2.2.2.2.1
  have hfs : ∀ j, j < N → defaultValue (aTy ci j) = vp_V ((List.range N).map fun k => defaultValue (aTy ci k)) j := by
    intro j hj
    show _ = List.getD _ j Value.null
    rw [List.getD_eq_getElem?_getD, List.getElem?_map, List.getElem?_range hj]
    rfl
  refine va_new C.1 C.2.1 hts w4 (aTy ci) w7 C.2.2.2.2.2.1 (hts _ w1) (hts _ w2) (hts _ w3) hK hR.1 hR.2.1 hS (fun q hq => Nat.le_trans hz hq) w5 (fs := (List.range N).map fun k => defaultValue (aTy ci k)) hfs hcs hsl hd (fun q H1 hP1 hD1 hS1 => ?_)
  refine kk p e s m args below meth c z D ca ws0 C (ws ++ [(q, .inr (ci, (List.range N).map fun k => defaultValue (aTy ci k)))]) H1 locs lsR _ ⟨hP1, hD1, aHp_new (e := .inr (ci, (List.range N).map fun k => defaultValue (aTy ci k))) hR.2.2 ⟨rfl, w6, ⟨_, w5, by rw [List.length_map, List.length_range]⟩, fun k v hv => ?_⟩⟩ (hE.trans aext_app) hS1 (hL.ext aext_app) ⟨Or.inl ⟨ws.length, _, app_last, ?_⟩, hT.ext aext_app⟩
  · rw [List.getElem?_map] at hv
    by_cases hk : k < N
    · rw [List.getElem?_range hk] at hv
      cases hv
      exact rv_def _
    · rw [List.getElem?_eq_none (by rw [List.length_range]; omega)] at hv
      cases hv
  · have := hR.2.2.1
    exact congrArg vR (by omega)
end
