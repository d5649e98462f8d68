/-! an array of references -/
def gA (G : GT) : Prop := ∀ (z : Nat) (s : State), G z s → va_AO "RunwaySequencer$State" s
section
variable {l : Launch} {G : GT} {M : MI} {d mc ms : Nat} {Q : AV → AH → Prop} {pc : Nat} {ls st : List AV} {cs sl : Nat} {H : AH}
theorem a_newaQ {idx n : Nat} (hA9 : gA G) (hd : decode M.2.1 pc = .ok (.anewarray idx, 3)) (hw : Cond.classLink M.1.cls idx "RunwaySequencer$State" ∈ lw_good) (hnb : n < 100000) (hcs : cs + 1 ≤ mc) (hsl : sl + n ≤ ms) (kk : AW l G M d mc ms Q (pc + 3) ls (vR (H.1 + 1) :: st) (cs + 1) (sl + n) (hnew H 15 n)) : AW l G M d mc ms Q pc ls (vI n :: st) cs sl H := by
  intro p e s m args below meth c z D ca ws0 C ws Hp locs lsR stR hR hE hS hL hT
  obtain ⟨_, _, e0, hy, hT0⟩ := rvs_cons hT
  subst e0
  obtain ⟨y, rfl, hy2⟩ := rv_I hy
  have hK := C.2.2.2.2.2.2.2.1
  have hz := C.2.2.2.2.2.2.2.2.1
  have hyN : y.toNatClampNeg = n := by
    show y.toInt.toNat = n
    omega
  refine va_newq C.1 C.2.1 C.2.2.2.2.2.1 (C.2.2.2.2.2.2.1 _ hw) (hA9 z s C.2.2.2.2.2.2.2.2.2.2.2.2) hK hR.1 hR.2.1 hS (fun q hq => Nat.le_trans hz hq) (N' := n) (fun w => by have := Int32.lt_iff_toInt_lt.mp w; have h0 : (0 : Int32).toInt = 0 := rfl; omega) hyN (by omega) hcs hsl hd (fun q cA H1 hK1 hP1 hD1 hS1 => ?_)
  obtain ⟨_, _, _, _, _, r1⟩ := (hK1.2 (aTys ca).length (cA, .object "RunwaySequencer$State") (by rw [List.getElem?_append_right (Nat.le_refl _)]; simp)).2
  obtain ⟨_, _, _, _, _, r2⟩ := (hK.2 5 (ca 5, .object "RunwaySequencer$State") rfl).2
  have ec : cA = ca 5 := Option.some.inj (r1.symm.trans r2)
  subst ec
  refine kk p e s m args below meth c z D ca ws0 C (ws ++ [(q, .inl (ca 5, n, .inr (.inr (.inr (.inr fun _ => none)))))]) H1 locs lsR _ ⟨hP1, hD1, aHp_new (e := .inl (ca 5, n, .inr (.inr (.inr (.inr fun _ => none))))) hR.2.2 ⟨rfl, rfl, rfl, fun k _ => rfl⟩⟩ (hE.trans aext_app) hS1 (hL.ext aext_app) ⟨Or.inl ⟨ws.length, _, app_last, ?_⟩, hT0.ext aext_app⟩
  have := hR.2.2.1
  exact congrArg vR (by omega)
end
