/-! the reference's world: layout, row, plans -/
def MW (H : AH) (a : Int) (M : Row) : Prop := Lay LMod H a ∧ rowM H a = M ∧ okM M ∧ mkd H a
theorem mkd_only {H H' : AH} {a : Int} {P : Int → Int → Prop} (h : mkd H a) (ho : only H H' P) (h1 : ∀ i, ¬ P (a + 1) i) (h2 : ∀ b i, a + 7 ≤ b → b ≤ a + 10 → ¬ P b i) (h3 : ¬ P a 13) : mkd H' a := by
  have hr : rowM H' a = rowM H a := rowM_only ho h1
  rcases h with h | ⟨h, hm⟩
  · exact Or.inl ((ho.2.2 _ _ h3).trans h)
  · refine Or.inr ⟨(ho.2.2 _ _ h3).trans h, ?_⟩
    rw [hr]
    intro r q1 q2
    obtain ⟨m1, m2, m3, m4⟩ := hm r q1 q2
    refine ⟨(ho.2.2 _ _ (h2 _ _ (by omega) (by omega))).trans m1, m2.only ho (fun _ _ => h2 _ _ (by omega) (by omega)), m3.only ho (fun _ _ => h2 _ _ (by omega) (by omega)), fun p hp => (ho.2.2 _ _ (h2 _ _ (by omega) (by omega))).trans (m4 p hp)⟩
theorem mkd_wr {H : AH} {a b i x : Int} (h : mkd H a) (h1 : b ≠ a + 1) (h2 : b < a + 7 ∨ a + 10 < b) (h3 : b ≠ a ∨ i ≠ 13) : mkd (hs H b i x) a := by
  refine mkd_only (P := fun c j => c = b ∧ j = i) h (only.wr ⟨rfl, rfl⟩) ?_ ?_ ?_
  · rintro j ⟨q, -⟩; exact h1 q.symm
  · rintro c j q1 q2 ⟨q, -⟩; omega
  · rintro ⟨q1, q2⟩
    rcases h3 with h3 | h3
    · exact h3 q1.symm
    · exact h3 q2.symm
theorem MW.only {H H' : AH} {a : Int} {M : Row} {P : Int → Int → Prop} (h : MW H a M) (ho : only H H' P) (hn : ∀ c i, P c i → nrf H c i) (h1 : ∀ i, ¬ P (a + 1) i) (h2 : ∀ b i, a + 7 ≤ b → b ≤ a + 10 → ¬ P b i) (h3 : ¬ P a 13) : MW H' a M := ⟨h.1.only ok_Mod ho hn, (rowM_only ho h1).trans h.2.1, h.2.2.1, mkd_only h.2.2.2 ho h1 h2 h3⟩
/-- the plans are made, nothing else: with an answer -/
abbrev qP (a : Int) (M : Row) (v : AV) (H : AH) : AV → AH → Prop := fun r H' => r = v ∧ only H H' (pMks a) ∧ MW H' a M
section
variable {l : Launch} {G : GT} {M : MI} {d mc ms : Nat} {Q : AV → AH → Prop} {pc : Nat} {ls st : List AV} {cs sl : Nat} {H : AH}
theorem b_ialdV {a i n v : Int} (hd : decode M.2.1 pc = .ok (.iaload, 1)) (hkd : hk H a = 10) (hl : hn H a = n) (hb : 0 ≤ i ∧ i < n) (hv : hg H a i = v) (kk : AW l G M d mc ms Q (pc + 1) ls (vI v :: st) cs sl H) : AW l G M d mc ms Q pc ls (vI i :: vR a :: st) cs sl H := b_iald hd hkd hl hb (by rw [hv]; exact kk)
end
theorem only.mks {H H' : AH} {a : Int} (h : only H H' (pMks a)) : ∀ b i, (b < a + 7 ∨ a + 13 < b) → (b ≠ a ∨ (i ≠ 13 ∧ i ≠ 21)) → hg H' b i = hg H b i := fun b i h1 h2 => h.2.2 b i (by
  rintro (⟨q1, q2⟩ | ⟨q1, q2 | q2⟩)
  · omega
  · rcases h2 with h2 | h2
    · exact h2 q1
    · exact h2.1 q2
  · rcases h2 with h2 | h2
    · exact h2 q1
    · exact h2.2 q2)
section
variable {l : Launch} {G : GT}
theorem c_makesQ {d : Nat} {H : AH} {a : Int} {M : Row} (hW : MW H a M) (hd : 14 ≤ d := by omega) : CL l G mX8_makes d 0 0 [vR a] H (fun r H' => r = vV ∧ only H H' (pMks a) ∧ MW H' a M ∧ Made H' a M) := by
  refine CL.mono (c_makes hW.1 hW.2.1 hW.2.2.1 hW.2.2.2 hd) ?_
  rintro r H' ⟨h1, h2, h3, h4⟩
  have hr : rowM H' a = M := (rowM_only h2 (fun _ q => by rcases q with q | q <;> omega)).trans hW.2.1
  exact ⟨h1, h2, ⟨hW.1.only ok_Mod h2 (pMks_nrf hW.1), hr, hW.2.2.1, Or.inr ⟨h3, by rw [hr]; exact h4⟩⟩, h4⟩
end
/-- a flight's time in a list of times -/
def tmOf (T : List (Int × Int)) (f : Int) : Int := match T.find? (fun p => p.1 == f) with
  | some p => p.2
  | none => 0
theorem tmOf_mem : ∀ {T : List (Int × Int)} {f t : Int}, (T.map Prod.fst).Nodup → (f, t) ∈ T → tmOf T f = t
  | [], f, t, _, h => by cases h
  | p :: T, f, t, hn, h => by
    have h1 := List.nodup_cons.mp hn
    unfold tmOf
    rw [List.find?_cons]
    by_cases hp : p.1 = f
    · rw [show (p.1 == f) = true by simpa using hp]
      rcases List.mem_cons.mp h with q | q
      · rw [← q]
      · exact absurd (List.mem_map.mpr ⟨(f, t), q, rfl⟩) (by rw [← hp]; exact h1.1)
    · rw [show (p.1 == f) = false by simpa using hp]
      rcases List.mem_cons.mp h with q | q
      · exact absurd (by rw [← q]) hp
      · exact tmOf_mem h1.2 q
noncomputable def planT (M : Row) (f : Int) : Int := tmOf (tmS M (ofM M f 6) [] (planL M (ofM M f 6))) f
theorem plan_fst (M : Row) (r : Int) : (tmS M r [] (planL M r)).map Prod.fst = planL M r := by rw [tmS_fst]; rfl
theorem planT_mem {M : Row} (hM : okM M) {f : Int} (hf : 0 ≤ f ∧ f < M 6) (hp : ofM M f 7 = 0) : (f, planT M f) ∈ tmS M (ofM M f 6) [] (planL M (ofM M f 6)) := by
  obtain ⟨p1, p2, p3⟩ := planL_perm hM (r := ofM M f 6)
  have hin : f ∈ planL M (ofM M f 6) := (p3 f).mpr ((comeL_mem hM).mpr ⟨hf, hp, rfl⟩)
  rw [← plan_fst M (ofM M f 6)] at hin p1
  obtain ⟨p, hp1, hp2⟩ := List.mem_map.mp hin
  have : p = (f, p.2) := by rw [← hp2]
  rw [this] at hp1
  unfold planT
  rw [tmOf_mem p1 hp1]
  exact hp1
theorem planT_in {M : Row} (hM : okM M) {f : Int} (hf : 0 ≤ f ∧ f < M 6) (hp : ofM M f 7 = 0) : 0 ≤ planT M f ∧ planT M f ≤ 314400 := by
  have h1 := planT_mem hM hf hp
  obtain ⟨p1, p2, p3⟩ := planL_perm hM (r := ofM M f 6)
  have h2 := tmS_ok hM (r := ofM M f 6) (planL M (ofM M f 6)) [] (fun x hx => ((comeL_mem hM).mp ((p3 x).mp hx)).1) (fun p hp => by cases hp) _ h1
  have := comeL_len hM (r := ofM M f 6)
  simp at h2
  omega
theorem Made.time {H : AH} {a : Int} {M : Row} (h : Made H a M) (hM : okM M) {f : Int} (hf : 0 ≤ f ∧ f < M 6) (hp : ofM M f 7 = 0) : hg H (a + 10) f = planT M f := by
  obtain ⟨-, -, -, -, -, -, h6, -⟩ := hM.2 f hf.1 hf.2
  exact (h _ h6.1 h6.2).2.2.2 _ (planT_mem hM hf hp)
/-- a flight's time now -/
noncomputable def tmNow (M : Row) (f : Int) : Int := if ofM M f 7 = 0 then planT M f else ofM M f 8
theorem tmNow_in {M : Row} (hM : okM M) {f : Int} (hf : 0 ≤ f ∧ f < M 6) (h3 : ¬ ofM M f 7 = 3) : 0 ≤ tmNow M f ∧ tmNow M f ≤ 314400 := by
  unfold tmNow
  split
  · exact planT_in hM hf (by assumption)
  · obtain ⟨-, -, -, -, -, -, -, h7, h8, -⟩ := hM.2 f hf.1 hf.2
    have := h8 (by omega)
    omega
def ixOf (L : List Int) (f : Int) : Int := (L.idxOf f : Nat)
section
variable {p : Program} {l : Launch} {e : Env} {R : Room} {s : State} {m : MethodId} {args : Array Value} {below : List Frame} {meth : Method} {c : Code} {H : Heap} {locs : List Loc} {cells slots : Nat} {Q : State → Prop}
theorem lv_ldcfw {cc : ByteArray} {pc : Nat} {ls : Array Slot} {rest : List Value} (hexec : p.tables.exec = Jvm.exec) (hb : c.code = cc) {own : String} {index : Nat} {v : UInt32} (hown : s.vm.findClass own = some m.cls) (hconst : (Jvm.Cond.constantFloat own index v).before args s = true) (hdg : decode cc pc = .ok (.ldc_w index, 3)) (k : W p l e R s m args below meth c H locs cells slots Q (F0 m (pc + 3) ls (.float v :: rest))) : W p l e R s m args below meth c H locs cells slots Q (F0 m pc ls rest) := by
  intro T hT X
  obtain ⟨t, a, b⟩ := k T hT X
  refine ⟨t, ?_, b⟩
  obtain ⟨k9, cf, hk, hcf, hcp⟩ := Cond.constantFloat_spec hown hconst
  obtain ⟨k', hk', he⟩ := X.warmed.alike.2.2 _ _ hk
  subst hb
  jvm_step X.here [hexec, hdg, ldc_w.wp_float (s := T) (f := F0 m pc ls rest) X.here.top hk' (by rw [he]; exact hcf) hcp]
  exact a
end
section
variable {l : Launch} {G : GT} {M : MI} {d mc ms : Nat} {Q : AV → AH → Prop} {pc : Nat} {ls st : List AV} {cs sl : Nat} {H : AH}
theorem a_ldcfw {i : Nat} {v : UInt32} (hd : decode M.2.1 pc = .ok (.ldc_w i, 3)) (hw : Cond.constantFloat M.1.cls i v ∈ lw_good) (k : AW l G M d mc ms Q (pc + 3) ls (vF (v.toNat) :: st) cs sl H) : AW l G M d mc ms Q pc ls st cs sl H := by
  intro p e s m args below meth c z D ca ws0 C ws Hp locs lsR stR hR hE hS hL hT
  exact lv_ldcfw C.1 C.2.1 C.2.2.2.2.2.1 (C.2.2.2.2.2.2.1 _ hw) hd (k p e s m args below meth c z D ca ws0 C ws Hp locs lsR _ hR hE hS hL ⟨rfl, hT⟩)
theorem a_ldcw {i : Nat} {v : Int32} (hd : decode M.2.1 pc = .ok (.ldc_w i, 3)) (hw : Cond.constant M.1.cls i v ∈ lw_good) (k : AW l G M d mc ms Q (pc + 3) ls (vI (v.toInt) :: st) cs sl H) : AW l G M d mc ms Q pc ls st cs sl H := by
  intro p e s m args below meth c z D ca ws0 C ws Hp locs lsR stR hR hE hS hL hT
  exact lv_ldcw C.1 C.2.1 C.2.2.2.2.2.1 (C.2.2.2.2.2.2.1 _ hw) hd (k p e s m args below meth c z D ca ws0 C ws Hp locs lsR _ hR hE hS hL ⟨rfl, hT⟩)
/-- a weaker end -/
theorem AW.post {Q' : AV → AH → Prop} (h : AW l G M d mc ms Q pc ls st cs sl H) (hq : ∀ v H', Q v H' → Q' v H') : AW l G M d mc ms Q' pc ls st cs sl H := by
  intro p e s m args below meth c z D ca ws0 C ws Hp locs lsR stR hR hE hS hL hT T hT9 X
  obtain ⟨t, a1, o, b1, b2, b3⟩ := h p e s m args below meth c z D ca ws0 C ws Hp locs lsR stR hR hE hS hL hT T hT9 X
  refine ⟨t, a1, o, b1, b2, ?_⟩
  rcases b3 with ⟨⟨ov, ao, ws', H', q1, q2, q3, q4, q5, q6⟩, q7⟩ | ⟨q, q1, E, ce, L, ⟨k, ws', H', x1, x2, x3, x4, x5⟩, q3⟩
  · exact Or.inl ⟨⟨ov, ao, ws', H', q1, q2, q3, q4, hq _ _ q5, q6⟩, q7⟩
  · exact Or.inr ⟨q, q1, E, ce, L, ⟨k, ws', H', x1, x2, x3, hq _ _ x4, x5⟩, q3⟩
end
