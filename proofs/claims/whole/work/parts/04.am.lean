/-! An abstract machine over whole numbers: values are (tag, number), the heap a function of addresses; its rows rest on the kit's. -/
abbrev AV : Type := Nat × Int
abbrev AH : Type := Nat × (Int → Nat × Int) × (Int → Int → Int)
abbrev vI (x : Int) : AV := (0, x)
abbrev vJ (x : Int) : AV := (1, x)
abbrev vF (x : Int) : AV := (2, x)
abbrev vD (x : Int) : AV := (3, x)
abbrev vR (x : Int) : AV := (4, x)
abbrev vX (x : Int) : AV := (6, x)
abbrev vV : AV := (7, 0)
abbrev vT (x : Int) : AV := (8, x)
abbrev vU : AV := (9, 0)
/-- the kind of a cell: class number (0 to 7) or 10 + number of the array's type; an array's length -/
abbrev hk (H : AH) (a : Int) : Nat := (H.2.1 a).1
abbrev hn (H : AH) (a : Int) : Int := (H.2.1 a).2
abbrev hg (H : AH) (a i : Int) : Int := H.2.2 a i
def hs (H : AH) (a i x : Int) : AH := (H.1, H.2.1, fun b j => if b = a ∧ j = i then x else H.2.2 b j)
def hnew (H : AH) (k : Nat) (n : Int) : AH := (H.1 + 1, (fun b => if b = H.1 + 1 then (k, n) else H.2.1 b), fun b j => if b = H.1 + 1 then 0 else H.2.2 b j)
def inI (x : Int) : Prop := -2147483648 ≤ x ∧ x ≤ 2147483647
def inJ (x : Int) : Prop := -9223372036854775808 ≤ x ∧ x ≤ 9223372036854775807
def rv (ws : va_W) (v : Value) (a : AV) : Prop := match v with
  | .int x => a = vI x.toInt
  | .long x => a = vJ x.toInt
  | .float b => a = vF b.toNat
  | .double b => a = vD b.toNat
  | .null => a = vR 0
  | .ref q => (∃ (p : Nat) (e : va_E), ws[p]? = some (q, e) ∧ a = vR (p + 1)) ∨ a = vX q
  | .retAddr _ => False
def rvs (ws : va_W) : List Value → List AV → Prop
  | [], [] => True
  | v :: vs, a :: as => rv ws v a ∧ rvs ws vs as
  | _, _ => False
def aext (ws ws' : va_W) : Prop := ∀ (p q : Nat) (e : va_E), ws[p]? = some (q, e) → ∃ e' : va_E, ws'[p]? = some (q, e')
theorem aext.rfl' {ws : va_W} : aext ws ws := fun _ _ e h => ⟨e, h⟩
theorem aext.trans {a b c : va_W} (h1 : aext a b) (h2 : aext b c) : aext a c := fun p q e h => by
  obtain ⟨e1, h3⟩ := h1 p q e h
  exact h2 p q e1 h3
theorem rv.ext {ws ws' : va_W} (h : aext ws ws') {v : Value} {a : AV} (hr : rv ws v a) : rv ws' v a := by
  cases v with
  | ref q =>
    rcases hr with ⟨p, e, h1, h2⟩ | h1
    · obtain ⟨e', h3⟩ := h p q e h1
      exact Or.inl ⟨p, e', h3, h2⟩
    · exact Or.inr h1
  | _ => exact hr
theorem rvs.ext {ws ws' : va_W} (h : aext ws ws') : ∀ {vs : List Value} {as : List AV}, rvs ws vs as → rvs ws' vs as
  | [], [], _ => trivial
  | _ :: _, _ :: _, hr => ⟨hr.1.ext h, rvs.ext h hr.2⟩
  | [], _ :: _, hr => hr
  | _ :: _, [], hr => hr
theorem rv_I {ws : va_W} {v : Value} {x : Int} (h : rv ws v (vI x)) : ∃ y : Int32, v = .int y ∧ x = y.toInt := by
  cases v with
  | int y => exact ⟨y, rfl, (Prod.mk.inj h).2⟩
  | long y => exact absurd (Prod.mk.inj h).1 (by decide)
  | float y => exact absurd (Prod.mk.inj h).1 (by decide)
  | double y => exact absurd (Prod.mk.inj h).1 (by decide)
  | null => exact absurd (Prod.mk.inj h).1 (by decide)
  | ref q =>
    rcases h with ⟨p, e, h1, h2⟩ | h1
    · exact absurd (Prod.mk.inj h2).1 (by decide)
    · exact absurd (Prod.mk.inj h1).1 (by decide)
  | retAddr _ => exact h.elim
theorem rv_J {ws : va_W} {v : Value} {x : Int} (h : rv ws v (vJ x)) : ∃ y : Int64, v = .long y ∧ x = y.toInt := by
  cases v with
  | long y => exact ⟨y, rfl, (Prod.mk.inj h).2⟩
  | int y => exact absurd (Prod.mk.inj h).1 (by decide)
  | float y => exact absurd (Prod.mk.inj h).1 (by decide)
  | double y => exact absurd (Prod.mk.inj h).1 (by decide)
  | null => exact absurd (Prod.mk.inj h).1 (by decide)
  | ref q =>
    rcases h with ⟨p, e, h1, h2⟩ | h1
    · exact absurd (Prod.mk.inj h2).1 (by decide)
    · exact absurd (Prod.mk.inj h1).1 (by decide)
  | retAddr _ => exact h.elim
theorem rv_F {ws : va_W} {v : Value} {x : Int} (h : rv ws v (vF x)) : ∃ y : UInt32, v = .float y ∧ x = y.toNat := by
  cases v with
  | float y => exact ⟨y, rfl, (Prod.mk.inj h).2⟩
  | int y => exact absurd (Prod.mk.inj h).1 (by decide)
  | long y => exact absurd (Prod.mk.inj h).1 (by decide)
  | double y => exact absurd (Prod.mk.inj h).1 (by decide)
  | null => exact absurd (Prod.mk.inj h).1 (by decide)
  | ref q =>
    rcases h with ⟨p, e, h1, h2⟩ | h1
    · exact absurd (Prod.mk.inj h2).1 (by decide)
    · exact absurd (Prod.mk.inj h1).1 (by decide)
  | retAddr _ => exact h.elim
theorem rv_D {ws : va_W} {v : Value} {x : Int} (h : rv ws v (vD x)) : ∃ y : UInt64, v = .double y ∧ x = y.toNat := by
  cases v with
  | double y => exact ⟨y, rfl, (Prod.mk.inj h).2⟩
  | int y => exact absurd (Prod.mk.inj h).1 (by decide)
  | long y => exact absurd (Prod.mk.inj h).1 (by decide)
  | float y => exact absurd (Prod.mk.inj h).1 (by decide)
  | null => exact absurd (Prod.mk.inj h).1 (by decide)
  | ref q =>
    rcases h with ⟨p, e, h1, h2⟩ | h1
    · exact absurd (Prod.mk.inj h2).1 (by decide)
    · exact absurd (Prod.mk.inj h1).1 (by decide)
  | retAddr _ => exact h.elim
/-- a reference: null, or a cell of the world -/
theorem rv_R {ws : va_W} {v : Value} {x : Int} (h : rv ws v (vR x)) : (v = .null ∧ x = 0) ∨ ∃ (p q : Nat) (e : va_E), v = .ref q ∧ ws[p]? = some (q, e) ∧ x = p + 1 := by
  cases v with
  | null => exact Or.inl ⟨rfl, (Prod.mk.inj h).2⟩
  | int y => exact absurd (Prod.mk.inj h).1 (by decide)
  | long y => exact absurd (Prod.mk.inj h).1 (by decide)
  | float y => exact absurd (Prod.mk.inj h).1 (by decide)
  | double y => exact absurd (Prod.mk.inj h).1 (by decide)
  | ref q =>
    rcases h with ⟨p, e, h1, h2⟩ | h1
    · exact Or.inr ⟨p, q, e, rfl, h1, (Prod.mk.inj h2).2⟩
    · exact absurd (Prod.mk.inj h1).1 (by decide)
  | retAddr _ => exact h.elim
theorem rv_X {ws : va_W} {v : Value} {x : Int} (h : rv ws v (vX x)) : ∃ q : Nat, v = .ref q ∧ x = q := by
  cases v with
  | null => exact absurd (Prod.mk.inj h).1 (by decide)
  | int y => exact absurd (Prod.mk.inj h).1 (by decide)
  | long y => exact absurd (Prod.mk.inj h).1 (by decide)
  | float y => exact absurd (Prod.mk.inj h).1 (by decide)
  | double y => exact absurd (Prod.mk.inj h).1 (by decide)
  | ref q =>
    rcases h with ⟨p, e, h1, h2⟩ | h1
    · exact absurd (Prod.mk.inj h2).1 (by decide)
    · exact ⟨q, rfl, (Prod.mk.inj h1).2⟩
  | retAddr _ => exact h.elim
theorem rvs_cons {ws : va_W} {vs : List Value} {a : AV} {as : List AV} (h : rvs ws vs (a :: as)) : ∃ (v : Value) (r : List Value), vs = v :: r ∧ rv ws v a ∧ rvs ws r as := by
  cases vs with
  | nil => exact h.elim
  | cons v r => exact ⟨v, r, rfl, h.1, h.2⟩
theorem rvs_nil {ws : va_W} {vs : List Value} (h : rvs ws vs []) : vs = [] := by
  cases vs with
  | nil => rfl
  | cons v r => exact h.elim
def cat2 (a : AV) : Bool := a.1 == 1 || a.1 == 3
theorem rv_cat {ws : va_W} {v : Value} {a : AV} (h : rv ws v a) : v.category = 2 ↔ cat2 a = true := by
  cases v with
  | int y => have h : a = vI y.toInt := h; subst h; simp [Value.category, cat2]
  | long y => have h : a = vJ y.toInt := h; subst h; simp [Value.category, cat2]
  | float y => have h : a = vF y.toNat := h; subst h; simp [Value.category, cat2]
  | double y => have h : a = vD y.toNat := h; subst h; simp [Value.category, cat2]
  | null => have h : a = vR 0 := h; subst h; simp [Value.category, cat2]
  | ref q =>
    rcases h with ⟨p, e, h1, h2⟩ | h1
    · subst h2; simp [Value.category, cat2]
    · subst h1; simp [Value.category, cat2]
  | retAddr _ => exact h.elim
def tgOf : FieldType → Nat
  | .long => 1
  | .float => 2
  | .double => 3
  | .object _ => 4
  | .array _ => 4
  | _ => 0
def aTy (ci : Nat) : Nat → FieldType := match ci with
  | 0 => tyX0
  | 1 => tyX1
  | 2 => tyX2
  | 3 => tyX4
  | 4 => tyX5
  | 5 => tyX6
  | 6 => tyX7
  | _ => tyX8
abbrev aTys (ca : Nat → ClassId) : List (ClassId × FieldType) := [(ca 0, .int), (ca 1, .boolean), (ca 2, .byte), (ca 3, .long), (ca 4, .double), (ca 5, .object "RunwaySequencer$State")]
def aEnt (ca : Nat → ClassId) (ws : va_W) (kd : Nat × Int) (g : Int → Int) (e : va_E) : Prop := match e with
  | .inr (ci, fs) => kd.1 = ci ∧ ci < 8 ∧ (∃ q : vw_C, vwCl[ci]? = some q ∧ fs.length = q.2.2) ∧ ∀ (k : Nat) (v : Value), fs[k]? = some v → rv ws v (tgOf (aTy ci k), g k)
  | .inl (cA, n, .inl f) => (∃ j : Nat, j < 3 ∧ kd.1 = 10 + j ∧ cA = ca j) ∧ kd.2 = n ∧ ∀ k : Nat, k < n → g k = (f k).toInt
  | .inl (cA, n, .inr (.inl f)) => kd.1 = 13 ∧ cA = ca 3 ∧ kd.2 = n ∧ ∀ k : Nat, k < n → g k = (f k).toInt
  | .inl (_, _, .inr (.inr (.inl _))) => False
  | .inl (cA, n, .inr (.inr (.inr (.inl f)))) => kd.1 = 14 ∧ cA = ca 4 ∧ kd.2 = n ∧ ∀ k : Nat, k < n → g k = (f k).toNat
  | .inl (cA, n, .inr (.inr (.inr (.inr f)))) => kd.1 = 15 ∧ cA = ca 5 ∧ kd.2 = n ∧ ∀ k : Nat, k < n → rv ws (va_rf (f k)) (4, g k)
def aHp (ca : Nat → ClassId) (ws : va_W) (H : AH) : Prop := ws.length = H.1 ∧ (H.2.1 0).1 = 99 ∧ ∀ (p q : Nat) (e : va_E), ws[p]? = some (q, e) → aEnt ca ws (H.2.1 (p + 1)) (H.2.2 (p + 1)) e
def aA (z : Nat) : Nat → Prop := fun q => z ≤ q
def aRel (D : va_G) (ca : Nat → ClassId) (z : Nat) (ws : va_W) (H : AH) (Hp : Heap) : Prop := va_P D vwCl ws Hp ∧ va_D (aA z) ws ∧ aHp ca ws H
theorem aEnt.ext {ca : Nat → ClassId} {ws ws' : va_W} {kd : Nat × Int} {g : Int → Int} {e : va_E} (h : aext ws ws') (ha : aEnt ca ws kd g e) : aEnt ca ws' kd g e := by
  match e, ha with
  | .inr (ci, fs), ha => exact ⟨ha.1, ha.2.1, ha.2.2.1, fun k v hv => (ha.2.2.2 k v hv).ext h⟩
  | .inl (cA, n, .inl f), ha => exact ha
  | .inl (cA, n, .inr (.inl f)), ha => exact ha
  | .inl (cA, n, .inr (.inr (.inr (.inl f)))), ha => exact ha
  | .inl (cA, n, .inr (.inr (.inr (.inr f)))), ha => exact ⟨ha.1, ha.2.1, ha.2.2.1, fun k hk => (ha.2.2.2 k hk).ext h⟩
def rls (ws : va_W) (nL : Nat) (ls : List AV) (lsR : Array Slot) : Prop := ls.length = nL ∧ ∃ lv : List (Nat × Value), lv_has lsR nL lv ∧ ∀ (i : Nat) (a : AV), ls[i]? = some a → a.1 ≠ 9 → ∃ v : Value, (i, v) ∈ lv ∧ rv ws v a
theorem rls.ext {ws ws' : va_W} (h : aext ws ws') {nL : Nat} {ls : List AV} {lsR : Array Slot} (hr : rls ws nL ls lsR) : rls ws' nL ls lsR := by
  obtain ⟨h0, lv, h1, h2⟩ := hr
  refine ⟨h0, lv, h1, fun i a ha hn => ?_⟩
  obtain ⟨v, h3, h4⟩ := h2 i a ha hn
  exact ⟨v, h3, h4.ext h⟩
theorem rls.at {ws : va_W} {nL : Nat} {ls : List AV} {lsR : Array Slot} (hr : rls ws nL ls lsR) {i : Nat} {a : AV} (ha : ls[i]? = some a) (hn : a.1 ≠ 9) : ∃ v : Value, lsR[i]? = some (.val v) ∧ rv ws v a := by
  obtain ⟨-, lv, h1, h2⟩ := hr
  obtain ⟨v, h3, h4⟩ := h2 i a ha hn
  exact ⟨v, h1.2.2 _ h3, h4⟩
def sto1 (ls : List AV) (i : Nat) : List AV := match i with
  | 0 => ls
  | j + 1 => match ls[j]? with
    | some b => if cat2 b then ls.set j vU else ls
    | none => ls
def sto (ls : List AV) (i : Nat) (a : AV) : List AV := if cat2 a then ((sto1 ls i).set (i + 1) vU).set i a else (sto1 ls i).set i a
theorem sto1_len (ls : List AV) (i : Nat) : (sto1 ls i).length = ls.length := by
  unfold sto1
  split
  · rfl
  · split
    · split <;> simp
    · rfl
theorem sto_len (ls : List AV) (i : Nat) (a : AV) : (sto ls i a).length = ls.length := by
  unfold sto
  split <;> simp [sto1_len]
theorem sto1_at {ls : List AV} {i j : Nat} {b : AV} (h : (sto1 ls i)[j]? = some b) (hb : b.1 ≠ 9) : ls[j]? = some b ∧ ¬ (j + 1 = i ∧ cat2 b = true) := by
  unfold sto1 at h
  split at h
  · exact ⟨h, by omega⟩
  · rename_i i
    split at h
    · rename_i b0 hb0
      split at h
      · by_cases hj : j = i
        · subst hj
          rw [List.getElem?_set] at h
          simp only [if_true] at h
          split at h
          · cases h; exact absurd rfl hb
          · cases h
        · rw [List.getElem?_set_ne (Ne.symm hj)] at h
          exact ⟨h, by omega⟩
      · refine ⟨h, fun hc => ?_⟩
        have hj : j = i := by omega
        subst hj
        rw [hb0] at h
        cases h
        exact absurd hc.2 (by assumption)
    · rename_i h0
      refine ⟨h, fun hc => ?_⟩
      have hj : j = i := by omega
      subst hj
      rw [h0] at h
      cases h
theorem sto_at {ls : List AV} {i j : Nat} {a b : AV} (h : (sto ls i a)[j]? = some b) (hb : b.1 ≠ 9) : (j = i ∧ b = a) ∨ (j ≠ i ∧ ls[j]? = some b ∧ ¬ (j + 1 = i ∧ cat2 b = true) ∧ (cat2 a = true → j ≠ i + 1)) := by
  unfold sto at h
  by_cases hj : j = i
  · subst hj
    left
    refine ⟨rfl, ?_⟩
    split at h
    · rw [List.getElem?_set] at h
      simp only [if_true] at h
      split at h
      · cases h; rfl
      · cases h
    · rw [List.getElem?_set] at h
      simp only [if_true] at h
      split at h
      · cases h; rfl
      · cases h
  · right
    split at h
    · rename_i hc
      rw [List.getElem?_set_ne (Ne.symm hj)] at h
      by_cases hj2 : j = i + 1
      · subst hj2
        rw [List.getElem?_set] at h
        simp only [if_true] at h
        split at h
        · cases h; exact absurd rfl hb
        · cases h
      · rw [List.getElem?_set_ne (Ne.symm hj2)] at h
        obtain ⟨h1, h2⟩ := sto1_at h hb
        exact ⟨hj, h1, h2, fun _ => hj2⟩
    · rename_i hc
      rw [List.getElem?_set_ne (Ne.symm hj)] at h
      obtain ⟨h1, h2⟩ := sto1_at h hb
      exact ⟨hj, h1, h2, fun q => absurd q hc⟩
theorem rls.sto1 {ws : va_W} {nL : Nat} {ls : List AV} {lsR' : Array Slot} {i : Nat} {a : AV} {v : Value} {lv : List (Nat × Value)} (hlen : ls.length = nL) (h2 : ∀ (i : Nat) (a : AV), ls[i]? = some a → a.1 ≠ 9 → ∃ v : Value, (i, v) ∈ lv ∧ rv ws v a) (hr : rv ws v a)
    (h : lv_has lsR' nL ((i, v) :: lv.filter (fun q => !(q.1 == i) && !(q.1 + 1 == i && q.2.category == 2)))) : rls ws nL (sto ls i a) lsR' := by
  refine ⟨by rw [sto_len]; exact hlen, _, h, fun j b hb hn => ?_⟩
  rcases sto_at hb hn with ⟨e1, e2⟩ | ⟨e1, e2, e3, e4⟩
  · subst e1; subst e2
    exact ⟨v, List.mem_cons_self, hr⟩
  · obtain ⟨w, h3, h4⟩ := h2 j b e2 hn
    refine ⟨w, List.mem_cons_of_mem _ (List.mem_filter.mpr ⟨h3, ?_⟩), h4⟩
    have hc := rv_cat h4
    by_cases hj : j + 1 = i
    · have : ¬ w.category = 2 := fun q => e3 ⟨hj, hc.mp q⟩
      simp [e1, this]
    · simp [e1, hj]
theorem rls.sto2 {ws : va_W} {nL : Nat} {ls : List AV} {lsR' : Array Slot} {i : Nat} {a : AV} {v : Value} {lv : List (Nat × Value)} (hlen : ls.length = nL) (h2 : ∀ (i : Nat) (a : AV), ls[i]? = some a → a.1 ≠ 9 → ∃ v : Value, (i, v) ∈ lv ∧ rv ws v a) (hr : rv ws v a) (hca : cat2 a = true)
    (h : lv_has lsR' nL ((i, v) :: lv.filter (fun q => !(q.1 == i) && (!(q.1 == i + 1) && !(q.1 + 1 == i && q.2.category == 2))))) : rls ws nL (sto ls i a) lsR' := by
  refine ⟨by rw [sto_len]; exact hlen, _, h, fun j b hb hn => ?_⟩
  rcases sto_at hb hn with ⟨e1, e2⟩ | ⟨e1, e2, e3, e4⟩
  · subst e1; subst e2
    exact ⟨v, List.mem_cons_self, hr⟩
  · obtain ⟨w, h3, h4⟩ := h2 j b e2 hn
    refine ⟨w, List.mem_cons_of_mem _ (List.mem_filter.mpr ⟨h3, ?_⟩), h4⟩
    have hc := rv_cat h4
    have hj2 := e4 hca
    by_cases hj : j + 1 = i
    · have : ¬ w.category = 2 := fun q => e3 ⟨hj, hc.mp q⟩
      simp [e1, hj2, this]
    · simp [e1, hj, hj2]
