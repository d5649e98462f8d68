/-! numbers of the machine as whole numbers -/
theorem bm32 {z : Int} (h : inI z) : z.bmod (2 ^ 32) = z := by
  unfold inI at h
  simp only [Int.bmod]
  split <;> omega
theorem bm64 {z : Int} (h : inJ z) : z.bmod (2 ^ 64) = z := by
  unfold inJ at h
  simp only [Int.bmod]
  split <;> omega
theorem i32_in (x : Int32) : inI x.toInt := ⟨by have := Int32.le_toInt x; omega, by have := Int32.toInt_lt x; omega⟩
theorem i64_in (x : Int64) : inJ x.toInt := ⟨by have := Int64.le_toInt x; omega, by have := Int64.toInt_lt x; omega⟩
theorem i32_of {n : Int} (h : inI n) : (Int32.ofInt n).toInt = n := by rw [Int32.toInt_ofInt]; exact bm32 h
theorem i64_of {n : Int} (h : inJ n) : (Int64.ofInt n).toInt = n := by rw [Int64.toInt_ofInt]; exact bm64 h
theorem i32_add {x y : Int32} (h : inI (x.toInt + y.toInt)) : (x + y).toInt = x.toInt + y.toInt := by rw [Int32.toInt_add]; exact bm32 h
theorem i32_sub {x y : Int32} (h : inI (x.toInt - y.toInt)) : (x - y).toInt = x.toInt - y.toInt := by rw [Int32.toInt_sub]; exact bm32 h
theorem i32_mul {x y : Int32} (h : inI (x.toInt * y.toInt)) : (x * y).toInt = x.toInt * y.toInt := by rw [Int32.toInt_mul]; exact bm32 h
theorem i32_neg {x : Int32} (h : inI (-x.toInt)) : (-x).toInt = -x.toInt := by rw [Int32.toInt_neg]; exact bm32 h
theorem i64_add {x y : Int64} (h : inJ (x.toInt + y.toInt)) : (x + y).toInt = x.toInt + y.toInt := by rw [Int64.toInt_add]; exact bm64 h
theorem i64_sub {x y : Int64} (h : inJ (x.toInt - y.toInt)) : (x - y).toInt = x.toInt - y.toInt := by rw [Int64.toInt_sub]; exact bm64 h
theorem i64_mul {x y : Int64} (h : inJ (x.toInt * y.toInt)) : (x * y).toInt = x.toInt * y.toInt := by rw [Int64.toInt_mul]; exact bm64 h
theorem i64_neg {x : Int64} (h : inJ (-x.toInt)) : (-x).toInt = -x.toInt := by rw [Int64.toInt_neg]; exact bm64 h
theorem i32_div {x y : Int32} (h : inI (x.toInt.tdiv y.toInt)) : (x / y).toInt = x.toInt.tdiv y.toInt := by rw [Int32.toInt_div]; exact bm32 h
theorem i64_div {x y : Int64} (h : inJ (x.toInt.tdiv y.toInt)) : (x / y).toInt = x.toInt.tdiv y.toInt := by rw [Int64.toInt_div]; exact bm64 h
theorem tdm (x y : Int) : x - x.tdiv y * y = x.tmod y := by
  have h := Int.tmod_add_mul_tdiv x y
  rw [Int.mul_comm] at h
  omega
theorem i32_rem {x y : Int32} (h : inI (x.toInt.tdiv y.toInt)) (h2 : inI (x.toInt.tdiv y.toInt * y.toInt)) (h3 : inI (x.toInt.tmod y.toInt)) : (x - x / y * y).toInt = x.toInt.tmod y.toInt := by
  have e1 := i32_div h
  have e2 : (x / y * y).toInt = x.toInt.tdiv y.toInt * y.toInt := by rw [i32_mul (by rw [e1]; exact h2), e1]
  rw [i32_sub (by rw [e2, tdm]; exact h3), e2, tdm]
theorem i64_rem {x y : Int64} (h : inJ (x.toInt.tdiv y.toInt)) (h2 : inJ (x.toInt.tdiv y.toInt * y.toInt)) (h3 : inJ (x.toInt.tmod y.toInt)) : (x - x / y * y).toInt = x.toInt.tmod y.toInt := by
  have e1 := i64_div h
  have e2 : (x / y * y).toInt = x.toInt.tdiv y.toInt * y.toInt := by rw [i64_mul (by rw [e1]; exact h2), e1]
  rw [i64_sub (by rw [e2, tdm]; exact h3), e2, tdm]
theorem vp_in_of' {x : Int32} {n : Nat} (h0 : 0 ≤ x.toInt) (h1 : x.toInt < n) : vp_in x n := vp_in_iff.mpr ⟨h0, h1⟩
theorem clampI {x : Int32} (h0 : 0 ≤ x.toInt) : (x.toNatClampNeg : Int) = x.toInt := by
  rw [Int32.toNatClampNeg]
  exact Int.toNat_of_nonneg h0
/-! the context of a walk -/
abbrev MI : Type := MethodName × ByteArray × Nat × Option FieldType × List (Nat × Nat × Nat × Nat)
abbrev aRoom (d mc ms : Nat) : Room := { frames := d, cells := mc, slots := ms, locals := 64 * d }
def lw_good : List Cond := lw_tbl.filter goodWord
theorem lw_goodW {w : Cond} (h : w ∈ lw_good) : goodWord w = true := (List.mem_filter.mp h).2
theorem lw_goodT {w : Cond} (h : w ∈ lw_good) : w ∈ lw_tbl := (List.mem_filter.mp h).1
theorem lw_goodI {w : Cond} (h : w ∈ lw_tbl) (h2 : goodWord w = true) : w ∈ lw_good := List.mem_filter.mpr ⟨h, h2⟩
abbrev GT : Type := Nat → State → Prop
/-- what is given of the world outside stays as long as nothing there is written -/
def aStab (G : GT) : Prop := ∀ (z : Nat) (s U : State), G z s → s.WarmedH U.vm → s.heap.size ≤ U.heap.size → (∀ q : Nat, q < s.heap.size → ¬ z ≤ q → U.heap[q]? = s.heap[q]?) → G z U
def Ctx (G : GT) (M : MI) (p : Program) (s : State) (m : MethodId) (args : Array Value) (meth : Method) (c : Code) (z : Nat) (D : va_G) (ca : Nat → ClassId) : Prop :=
  p.tables.exec = Jvm.exec ∧ c.code = M.2.1 ∧ c.maxLocals = M.2.2.1 ∧ meth.sig.returnType = M.2.2.2.1 ∧ meth.locks = false ∧ s.vm.findClass M.1.cls = some m.cls ∧ (∀ w ∈ lw_good, w.before args s = true) ∧ va_K D vwCl (aTys ca) s ∧ z ≤ s.heap.size ∧ meth.name = M.1.name ∧ c.exceptionTable.toList = tableOf M.2.2.2.2 ∧ aStab G ∧ G z s
def rvo (ws : va_W) (o : Option Value) (a : AV) : Prop := match o with
  | none => a = vV
  | some v => rv ws v a
def aExc (k : Int) : String := if k = 0 then "java/lang/IllegalArgumentException" else "java/lang/IndexOutOfBoundsException"
def aQ (z : Nat) (D : va_G) (ca : Nat → ClassId) (ws0 : va_W) (Q : AV → AH → Prop) : Array Value → State → Outcome → State → Prop := fun _ st oc t =>
  ∃ (ov : Option Value) (ao : AV) (ws' : va_W) (H' : AH), oc = .returned ov ∧ rvo ws' ov ao ∧ aRel D ca z ws' H' t.heap ∧ aext ws0 ws' ∧ Q ao H' ∧ va_F (aA z) st t
def aX (z : Nat) (D : va_G) (ca : Nat → ClassId) (ws0 : va_W) (Q : AV → AH → Prop) : String → State → State → Prop := fun E st t =>
  ∃ (k : Int) (ws' : va_W) (H' : AH), E = aExc k ∧ aRel D ca z ws' H' t.heap ∧ aext ws0 ws' ∧ Q (vT k) H' ∧ va_F (aA z) st t
def AW (l : Launch) (G : GT) (M : MI) (d mc ms : Nat) (Q : AV → AH → Prop) (pc : Nat) (ls st : List AV) (cs sl : Nat) (H : AH) : Prop :=
  ∀ (p : Program) (e : Env) (s : State) (m : MethodId) (args : Array Value) (below : List Frame) (meth : Method) (c : Code) (z : Nat) (D : va_G) (ca : Nat → ClassId) (ws0 : va_W), Ctx G M p s m args meth c z D ca →
  ∀ (ws : va_W) (Hp : Heap) (locs : List Loc) (lsR : Array Slot) (stR : List Value), aRel D ca z ws H Hp → aext ws0 ws → va_S (aA z) s.heap Hp locs → rls ws M.2.2.1 ls lsR → rvs ws stR st →
  W p l e (aRoom d mc ms) s m args below meth c Hp locs cs sl (vx_MQ below (aQ z D ca ws0 Q) (aX z D ca ws0 Q) args s mc ms (aA z)) (F0 m pc lsR stR)
def aWs (M : MI) : List Cond := Cond.code M.1 M.2.1 M.2.2.1 M.2.2.2.1 :: lw_good
def aPc (G : GT) (z : Nat) (D : va_G) (ca : Nat → ClassId) (ws : va_W) (as : List AV) (H : AH) : Array Value → State → Prop := fun args U =>
  ∃ vs : List Value, args = vs.toArray ∧ rvs ws vs as ∧ aRel D ca z ws H U.heap ∧ va_K D vwCl (aTys ca) U ∧ z ≤ U.heap.size ∧ aStab G ∧ G z U
/-- a method's contract: from the arguments as and the heap H it ends with Q -/
def CL (l : Launch) (G : GT) (M : MI) (d mc ms : Nat) (as : List AV) (H : AH) (Q : AV → AH → Prop) : Prop :=
  ∀ (z : Nat) (D : va_G) (ca : Nat → ClassId) (ws : va_W), vx_Met l M.1 (aWs M) (aRoom d mc ms) (aPc G z D ca ws as H) (aQ z D ca ws Q) (aX z D ca ws Q) mc ms (aA z)
def aLay : List AV → List AV
  | [] => []
  | a :: as => if cat2 a then a :: vU :: aLay as else a :: aLay as
def aArgs (n : Nat) (as : List AV) : List AV := aLay as ++ List.replicate (n - (aLay as).length) vU
theorem aLay_len {ws : va_W} : ∀ {vs : List Value} {as : List AV}, rvs ws vs as → (lg_sl vs).length = (aLay as).length
  | [], [], _ => rfl
  | v :: vs, a :: as, h => by
    have h1 := aLay_len h.2
    have hc := rv_cat h.1
    by_cases hv : v.category = 2
    · have : cat2 a = true := hc.mp hv
      have e : lg_sl (v :: vs) = [.val v, .second] ++ lg_sl vs := by simp [lg_sl, hv]
      rw [e]
      simp [aLay, this, h1]
    · have : ¬ cat2 a = true := fun q => hv (hc.mpr q)
      have e : lg_sl (v :: vs) = [.val v] ++ lg_sl vs := by simp [lg_sl, hv]
      rw [e]
      simp [aLay, this, h1]
  | [], _ :: _, h => h.elim
  | _ :: _, [], h => h.elim
theorem aLay_at {ws : va_W} : ∀ {vs : List Value} {as : List AV} (_ : rvs ws vs as) (k i : Nat) (a : AV), (aLay as)[i]? = some a → a.1 ≠ 9 → ∃ v : Value, (k + i, v) ∈ lv_args k vs ∧ rv ws v a
  | [], [], _, k, i, a, ha, _ => by simp [aLay] at ha
  | v :: vs, b :: as, h, k, i, a, ha, hn => by
    have hc := rv_cat h.1
    cases i with
    | zero =>
      have hb : a = b := by
        unfold aLay at ha
        split at ha <;> simpa using ha.symm
      subst hb
      exact ⟨v, by simp [lv_args], h.1⟩
    | succ i =>
      by_cases hv : v.category = 2
      · have hcb : cat2 b = true := hc.mp hv
        rw [show aLay (b :: as) = b :: vU :: aLay as by simp [aLay, hcb]] at ha
        cases i with
        | zero =>
          simp at ha
          rw [← ha] at hn
          exact absurd rfl hn
        | succ i =>
          obtain ⟨w, h1, h2⟩ := aLay_at h.2 (k + 2) i a (by simpa using ha) hn
          refine ⟨w, ?_, h2⟩
          have e : k + (i + 1 + 1) = k + 2 + i := by omega
          rw [e]
          simp only [lv_args, hv, if_true]
          exact List.mem_cons_of_mem _ h1
      · have hcb : ¬ cat2 b = true := fun q => hv (hc.mpr q)
        rw [show aLay (b :: as) = b :: aLay as by simp [aLay, hcb]] at ha
        obtain ⟨w, h1, h2⟩ := aLay_at h.2 (k + 1) i a (by simpa using ha) hn
        refine ⟨w, ?_, h2⟩
        have e : k + (i + 1) = k + 1 + i := by omega
        rw [e]
        simp only [lv_args, hv, if_false]
        exact List.mem_cons_of_mem _ h1
  | [], _ :: _, h, _, _, _, _, _ => h.elim
  | _ :: _, [], h, _, _, _, _, _ => h.elim
/-- a body's walk gives the contract -/
theorem CL.of {l : Launch} {G : GT} {M : MI} {d mc ms : Nat} {as : List AV} {H : AH} {Q : AV → AH → Prop} (hy : plainName M.1.cls = true) (hh : M.2.2.2.2 = []) (hle : (aLay as).length ≤ M.2.2.1)
    (h : AW l G M d mc ms Q 0 (aArgs M.2.2.1 as) [] 0 0 H) : CL l G M d mc ms as H Q := by
  intro z D ca ws
  refine vx_ofW (cc := M.2.1) (maxL := M.2.2.1) (ret := M.2.2.2.1) hy rfl ?_
  intro p e s m args below meth c s₁ B hml hxt hv
  obtain ⟨vs, rfl, hvs, hR, hK, hz, hst, hG⟩ := hv
  have hts := atoms_spec (ws := aWs M) B.pre
  have hl := lv_entry vs (n := M.2.2.1) (by rw [aLay_len hvs]; exact hle)
  rw [lg_entry_eq]
  refine h p e s m vs.toArray below meth c z D ca ws ⟨B.exec, B.bytes, hml, B.returns, B.notSynchronized, findClass_of_methodNamed B.named, fun w hw => hts w (List.mem_cons_of_mem _ hw), hK, hz, (name_of_methodNamed B.named B.method).1, ?_, hst, hG⟩ ws s.heap [] _ [] hR aext.rfl' va_S.rf ⟨?_, _, hl, fun i a ha hn => ?_⟩ trivial
  · rw [hh]
    cases hc : c.exceptionTable.toList with
    | nil => rfl
    | cons x r => exact (hxt x (by rw [hc]; exact List.mem_cons_self)).elim
  · simp [aArgs]
    omega
  · unfold aArgs at ha
    by_cases hi : i < (aLay as).length
    · rw [List.getElem?_append_left hi] at ha
      obtain ⟨v, h1, h2⟩ := aLay_at hvs 0 i a ha hn
      exact ⟨v, by simpa using h1, h2⟩
    · rw [List.getElem?_append_right (by omega), List.getElem?_replicate] at ha
      split at ha
      · cases ha; exact absurd rfl hn
      · cases ha
theorem CL.mono {l : Launch} {G : GT} {M : MI} {d mc ms : Nat} {as : List AV} {H : AH} {Q Q' : AV → AH → Prop} (h : CL l G M d mc ms as H Q) (hq : ∀ r H', Q r H' → Q' r H') : CL l G M d mc ms as H Q' := by
  intro z D ca ws p e ha hc hk s m args below hf happ hP hK
  obtain ⟨n, o, h1, h2, h3, h4⟩ := h z D ca ws p e ha hc hk s m args below hf happ hP hK
  refine ⟨n, o, h1, h2, h3, ?_⟩
  rcases h4 with ⟨⟨ov, ao, ws', H', q1, q2, q3, q4, q5, q6⟩, q7⟩ | ⟨q, q1, E, ce, L, ⟨k, ws', H', x1, x2, x3, x4, x5⟩, q3⟩
  · exact Or.inl ⟨⟨ov, ao, ws', H', q1, q2, q3, q4, hq _ _ q5, q6⟩, q7⟩
  · exact Or.inr ⟨q, q1, E, ce, L, ⟨k, ws', H', x1, x2, x3, hq _ _ x4, x5⟩, q3⟩
