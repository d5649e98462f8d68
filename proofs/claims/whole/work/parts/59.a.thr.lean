/-! throwing -/
def nmX : List String := ["java/lang/RuntimeException", "java/lang/Exception"]
def inS (X : String) : MethodName := ⟨X, "<init>", "(Ljava/lang/String;)V"⟩
def excB : List Cond := [.castable "java/lang/IllegalArgumentException" "java/lang/IllegalArgumentException", .castable "java/lang/IndexOutOfBoundsException" "java/lang/IndexOutOfBoundsException", .declares (inS "java/lang/RuntimeException"), .declares (inS "java/lang/Exception"), .declares (inS "java/lang/Throwable")]
/-- the texts of what is thrown -/
def thrT : List (Nat × String) := [(46, "a byte is 0 to 255"), (155, "a separation is 0 to 600"), (275, "an earliest time is 0 to 200000"), (281, "a parameter is out of range"), (301, "there is no such flight"), (304, "there is no such runway"), (306, "a class is 0 to 3"), (308, "a shift is 0 to 4"), (310, "seconds are 1 to 7200"), (312, "a slot is 0 or 1")]
/-- what is given for throwing -/
def GX (l : Launch) (G : GT) : Prop := l.stackTraces = false ∧ ∀ (z : Nat) (s : State), G z s → (vx_Zq Bundle.tN "UNASSIGNED_STACK" Bundle.steD (aA z) s s.heap ∧ vx_Zq Bundle.tN "SUPPRESSED_SENTINEL" Bundle.listD (aA z) s s.heap) ∧ (∀ w ∈ excB, w.before #[] s = true) ∧ ∀ q ∈ thrT, ∃ sa : Nat, vk_R "RunwaySequencer" q.1 q.2 sa s
theorem exc_g0 : ((vx_atS "RunwaySequencer" 48 "java/lang/IllegalArgumentException" nmX).filter goodWord).all (fun w => decide (w ∈ lw_good)) = true := by decide +kernel
theorem exc_g1 : ((vx_atS "RunwaySequencer" 303 "java/lang/IndexOutOfBoundsException" nmX).filter goodWord).all (fun w => decide (w ∈ lw_good)) = true := by decide +kernel
theorem exc_b0 : ((vx_atS "RunwaySequencer" 48 "java/lang/IllegalArgumentException" nmX).filter (fun w => !goodWord w)).all (fun w => decide (w ∈ excB)) = true := by decide +kernel
theorem exc_b1 : ((vx_atS "RunwaySequencer" 303 "java/lang/IndexOutOfBoundsException" nmX).filter (fun w => !goodWord w)).all (fun w => decide (w ∈ excB)) = true := by decide +kernel
theorem exc_o0 : (Cond.classLink "RunwaySequencer" 44 "java/lang/IllegalArgumentException" :: Cond.initialized "java/lang/IllegalArgumentException" :: vx_atS "RunwaySequencer" 48 "java/lang/IllegalArgumentException" nmX).all vx_ot = true := by decide +kernel
theorem exc_o1 : (Cond.classLink "RunwaySequencer" 299 "java/lang/IndexOutOfBoundsException" :: Cond.initialized "java/lang/IndexOutOfBoundsException" :: vx_atS "RunwaySequencer" 303 "java/lang/IndexOutOfBoundsException" nmX).all vx_ot = true := by decide +kernel
theorem exc_bt : excB.all (fun w => w.onTables) = true := by decide +kernel
/-- class, place of the class, place of its constructor -/
def exK (k : Int) (ik ic : Nat) : Prop := (k = 0 ∧ ik = 44 ∧ ic = 48) ∨ (k = 1 ∧ ik = 299 ∧ ic = 303)
theorem wx_44 : Cond.classLink "RunwaySequencer" 44 "java/lang/IllegalArgumentException" ∈ lw_good := w_mem 708 (by decide +kernel) (by decide +kernel)
theorem wx_299 : Cond.classLink "RunwaySequencer" 299 "java/lang/IndexOutOfBoundsException" ∈ lw_good := w_mem 786 (by decide +kernel) (by decide +kernel)
theorem wx_12 : Cond.initialized "java/lang/IllegalArgumentException" ∈ lw_good := w_mem 12 (by decide +kernel) (by decide +kernel)
theorem wx_20 : Cond.initialized "java/lang/IndexOutOfBoundsException" ∈ lw_good := w_mem 20 (by decide +kernel) (by decide +kernel)
theorem exK_w {k : Int} {ik ic : Nat} (h : exK k ik ic) {args : Array Value} {s : State} (hg : ∀ w ∈ lw_good, w.before args s = true) (hb : ∀ w ∈ excB, w.before #[] s = true) :
    Bundle.fit (aExc k) = true ∧ (Cond.classLink "RunwaySequencer" ik (aExc k)).before args s = true ∧ (Cond.initialized (aExc k)).before args s = true ∧ (∀ w ∈ vx_atS "RunwaySequencer" ic (aExc k) nmX, w.before args s = true) ∧ ∀ w ∈ Cond.classLink "RunwaySequencer" ik (aExc k) :: Cond.initialized (aExc k) :: vx_atS "RunwaySequencer" ic (aExc k) nmX, vx_ot w = true := by
  have hB : ∀ w ∈ excB, w.before args s = true := fun w hw => va_tabs (List.all_eq_true.mp exc_bt w hw) rfl (hb w hw)
  rcases h with ⟨rfl, rfl, rfl⟩ | ⟨rfl, rfl, rfl⟩
  · have e : aExc 0 = "java/lang/IllegalArgumentException" := rfl
    rw [e]
    refine ⟨by decide +kernel, hg _ wx_44, hg _ wx_12, vx_hat (B := excB) (fun w hw => hg w ?_) (fun w hw => ?_) hB, fun w hw => List.all_eq_true.mp exc_o0 w hw⟩
    · have := List.all_eq_true.mp exc_g0 w hw
      simpa using this
    · have := List.all_eq_true.mp exc_b0 w hw
      simpa using this
  · have e : aExc 1 = "java/lang/IndexOutOfBoundsException" := rfl
    rw [e]
    refine ⟨by decide +kernel, hg _ wx_299, hg _ wx_20, vx_hat (B := excB) (fun w hw => hg w ?_) (fun w hw => ?_) hB, fun w hw => List.all_eq_true.mp exc_o1 w hw⟩
    · have := List.all_eq_true.mp exc_g1 w hw
      simpa using this
    · have := List.all_eq_true.mp exc_b1 w hw
      simpa using this
section ATHR
variable {l : Launch} {G : GT} {M : MI} {d mc ms : Nat} {Q : AV → AH → Prop} {pc : Nat} {ls st : List AV} {cs sl : Nat} {H : AH}
theorem nmX_fit : ∀ n ∈ nmX, Bundle.fit n = true := by
  have : nmX.all Bundle.fit = true := by decide +kernel
  exact fun n hn => List.all_eq_true.mp this n hn
theorem a_thrX {z : Nat} {D : va_G} {ca : Nat → ClassId} {ws ws0 : va_W} {s t : State} {Hp : Heap} {locs : List Loc} {k : Int} (hR : aRel D ca z ws H Hp) (hE : aext ws0 ws) (hS : va_S (aA z) s.heap Hp locs) (hq : Q (vT k) H) (h1 : Hp.size ≤ t.heap.size) (h2 : ∀ q : Nat, q < Hp.size → t.heap[q]? = Hp[q]?) : aX z D ca ws0 Q (aExc k) s t := by
  obtain ⟨hP, hD, hHp⟩ := hR
  exact ⟨k, ws, H, rfl, ⟨hP.kept fun i q hi => h2 _ (vx_lt hP hi), hD, hHp⟩, hE, hq, Nat.le_trans hS.1 h1, fun q q1 q2 => (h2 q (Nat.lt_of_lt_of_le q1 hS.1)).trans (hS.2.1 q q1 q2)⟩
theorem a_thrS {ik is ic : Nat} {text : String} (k : Int) (hG : GX l G) (d0 : decode M.2.1 pc = .ok (.new ik, 3)) (d3 : decode M.2.1 (pc + 3) = .ok (.dup, 1)) (d4 : decode M.2.1 (pc + 4) = .ok (.ldc is, 2)) (d6 : decode M.2.1 (pc + 6) = .ok (.invokespecial ic, 3)) (d9 : decode M.2.1 (pc + 9) = .ok (.athrow, 1)) (hm : M.1.cls = "RunwaySequencer") (hh : M.2.2.2.2 = []) (hx : exK k ik ic) (ht : (is, text) ∈ thrT) (hca : aCat st ≤ 8) (hdd : 6 ≤ d) (hcs : cs + 1 ≤ mc) (hsl : sl + 6 ≤ ms) (hq : Q (vT k) H) : AW l G M d mc ms Q pc ls st cs sl H := by
  intro p e s m args below meth c z D ca ws0 C ws Hp locs lsR stR hR hE hS hL hT
  have Gz := C.2.2.2.2.2.2.2.2.2.2.2.2
  obtain ⟨⟨hU, hN⟩, hb, hstr⟩ := hG.2 z s Gz
  obtain ⟨sa, hsa⟩ := hstr _ ht
  obtain ⟨x1, x2, x3, x4, x5⟩ := exK_w hx C.2.2.2.2.2.2.1 hb
  have hown := C.2.2.2.2.2.1
  rw [hm] at hown
  refine vx_throwS C.1 C.2.1 hG.1 hown x1 nmX_fit x2 x3 hsa x4 x5 hU hN hS (hL.size.trans C.2.2.1.symm) d0 d3 d4 d6 d9 (fun y hy => ?_) (by show 2 + 3 < d; omega) (by rw [aCat_eq hT]; show aCat st + (13 * (2 + 1) + 43) ≤ 64 * d; omega) hcs hsl C.2.2.2.2.1 (fun t _ h1 h2 => a_thrX hR hE hS hq h1 h2) hS.2.2 hcs hsl
  rw [C.2.2.2.2.2.2.2.2.2.2.1, hh] at hy
  cases hy
theorem a_thrW {ik is ic : Nat} {text : String} (k : Int) (hG : GX l G) (d0 : decode M.2.1 pc = .ok (.new ik, 3)) (d3 : decode M.2.1 (pc + 3) = .ok (.dup, 1)) (d4 : decode M.2.1 (pc + 4) = .ok (.ldc_w is, 3)) (d7 : decode M.2.1 (pc + 7) = .ok (.invokespecial ic, 3)) (d10 : decode M.2.1 (pc + 10) = .ok (.athrow, 1)) (hm : M.1.cls = "RunwaySequencer") (hh : M.2.2.2.2 = []) (hx : exK k ik ic) (ht : (is, text) ∈ thrT) (hca : aCat st ≤ 8) (hdd : 6 ≤ d) (hcs : cs + 1 ≤ mc) (hsl : sl + 6 ≤ ms) (hq : Q (vT k) H) : AW l G M d mc ms Q pc ls st cs sl H := by
  intro p e s m args below meth c z D ca ws0 C ws Hp locs lsR stR hR hE hS hL hT
  have Gz := C.2.2.2.2.2.2.2.2.2.2.2.2
  obtain ⟨⟨hU, hN⟩, hb, hstr⟩ := hG.2 z s Gz
  obtain ⟨sa, hsa⟩ := hstr _ ht
  obtain ⟨x1, x2, x3, x4, x5⟩ := exK_w hx C.2.2.2.2.2.2.1 hb
  have hown := C.2.2.2.2.2.1
  rw [hm] at hown
  refine vx_throwSW C.1 C.2.1 hG.1 hown x1 nmX_fit x2 x3 hsa x4 x5 hU hN hS (hL.size.trans C.2.2.1.symm) d0 d3 d4 d7 d10 (fun y hy => ?_) (by show 2 + 3 < d; omega) (by rw [aCat_eq hT]; show aCat st + (13 * (2 + 1) + 43) ≤ 64 * d; omega) hcs hsl C.2.2.2.2.1 (fun t _ h1 h2 => a_thrX hR hE hS hq h1 h2) hS.2.2 hcs hsl
  rw [C.2.2.2.2.2.2.2.2.2.2.1, hh] at hy
  cases hy
end ATHR
theorem sko {H : AH} {c c' i v : Int} (e : c = c') (h : hg H c' i = v) : hg H c i = v := by rw [e]; exact h
theorem CL.arg {l : Launch} {G : GT} {M : MI} {d mc ms : Nat} {a a' : Int} {as : List AV} {H : AH} {Q : AV → AH → Prop} (e : a = a') (h : CL l G M d mc ms (vR a' :: as) H Q) : CL l G M d mc ms (vR a :: as) H Q := by rw [e]; exact h
theorem a_wide {l : Launch} {G : GT} {M : MI} {d mc ms : Nat} {Q : AV → AH → Prop} {pc : Nat} {ls st : List AV} {cs sl cs' sl' : Nat} {H : AH} (h1 : cs ≤ cs') (h2 : sl ≤ sl') (k : AW l G M d mc ms Q pc ls st cs' sl' H) : AW l G M d mc ms Q pc ls st cs sl H := by
  intro p e s m args below meth c z D ca ws0 C ws Hp locs lsR stR hR hE hS hL hT
  exact W.widen h1 h2 (k p e s m args below meth c z D ca ws0 C ws Hp locs lsR stR hR hE hS hL hT)
