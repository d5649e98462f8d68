/-! layouts: which cells lie behind an address, and what refers to what -/
abbrev LT : Type := List (Int × Nat × Int) × List (Int × Int × Int)
/-- cells by offset: kind and length; references by offset and place: the offset of what is there -/
def Lay (T : LT) (H : AH) (b : Int) : Prop := (∀ e ∈ T.1, H.2.1 (b + e.1) = e.2) ∧ ∀ e ∈ T.2, hg H (b + e.1) e.2.1 = b + e.2.2
def LTok (T : LT) : Bool := T.2.all fun e => T.1.any fun k => k.1 == e.1 && (decide (k.2.1 < 8) && (decide (0 ≤ e.2.1) && tgOf (aTy k.2.1 e.2.1.toNat) == 4))
/-- a place that holds no reference -/
def nrf (H : AH) (a i : Int) : Prop := (10 ≤ hk H a ∧ hk H a < 15) ∨ (hk H a < 8 ∧ 0 ≤ i ∧ tgOf (aTy (hk H a) i.toNat) ≠ 4)
theorem nrf_arr {H : AH} {a i : Int} {k : Nat} (h : hk H a = k) (h1 : 10 ≤ k) (h2 : k < 15) : nrf H a i := Or.inl ⟨by omega, by omega⟩
theorem nrf_fld {H : AH} {a : Int} {c : Nat} (k : Nat) (h : hk H a = c) (h1 : c < 8) (h2 : tgOf (aTy c k) ≠ 4) : nrf H a k := Or.inr ⟨by omega, by omega, by rw [h]; exact h2⟩
theorem Lay.wr {T : LT} {H : AH} {b a i x : Int} (h : Lay T H b) (hT : LTok T = true) (hn : nrf H a i) : Lay T (hs H a i x) b := by
  refine ⟨h.1, fun e he => ?_⟩
  have h1 := List.all_eq_true.mp hT e he
  obtain ⟨k, hk1, hk2⟩ := List.any_eq_true.mp h1
  simp only [Bool.and_eq_true, beq_iff_eq, decide_eq_true_eq] at hk2
  obtain ⟨e1, e2, e3, e4⟩ := hk2
  have e5 := h.1 k hk1
  rw [e1] at e5
  show (if b + e.1 = a ∧ e.2.1 = i then x else H.2.2 (b + e.1) e.2.1) = b + e.2.2
  rw [if_neg]
  · exact h.2 e he
  · rintro ⟨q1, q2⟩
    rw [q1] at e5
    rcases hn with ⟨n1, n2⟩ | ⟨n1, n2, n3⟩
    · have : hk H a = k.2.1 := congrArg Prod.fst e5
      omega
    · have : hk H a = k.2.1 := congrArg Prod.fst e5
      rw [this, ← q2] at n3
      exact n3 e4
def LTsub (T T' : LT) (o : Int) : Bool := (T'.1.all fun e => T.1.any fun k => k.1 == o + e.1 && decide (k.2 = e.2)) && T'.2.all fun e => T.2.any fun k => k.1 == o + e.1 && (k.2.1 == e.2.1 && k.2.2 == o + e.2.2)
theorem Lay.sub {T T' : LT} {H : AH} {a : Int} (o : Int) (h : Lay T H a) (hs : LTsub T T' o = true) : Lay T' H (a + o) := by
  unfold LTsub at hs
  rw [Bool.and_eq_true] at hs
  refine ⟨fun e he => ?_, fun e he => ?_⟩
  · obtain ⟨k, h1, h2⟩ := List.any_eq_true.mp (List.all_eq_true.mp hs.1 e he)
    simp only [Bool.and_eq_true, beq_iff_eq, decide_eq_true_eq] at h2
    have h3 := h.1 k h1
    rw [h2.1, h2.2, ← Int.add_assoc] at h3
    exact h3
  · obtain ⟨k, h1, h2⟩ := List.any_eq_true.mp (List.all_eq_true.mp hs.2 e he)
    simp only [Bool.and_eq_true, beq_iff_eq] at h2
    have h3 := h.2 k h1
    rw [h2.1, h2.2.1, h2.2.2, ← Int.add_assoc, ← Int.add_assoc] at h3
    exact h3
/-- the same cells, the same references -/
theorem Lay.same {T : LT} {H H' : AH} {b : Int} (h : Lay T H b) (h1 : H'.2.1 = H.2.1) (h2 : ∀ a i : Int, ¬ nrf H a i → hg H' a i = hg H a i) (hT : LTok T = true) : Lay T H' b := by
  refine ⟨fun e he => by rw [h1]; exact h.1 e he, fun e he => ?_⟩
  have h3 := List.all_eq_true.mp hT e he
  obtain ⟨k, hk1, hk2⟩ := List.any_eq_true.mp h3
  simp only [Bool.and_eq_true, beq_iff_eq, decide_eq_true_eq] at hk2
  obtain ⟨e1, e2, e3, e4⟩ := hk2
  have e5 := h.1 k hk1
  rw [e1] at e5
  have e6 : hk H (b + e.1) = k.2.1 := congrArg Prod.fst e5
  rw [h2, h.2 e he]
  rintro (⟨n1, n2⟩ | ⟨n1, n2, n3⟩)
  · omega
  · rw [e6] at n3
    exact n3 e4
theorem Lay.k {T : LT} {H : AH} {b : Int} (h : Lay T H b) {o : Int} {k : Nat} {n : Int} (he : (o, k, n) ∈ T.1) : hk H (b + o) = k := by
  have := h.1 _ he
  exact congrArg Prod.fst this
theorem Lay.n {T : LT} {H : AH} {b : Int} (h : Lay T H b) {o : Int} {k : Nat} {n : Int} (he : (o, k, n) ∈ T.1) : hn H (b + o) = n := by
  have := h.1 _ he
  exact congrArg Prod.snd this
theorem Lay.r {T : LT} {H : AH} {b : Int} (h : Lay T H b) {o i v : Int} (he : (o, i, v) ∈ T.2) : hg H (b + o) i = b + v := h.2 _ he
/-- writing -/
theorem hg_hs (H : AH) (a i x b j : Int) : hg (hs H a i x) b j = if b = a ∧ j = i then x else hg H b j := rfl
theorem hg_same (H : AH) (a i x : Int) : hg (hs H a i x) a i = x := by rw [hg_hs, if_pos ⟨rfl, rfl⟩]
theorem hg_ne (H : AH) {a i x b j : Int} (h : b ≠ a ∨ j ≠ i) : hg (hs H a i x) b j = hg H b j := by
  rw [hg_hs, if_neg]
  rintro ⟨h1, h2⟩
  rcases h with h | h
  · exact h h1
  · exact h h2
theorem hk_hs (H : AH) (a i x b : Int) : hk (hs H a i x) b = hk H b := rfl
theorem hn_hs (H : AH) (a i x b : Int) : hn (hs H a i x) b = hn H b := rfl
section ALAY
variable {l : Launch} {G : GT} {M : MI} {d mc ms : Nat} {Q : AV → AH → Prop} {pc : Nat} {ls st : List AV} {cs sl : Nat} {H : AH}
def wk : List AV → List AV → Prop
  | [], [] => True
  | a :: as, b :: bs => (b.1 = 9 ∨ a = b) ∧ wk as bs
  | _, _ => False
theorem wk_at : ∀ {as bs : List AV}, wk as bs → as.length = bs.length ∧ ∀ (i : Nat) (b : AV), bs[i]? = some b → b.1 ≠ 9 → as[i]? = some b
  | [], [], _ => ⟨rfl, fun i b h _ => by simp at h⟩
  | a :: as, b :: bs, h => by
    obtain ⟨h1, h2⟩ := wk_at h.2
    refine ⟨by rw [List.length_cons, List.length_cons, h1], fun i c hc hn => ?_⟩
    cases i with
    | zero =>
      simp only [List.getElem?_cons_zero, Option.some.injEq] at hc ⊢
      subst hc
      exact h.1.resolve_left hn
    | succ i =>
      simp only [List.getElem?_cons_succ] at hc ⊢
      exact h2 i c hc hn
  | [], _ :: _, h => h.elim
  | _ :: _, [], h => h.elim
/-- some locals are forgotten -/
theorem a_weak {ls' : List AV} (hw : wk ls ls') (k : AW l G M d mc ms Q pc ls' st cs sl H) : AW l G M d mc ms Q pc ls st cs sl H := by
  intro p e s m args below meth c z D ca ws0 C ws Hp locs lsR stR hR hE hS hL hT
  refine k p e s m args below meth c z D ca ws0 C ws Hp locs lsR stR hR hE hS ?_ hT
  obtain ⟨h1, h2⟩ := wk_at hw
  obtain ⟨h3, lv, h4, h5⟩ := hL
  exact ⟨by rw [← h1]; exact h3, lv, h4, fun i a ha hn => h5 i a (h2 i a ha hn) hn⟩
theorem a_getI {idx ci k : Nat} {a ki : Int} (hd : decode M.2.1 pc = .ok (.getfield idx, 3)) (hf : FW M.1.cls idx ci k) (ht : tgOf (aTy ci k) = 0) (hki : (k : Int) = ki) (hkd : hk H a = ci) (kk : AW l G M d mc ms Q (pc + 3) ls (vI (hg H a ki) :: st) cs sl H) : AW l G M d mc ms Q pc ls (vR a :: st) cs sl H := by
  subst hki
  exact a_getf hd hf ht hkd kk
theorem a_getJ {idx ci k : Nat} {a ki : Int} (hd : decode M.2.1 pc = .ok (.getfield idx, 3)) (hf : FW M.1.cls idx ci k) (ht : tgOf (aTy ci k) = 1) (hki : (k : Int) = ki) (hkd : hk H a = ci) (kk : AW l G M d mc ms Q (pc + 3) ls (vJ (hg H a ki) :: st) cs sl H) : AW l G M d mc ms Q pc ls (vR a :: st) cs sl H := by
  subst hki
  exact a_getf hd hf ht hkd kk
theorem a_getR {idx ci k : Nat} {a ki a' : Int} (hd : decode M.2.1 pc = .ok (.getfield idx, 3)) (hf : FW M.1.cls idx ci k) (ht : tgOf (aTy ci k) = 4) (hki : (k : Int) = ki) (hkd : hk H a = ci) (hv : hg H a ki = a') (kk : AW l G M d mc ms Q (pc + 3) ls (vR a' :: st) cs sl H) : AW l G M d mc ms Q pc ls (vR a :: st) cs sl H := by
  subst hki
  subst hv
  exact a_getf hd hf ht hkd kk
theorem a_putI {idx ci k : Nat} {a x ki : Int} (hd : decode M.2.1 pc = .ok (.putfield idx, 3)) (hf : FP' M.1.cls idx ci k) (hty : aTy ci k = .int) (hki : (k : Int) = ki) (hkd : hk H a = ci) (kk : AW l G M d mc ms Q (pc + 3) ls st cs sl (hs H a ki x)) : AW l G M d mc ms Q pc ls (vI x :: vR a :: st) cs sl H := by
  subst hki
  exact a_putf (t := 0) hd hf (by rw [hty]; rfl) (fun ws v hr => pv_I hty ws v hr) hkd kk
theorem a_putZ {idx ci k : Nat} {a x ki : Int} (hd : decode M.2.1 pc = .ok (.putfield idx, 3)) (hf : FP' M.1.cls idx ci k) (hty : aTy ci k = .boolean) (hki : (k : Int) = ki) (hkd : hk H a = ci) (h01 : x = 0 ∨ x = 1) (kk : AW l G M d mc ms Q (pc + 3) ls st cs sl (hs H a ki x)) : AW l G M d mc ms Q pc ls (vI x :: vR a :: st) cs sl H := by
  subst hki
  exact a_putf (t := 0) hd hf (by rw [hty]; rfl) (fun ws v hr => pv_Z hty h01 ws v hr) hkd kk
theorem a_putJ {idx ci k : Nat} {a x ki : Int} (hd : decode M.2.1 pc = .ok (.putfield idx, 3)) (hf : FP' M.1.cls idx ci k) (hty : aTy ci k = .long) (hki : (k : Int) = ki) (hkd : hk H a = ci) (kk : AW l G M d mc ms Q (pc + 3) ls st cs sl (hs H a ki x)) : AW l G M d mc ms Q pc ls (vJ x :: vR a :: st) cs sl H := by
  subst hki
  exact a_putf (t := 1) hd hf (by rw [hty]; rfl) (fun ws v hr => pv_J hty ws v hr) hkd kk
/-- array reads and writes, the length by its name -/
theorem b_iald {a i n : Int} (hd : decode M.2.1 pc = .ok (.iaload, 1)) (hkd : hk H a = 10) (hl : hn H a = n) (hb : 0 ≤ i ∧ i < n) (kk : AW l G M d mc ms Q (pc + 1) ls (vI (hg H a i) :: st) cs sl H) : AW l G M d mc ms Q pc ls (vI i :: vR a :: st) cs sl H := a_iald hd hkd (by rw [hl]; exact hb) kk
theorem b_zald {a i n : Int} (hd : decode M.2.1 pc = .ok (.baload, 1)) (hkd : hk H a = 11) (hl : hn H a = n) (hb : 0 ≤ i ∧ i < n) (kk : AW l G M d mc ms Q (pc + 1) ls (vI (hg H a i) :: st) cs sl H) : AW l G M d mc ms Q pc ls (vI i :: vR a :: st) cs sl H := a_zald hd hkd (by rw [hl]; exact hb) kk
theorem b_bald {a i n : Int} (hd : decode M.2.1 pc = .ok (.baload, 1)) (hkd : hk H a = 12) (hl : hn H a = n) (hb : 0 ≤ i ∧ i < n) (kk : AW l G M d mc ms Q (pc + 1) ls (vI (hg H a i) :: st) cs sl H) : AW l G M d mc ms Q pc ls (vI i :: vR a :: st) cs sl H := a_bald hd hkd (by rw [hl]; exact hb) kk
theorem b_lald {a i n : Int} (hd : decode M.2.1 pc = .ok (.laload, 1)) (hkd : hk H a = 13) (hl : hn H a = n) (hb : 0 ≤ i ∧ i < n) (kk : AW l G M d mc ms Q (pc + 1) ls (vJ (hg H a i) :: st) cs sl H) : AW l G M d mc ms Q pc ls (vI i :: vR a :: st) cs sl H := a_lald hd hkd (by rw [hl]; exact hb) kk
theorem b_dald {a i n : Int} (hd : decode M.2.1 pc = .ok (.daload, 1)) (hkd : hk H a = 14) (hl : hn H a = n) (hb : 0 ≤ i ∧ i < n) (kk : AW l G M d mc ms Q (pc + 1) ls (vD (hg H a i) :: st) cs sl H) : AW l G M d mc ms Q pc ls (vI i :: vR a :: st) cs sl H := a_dald hd hkd (by rw [hl]; exact hb) kk
theorem b_qald {a i n : Int} (hd : decode M.2.1 pc = .ok (.aaload, 1)) (hkd : hk H a = 15) (hl : hn H a = n) (hb : 0 ≤ i ∧ i < n) (kk : AW l G M d mc ms Q (pc + 1) ls (vR (hg H a i) :: st) cs sl H) : AW l G M d mc ms Q pc ls (vI i :: vR a :: st) cs sl H := a_qald hd hkd (by rw [hl]; exact hb) kk
theorem b_iast {a i x n : Int} (hd : decode M.2.1 pc = .ok (.iastore, 1)) (hkd : hk H a = 10) (hl : hn H a = n) (hb : 0 ≤ i ∧ i < n) (kk : AW l G M d mc ms Q (pc + 1) ls st cs sl (hs H a i x)) : AW l G M d mc ms Q pc ls (vI x :: vI i :: vR a :: st) cs sl H := a_iast hd hkd (by rw [hl]; exact hb) kk
theorem b_zast {a i x n : Int} (hd : decode M.2.1 pc = .ok (.bastore, 1)) (hkd : hk H a = 11) (hl : hn H a = n) (hb : 0 ≤ i ∧ i < n) (h01 : x = 0 ∨ x = 1) (kk : AW l G M d mc ms Q (pc + 1) ls st cs sl (hs H a i x)) : AW l G M d mc ms Q pc ls (vI x :: vI i :: vR a :: st) cs sl H := a_zast hd hkd (by rw [hl]; exact hb) h01 kk
theorem b_bast {a i x n : Int} (hd : decode M.2.1 pc = .ok (.bastore, 1)) (hkd : hk H a = 12) (hl : hn H a = n) (hb : 0 ≤ i ∧ i < n) (h01 : -128 ≤ x ∧ x ≤ 127) (kk : AW l G M d mc ms Q (pc + 1) ls st cs sl (hs H a i x)) : AW l G M d mc ms Q pc ls (vI x :: vI i :: vR a :: st) cs sl H := a_bast hd hkd (by rw [hl]; exact hb) h01 kk
theorem b_last {a i x n : Int} (hd : decode M.2.1 pc = .ok (.lastore, 1)) (hkd : hk H a = 13) (hl : hn H a = n) (hb : 0 ≤ i ∧ i < n) (kk : AW l G M d mc ms Q (pc + 1) ls st cs sl (hs H a i x)) : AW l G M d mc ms Q pc ls (vJ x :: vI i :: vR a :: st) cs sl H := a_last hd hkd (by rw [hl]; exact hb) kk
theorem b_dast {a i x n : Int} (hd : decode M.2.1 pc = .ok (.dastore, 1)) (hkd : hk H a = 14) (hl : hn H a = n) (hb : 0 ≤ i ∧ i < n) (kk : AW l G M d mc ms Q (pc + 1) ls st cs sl (hs H a i x)) : AW l G M d mc ms Q pc ls (vD x :: vI i :: vR a :: st) cs sl H := a_dast hd hkd (by rw [hl]; exact hb) kk
theorem nocov {M : MI} {pc : Nat} (h : M.2.2.2.2 = []) : ∀ x ∈ tableOf M.2.2.2.2, covers x pc = false := by
  rw [h]
  intro x hx
  cases hx
end ALAY
