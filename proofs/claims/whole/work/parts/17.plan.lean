/-! what changes and what stays -/
def only (H H' : AH) (P : Int → Int → Prop) : Prop := H'.1 = H.1 ∧ H'.2.1 = H.2.1 ∧ ∀ b i, ¬ P b i → hg H' b i = hg H b i
theorem only.rf {H : AH} {P : Int → Int → Prop} : only H H P := ⟨rfl, rfl, fun _ _ _ => rfl⟩
theorem only.trans {A B C : AH} {P : Int → Int → Prop} (h1 : only A B P) (h2 : only B C P) : only A C P := ⟨h2.1.trans h1.1, h2.2.1.trans h1.2.1, fun b i h => (h2.2.2 b i h).trans (h1.2.2 b i h)⟩
theorem only.mono {A B : AH} {P P' : Int → Int → Prop} (h : only A B P) (hp : ∀ b i, P b i → P' b i) : only A B P' := ⟨h.1, h.2.1, fun b i hn => h.2.2 b i (fun q => hn (hp b i q))⟩
theorem only.wr {H : AH} {P : Int → Int → Prop} {a i x : Int} (h : P a i) : only H (hs H a i x) P := ⟨rfl, rfl, fun b j hn => by
  refine hg_ne H ?_
  refine Decidable.byContradiction fun q => hn ?_
  have q1 : b = a := Decidable.byContradiction fun q2 => q (Or.inl q2)
  have q2 : j = i := Decidable.byContradiction fun q3 => q (Or.inr q3)
  rw [q1, q2]
  exact h⟩
theorem only.then {A B : AH} {P : Int → Int → Prop} {a i x : Int} (h : only A B P) (hp : P a i) : only A (hs B a i x) P := h.trans (only.wr hp)
theorem Lay.only {T : LT} {H H' : AH} {b : Int} {P : Int → Int → Prop} (h : Lay T H b) (hT : LTok T = true) (ho : only H H' P) (hn : ∀ c i, P c i → nrf H c i) : Lay T H' b := h.same ho.2.1 (fun c i q => ho.2.2 c i (fun q2 => q (hn c i q2))) hT
theorem rowM_only {H H' : AH} {a : Int} {P : Int → Int → Prop} (h : only H H' P) (hn : ∀ i, ¬ P (a + 1) i) : rowM H' a = rowM H a := by
  funext i
  exact h.2.2 (a + 1) i (hn i)
/-- a list in an array -/
def lst (H : AH) (b o : Int) (L : List Int) : Prop := ∀ (k : Nat) (x : Int), L[k]? = some x → hg H b (o + k) = x
theorem lst.only {H H' : AH} {b o : Int} {L : List Int} {P : Int → Int → Prop} (h : lst H b o L) (ho : only H H' P) (hn : ∀ k : Nat, k < L.length → ¬ P b (o + k)) : lst H' b o L := by
  intro k x hx
  rw [ho.2.2 b _ (hn k (List.getElem?_eq_some_iff.mp hx).1)]
  exact h k x hx
theorem lst.at {H : AH} {b o : Int} {L : List Int} (h : lst H b o L) {k : Nat} (hk : k < L.length) : hg H b (o + k) = L[k] := h k _ (List.getElem?_eq_getElem hk)
/-! the first-come order -/
def insF (M : Row) (f : Int) : List Int → List Int
  | [] => [f]
  | g :: L => if ∀ x ∈ g :: L, ofM M f 3 < ofM M x 3 then f :: g :: L else g :: insF M f L
theorem insF_split (M : Row) (f : Int) : ∀ (L : List Int) (k : Nat), k ≤ L.length → (∀ g ∈ L.drop k, ofM M f 3 < ofM M g 3) → (∀ (j : Nat) (g : Int), k = j + 1 → L[j]? = some g → ofM M g 3 ≤ ofM M f 3) → insF M f L = L.take k ++ f :: L.drop k
  | [], k, hk, _, _ => by
    have : k = 0 := by simpa using hk
    subst this
    rfl
  | g :: L, 0, _, hg, _ => by
    rw [insF, if_pos (by simpa using hg)]
    rfl
  | g :: L, k + 1, hk, hg, hl => by
    have hk' : k ≤ L.length := by simpa using hk
    have hne : ¬ ∀ x ∈ g :: L, ofM M f 3 < ofM M x 3 := by
      intro q
      have hlt : k < (g :: L).length := by simp; omega
      have h1 := hl k (g :: L)[k] rfl (List.getElem?_eq_getElem hlt)
      have h2 := q _ (List.getElem_mem hlt)
      omega
    rw [insF, if_neg hne, insF_split M f L k hk' (by simpa using hg) (fun j x hj hx => hl (j + 1) x (by omega) (by simpa using hx))]
    rfl
def comeN (M : Row) (r : Int) : Nat → List Int
  | 0 => []
  | n + 1 => if ofM M n 7 = 0 ∧ ofM M n 6 = r then insF M n (comeN M r n) else comeN M r n
def comeL (M : Row) (r : Int) : List Int := comeN M r (M 6).toNat
theorem insF_mem {M : Row} {f : Int} : ∀ {L : List Int} {x : Int}, x ∈ insF M f L ↔ x = f ∨ x ∈ L
  | [], x => by simp [insF]
  | g :: L, x => by
    unfold insF
    split
    · simp
    · simp only [List.mem_cons, insF_mem (L := L)]
      constructor
      · rintro (h | h | h) <;> simp [h]
      · rintro (h | h | h) <;> simp [h]
theorem insF_len {M : Row} {f : Int} : ∀ {L : List Int}, (insF M f L).length = L.length + 1
  | [] => rfl
  | g :: L => by
    unfold insF
    split
    · rfl
    · simp only [List.length_cons, insF_len (L := L)]
theorem comeN_mem {M : Row} {r : Int} : ∀ {n : Nat} {x : Int}, x ∈ comeN M r n ↔ ∃ j : Nat, j < n ∧ x = j ∧ ofM M j 7 = 0 ∧ ofM M j 6 = r
  | 0, x => by simp [comeN]
  | n + 1, x => by
    unfold comeN
    split
    · rename_i hc
      rw [insF_mem, comeN_mem]
      constructor
      · rintro (h | ⟨j, h1, h2⟩)
        · exact ⟨n, by omega, h, hc⟩
        · exact ⟨j, by omega, h2⟩
      · rintro ⟨j, h1, h2, h3⟩
        by_cases hj : j = n
        · subst hj; exact Or.inl h2
        · exact Or.inr ⟨j, by omega, h2, h3⟩
    · rename_i hc
      rw [comeN_mem]
      constructor
      · rintro ⟨j, h1, h2⟩
        exact ⟨j, by omega, h2⟩
      · rintro ⟨j, h1, h2, h3⟩
        by_cases hj : j = n
        · subst hj; exact absurd h3 hc
        · exact ⟨j, by omega, h2, h3⟩
theorem comeN_len {M : Row} {r : Int} : ∀ {n : Nat}, (comeN M r n).length ≤ n
  | 0 => Nat.le_refl _
  | n + 1 => by
    unfold comeN
    have := comeN_len (M := M) (r := r) (n := n)
    split
    · rw [insF_len]; omega
    · omega
theorem insF_nodup {M : Row} {f : Int} : ∀ {L : List Int}, L.Nodup → f ∉ L → (insF M f L).Nodup
  | [], _, _ => by simp [insF]
  | g :: L, h, hf => by
    unfold insF
    split
    · exact List.nodup_cons.mpr ⟨hf, h⟩
    · have h1 := List.nodup_cons.mp h
      refine List.nodup_cons.mpr ⟨?_, insF_nodup h1.2 (fun q => hf (List.mem_cons_of_mem _ q))⟩
      rw [insF_mem]
      rintro (q | q)
      · exact hf (by rw [q]; exact List.mem_cons_self)
      · exact h1.1 q
theorem comeN_nodup {M : Row} {r : Int} : ∀ {n : Nat}, (comeN M r n).Nodup
  | 0 => List.nodup_nil
  | n + 1 => by
    unfold comeN
    split
    · refine insF_nodup comeN_nodup ?_
      rw [comeN_mem]
      rintro ⟨j, h1, h2, -⟩
      omega
    · exact comeN_nodup
theorem comeL_mem {M : Row} (hM : okM M) {r x : Int} : x ∈ comeL M r ↔ (0 ≤ x ∧ x < M 6) ∧ ofM M x 7 = 0 ∧ ofM M x 6 = r := by
  have hn := okM_n hM
  unfold comeL
  rw [comeN_mem]
  constructor
  · rintro ⟨j, h1, rfl, h2⟩
    exact ⟨⟨by omega, by omega⟩, h2⟩
  · rintro ⟨h1, h2⟩
    obtain ⟨j, rfl⟩ := Int.eq_ofNat_of_zero_le h1.1
    exact ⟨j, by omega, rfl, h2⟩
theorem comeL_len {M : Row} (hM : okM M) {r : Int} : (comeL M r).length ≤ 24 := by
  have hn := okM_n hM
  have := comeN_len (M := M) (r := r) (n := (M 6).toNat)
  unfold comeL
  omega
