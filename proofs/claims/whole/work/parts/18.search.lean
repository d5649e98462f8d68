/-! the search: leaves in their order, the first of the least -/
def baseN (M : Row) (r f : Int) : Nat → Int
  | 0 => max (M 0) (ofM M f 2)
  | n + 1 => if (ofM M n 7 = 1 ∨ ofM M n 7 = 2) ∧ ofM M n 6 = r then max (baseN M r f n) (ofM M n 8 + apartM M n f) else baseN M r f n
def baseM (M : Row) (r f : Int) : Int := baseN M r f (M 6).toNat
theorem baseN_in {M : Row} (hM : okM M) {r f : Int} (hf : 0 ≤ f ∧ f < M 6) : ∀ {n : Nat}, (n : Int) ≤ M 6 → 0 ≤ baseN M r f n ∧ baseN M r f n ≤ 300000
  | 0, _ => by
    obtain ⟨-, -, h2, -⟩ := hM.2 f hf.1 hf.2
    have h0 := hM.1.1
    unfold baseN
    omega
  | n + 1, hn => by
    have ih := baseN_in hM (r := r) hf (n := n) (by omega)
    unfold baseN
    split
    · rename_i hc
      obtain ⟨-, -, -, -, -, -, -, -, h8, -⟩ := hM.2 n (by omega) (by omega)
      have := h8 hc.1
      have ha := hM.apart (f := n) (g := f) ⟨by omega, by omega⟩ hf
      omega
    · exact ih
theorem baseM_in {M : Row} (hM : okM M) {r f : Int} (hf : 0 ≤ f ∧ f < M 6) : 0 ≤ baseM M r f ∧ baseM M r f ≤ 300000 := by
  have hn := okM_n hM
  exact baseN_in hM hf (by omega)
/-- behind those that are placed -/
def tmA (M : Row) (b : Int) (T : List (Int × Int)) (f : Int) : Int := T.foldl (fun acc p => max acc (p.2 + apartM M p.1 f)) b
theorem tmA_snoc (M : Row) (b : Int) (T : List (Int × Int)) (p : Int × Int) (f : Int) : tmA M b (T ++ [p]) f = max (tmA M b T f) (p.2 + apartM M p.1 f) := by simp [tmA, List.foldl_append]
def okT (M : Row) (T : List (Int × Int)) (B : Int) : Prop := ∀ p ∈ T, (0 ≤ p.1 ∧ p.1 < M 6) ∧ 0 ≤ p.2 ∧ p.2 ≤ B
theorem tmA_in {M : Row} (hM : okM M) {f B b : Int} (hf : 0 ≤ f ∧ f < M 6) (hb : 0 ≤ b ∧ b ≤ B + 600) : ∀ {T : List (Int × Int)}, okT M T B → 0 ≤ tmA M b T f ∧ tmA M b T f ≤ B + 600 := by
  intro T
  unfold tmA
  induction T generalizing b with
  | nil => intro _; exact hb
  | cons p T ih =>
    intro hT
    have h1 := hT p List.mem_cons_self
    have ha := hM.apart h1.1 hf
    exact ih (b := max b (p.2 + apartM M p.1 f)) (by omega) (fun q hq => hT q (List.mem_cons_of_mem _ hq))
theorem okT.snoc {M : Row} {T : List (Int × Int)} {B B' f t : Int} (h : okT M T B) (hB : B ≤ B') (hf : 0 ≤ f ∧ f < M 6) (ht : 0 ≤ t ∧ t ≤ B') : okT M (T ++ [(f, t)]) B' := by
  intro p hp
  rcases List.mem_append.mp hp with hp | hp
  · have := h p hp
    exact ⟨this.1, by omega, by omega⟩
  · have : p = (f, t) := by simpa using hp
    subst this
    exact ⟨hf, ht⟩
/-- a whole order, one after the other -/
def tmS (M : Row) (r : Int) (T : List (Int × Int)) : List Int → List (Int × Int)
  | [] => T
  | f :: L => tmS M r (T ++ [(f, tmA M (baseM M r f) T f)]) L
def insK (key : Int → Int) (f : Int) : List Int → List Int
  | [] => [f]
  | g :: L => if ∀ x ∈ g :: L, key f < key x then f :: g :: L else g :: insK key f L
theorem insK_mem {key : Int → Int} {f : Int} : ∀ {L : List Int} {x : Int}, x ∈ insK key f L ↔ x = f ∨ x ∈ L
  | [], x => by simp [insK]
  | g :: L, x => by
    unfold insK
    split
    · simp
    · simp only [List.mem_cons, insK_mem (L := L)]
      constructor
      · rintro (h | h | h) <;> simp [h]
      · rintro (h | h | h) <;> simp [h]
theorem insK_sorted {key : Int → Int} {f : Int} : ∀ {L : List Int}, L.Pairwise (fun x y => key x < key y) → (∀ x ∈ L, key x ≠ key f) → (insK key f L).Pairwise (fun x y => key x < key y)
  | [], _, _ => by simp [insK]
  | g :: L, h, hf => by
    unfold insK
    have h1 := List.pairwise_cons.mp h
    split
    · rename_i hc
      exact List.pairwise_cons.mpr ⟨hc, h⟩
    · rename_i hc
      refine List.pairwise_cons.mpr ⟨fun x hx => ?_, insK_sorted h1.2 (fun x hx => hf x (List.mem_cons_of_mem _ hx))⟩
      rcases insK_mem.mp hx with rfl | hx
      · refine Decidable.byContradiction fun q => hc fun y hy => ?_
        have hgf := hf g List.mem_cons_self
        rcases List.mem_cons.mp hy with rfl | hy
        · omega
        · have := h1.1 y hy
          omega
      · exact h1.1 x hx
def wAt (W : List Int) (k : Int) : Int := W.getD k.toNat 0
theorem wAt_eq {W : List Int} {k : Int} (h : k.toNat < W.length) : wAt W k = W[k.toNat] := by
  unfold wAt
  rw [List.getD_eq_getElem?_getD, List.getElem?_eq_getElem h]
  rfl
theorem wAt_mem {W : List Int} {k : Int} (h : 0 ≤ k ∧ k < W.length) : wAt W k ∈ W := by
  have h1 : k.toNat < W.length := by omega
  rw [wAt_eq h1]
  exact List.getElem_mem h1
def srtN (W : List Int) : Nat → List Int
  | 0 => []
  | n + 1 => insK (wAt W) n (srtN W n)
abbrev srt (W : List Int) : List Int := srtN W W.length
theorem srtN_mem {W : List Int} : ∀ {n : Nat} {x : Int}, x ∈ srtN W n ↔ 0 ≤ x ∧ x < n
  | 0, x => by
    simp only [srtN, List.not_mem_nil, false_iff]
    omega
  | n + 1, x => by
    rw [srtN, insK_mem, srtN_mem]
    omega
theorem wAt_inj {W : List Int} (hW : W.Nodup) {i j : Int} (hi : 0 ≤ i ∧ i < W.length) (hj : 0 ≤ j ∧ j < W.length) (h : wAt W i = wAt W j) : i = j := by
  have h1 : i.toNat < W.length := by omega
  have h2 : j.toNat < W.length := by omega
  rw [wAt_eq h1, wAt_eq h2] at h
  have hp := List.pairwise_iff_getElem.mp hW
  rcases Nat.lt_trichotomy i.toNat j.toNat with q | q | q
  · exact absurd h (hp _ _ h1 h2 q)
  · omega
  · exact absurd h.symm (hp _ _ h2 h1 q)
theorem srtN_sorted {W : List Int} (hW : W.Nodup) : ∀ {n : Nat}, n ≤ W.length → (srtN W n).Pairwise (fun x y => wAt W x < wAt W y)
  | 0, _ => List.Pairwise.nil
  | n + 1, hn => by
    refine insK_sorted (srtN_sorted hW (by omega)) (fun x hx q => ?_)
    have h1 := srtN_mem.mp hx
    have := wAt_inj hW (i := x) (j := n) (by omega) (by omega) q
    omega
abbrev Leaf : Type := Int × List Int
def upd' (b l : Leaf) : Leaf := if l.1 < b.1 then l else b
abbrev bestOf (b : Leaf) (L : List Leaf) : Leaf := L.foldl upd' b
theorem bestOf_app (b : Leaf) (L1 L2 : List Leaf) : bestOf b (L1 ++ L2) = bestOf (bestOf b L1) L2 := List.foldl_append
theorem bestOf_none {b : Leaf} : ∀ {L : List Leaf}, (∀ l ∈ L, b.1 ≤ l.1) → bestOf b L = b
  | [], _ => rfl
  | l :: L, h => by
    have h1 := h l List.mem_cons_self
    show bestOf (upd' b l) L = b
    rw [upd', if_neg (by omega)]
    exact bestOf_none (fun x hx => h x (List.mem_cons_of_mem _ hx))
theorem bestOf_two {p q : Leaf} : ∀ {L : List Leaf}, (∃ l ∈ L, l.1 < p.1 ∧ l.1 < q.1) → bestOf p L = bestOf q L := by
  intro L
  induction L generalizing p q with
  | nil => rintro ⟨l, h, -⟩; cases h
  | cons l L ih =>
    rintro ⟨w, hw, h1, h2⟩
    show bestOf (upd' p l) L = bestOf (upd' q l) L
    unfold upd'
    by_cases hp : l.1 < p.1
    · by_cases hq : l.1 < q.1
      · rw [if_pos hp, if_pos hq]
      · rw [if_pos hp, if_neg hq]
        rcases List.mem_cons.mp hw with rfl | hw
        · exact absurd h2 hq
        · exact ih ⟨w, hw, by omega, h2⟩
    · by_cases hq : l.1 < q.1
      · rw [if_neg hp, if_pos hq]
        rcases List.mem_cons.mp hw with rfl | hw
        · exact absurd h1 hp
        · exact ih ⟨w, hw, h1, by omega⟩
      · rw [if_neg hp, if_neg hq]
        rcases List.mem_cons.mp hw with rfl | hw
        · exact absurd h1 hp
        · exact ih ⟨w, hw, h1, h2⟩
/-- may the flight at k of the window stand at this place? -/
def okK (M : Row) (place : Int) (used k : Int) : Prop := shr used k % 2 = 0 ∧ ab (k - place) ≤ M 1
theorem okK_dec (M : Row) (place used k : Int) : okK M place used k ∨ ¬ okK M place used k := Classical.em _
/-- all allowed ways to go on, in the order of the numbers: their costs and sequences -/
noncomputable def lvs (M : Row) (r : Int) (W : List Int) : Nat → Int → Int → List (Int × Int) → Int → List Leaf
  | 0, _, _, T, c => [(c, T.map Prod.fst)]
  | n + 1, place, used, T, c => (srt W).flatMap fun k => (fun _ : Decidable (okK M place used k) => if okK M place used k then lvs M r W n (place + 1) (ior used (pw k)) (T ++ [(wAt W k, tmA M (baseM M r (wAt W k)) T (wAt W k))]) (c + costM M (wAt W k) (tmA M (baseM M r (wAt W k)) T (wAt W k))) else []) (Classical.propDecidable _)
/-- one flight more -/
noncomputable def lv1 (M : Row) (r : Int) (W : List Int) (n : Nat) (place used : Int) (T : List (Int × Int)) (c k : Int) : List Leaf := lvs M r W n (place + 1) (ior used (pw k)) (T ++ [(wAt W k, tmA M (baseM M r (wAt W k)) T (wAt W k))]) (c + costM M (wAt W k) (tmA M (baseM M r (wAt W k)) T (wAt W k)))
/-- the ones that may stand at a place, in the order of their numbers -/
noncomputable def oks (M : Row) (W : List Int) (place used : Int) : List Int := (srt W).filter fun k => @decide (okK M place used k) (Classical.propDecidable _)
theorem oks_mem {M : Row} {W : List Int} {place used k : Int} : k ∈ oks M W place used ↔ (0 ≤ k ∧ k < W.length) ∧ okK M place used k := by
  unfold oks
  rw [List.mem_filter, srtN_mem]
  simp
theorem oks_sorted {M : Row} {W : List Int} (hW : W.Nodup) {place used : Int} : (oks M W place used).Pairwise (fun x y => wAt W x < wAt W y) := (srtN_sorted hW (Nat.le_refl _)).sublist List.filter_sublist
theorem flat_filter {α β : Type} (p : α → Prop) (f : α → List β) : ∀ L : List α, L.flatMap (fun k => (fun _ : Decidable (p k) => if p k then f k else []) (Classical.propDecidable _)) = (L.filter fun k => @decide (p k) (Classical.propDecidable _)).flatMap f
  | [] => rfl
  | a :: L => by
    rw [List.flatMap_cons, flat_filter p f L, List.filter_cons]
    by_cases h : p a
    · simp [h]
    · simp [h]
theorem lvs_succ (M : Row) (r : Int) (W : List Int) (n : Nat) (place used : Int) (T : List (Int × Int)) (c : Int) : lvs M r W (n + 1) place used T c = (oks M W place used).flatMap (lv1 M r W n place used T c) := flat_filter (okK M place used) (lv1 M r W n place used T c) (srt W)
theorem bestOf_flat {α : Type} (f : α → List Leaf) : ∀ (L : List α) (b : Leaf), bestOf b (L.flatMap f) = L.foldl (fun b k => bestOf b (f k)) b
  | [], _ => rfl
  | a :: L, b => by
    rw [List.flatMap_cons, bestOf_app, bestOf_flat f L]
    rfl
/-- no way to go on gets cheaper -/
theorem lvs_ge {M : Row} (hM : okM M) {r : Int} {W : List Int} (hW : ∀ x ∈ W, 0 ≤ x ∧ x < M 6) : ∀ {n : Nat} {place used : Int} {T : List (Int × Int)} {c B : Int}, okT M T B → 299400 ≤ B → B + 600 * n ≤ 400000 → ∀ l ∈ lvs M r W n place used T c, c ≤ l.1
  | 0, place, used, T, c, B, _, _, _, l, hl => by
    have : l = (c, T.map Prod.fst) := by simpa [lvs] using hl
    rw [this]
    exact Int.le_refl _
  | n + 1, place, used, T, c, B, hT, hB, hB2, l, hl => by
    rw [lvs_succ] at hl
    obtain ⟨k, hk, hl⟩ := List.mem_flatMap.mp hl
    obtain ⟨hk1, -⟩ := oks_mem.mp hk
    have hw : 0 ≤ wAt W k ∧ wAt W k < M 6 := hW _ (wAt_mem hk1)
    have hb := baseM_in hM (r := r) hw
    have ht := tmA_in hM (b := baseM M r (wAt W k)) (B := B) hw (by omega) hT
    have hc := hM.cost hw (t := tmA M (baseM M r (wAt W k)) T (wAt W k)) (by omega)
    have := lvs_ge hM hW (hT.snoc (B' := B + 600) (by omega) hw ht) (by omega) (by omega) l hl
    omega
