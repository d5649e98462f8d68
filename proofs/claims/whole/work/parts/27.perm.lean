/-! what a leaf is: a sequence of the window's flights, each once; the first-come one is among them -/
def bt (x k : Int) : Bool := x.toNat.testBit k.toNat
theorem shr_bt {x k : Int} (hx : 0 ≤ x) : shr x k % 2 = bi (bt x k) := by
  obtain ⟨n, rfl⟩ := Int.eq_ofNat_of_zero_le hx
  unfold shr bt bi
  rw [Int.toNat_natCast, Nat.testBit_eq_decide_div_mod_eq]
  have h3 : ((n : Int) / 2 ^ k.toNat) % 2 = ((n / 2 ^ k.toNat % 2 : Nat) : Int) := by simp
  rw [h3]
  split
  · rename_i h
    have : n / 2 ^ k.toNat % 2 = 1 := by simpa using h
    rw [this]; rfl
  · rename_i h
    have : ¬ n / 2 ^ k.toNat % 2 = 1 := by simpa using h
    have : n / 2 ^ k.toNat % 2 = 0 := by omega
    rw [this]; rfl
theorem shr_0 {x k : Int} (hx : 0 ≤ x) : shr x k % 2 = 0 ↔ bt x k = false := by
  rw [shr_bt hx]
  cases bt x k <;> simp [bi]
theorem shr_1 {x k : Int} (hx : 0 ≤ x) : shr x k % 2 = 1 ↔ bt x k = true := by
  rw [shr_bt hx]
  cases bt x k <;> simp [bi]
theorem bt_ior {x k j : Int} (hk : 0 ≤ k) (hj : 0 ≤ j) : bt (ior x (pw k)) j = (bt x j || decide (j = k)) := by
  unfold bt ior pw
  have h3 : (2 : Int) ^ k.toNat = ((2 ^ k.toNat : Nat) : Int) := by simp
  rw [h3, Int.toNat_natCast, Int.toNat_natCast, Nat.testBit_or, Nat.testBit_two_pow]
  congr 1
  have : (k.toNat = j.toNat) ↔ (j = k) := by omega
  simp [this]
/-- the chosen ones as places in the window -/
def isKs (W : List Int) (used : Int) (T : List (Int × Int)) (Ks : List Int) : Prop := T.map Prod.fst = Ks.map (wAt W) ∧ Ks.Nodup ∧ (∀ k ∈ Ks, 0 ≤ k ∧ k < W.length) ∧ ∀ k : Int, 0 ≤ k → k < W.length → (bt used k = true ↔ k ∈ Ks)
theorem lvs_ks {M : Row} {r : Int} {W : List Int} (hW7 : W.length ≤ 7) : ∀ {n : Nat} {place used : Int} {T : List (Int × Int)} {c : Int} {Ks : List Int}, isKs W used T Ks → (0 ≤ used ∧ used < 128) → ∀ l ∈ lvs M r W n place used T c, ∃ Ks' : List Int, l.2 = Ks'.map (wAt W) ∧ Ks'.Nodup ∧ (∀ k ∈ Ks', 0 ≤ k ∧ k < W.length) ∧ Ks'.length = Ks.length + n
  | 0, place, used, T, c, Ks, hK, _, l, hl => by
    have : l = (c, T.map Prod.fst) := by simpa [lvs] using hl
    rw [this]
    exact ⟨Ks, hK.1, hK.2.1, hK.2.2.1, rfl⟩
  | n + 1, place, used, T, c, Ks, hK, hu, l, hl => by
    rw [lvs_succ] at hl
    obtain ⟨k, hk, hl⟩ := List.mem_flatMap.mp hl
    obtain ⟨hk1, hk2⟩ := oks_mem.mp hk
    have hnk : k ∉ Ks := by
      intro q
      have := (hK.2.2.2 k hk1.1 hk1.2).mpr q
      have h2 := (shr_0 hu.1).mp hk2.1
      rw [this] at h2
      cases h2
    obtain ⟨Ks', q1, q2, q3, q4⟩ := lvs_ks hW7 (Ks := Ks ++ [k]) (by
      refine ⟨by rw [List.map_append, List.map_append, hK.1]; rfl, ?_, ?_, ?_⟩
      · rw [List.nodup_append]
        refine ⟨hK.2.1, by simp, fun x hx y hy => ?_⟩
        have : y = k := by simpa using hy
        subst this
        intro q
        exact hnk (q ▸ hx)
      · intro x hx
        rcases List.mem_append.mp hx with hx | hx
        · exact hK.2.2.1 x hx
        · have : x = k := by simpa using hx
          rw [this]; exact hk1
      · intro j hj1 hj2
        rw [bt_ior hk1.1 hj1, Bool.or_eq_true, hK.2.2.2 j hj1 hj2, List.mem_append]
        simp) (ior_lt hu (by omega)) l hl
    exact ⟨Ks', q1, q2, q3, by rw [q4, List.length_append]; simp; omega⟩
/-- each of n different ones out of n -/
theorem nodup_len : ∀ {L' K : List Int}, L'.Nodup → (∀ x ∈ L', x ∈ K) → L'.length ≤ K.length
  | [], _, _, _ => Nat.zero_le _
  | y :: L', K, hn, hs => by
    have h1 := List.nodup_cons.mp hn
    have hy := hs y List.mem_cons_self
    have h2 := nodup_len (K := K.erase y) h1.2 (fun x hx => (List.mem_erase_of_ne (show x ≠ y from fun q => h1.1 (by rw [← q]; exact hx))).mpr (hs x (List.mem_cons_of_mem _ hx)))
    have h3 := List.length_erase_of_mem hy
    have h4 := List.length_pos_of_mem hy
    rw [List.length_cons]
    omega
theorem all_in {L L' : List Int} (hn : L'.Nodup) (hs : ∀ x ∈ L', x ∈ L) (hl : L.length ≤ L'.length) : ∀ x ∈ L, x ∈ L' := by
  intro x hx
  refine Classical.byContradiction fun q => ?_
  have h2 := nodup_len (K := L.erase x) hn (fun y hy => (List.mem_erase_of_ne (show y ≠ x from fun q2 => q (by rw [← q2]; exact hy))).mpr (hs y hy))
  have h3 := List.length_erase_of_mem hx
  have h4 := List.length_pos_of_mem hx
  omega
theorem leaf_perm {M : Row} {r c : Int} {W : List Int} (hW7 : W.length ≤ 7) (hn : W.Nodup) : ∀ l ∈ lvs M r W W.length 0 0 [] c, l.2.Nodup ∧ l.2.length = W.length ∧ (∀ x, x ∈ l.2 ↔ x ∈ W) := by
  intro l hl
  obtain ⟨Ks, h1, h2, h3, h4⟩ := lvs_ks hW7 (Ks := []) ⟨rfl, List.nodup_nil, (fun k hk => by cases hk), (fun k h1 h2 => by simp [bt])⟩ ⟨by omega, by omega⟩ l hl
  have hin : ∀ x ∈ l.2, x ∈ W := by
    intro x hx
    rw [h1] at hx
    obtain ⟨k, hk, rfl⟩ := List.mem_map.mp hx
    exact wAt_mem (h3 k hk)
  have hlen : l.2.length = W.length := by rw [h1, List.length_map, h4]; simp
  have hnd : l.2.Nodup := by
    rw [h1]
    refine List.pairwise_map.mpr ?_
    refine h2.imp_of_mem ?_
    intro x y hx hy hxy q
    exact hxy (wAt_inj hn (h3 x hx) (h3 y hy) q)
  exact ⟨hnd, hlen, fun x => ⟨hin x, all_in hnd hin (by omega) x⟩⟩
def csum (M : Row) (T : List (Int × Int)) : Int := T.foldl (fun s p => s + costM M p.1 p.2) 0
theorem csum_snoc (M : Row) (T : List (Int × Int)) (p : Int × Int) : csum M (T ++ [p]) = csum M T + costM M p.1 p.2 := by simp [csum, List.foldl_append]
theorem tmS_app (M : Row) (r : Int) : ∀ (A B : List Int) (T : List (Int × Int)), tmS M r T (A ++ B) = tmS M r (tmS M r T A) B
  | [], _, _ => rfl
  | f :: A, B, T => by
    rw [List.cons_append, tmS, tmS, tmS_app M r A B]
theorem tmS_len (M : Row) (r : Int) : ∀ (A : List Int) (T : List (Int × Int)), (tmS M r T A).length = T.length + A.length
  | [], _ => rfl
  | f :: A, T => by
    rw [tmS, tmS_len M r A, List.length_append, List.length_cons]
    simp
    omega
theorem tmS_fst (M : Row) (r : Int) : ∀ (A : List Int) (T : List (Int × Int)), (tmS M r T A).map Prod.fst = T.map Prod.fst ++ A
  | [], T => by simp [tmS]
  | f :: A, T => by
    rw [tmS, tmS_fst M r A, List.map_append]
    simp
theorem tmS_ok {M : Row} (hM : okM M) {r : Int} : ∀ (A : List Int) (T : List (Int × Int)), (∀ x ∈ A, 0 ≤ x ∧ x < M 6) → okT M T (300000 + 600 * T.length) → okT M (tmS M r T A) (300000 + 600 * (T.length + A.length : Nat))
  | [], T, _, h => by simpa [tmS] using h
  | f :: A, T, hA, h => by
    have hf := hA f List.mem_cons_self
    have hb := baseM_in hM (r := r) hf
    have ht := tmA_in hM (b := baseM M r f) (B := 300000 + 600 * T.length) hf (by omega) h
    have := tmS_ok hM (r := r) A (T ++ [(f, tmA M (baseM M r f) T f)]) (fun x hx => hA x (List.mem_cons_of_mem _ hx)) (h.snoc (by rw [List.length_append]; simp; omega) hf (by rw [List.length_append]; simp; omega))
    rw [tmS]
    refine fun p hp => ?_
    have q := this p hp
    rw [List.length_append] at q
    simp at q
    refine ⟨q.1, q.2.1, ?_⟩
    rw [List.length_cons]
    omega
theorem csum_in {M : Row} (hM : okM M) : ∀ {T : List (Int × Int)} {B : Int}, okT M T B → B ≤ 400000 → 0 ≤ csum M T ∧ csum M T ≤ 5000000000 * T.length := by
  intro T B hT hB
  unfold csum
  have gen : ∀ (T : List (Int × Int)) (s : Int), okT M T B → 0 ≤ s → s ≤ T.foldl (fun s p => s + costM M p.1 p.2) s ∧ T.foldl (fun s p => s + costM M p.1 p.2) s ≤ s + 5000000000 * T.length := by
    intro T
    induction T with
    | nil => intro s _ _; simp
    | cons p T ih =>
      intro s hT hs
      have h1 := hT p List.mem_cons_self
      have hc := hM.cost h1.1 (t := p.2) (by omega)
      have := ih (s + costM M p.1 p.2) (fun q hq => hT q (List.mem_cons_of_mem _ hq)) (by omega)
      rw [List.foldl_cons, List.length_cons]
      omega
  have := gen T 0 hT (Int.le_refl _)
  omega
theorem pw_bits : ∀ k : Fin 7, shr (pw k.val - 1) k.val % 2 = 0 ∧ ior (pw k.val - 1) (pw k.val) = pw (k.val + 1 : Nat) - 1 := by decide
theorem leaf_fc {M : Row} (hM : okM M) {r : Int} {W : List Int} (hW7 : W.length ≤ 7) : ∀ (n : Nat) (T : List (Int × Int)), W.length = T.length + n → (csum M (tmS M r T (W.drop T.length)), (tmS M r T (W.drop T.length)).map Prod.fst) ∈ lvs M r W n T.length (pw T.length - 1) T (csum M T)
  | 0, T, h => by
    rw [List.drop_eq_nil_of_le (by omega)]
    exact List.mem_singleton.mpr rfl
  | n + 1, T, h => by
    have hlt : T.length < W.length := by omega
    have hb := pw_bits ⟨T.length, by omega⟩
    rw [lvs_succ, List.mem_flatMap]
    refine ⟨T.length, oks_mem.mpr ⟨⟨by omega, by omega⟩, hb.1, ?_⟩, ?_⟩
    · rw [Int.sub_self]
      have := hM.1.2.1
      simp [ab]
      omega
    · have hw : wAt W T.length = W[T.length] := by rw [wAt_eq (by simpa using hlt)]; rfl
      rw [List.drop_eq_getElem_cons hlt, tmS, ← hw]
      have := leaf_fc hM (r := r) hW7 n (T ++ [(wAt W T.length, tmA M (baseM M r (wAt W T.length)) T (wAt W T.length))]) (by rw [List.length_append]; simp; omega)
      rw [csum_snoc, List.length_append] at this
      unfold lv1
      have e : ior (pw T.length - 1) (pw T.length) = pw (T.length + 1 : Nat) - 1 := hb.2
      rw [e]
      exact this
/-- the plan of a runway -/
noncomputable def bestW (M : Row) (r : Int) : Leaf := bestOf (9223372036854775807, []) (lvs M r ((comeL M r).take 7) ((comeL M r).take 7).length 0 0 [] 0)
noncomputable def planL (M : Row) (r : Int) : List Int := (bestW M r).2 ++ (comeL M r).drop 7
theorem bestOf_mem {b : Leaf} : ∀ {L : List Leaf}, bestOf b L = b ∨ bestOf b L ∈ L := by
  intro L
  induction L generalizing b with
  | nil => exact Or.inl rfl
  | cons l L ih =>
    have e : bestOf b (l :: L) = bestOf (upd' b l) L := rfl
    rw [e]
    rcases ih (b := upd' b l) with h | h
    · by_cases hc : l.1 < b.1
      · have e2 : upd' b l = l := by rw [upd', if_pos hc]
        rw [e2] at h ⊢
        rw [h]
        exact Or.inr List.mem_cons_self
      · have e2 : upd' b l = b := by rw [upd', if_neg hc]
        rw [e2] at h ⊢
        exact Or.inl h
    · exact Or.inr (List.mem_cons_of_mem _ h)
theorem bestOf_le {b : Leaf} : ∀ {L : List Leaf}, (bestOf b L).1 ≤ b.1 ∧ ∀ l ∈ L, (bestOf b L).1 ≤ l.1 := by
  intro L
  induction L generalizing b with
  | nil => exact ⟨Int.le_refl _, fun l h => by cases h⟩
  | cons l L ih =>
    have h := ih (b := upd' b l)
    have h2 : (upd' b l).1 ≤ b.1 ∧ (upd' b l).1 ≤ l.1 := by
      unfold upd'
      split <;> omega
    refine ⟨Int.le_trans h.1 h2.1, fun x hx => ?_⟩
    rcases List.mem_cons.mp hx with rfl | hx
    · exact Int.le_trans h.1 h2.2
    · exact h.2 x hx
theorem bestW_leaf {M : Row} (hM : okM M) {r : Int} : bestW M r ∈ lvs M r ((comeL M r).take 7) ((comeL M r).take 7).length 0 0 [] 0 ∧ ∃ l ∈ lvs M r ((comeL M r).take 7) ((comeL M r).take 7).length 0 0 [] 0, l.1 < 9223372036854775807 ∧ l = (csum M (tmS M r [] ((comeL M r).take 7)), (comeL M r).take 7) := by
  have hW7 : ((comeL M r).take 7).length ≤ 7 := by rw [List.length_take]; omega
  have h1 := leaf_fc hM (r := r) (W := (comeL M r).take 7) hW7 ((comeL M r).take 7).length [] (by simp)
  have hr : ∀ x ∈ (comeL M r).take 7, 0 ≤ x ∧ x < M 6 := fun x hx => ((comeL_mem hM).mp (List.mem_of_mem_take hx)).1
  have h2 : okT M (tmS M r [] ((comeL M r).take 7)) (300000 + 600 * (0 + ((comeL M r).take 7).length : Nat)) := tmS_ok hM _ [] hr (fun p hp => by cases hp)
  have h3 := csum_in hM h2 (by omega)
  rw [tmS_len] at h3
  have e0 : pw (([] : List (Int × Int)).length : Int) - 1 = 0 := by decide
  rw [e0] at h1
  have e1 : (([] : List (Int × Int)).length : Int) = 0 := rfl
  rw [e1, List.length_nil, List.drop_zero, tmS_fst, List.map_nil, List.nil_append] at h1
  simp only [List.length_nil] at h3
  have hc0 : csum M [] = 0 := rfl
  rw [hc0] at h1
  have hlt : csum M (tmS M r [] ((comeL M r).take 7)) < 9223372036854775807 := by omega
  refine ⟨?_, _, h1, hlt, rfl⟩
  rcases bestOf_mem (b := ((9223372036854775807 : Int), ([] : List Int))) (L := lvs M r ((comeL M r).take 7) ((comeL M r).take 7).length 0 0 [] 0) with q | q
  · exfalso
    have := (bestOf_le (b := ((9223372036854775807 : Int), ([] : List Int))) (L := lvs M r ((comeL M r).take 7) ((comeL M r).take 7).length 0 0 [] 0)).2 _ h1
    rw [q] at this
    have : (9223372036854775807 : Int) ≤ csum M (tmS M r [] ((comeL M r).take 7)) := this
    omega
  · exact q
theorem planL_perm {M : Row} (hM : okM M) {r : Int} : (planL M r).Nodup ∧ (planL M r).length = (comeL M r).length ∧ ∀ x, x ∈ planL M r ↔ x ∈ comeL M r := by
  have hW7 : ((comeL M r).take 7).length ≤ 7 := by rw [List.length_take]; omega
  have hnd : (comeL M r).Nodup := comeN_nodup
  have hsp : (comeL M r).take 7 ++ (comeL M r).drop 7 = comeL M r := List.take_append_drop 7 _
  obtain ⟨p1, p2, p3⟩ := leaf_perm hW7 (hnd.sublist (List.take_sublist _ _)) _ (bestW_leaf hM (r := r)).1
  rw [← hsp, List.nodup_append] at hnd
  refine ⟨?_, ?_, fun x => ?_⟩
  · unfold planL
    rw [List.nodup_append]
    exact ⟨p1, hnd.2.1, fun x hx y hy => hnd.2.2 x ((p3 x).mp hx) y hy⟩
  · unfold planL
    rw [List.length_append, p2, ← List.length_append, hsp]
  · unfold planL
    rw [List.mem_append, p3]
    conv => rhs; rw [← hsp]
    rw [List.mem_append]
