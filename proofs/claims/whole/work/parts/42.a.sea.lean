/-! the class's search: bounds, dead ends -/
section
variable {M : Row} {r : Int} {W : List Int}
theorem isKs_snoc {used k t : Int} {T : List (Int × Int)} {Ks : List Int} (hK : isKs W used T Ks) (hu : 0 ≤ used ∧ used < 128) (hk1 : 0 ≤ k ∧ k < W.length) (hk2 : shr used k % 2 = 0) : isKs W (ior used (pw k)) (T ++ [(wAt W k, t)]) (Ks ++ [k]) := by
  have hnk : k ∉ Ks := by
    intro q
    have := (hK.2.2.2 k hk1.1 hk1.2).mpr q
    have h2 := (shr_0 hu.1).mp hk2
    rw [this] at h2
    cases h2
  refine ⟨by rw [List.map_append, List.map_append, hK.1]; rfl, ?_, ?_, ?_⟩
  · rw [List.nodup_append]
    refine ⟨hK.2.1, by simp, fun x hx y hy => ?_⟩
    have : y = k := by simpa using hy
    subst this
    intro q
    exact hnk (q ▸ hx)
  · intro x hx
    rcases List.mem_append.mp hx with hx | hx
    · exact hK.2.2.1 x hx
    · have : x = k := by simpa using hx
      rw [this]; exact hk1
  · intro j hj1 hj2
    rw [bt_ior hk1.1 hj1, Bool.or_eq_true, hK.2.2.2 j hj1 hj2, List.mem_append]
    simp
theorem ks_all {used : Int} {T : List (Int × Int)} {Ks : List Int} (hK : isKs W used T Ks) (hu : 0 ≤ used) (hl : Ks.length = W.length) {k : Int} (hk : 0 ≤ k ∧ k < W.length) : ¬ shr used k % 2 = 0 := by
  have hsub : ∀ x ∈ Ks, x ∈ srtN W W.length := fun x hx => srtN_mem.mpr (hK.2.2.1 x hx)
  have hin : ∀ x ∈ srtN W W.length, x ∈ Ks := by
    refine all_in hK.2.1 hsub ?_
    have : ∀ n, (srtN W n).length ≤ n := by
      intro n
      induction n with
      | zero => exact Nat.le_refl _
      | succ n ih =>
        have : ∀ (key : Int → Int) (x : Int) (L : List Int), (insK key x L).length = L.length + 1 := by
          intro key x L
          induction L with
          | nil => rfl
          | cons g L ih => unfold insK; split; rfl; simp only [List.length_cons, ih]
        show (insK (wAt W) n (srtN W n)).length ≤ n + 1
        rw [this]
        omega
    have := this W.length
    omega
  intro q
  have h1 := (hK.2.2.2 k hk.1 hk.2).mpr (hin k (srtN_mem.mpr hk))
  rw [(shr_0 hu).mp q] at h1
  cases h1
theorem shr_01 (x k : Int) : shr x k % 2 = 0 ∨ shr x k % 2 = 1 := by omega
theorem shr_ior {used k j : Int} (hu : 0 ≤ used) (hk : 0 ≤ k) (hj : 0 ≤ j) : shr (ior used (pw k)) j % 2 = 0 ↔ (j ≠ k ∧ shr used j % 2 = 0) := by
  have hi : 0 ≤ ior used (pw k) := by unfold ior; omega
  rw [shr_0 hi, shr_0 hu, bt_ior hk hj, Bool.or_eq_false_iff]
  constructor
  · rintro ⟨q1, q2⟩
    exact ⟨by simpa using q2, q1⟩
  · rintro ⟨q1, q2⟩
    exact ⟨q2, by simpa using q1⟩
/-- a flight that came too late leaves no way -/
theorem lvs_dead {k0 : Int} (hk0 : 0 ≤ k0 ∧ k0 < W.length) (hW7 : W.length ≤ 7) : ∀ {n : Nat} {place used : Int} {T : List (Int × Int)} {c : Int} {Ks : List Int}, isKs W used T Ks → Ks.length + n = W.length → (0 ≤ used ∧ used < 128) → shr used k0 % 2 = 0 → k0 + M 1 < place → lvs M r W n place used T c = []
  | 0, place, used, T, c, Ks, hK, hl, hu, h0, hp => absurd h0 (ks_all hK hu.1 hl hk0)
  | n + 1, place, used, T, c, Ks, hK, hl, hu, h0, hp => by
    rw [lvs_succ, List.flatMap_eq_nil_iff]
    intro k hk
    obtain ⟨hk1, hk2⟩ := oks_mem.mp hk
    have hne : k0 ≠ k := by
      intro q
      have := hk2.2
      rw [← q] at this
      unfold ab at this
      split at this <;> omega
    unfold lv1
    exact lvs_dead hk0 hW7 (isKs_snoc hK hu hk1 hk2.1) (by rw [List.length_append]; simp; omega) (ior_lt hu (by omega)) ((shr_ior hu.1 hk1.1 hk0.1).mpr ⟨hne, h0⟩) (by omega)
theorem cost_nn (hM : okM M) {f t : Int} (hf : fl M f) : 0 ≤ costM M f t := by
  have e1 := okM_early hM hf
  have e2 := okM_late hM hf
  unfold costM
  split
  · have := Int.mul_nonneg (a := ofM M f 3 - t) (by omega) e1.1
    split <;> omega
  · have := Int.mul_nonneg (a := t - ofM M f 3) (by omega) e2.1
    split <;> omega
theorem cost_mono (hM : okM M) {f t t' : Int} (hf : fl M f) (h1 : ofM M f 3 ≤ t) (h2 : t ≤ t') : costM M f t ≤ costM M f t' := by
  have e2 := okM_late hM hf
  unfold costM
  rw [if_neg (show ¬ t < ofM M f 3 by omega), if_neg (show ¬ t' < ofM M f 3 by omega)]
  have := Int.mul_le_mul_of_nonneg_right (a := t - ofM M f 3) (b := t' - ofM M f 3) (c := M (28 + ofM M f 1)) (by omega) e2.1
  split <;> split <;> omega
/-- what a flight costs at least -/
def lbJ (M : Row) (r : Int) (W : List Int) (T : List (Int × Int)) (j : Int) : Int := if ofM M (wAt W j) 3 < tmA M (baseM M r (wAt W j)) T (wAt W j) then costM M (wAt W j) (tmA M (baseM M r (wAt W j)) T (wAt W j)) else 0
def lbK (M : Row) (r : Int) (W : List Int) (used : Int) (T : List (Int × Int)) (j : Nat) : Int := if shr used j % 2 = 0 then lbJ M r W T j else 0
def lbS (M : Row) (r : Int) (W : List Int) (used : Int) (T : List (Int × Int)) : Nat → Int := sm (lbK M r W used T)
theorem sm_le1 {f g : Nat → Int} {j : Nat} {x : Int} : ∀ {n : Nat}, (∀ k, k < n → k ≠ j → f k ≤ g k) → f j ≤ g j + x → j < n → sm f n ≤ sm g n + x
  | 0, _, _, h => by omega
  | n + 1, h, h1, hj => by
    show sm f n + f n ≤ sm g n + g n + x
    by_cases e : j = n
    · have : ∀ m, m ≤ n → sm f m ≤ sm g m := by
        intro m
        induction m with
        | zero => intro _; exact Int.le_refl _
        | succ m ih =>
          intro hm
          have := ih (by omega)
          have := h m (by omega) (by omega)
          show sm f m + f m ≤ sm g m + g m
          omega
      have := this n (Nat.le_refl _)
      rw [← e] at this ⊢
      omega
    · have := sm_le1 (n := n) (fun k hk => h k (by omega)) h1 (by omega)
      have := h n (by omega) (Ne.symm e)
      omega
theorem lbJ_mono (hM : okM M) {T : List (Int × Int)} {p : Int × Int} {j : Int} (hf : fl M (wAt W j)) : lbJ M r W T j ≤ lbJ M r W (T ++ [p]) j := by
  unfold lbJ
  rw [tmA_snoc]
  by_cases c : ofM M (wAt W j) 3 < tmA M (baseM M r (wAt W j)) T (wAt W j)
  · rw [if_pos c, if_pos (by omega)]
    exact cost_mono hM hf (by omega) (by omega)
  · rw [if_neg c]
    split
    · exact cost_nn hM hf
    · exact Int.le_refl _
theorem lvs_lb (hM : okM M) (hW : ∀ x ∈ W, fl M x) (hW7 : W.length ≤ 7) : ∀ {n : Nat} {place used : Int} {T : List (Int × Int)} {c : Int} {Ks : List Int}, isKs W used T Ks → Ks.length + n = W.length → (0 ≤ used ∧ used < 128) → ∀ x ∈ lvs M r W n place used T c, c + lbS M r W used T W.length ≤ x.1
  | 0, place, used, T, c, Ks, hK, hl, hu, x, hx => by
    have e : x = (c, T.map Prod.fst) := by simpa [lvs] using hx
    rw [e]
    have z : lbS M r W used T W.length = sm (fun _ => 0) W.length := sm_congr fun k hk => by
      unfold lbK
      rw [if_neg (ks_all hK hu.1 hl (k := k) (by omega))]
    have z2 : ∀ m, sm (fun _ => 0) m = 0 := by
      intro m
      induction m with
      | zero => rfl
      | succ m ih => show sm (fun _ => 0) m + 0 = 0; omega
    rw [z, z2]
    show c + 0 ≤ c
    omega
  | n + 1, place, used, T, c, Ks, hK, hl, hu, x, hx => by
    rw [lvs_succ] at hx
    obtain ⟨k, hk, hx⟩ := List.mem_flatMap.mp hx
    obtain ⟨hk1, hk2⟩ := oks_mem.mp hk
    unfold lv1 at hx
    have ih := lvs_lb hM hW hW7 (isKs_snoc hK hu hk1 hk2.1) (by rw [List.length_append]; simp; omega) (ior_lt hu (by omega)) x hx
    have hfk := hW _ (wAt_mem hk1)
    have key := sm_le1 (f := lbK M r W used T) (g := lbK M r W (ior used (pw k)) (T ++ [(wAt W k, tmA M (baseM M r (wAt W k)) T (wAt W k))])) (j := k.toNat) (x := costM M (wAt W k) (tmA M (baseM M r (wAt W k)) T (wAt W k))) (n := W.length) (fun j hj hne => by
        have hfj := hW _ (wAt_mem (W := W) (k := j) (by omega))
        unfold lbK
        by_cases q : shr used j % 2 = 0
        · rw [if_pos q, if_pos ((shr_ior hu.1 hk1.1 (by omega)).mpr ⟨by omega, q⟩)]
          exact lbJ_mono hM hfj
        · rw [if_neg q, if_neg (fun z => q ((shr_ior hu.1 hk1.1 (by omega)).mp z).2)]
          exact Int.le_refl _) (by
        have ek : ((k.toNat : Nat) : Int) = k := by omega
        unfold lbK
        rw [ek, if_pos hk2.1, if_neg (fun z => ((shr_ior hu.1 hk1.1 hk1.1).mp z).1 rfl)]
        unfold lbJ
        have := cost_nn hM hfk (t := tmA M (baseM M r (wAt W k)) T (wAt W k))
        split <;> omega) (by omega)
    unfold lbS at ih ⊢
    omega
theorem lbK_in (hM : okM M) (hW : ∀ x ∈ W, fl M x) {used : Int} {T : List (Int × Int)} {B : Int} (hT : okT M T B) (hB : 299400 ≤ B ∧ B + 600 ≤ 400000) {j : Nat} (hj : j < W.length) : 0 ≤ lbK M r W used T j ∧ lbK M r W used T j ≤ 5000000000 := by
  have hfj := hW _ (wAt_mem (W := W) (k := j) (by omega))
  have hb := baseM_in hM (r := r) hfj
  have ht := tmA_in hM (b := baseM M r (wAt W j)) (B := B) hfj (by omega) hT
  have hc := hM.cost hfj (t := tmA M (baseM M r (wAt W j)) T (wAt W j)) (by omega)
  unfold lbK lbJ
  split
  · split <;> omega
  · omega
end
