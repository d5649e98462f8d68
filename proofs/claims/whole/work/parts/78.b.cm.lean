/-! how many ways there are to go on -/
noncomputable def cmpN (M : Row) (m : Nat) : Nat → Int → Int → Int
  | 0, _, _ => 1
  | n + 1, place, used => sm (fun k => if pdec (okK M place used k) = true then cmpN M m n (place + 1) (ior used (pw k)) else 0) m
theorem phi_cmp {M : Row} {r : Int} {W : List Int} : ∀ {n : Nat} {place used : Int} {T : List (Int × Int)} {c : Int}, phi pT (lvs M r W n place used T c) = cmpN M W.length n place used
  | 0, _, _, _, _ => rfl
  | n + 1, place, used, T, c => by
    rw [phi_lvs]
    show _ = sm _ _
    refine sm_congr (fun k hk => ?_)
    unfold phK
    split
    · exact phi_cmp
    · rfl
theorem pc_step : ∀ (t : Fin 128) (k : Fin 7), shr (t.val : Int) k.val % 2 = 0 → pcI (ior t.val (pw k.val)) = pcI t.val + 1 ∧ (t.val : Int) < ior t.val (pw k.val) ∧ ior (t.val : Int) (pw k.val) < 128 := by decide +kernel
theorem pc_in : ∀ (m : Fin 8) (t : Fin 128), t.val < 2 ^ m.val → 0 ≤ pcI t.val ∧ pcI t.val ≤ m.val ∧ (t.val < 2 ^ m.val - 1 → pcI t.val < m.val) := by decide +kernel
theorem pc_all : ∀ m : Fin 8, pcI (pw m.val - 1) = m.val ∧ pw (m.val : Int) - 1 = ((2 ^ m.val - 1 : Nat) : Int) := by decide +kernel
theorem ior_in : ∀ (m : Fin 8) (t : Fin 128) (k : Fin 7), t.val < 2 ^ m.val → k.val < m.val → ior (t.val : Int) (pw k.val) < ((2 ^ m.val : Nat) : Int) := by decide +kernel
