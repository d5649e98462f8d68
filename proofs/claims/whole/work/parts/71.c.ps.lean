/-! the reading of descriptions: what both sides do -/
def scF (P : Int → Bool) : Nat → Int → Int
  | 0, i => i
  | k + 1, i => if P i = true then scF P k (i + 1) else i
def scE (P : Int → Bool) (n i : Int) : Int := scF P (n - i).toNat i
section
variable {P : Int → Bool} {n i : Int}
theorem scE_go (h : i < n) (hp : P i = true) : scE P n i = scE P n (i + 1) := by
  unfold scE
  rw [show (n - i).toNat = (n - (i + 1)).toNat + 1 by omega]
  show (if P i = true then _ else _) = _
  rw [if_pos hp]
theorem scE_no (h : n ≤ i ∨ ¬ P i = true) : scE P n i = i := by
  unfold scE
  cases hk : (n - i).toNat with
  | zero => rfl
  | succ k =>
    show (if P i = true then _ else _) = _
    rw [if_neg (by rcases h with h | h; omega; exact h)]
theorem scF_f (P : Int → Bool) : ∀ (k : Nat) (i : Int), i ≤ scF P k i ∧ scF P k i ≤ i + k ∧ (∀ j, i ≤ j → j < scF P k i → P j = true) ∧ (scF P k i < i + k → ¬ P (scF P k i) = true)
  | 0, i => ⟨Int.le_refl _, by show i ≤ i + ((0 : Nat) : Int); omega, fun j h1 h2 => by have h2 : j < i := h2; omega, fun h => by have h : i < i + ((0 : Nat) : Int) := h; omega⟩
  | k + 1, i => by
    unfold scF
    by_cases hp : P i = true
    · rw [if_pos hp]
      obtain ⟨a1, a2, a3, a4⟩ := scF_f P k (i + 1)
      refine ⟨by omega, by omega, fun j h1 h2 => ?_, fun h => a4 (by omega)⟩
      by_cases hj : j = i
      · rw [hj]; exact hp
      · exact a3 j (by omega) h2
    · rw [if_neg hp]
      exact ⟨Int.le_refl _, by omega, fun j h1 h2 => by omega, fun _ => hp⟩
theorem scE_f (P : Int → Bool) (h : i ≤ n) : i ≤ scE P n i ∧ scE P n i ≤ n ∧ (∀ j, i ≤ j → j < scE P n i → P j = true) ∧ (scE P n i < n → ¬ P (scE P n i) = true) := by
  obtain ⟨a1, a2, a3, a4⟩ := scF_f P (n - i).toNat i
  exact ⟨a1, by unfold scE; omega, a3, fun q => a4 (by unfold scE at q; omega)⟩
end
def isSp (B : Row) : Int → Bool := fun j => decide (B j = 32)
def isLt (B : Row) : Int → Bool := fun j => decide (97 ≤ B j ∧ B j ≤ 122)
def isDg (B : Row) : Int → Bool := fun j => decide (48 ≤ B j ∧ B j ≤ 57)
abbrev spE (B : Row) (n i : Int) : Int := scE (isSp B) n i
abbrev wdE (B : Row) (n i : Int) : Int := scE (isLt B) n i
abbrev dgE (B : Row) (n i : Int) : Int := scE (isDg B) n i
theorem isSp_t {B : Row} {j : Int} : isSp B j = true ↔ B j = 32 := by unfold isSp; exact decide_eq_true_iff
theorem isLt_t {B : Row} {j : Int} : isLt B j = true ↔ (97 ≤ B j ∧ B j ≤ 122) := by unfold isLt; exact decide_eq_true_iff
theorem isDg_t {B : Row} {j : Int} : isDg B j = true ↔ (48 ≤ B j ∧ B j ≤ 57) := by unfold isDg; exact decide_eq_true_iff
section
variable {B : Row} {n i : Int}
theorem spE_no (h : n ≤ i ∨ ¬ isSp B i = true) : spE B n i = i := scE_no h
theorem spE_go (h : i < n) (hp : isSp B i = true) : spE B n i = spE B n (i + 1) := scE_go h hp
theorem wdE_no (h : n ≤ i ∨ ¬ isLt B i = true) : wdE B n i = i := scE_no h
theorem wdE_go (h : i < n) (hp : isLt B i = true) : wdE B n i = wdE B n (i + 1) := scE_go h hp
theorem dgE_no (h : n ≤ i ∨ ¬ isDg B i = true) : dgE B n i = i := scE_no h
theorem dgE_go (h : i < n) (hp : isDg B i = true) : dgE B n i = dgE B n (i + 1) := scE_go h hp
theorem spE_f (h : i ≤ n) : i ≤ spE B n i ∧ spE B n i ≤ n ∧ (∀ j, i ≤ j → j < spE B n i → isSp B j = true) ∧ (spE B n i < n → ¬ isSp B (spE B n i) = true) := scE_f _ h
theorem wdE_f (h : i ≤ n) : i ≤ wdE B n i ∧ wdE B n i ≤ n ∧ (∀ j, i ≤ j → j < wdE B n i → isLt B j = true) ∧ (wdE B n i < n → ¬ isLt B (wdE B n i) = true) := scE_f _ h
theorem dgE_f (h : i ≤ n) : i ≤ dgE B n i ∧ dgE B n i ≤ n ∧ (∀ j, i ≤ j → j < dgE B n i → isDg B j = true) ∧ (dgE B n i < n → ¬ isDg B (dgE B n i) = true) := scE_f _ h
end
/-- the value of a number, as the class counts it and as the reference does -/
def cvF (B : Row) : Nat → Int → Int → Int
  | 0, _, v => v
  | k + 1, i, v => if isDg B i = true then cvF B k (i + 1) (if v < 1000000 then v * 10 + B i - 48 else v) else v
def mvF (B : Row) : Nat → Int → Int → Int
  | 0, _, v => v
  | k + 1, i, v => if isDg B i = true then mvF B k (i + 1) (min 10000000 (10 * v + B i - 48)) else v
def cvE (B : Row) (n i v : Int) : Int := cvF B (n - i).toNat i v
def mvE (B : Row) (n i v : Int) : Int := mvF B (n - i).toNat i v
section
variable {B : Row} {n i v : Int}
theorem cvE_go (h : i < n) (hp : isDg B i = true) : cvE B n i v = cvE B n (i + 1) (if v < 1000000 then v * 10 + B i - 48 else v) := by
  unfold cvE
  rw [show (n - i).toNat = (n - (i + 1)).toNat + 1 by omega]
  show (if isDg B i = true then _ else _) = _
  rw [if_pos hp]
theorem cvE_no (h : n ≤ i ∨ ¬ isDg B i = true) : cvE B n i v = v := by
  unfold cvE
  cases hk : (n - i).toNat with
  | zero => rfl
  | succ k =>
    show (if isDg B i = true then _ else _) = _
    rw [if_neg (by rcases h with h | h; omega; exact h)]
theorem mvE_go (h : i < n) (hp : isDg B i = true) : mvE B n i v = mvE B n (i + 1) (min 10000000 (10 * v + B i - 48)) := by
  unfold mvE
  rw [show (n - i).toNat = (n - (i + 1)).toNat + 1 by omega]
  show (if isDg B i = true then _ else _) = _
  rw [if_pos hp]
theorem mvE_no (h : n ≤ i ∨ ¬ isDg B i = true) : mvE B n i v = v := by
  unfold mvE
  cases hk : (n - i).toNat with
  | zero => rfl
  | succ k =>
    show (if isDg B i = true then _ else _) = _
    rw [if_neg (by rcases h with h | h; omega; exact h)]
theorem cv_mv (B : Row) : ∀ (k : Nat) (i v w : Int), (v = w ∨ (1000000 ≤ v ∧ 1000000 ≤ w)) → 0 ≤ v ∧ v ≤ 9999999 → ((cvF B k i v = mvF B k i w ∨ (1000000 ≤ cvF B k i v ∧ 1000000 ≤ mvF B k i w)) ∧ 0 ≤ cvF B k i v ∧ cvF B k i v ≤ 9999999)
  | 0, i, v, w, h, h0 => ⟨h, h0⟩
  | k + 1, i, v, w, h, h0 => by
    unfold cvF mvF
    by_cases hp : isDg B i = true
    · rw [if_pos hp, if_pos hp]
      have := isDg_t.mp hp
      refine cv_mv B k (i + 1) _ _ ?_ ?_
      · split <;> omega
      · split <;> omega
    · rw [if_neg hp, if_neg hp]
      exact ⟨h, h0⟩
theorem mv_cv (B : Row) (n i : Int) : (cvE B n i 0 = mvE B n i 0 ∨ (1000000 ≤ cvE B n i 0 ∧ 1000000 ≤ mvE B n i 0)) ∧ 0 ≤ cvE B n i 0 ∧ cvE B n i 0 ≤ 9999999 := cv_mv B _ i 0 0 (Or.inl rfl) (by omega)
end
/-- a word between two places is this one -/
def wEq (B : Row) (s z : Int) (bs : List Int32) : Bool := decide (z - s = bs.length) && (List.range bs.length).all (fun i => decide (B (s + i) = (bs.getD i 0).toInt % 256))
theorem wEq_t {B : Row} {s z : Int} {bs : List Int32} : wEq B s z bs = true ↔ (z - s = bs.length ∧ ∀ i : Int, 0 ≤ i → i < bs.length → B (s + i) = (bs.getD i.toNat 0).toInt % 256) := by
  unfold wEq
  rw [Bool.and_eq_true, decide_eq_true_iff, List.all_eq_true]
  refine ⟨fun h => ⟨h.1, fun i i1 i2 => ?_⟩, fun h => ⟨h.1, fun i hi => decide_eq_true ?_⟩⟩
  · have := of_decide_eq_true (h.2 i.toNat (List.mem_range.mpr (by omega)))
    rw [show ((i.toNat : Nat) : Int) = i by omega] at this
    exact this
  · have := h.2 (i : Int) (by omega) (by have := List.mem_range.mp hi; omega)
    rw [show ((i : Int)).toNat = i by omega] at this
    exact this
/-- two words that differ -/
def wne (u v : List Int32) : Bool := decide (u.length ≠ v.length) || (List.range u.length).any (fun i => decide ((u.getD i 0).toInt % 256 ≠ (v.getD i 0).toInt % 256))
theorem wEq_ne {B : Row} {s z : Int} {u v : List Int32} (h : wEq B s z u = true) (hn : wne u v = true) : wEq B s z v = false := by
  cases hv : wEq B s z v with
  | false => rfl
  | true =>
    obtain ⟨h1, h2⟩ := wEq_t.mp h
    obtain ⟨h3, h4⟩ := wEq_t.mp hv
    unfold wne at hn
    rw [Bool.or_eq_true, decide_eq_true_iff, List.any_eq_true] at hn
    rcases hn with hn | ⟨i, hi, hn⟩
    · omega
    · have hi := List.mem_range.mp hi
      have a := h2 (i : Int) (by omega) (by omega)
      have b := h4 (i : Int) (by omega) (by omega)
      rw [show ((i : Int)).toNat = i by omega] at a b
      exact absurd (a.symm.trans b) (of_decide_eq_true hn)
theorem wEq_0 {B : Row} {s : Int} {u : List Int32} (hu : u.length ≠ 0) : wEq B s s u = false := by
  cases hv : wEq B s s u with
  | false => rfl
  | true => have := (wEq_t.mp hv).1; omega
/-- the class that a word names -/
def kdV (B : Row) (s z : Int) : Int := if wEq B s z ws_super = true then 0 else if wEq B s z ws_heavy = true then 1 else if wEq B s z ws_medium = true then 2 else if wEq B s z ws_light = true then 3 else -1
/-- the statement that a word begins -/
def stK (B : Row) (s z : Int) : Int := if wEq B s z ws_wake = true then 0 else if wEq B s z ws_mixed = true then 1 else if wEq B s z ws_shift = true then 2 else if wEq B s z ws_freeze = true then 3 else if wEq B s z ws_around = true then 4 else if wEq B s z ws_cost = true then 5 else if wEq B s z ws_arrival = true then 6 else if wEq B s z ws_departure = true then 7 else -1
/-- where a reading is: its error and the error's place, its place, the row read -/
abbrev PS : Type := Int × Int × Int × Row
def nmE (B : Row) (n p lo hi : Int) : Int := if dgE B n (spE B n p) = spE B n p then 1 else if lo ≤ cvE B n (spE B n p) 0 ∧ cvE B n (spE B n p) 0 ≤ hi then 0 else 2
def kdE (B : Row) (n p : Int) : Int := if kdV B (spE B n p) (wdE B n (spE B n p)) = -1 then 1 else 0
def nmS (B : Row) (n : Int) (σ : PS) (lo hi : Int) : PS × Int := if σ.1 ≠ 0 then (σ, lo) else (⟨nmE B n σ.2.2.1 lo hi, spE B n σ.2.2.1, dgE B n (spE B n σ.2.2.1), σ.2.2.2⟩, if nmE B n σ.2.2.1 lo hi = 0 then cvE B n (spE B n σ.2.2.1) 0 else lo)
def kdS (B : Row) (n : Int) (σ : PS) : PS × Int := if σ.1 ≠ 0 then (σ, 0) else (⟨kdE B n σ.2.2.1, spE B n σ.2.2.1, wdE B n (spE B n σ.2.2.1), σ.2.2.2⟩, if kdE B n σ.2.2.1 = 0 then kdV B (spE B n σ.2.2.1) (wdE B n (spE B n σ.2.2.1)) else 0)
/-- a number is set down at a place of the row -/
def upS (σ : PS) (k v : Int) : PS := (σ.1, σ.2.1, σ.2.2.1, upM σ.2.2.2 k v)
def stnS (B : Row) (n : Int) (σ : PS) (k lo hi : Int) : PS := upS (nmS B n σ lo hi).1 k (nmS B n σ lo hi).2
def wakS (B : Row) (n : Int) (σ : PS) : PS :=
  let a := kdS B n σ
  let b := kdS B n a.1
  stnS B n b.1 (8 + 4 * a.2 + b.2) 0 600
def cosS (B : Row) (n : Int) (σ : PS) : PS :=
  let a := kdS B n σ
  stnS B n (stnS B n a.1 (24 + a.2) 0 9999) (28 + a.2) 0 9999
/-- is this the name of a flight of the row -/
def nmd (R B : Row) (s z f : Int) : Bool := (List.range 6).all (fun k => decide (ofM R f (10 + k) = (if s + k < z then B (s + k) else 0)))
/-- the first flight of that name -/
def fstN (P : Int → Bool) : Nat → Int
  | 0 => -1
  | k + 1 => if fstN P k = -1 then (if P k = true then k else -1) else fstN P k
def fnd (R B : Row) (s z : Int) : Int := fstN (nmd R B s z) (R 6).toNat
def namR (R B : Row) (s z f : Int) : Row := fun j => if 56 + 16 * f + 10 ≤ j ∧ j < 56 + 16 * f + 16 then (if s + (j - (56 + 16 * f + 10)) < z then B (s + (j - (56 + 16 * f + 10))) else 0) else R j
def namS (B : Row) (n : Int) (σ : PS) (f : Int) : PS :=
  let s := spE B n σ.2.2.1
  let z := wdE B n s
  if ¬ (1 ≤ z - s ∧ z - s ≤ 6) then ⟨1, s, z, σ.2.2.2⟩ else if fnd σ.2.2.2 B s z ≠ -1 then ⟨3, s, z, σ.2.2.2⟩ else ⟨0, s, z, namR σ.2.2.2 B s z f⟩
def timS (B : Row) (n : Int) (σ : PS) (f : Int) : PS :=
  let a := nmS B n σ 0 99999
  let b := nmS B n a.1 a.2 99999
  stnS B n (upS (upS b.1 (56 + 16 * f + 2) a.2) (56 + 16 * f + 3) b.2) (56 + 16 * f + 4) b.2 99999
def flyS (B : Row) (n : Int) (σ : PS) (b arr : Int) : PS :=
  if σ.2.2.2 6 = 24 then ⟨4, b, σ.2.2.1, σ.2.2.2⟩ else
  let f := σ.2.2.2 6
  let a := kdS B n (upS (namS B n σ f) (56 + 16 * f + 0) arr)
  let t := timS B n (upS a.1 (56 + 16 * f + 1) a.2) f
  upS (stnS B n t (56 + 16 * f + 5) 1 (pw (t.2.2.2 5) - 1)) 6 (f + 1)
def stmS (B : Row) (n : Int) (σ : PS) : PS :=
  let s := spE B n σ.2.2.1
  let z := wdE B n s
  let τ : PS := ⟨0, s, z, σ.2.2.2⟩
  let k := stK B s z
  if k = 0 then wakS B n τ else if k = 1 then stnS B n τ 4 0 600 else if k = 2 then stnS B n τ 1 0 4 else if k = 3 then stnS B n τ 2 0 1800 else if k = 4 then stnS B n τ 3 60 3600 else if k = 5 then cosS B n τ else if k = 6 then flyS B n τ s 1 else if k = 7 then flyS B n τ s 0 else ⟨1, s, z, σ.2.2.2⟩
/-- is there more, and the reading then -/
def morS (B : Row) (n : Int) (σ : PS) : PS × Bool :=
  if σ.1 ≠ 0 then (σ, false) else if n ≤ spE B n σ.2.2.1 then (⟨0, σ.2.1, spE B n σ.2.2.1, σ.2.2.2⟩, false) else if B (spE B n σ.2.2.1) ≠ 59 then (⟨1, spE B n σ.2.2.1, spE B n σ.2.2.1, σ.2.2.2⟩, false) else (⟨0, σ.2.1, spE B n σ.2.2.1 + 1, σ.2.2.2⟩, true)
def allS (B : Row) (n : Int) : Nat → PS → PS
  | 0, σ => σ
  | k + 1, σ => if (morS B n σ).2 = true then allS B n k (stmS B n (morS B n σ).1) else (morS B n σ).1
def runS (B : Row) (n : Int) : PS :=
  let s := spE B n 0
  let z := wdE B n s
  let a := nmS B n ⟨if wEq B s z ws_runways = true then 0 else 1, s, z, fun _ => 0⟩ 1 3
  ⟨a.1.1, a.1.2.1, a.1.2.2.1, begM a.2⟩
def reaS (B : Row) (n : Int) : PS := allS B n 901 (runS B n)
