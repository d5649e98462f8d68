/-! rows over texts outside the world -/
/-- a text outside: its object, its bytes -/
def sgd (q t : Nat) (bs : List Int32) (A : Nat → Prop) (U : State) (H : Heap) : Prop := va_O "java/lang/String" q A U H ∧ va_OF "java/lang/String" "coder" "B" (.int 0) q A U H ∧ va_OF "java/lang/String" "value" "[B" (.ref t) q A U H ∧ va_T .byte t bs.length (fun j => .int (bs.getD j 0)) A U H
def gS (G : GT) (q t : Nat) (bs : List Int32) : Prop := ∀ (z : Nat) (s : State), G z s → sgd q t bs (aA z) s s.heap
/-- what texts stand on -/
def gC (G : GT) : Prop := ∀ (z : Nat) (s : State), G z s → va_Z "java/lang/String" "COMPACT_STRINGS" "Z" (.int 1) (aA z) s s.heap ∧ va_Zq "jdk/internal/util/Preconditions" "SIOOBE_FORMATTER" "Ljava/util/function/BiFunction;" (aA z) s s.heap
section AXS
variable {l : Launch} {G : GT} {M : MI} {d mc ms : Nat} {Q : AV → AH → Prop} {pc : Nat} {ls st : List AV} {cs sl : Nat} {H : AH} {q t : Nat} {bs : List Int32}
theorem a_xval {idx : Nat} (hg : gS G q t bs) (hd : decode M.2.1 pc = .ok (.getfield idx, 3)) (hw : Cond.fieldLink M.1.cls idx "java/lang/String" "value" "[B" ∈ lw_good) (kk : AW l G M d mc ms Q (pc + 3) ls (vX t :: st) cs sl H) : AW l G M d mc ms Q pc ls (vX q :: st) cs sl H := by
  intro p e s m args below meth c z D ca ws0 C ws Hp locs lsR stR hR hE hS hL hT
  obtain ⟨_, _, e0, hx, hT0⟩ := rvs_cons hT
  subst e0
  obtain ⟨q', rfl, e1⟩ := rv_X hx
  have : q' = q := by omega
  subst this
  exact vk_getf C.1 C.2.1 (hg z s C.2.2.2.2.2.2.2.2.2.2.2.2).2.2.1 hS C.2.2.2.2.2.1 (C.2.2.2.2.2.2.1 _ hw) (fun _ h => h) hd (kk p e s m args below meth c z D ca ws0 C ws Hp locs lsR _ hR hE hS hL ⟨Or.inr rfl, hT0⟩)
theorem a_xcod {idx : Nat} (hg : gS G q t bs) (hd : decode M.2.1 pc = .ok (.getfield idx, 3)) (hw : Cond.fieldLink M.1.cls idx "java/lang/String" "coder" "B" ∈ lw_good) (kk : AW l G M d mc ms Q (pc + 3) ls (vI 0 :: st) cs sl H) : AW l G M d mc ms Q pc ls (vX q :: st) cs sl H := by
  intro p e s m args below meth c z D ca ws0 C ws Hp locs lsR stR hR hE hS hL hT
  obtain ⟨_, _, e0, hx, hT0⟩ := rvs_cons hT
  subst e0
  obtain ⟨q', rfl, e1⟩ := rv_X hx
  have : q' = q := by omega
  subst this
  exact vk_getf C.1 C.2.1 (hg z s C.2.2.2.2.2.2.2.2.2.2.2.2).2.1 hS C.2.2.2.2.2.1 (C.2.2.2.2.2.2.1 _ hw) (fun _ h => h) hd (kk p e s m args below meth c z D ca ws0 C ws Hp locs lsR _ hR hE hS hL ⟨rfl, hT0⟩)
theorem a_xlen (hg : gS G q t bs) (hbs : bs.length < 1000) (hd : decode M.2.1 pc = .ok (.arraylength, 1)) (kk : AW l G M d mc ms Q (pc + 1) ls (vI bs.length :: st) cs sl H) : AW l G M d mc ms Q pc ls (vX t :: st) cs sl H := by
  intro p e s m args below meth c z D ca ws0 C ws Hp locs lsR stR hR hE hS hL hT
  obtain ⟨_, _, e0, hx, hT0⟩ := rvs_cons hT
  subst e0
  obtain ⟨q', rfl, e1⟩ := rv_X hx
  have : q' = t := by omega
  subst this
  refine va_tlen C.1 C.2.1 (hg z s C.2.2.2.2.2.2.2.2.2.2.2.2).2.2.2 hS rfl hd (kk p e s m args below meth c z D ca ws0 C ws Hp locs lsR _ hR hE hS hL ⟨?_, hT0⟩)
  refine congrArg vI ?_
  rw [Int32.toInt_ofNat_of_lt (by omega)]
theorem a_xbald {i : Int} (hg : gS G q t bs) (hd : decode M.2.1 pc = .ok (.baload, 1)) (hb : 0 ≤ i ∧ i < bs.length) (kk : AW l G M d mc ms Q (pc + 1) ls (vI (bs.getD i.toNat 0).toInt :: st) cs sl H) : AW l G M d mc ms Q pc ls (vI i :: vX t :: st) cs sl H := by
  intro p e s m args below meth c z D ca ws0 C ws Hp locs lsR stR hR hE hS hL hT
  obtain ⟨_, _, e0, hx, hT0⟩ := rvs_cons hT
  subst e0
  obtain ⟨_, _, e2, hy, hT1⟩ := rvs_cons hT0
  subst e2
  obtain ⟨i', rfl, rfl⟩ := rv_I hx
  obtain ⟨q', rfl, e1⟩ := rv_X hy
  have : q' = t := by omega
  subst this
  have hc : i'.toNatClampNeg = i'.toInt.toNat := rfl
  exact va_tb C.1 C.2.1 (hg z s C.2.2.2.2.2.2.2.2.2.2.2.2).2.2.2 hS (vp_in_of' hb.1 hb.2) rfl hd (kk p e s m args below meth c z D ca ws0 C ws Hp locs lsR _ hR hE hS hL ⟨rfl, hT1⟩)
theorem a_xcs {idx : Nat} (hg : gC G) (hd : decode M.2.1 pc = .ok (.getstatic idx, 3)) (hw : Cond.fieldLink M.1.cls idx "java/lang/String" "COMPACT_STRINGS" "Z" ∈ lw_good) (kk : AW l G M d mc ms Q (pc + 3) ls (vI 1 :: st) cs sl H) : AW l G M d mc ms Q pc ls st cs sl H := by
  intro p e s m args below meth c z D ca ws0 C ws Hp locs lsR stR hR hE hS hL hT
  exact va_gets C.1 C.2.1 (hg z s C.2.2.2.2.2.2.2.2.2.2.2.2).1 hS C.2.2.2.2.2.1 (C.2.2.2.2.2.2.1 _ hw) (fun _ h => h) hd (kk p e s m args below meth c z D ca ws0 C ws Hp locs lsR _ hR hE hS hL ⟨rfl, hT⟩)
theorem a_xsio {idx : Nat} (hg : gC G) (hd : decode M.2.1 pc = .ok (.getstatic idx, 3)) (hw : Cond.fieldLink M.1.cls idx "jdk/internal/util/Preconditions" "SIOOBE_FORMATTER" "Ljava/util/function/BiFunction;" ∈ lw_good) (k0 : AW l G M d mc ms Q (pc + 3) ls (vR 0 :: st) cs sl H) (kk : ∀ q : Nat, AW l G M d mc ms Q (pc + 3) ls (vX q :: st) cs sl H) : AW l G M d mc ms Q pc ls st cs sl H := by
  intro p e s m args below meth c z D ca ws0 C ws Hp locs lsR stR hR hE hS hL hT
  rcases (hg z s C.2.2.2.2.2.2.2.2.2.2.2.2).2 with hq | ⟨q, hq⟩
  · exact va_gets C.1 C.2.1 hq hS C.2.2.2.2.2.1 (C.2.2.2.2.2.2.1 _ hw) (fun _ h => h) hd (k0 p e s m args below meth c z D ca ws0 C ws Hp locs lsR _ hR hE hS hL ⟨rfl, hT⟩)
  · exact va_gets C.1 C.2.1 hq hS C.2.2.2.2.2.1 (C.2.2.2.2.2.2.1 _ hw) (fun _ h => h) hd (kk q p e s m args below meth c z D ca ws0 C ws Hp locs lsR _ hR hE hS hL ⟨Or.inr rfl, hT⟩)
theorem a_ldcX {idx : Nat} {tx : String} (hg : ∀ (z : Nat) (s : State), G z s → vk_R M.1.cls idx tx q s) (hd : decode M.2.1 pc = .ok (.ldc idx, 2)) (kk : AW l G M d mc ms Q (pc + 2) ls (vX q :: st) cs sl H) : AW l G M d mc ms Q pc ls st cs sl H := by
  intro p e s m args below meth c z D ca ws0 C ws Hp locs lsR stR hR hE hS hL hT
  exact va_ldcS C.1 C.2.1 C.2.2.2.2.2.1 (hg z s C.2.2.2.2.2.2.2.2.2.2.2.2) hd (kk p e s m args below meth c z D ca ws0 C ws Hp locs lsR _ hR hE hS hL ⟨Or.inr rfl, hT⟩)
theorem a_xret {ty : FieldType} {x : Int} (hd : decode M.2.1 pc = .ok (.ireturn, 1)) (hr : M.2.2.2.1 = some ty) (hn : ∀ y : Int32, y.toInt = x → narrow ty (.int y) = .int y) (hc : cs ≤ mc) (hs : sl ≤ ms) (hq : Q (vI x) H) : AW l G M d mc ms Q pc ls [vI x] cs sl H := by
  intro p e s m args below meth c z D ca ws0 C ws Hp locs lsR stR hR hE hS hL hT
  obtain ⟨_, _, e0, hx, hT0⟩ := rvs_cons hT
  subst e0
  cases rvs_nil hT0
  obtain ⟨y, rfl, rfl⟩ := rv_I hx
  refine W.widen hc hs (vx_ret ?_)
  exact W.zret C.1 C.2.1 (C.2.2.2.1.trans hr) (hn y rfl) (fun t ht hW => ⟨some _, _, ws, H, rfl, hx, by rw [ht]; exact hR, hE, hq, hS.F ht⟩) hS.2.2 hd C.2.2.2.2.1
theorem i32_c {y : Int32} (h : 0 ≤ y.toInt ∧ y.toInt < 65536) : (y.toUInt32 % 65536).toInt32 = y := by
  obtain ⟨n, hn, rfl⟩ : ∃ n : Nat, n < 65536 ∧ y = Int32.ofNat n := ⟨y.toInt.toNat, by omega, i32_small (by omega)⟩
  refine Int32.toInt_inj.mp ?_
  have h1 : (Int32.ofNat n).toUInt32 = UInt32.ofNat n := by
    apply UInt32.toNat_inj.mp
    simp
  rw [h1]
  have h2 : UInt32.ofNat n % 65536 = UInt32.ofNat n := by
    apply UInt32.toNat_inj.mp
    rw [UInt32.toNat_mod]
    simp
    omega
  rw [h2]
  rfl
theorem a_i2c {x : Int} (hd : decode M.2.1 pc = .ok (.i2c, 1)) (hx9 : 0 ≤ x ∧ x < 65536) (k : AW l G M d mc ms Q (pc + 1) ls (vI x :: st) cs sl H) : AW l G M d mc ms Q pc ls (vI x :: st) cs sl H := by
  intro p e s m args below meth c z D ca ws0 C ws Hp locs lsR stR hR hE hS hL hT
  obtain ⟨_, _, e0, hx, hT0⟩ := rvs_cons hT
  subst e0
  obtain ⟨y, rfl, rfl⟩ := rv_I hx
  exact lv_i2c C.1 C.2.1 hd (i32_c hx9) (k p e s m args below meth c z D ca ws0 C ws Hp locs lsR _ hR hE hS hL ⟨rfl, hT0⟩)
theorem a_callX {idx n d' mc' ms' : Nat} {M' : MI} {as rest : List AV} (hg : gS G q t bs) (hd : decode M.2.1 pc = .ok (.invokevirtual idx, 3)) (hw : CWX M M' idx n) (hst : st = as.reverse ++ vX q :: rest) (hn : as.length = n) (hdd : d' + 1 ≤ d) (hca : aCat rest ≤ 8) (hcov : ∀ x ∈ tableOf M.2.2.2.2, covers x pc = false) (hcs : cs + mc' ≤ mc) (hsl : sl + ms' ≤ ms)
    (h : CL l G M' d' mc' ms' (vX q :: as) H (aK l G M d mc ms Q (pc + 3) ls rest (cs + mc') (sl + ms'))) : AW l G M d mc ms Q pc ls st cs sl H := by
  intro p e s m args below meth c z D ca ws0 C ws Hp locs lsR stR hR hE hS hL hT
  subst hst
  obtain ⟨v1, v2, rfl, hA1, hT2⟩ := rvs_args hT
  obtain ⟨_, rR, e0, hx, hT3⟩ := rvs_cons hT2
  subst e0
  obtain ⟨q', rfl, e1⟩ := rv_X hx
  have : q' = q := by omega
  subst this
  obtain ⟨hb, hlink, hinst, hsel, hcl⟩ := hw
  have hts := C.2.2.2.2.2.2.1
  refine a_run C hE hS hL hT3 hcov hcs hsl (vx_runV (C := M'.1.cls) (nL := M.2.2.1) (Ts := lw_good) ⟨C.1, C.2.1, C.2.2.1, C.2.2.2.2.2.1, hts⟩ (h z D ca ws) ⟨hb.b C hdd hlink, hts _ hinst, hts _ hsel⟩ ⟨aPc_blind, ?_, fun U hU hW => aPc_of C hR hS (rvs_mk hx hA1) U hU hW⟩ rfl ((rvs_len hA1).trans hn) ?_ rfl (lv_room (by rw [aCat_eq hT3]; exact hca)) hd ⟨hcs, hsl⟩)
  · obtain ⟨cell, h1, h2, h3, -⟩ := (hg z s C.2.2.2.2.2.2.2.2.2.2.2.2).1.kept hS.2.1
    rw [hcl]
    exact ⟨cell, h1, h2, h3⟩
  · obtain ⟨-, lv, h1, -⟩ := hL
    exact h1.1
end AXS
section
variable {l : Launch} {G : GT} {H : AH} {q t : Nat} {bs : List Int32} {d : Nat}
theorem q_coder (hg : gS G q t bs) (hc : gC G) : CL l G mJ0_coder_7d493 d 0 0 [vX q] H (PQ (vI 0) H) := by
  refine CL.of (by decide) rfl (Nat.le_of_ble_eq_true rfl) ?_
  show AW l G mJ0_coder_7d493 d 0 0 _ 0 [vX q] [] 0 0 H
  refine a_xcs hc dJ0_coder_7d493_0 wq_cs ?_
  refine a_if_eq dJ0_coder_7d493_3 (tgt := 13) rfl (fun c9 => absurd c9 (by decide)) (fun _ => ?_)
  refine a_xload_n dJ0_coder_7d493_6 rfl rfl ?_
  refine a_xcod hg dJ0_coder_7d493_7 wq_coder ?_
  refine a_goto dJ0_coder_7d493_10 (tgt := 14) rfl ?_
  exact a_xret dJ0_coder_7d493_14 rfl (fun y hy => by rw [i32_small (n := 0) hy]; decide) (Nat.le_refl _) (Nat.le_refl _) ⟨rfl, rfl⟩
theorem q_isLatin1 (hg : gS G q t bs) (hc : gC G) : CL l G mJ0_isLatin1_aae02 d 0 0 [vX q] H (PQ (vI 1) H) := by
  refine CL.of (by decide) rfl (Nat.le_of_ble_eq_true rfl) ?_
  show AW l G mJ0_isLatin1_aae02 d 0 0 _ 0 [vX q] [] 0 0 H
  refine a_xcs hc dJ0_isLatin1_aae02_0 wq_cs ?_
  refine a_if_eq dJ0_isLatin1_aae02_3 (tgt := 17) rfl (fun c9 => absurd c9 (by decide)) (fun _ => ?_)
  refine a_xload_n dJ0_isLatin1_aae02_6 rfl rfl ?_
  refine a_xcod hg dJ0_isLatin1_aae02_7 wq_coder ?_
  refine a_if_ne dJ0_isLatin1_aae02_10 (tgt := 17) rfl (fun c9 => absurd rfl c9) (fun _ => ?_)
  refine a_iconst dJ0_isLatin1_aae02_13 ⟨by decide, by decide⟩ ?_
  refine a_goto dJ0_isLatin1_aae02_14 (tgt := 18) rfl ?_
  exact a_zret dJ0_isLatin1_aae02_18 rfl (Or.inr rfl) (Nat.le_refl _) (Nat.le_refl _) ⟨rfl, rfl⟩
theorem q_length (hg : gS G q t bs) (hc : gC G) (hbs : bs.length < 1000) (hd : 1 ≤ d := by omega) : CL l G mJ0_length_8abf5 d 0 0 [vX q] H (PQ (vI bs.length) H) := by
  obtain ⟨d, rfl⟩ : ∃ k, d = k + 1 := ⟨d - 1, by omega⟩
  refine CL.of (by decide) rfl (Nat.le_of_ble_eq_true rfl) ?_
  show AW l G mJ0_length_8abf5 (d + 1) 0 0 _ 0 [vX q] [] 0 0 H
  refine a_xload_n dJ0_length_8abf5_0 rfl rfl ?_
  refine a_xval hg dJ0_length_8abf5_1 wq_value ?_
  refine a_xlen hg hbs dJ0_length_8abf5_4 ?_
  refine a_xload_n dJ0_length_8abf5_5 rfl rfl ?_
  refine a_callX hg dJ0_length_8abf5_6 cx_J0_length_8abf5_6 (as := []) rfl rfl (Nat.le_refl _) (Nat.le_of_ble_eq_true rfl) (nocov rfl) (Nat.le_refl _) (Nat.le_refl _) (CL.mono (q_coder hg hc) (fun r9 H9 h9 => ?_))
  rw [h9.1, h9.2]
  show AW l G mJ0_length_8abf5 (d + 1) 0 0 _ 9 [vX q] [vI 0, vI bs.length] 0 0 H
  refine a_ishr dJ0_length_8abf5_9 (by omega) ?_
  refine a_iret dJ0_length_8abf5_10 rfl (Nat.le_refl _) (Nat.le_refl _) ⟨?_, rfl⟩
  refine congrArg vI ?_
  show (bs.length : Int) / 2 ^ (0 : Int).toNat = bs.length
  have : (2 : Int) ^ (0 : Int).toNat = 1 := rfl
  rw [this, Int.ediv_one]
theorem q_chk3 {i n : Int} {u : Nat} (h : 0 ≤ i ∧ i < n) : CL l G mJ3_checkIndex_8e157 d 0 0 [vI i, vI n, vX u] H (PQ (vI i) H) := by
  refine CL.of (by decide) rfl (Nat.le_of_ble_eq_true rfl) ?_
  show AW l G mJ3_checkIndex_8e157 d 0 0 _ 0 [vI i, vI n, vX u] [] 0 0 H
  refine a_iload_n dJ3_checkIndex_8e157_0 rfl rfl ?_
  refine a_if_lt dJ3_checkIndex_8e157_1 (tgt := 9) rfl (fun c9 => absurd c9 (by omega)) (fun _ => ?_)
  refine a_iload_n dJ3_checkIndex_8e157_4 rfl rfl ?_
  refine a_iload_n dJ3_checkIndex_8e157_5 rfl rfl ?_
  refine a_icmp_lt dJ3_checkIndex_8e157_6 (tgt := 16) rfl (fun _ => ?_) (fun c9 => absurd c9 (by omega))
  refine a_iload_n dJ3_checkIndex_8e157_16 rfl rfl ?_
  exact a_iret dJ3_checkIndex_8e157_17 rfl (Nat.le_refl _) (Nat.le_refl _) ⟨rfl, rfl⟩
theorem q_chk4 {i n : Int} (h : 0 ≤ i ∧ i < n) : CL l G mJ3_checkIndex_8e157 d 0 0 [vI i, vI n, vR 0] H (PQ (vI i) H) := by
  refine CL.of (by decide) rfl (Nat.le_of_ble_eq_true rfl) ?_
  show AW l G mJ3_checkIndex_8e157 d 0 0 _ 0 [vI i, vI n, vR 0] [] 0 0 H
  refine a_iload_n dJ3_checkIndex_8e157_0 rfl rfl ?_
  refine a_if_lt dJ3_checkIndex_8e157_1 (tgt := 9) rfl (fun c9 => absurd c9 (by omega)) (fun _ => ?_)
  refine a_iload_n dJ3_checkIndex_8e157_4 rfl rfl ?_
  refine a_iload_n dJ3_checkIndex_8e157_5 rfl rfl ?_
  refine a_icmp_lt dJ3_checkIndex_8e157_6 (tgt := 16) rfl (fun _ => ?_) (fun c9 => absurd c9 (by omega))
  refine a_iload_n dJ3_checkIndex_8e157_16 rfl rfl ?_
  exact a_iret dJ3_checkIndex_8e157_17 rfl (Nat.le_refl _) (Nat.le_refl _) ⟨rfl, rfl⟩
theorem q_chk {i n : Int} (hc : gC G) (h : 0 ≤ i ∧ i < n) (hd : 1 ≤ d := by omega) : CL l G mJ0_checkIndex_df160 d 0 0 [vI i, vI n] H (PQ vV H) := by
  obtain ⟨d, rfl⟩ : ∃ k, d = k + 1 := ⟨d - 1, by omega⟩
  refine CL.of (by decide) rfl (Nat.le_of_ble_eq_true rfl) ?_
  show AW l G mJ0_checkIndex_df160 (d + 1) 0 0 _ 0 [vI i, vI n] [] 0 0 H
  refine a_iload_n dJ0_checkIndex_df160_0 rfl rfl ?_
  refine a_iload_n dJ0_checkIndex_df160_1 rfl rfl ?_
  refine a_xsio hc dJ0_checkIndex_df160_2 wq_sio ?_ (fun u => ?_)
  · refine a_callS dJ0_checkIndex_df160_5 cx_J0_checkIndex_df160_5 (as := [vI i, vI n, vR 0]) rfl rfl (Nat.le_refl _) (Nat.le_of_ble_eq_true rfl) (nocov rfl) (Nat.le_refl _) (Nat.le_refl _) (CL.mono (q_chk4 h) (fun r9 H9 h9 => ?_))
    rw [h9.1, h9.2]
    show AW l G mJ0_checkIndex_df160 (d + 1) 0 0 _ 8 [vI i, vI n] [vI i] 0 0 H
    refine a_pop dJ0_checkIndex_df160_8 rfl ?_
    exact a_vret dJ0_checkIndex_df160_9 rfl (Nat.le_refl _) (Nat.le_refl _) ⟨rfl, rfl⟩
  · refine a_callS dJ0_checkIndex_df160_5 cx_J0_checkIndex_df160_5 (as := [vI i, vI n, vX u]) rfl rfl (Nat.le_refl _) (Nat.le_of_ble_eq_true rfl) (nocov rfl) (Nat.le_refl _) (Nat.le_refl _) (CL.mono (q_chk3 h) (fun r9 H9 h9 => ?_))
    rw [h9.1, h9.2]
    show AW l G mJ0_checkIndex_df160 (d + 1) 0 0 _ 8 [vI i, vI n] [vI i] 0 0 H
    refine a_pop dJ0_checkIndex_df160_8 rfl ?_
    exact a_vret dJ0_checkIndex_df160_9 rfl (Nat.le_refl _) (Nat.le_refl _) ⟨rfl, rfl⟩
theorem q_char1 {i : Int} (hg : gS G q t bs) (hc : gC G) (hbs : bs.length < 1000) (h : 0 ≤ i ∧ i < bs.length) (hd : 2 ≤ d := by omega) : CL l G mJ1_charAt_3b067 d 0 0 [vX t, vI i] H (PQ (vI ((bs.getD i.toNat 0).toInt % 256)) H) := by
  obtain ⟨d, rfl⟩ : ∃ k, d = k + 1 := ⟨d - 1, by omega⟩
  refine CL.of (by decide) rfl (Nat.le_of_ble_eq_true rfl) ?_
  show AW l G mJ1_charAt_3b067 (d + 1) 0 0 _ 0 [vX t, vI i] [] 0 0 H
  refine a_iload_n dJ1_charAt_3b067_0 rfl rfl ?_
  refine a_xload_n dJ1_charAt_3b067_1 rfl rfl ?_
  refine a_xlen hg hbs dJ1_charAt_3b067_2 ?_
  refine a_callS dJ1_charAt_3b067_3 cx_J1_charAt_3b067_3 (as := [vI i, vI bs.length]) rfl rfl (Nat.le_refl _) (Nat.le_of_ble_eq_true rfl) (nocov rfl) (Nat.le_refl _) (Nat.le_refl _) (CL.mono (q_chk hc h) (fun r9 H9 h9 => ?_))
  rw [h9.1, h9.2]
  show AW l G mJ1_charAt_3b067 (d + 1) 0 0 _ 6 [vX t, vI i] [] 0 0 H
  refine a_xload_n dJ1_charAt_3b067_6 rfl rfl ?_
  refine a_iload_n dJ1_charAt_3b067_7 rfl rfl ?_
  refine a_xbald hg dJ1_charAt_3b067_8 h ?_
  refine a_sipush dJ1_charAt_3b067_9 (by decide) ?_
  refine a_iand255 dJ1_charAt_3b067_12 ?_
  refine a_i2c dJ1_charAt_3b067_13 (by omega) ?_
  refine a_xret dJ1_charAt_3b067_14 rfl (fun y hy => ?_) (Nat.le_refl _) (Nat.le_refl _) ⟨rfl, rfl⟩
  have := i32_c (y := y) (by omega)
  show Value.int _ = Value.int y
  exact congrArg Value.int this
theorem q_charAt {i : Int} (hg : gS G q t bs) (hc : gC G) (hbs : bs.length < 1000) (h : 0 ≤ i ∧ i < bs.length) (hd : 3 ≤ d := by omega) : CL l G mJ0_charAt_5068e d 0 0 [vX q, vI i] H (PQ (vI ((bs.getD i.toNat 0).toInt % 256)) H) := by
  obtain ⟨d, rfl⟩ : ∃ k, d = k + 1 := ⟨d - 1, by omega⟩
  refine CL.of (by decide) rfl (Nat.le_of_ble_eq_true rfl) ?_
  show AW l G mJ0_charAt_5068e (d + 1) 0 0 _ 0 [vX q, vI i] [] 0 0 H
  refine a_xload_n dJ0_charAt_5068e_0 rfl rfl ?_
  refine a_callX hg dJ0_charAt_5068e_1 cx_J0_charAt_5068e_1 (as := []) rfl rfl (Nat.le_refl _) (Nat.le_of_ble_eq_true rfl) (nocov rfl) (Nat.le_refl _) (Nat.le_refl _) (CL.mono (q_isLatin1 hg hc) (fun r9 H9 h9 => ?_))
  rw [h9.1, h9.2]
  show AW l G mJ0_charAt_5068e (d + 1) 0 0 _ 4 [vX q, vI i] [vI 1] 0 0 H
  refine a_if_eq dJ0_charAt_5068e_4 (tgt := 16) rfl (fun c9 => absurd c9 (by decide)) (fun _ => ?_)
  refine a_xload_n dJ0_charAt_5068e_7 rfl rfl ?_
  refine a_xval hg dJ0_charAt_5068e_8 wq_value ?_
  refine a_iload_n dJ0_charAt_5068e_11 rfl rfl ?_
  refine a_callS dJ0_charAt_5068e_12 cx_J0_charAt_5068e_12 (as := [vX t, vI i]) rfl rfl (Nat.le_refl _) (Nat.le_of_ble_eq_true rfl) (nocov rfl) (Nat.le_refl _) (Nat.le_refl _) (CL.mono (q_char1 hg hc hbs h) (fun r9 H9 h9 => ?_))
  rw [h9.1, h9.2]
  show AW l G mJ0_charAt_5068e (d + 1) 0 0 _ 15 [vX q, vI i] [vI ((bs.getD i.toNat 0).toInt % 256)] 0 0 H
  refine a_xret dJ0_charAt_5068e_15 rfl (fun y hy => ?_) (Nat.le_refl _) (Nat.le_refl _) ⟨rfl, rfl⟩
  have := i32_c (y := y) (by omega)
  show Value.int _ = Value.int y
  exact congrArg Value.int this
end
