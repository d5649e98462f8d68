/-! what is given at the start -/
abbrev atoms0 : List Cond := flatC (Jvm.Cond.and given_1 narrow_1)
/-- the world outside is as it was at the start -/
def G0 (s0 : State) : GT := fun z s => z = s0.heap.size ∧ s0.WarmedH s.vm ∧ s0.heap.size ≤ s.heap.size ∧ ∀ q : Nat, q < s0.heap.size → s.heap[q]? = s0.heap[q]?
theorem G0.stab (s0 : State) : aStab (G0 s0) := by
  rintro z s U ⟨rfl, h2, h3, h4⟩ hW hs hq
  exact ⟨rfl, h2.trans hW, Nat.le_trans h3 hs, fun q q1 => (hq q (Nat.lt_of_lt_of_le q1 h3) (Nat.not_le.mpr q1)).trans (h4 q q1)⟩
theorem G0.self (s0 : State) : G0 s0 s0.heap.size s0 := ⟨rfl, State.WarmedH.refl s0, Nat.le_refl _, fun _ _ => rfl⟩
section
variable {s0 : State} {args : Array Value}
theorem G0.kq {z : Nat} {s : State} (h : G0 s0 z s) : ∀ a : Nat, a < s0.heap.size → ¬ aA z a → s.heap[a]? = s0.heap[a]? := fun a ha _ => h.2.2.2 a ha
theorem G0.na : ∀ a : Nat, a < s0.heap.size → ¬ aA s0.heap.size a := fun a ha w => absurd ha (Nat.not_lt.mpr w)
/-- a word by its place in all the tables -/
theorem tb_mem {w : Cond} (i : Nat) (h : tables_1[i]? = some w) : w ∈ lw_tbl := List.mem_append_right _ (List.mem_of_getElem? h)
/-- the atoms of a text -/
def txA (c : String) (i : Nat) (bs : List Int32) : List Cond := [.exactly (.string c i) "java/lang/String", .eq (.field (.string c i) "java/lang/String" "coder" "B") (.int 0), .arrayOf (.field (.string c i) "java/lang/String" "value" "[B") .byte, .eq (.length (.field (.string c i) "java/lang/String" "value" "[B")) (.int (Int32.ofNat bs.length))] ++ (List.range bs.length).map fun j => .eq (.elem (.field (.string c i) "java/lang/String" "value" "[B") (.int (Int32.ofNat j))) (.int (bs.getD j 0))
theorem tx_of {c tx : String} {i : Nat} {bs : List Int32} (hb : bs.length < 1000) (hs : ∀ w ∈ txA c i bs, w.before args s0 = true) (hr : (Cond.stringRef c i tx).before args s0 = true) : ∃ q t : Nat, (∀ (z : Nat) (s : State), G0 s0 z s → vk_R c i tx q s) ∧ gS (G0 s0) q t bs := by
  have m : ∀ w ∈ ([.exactly (.string c i) "java/lang/String", .eq (.field (.string c i) "java/lang/String" "coder" "B") (.int 0), .arrayOf (.field (.string c i) "java/lang/String" "value" "[B") .byte, .eq (.length (.field (.string c i) "java/lang/String" "value" "[B")) (.int (Int32.ofNat bs.length))] : List Cond), w.before args s0 = true := fun w hw => hs w (List.mem_append_left _ hw)
  obtain ⟨adK, adV, hS, hE⟩ := vk_Sof (N := 1) (tm := fun _ => .string c i) (len := [bs.length]) (byt := [bs]) (A := aA s0.heap.size) (args := args) (s := s0)
    (fun k hk => by have : k = 0 := by omega
                    subst this; show bs.length < 2 ^ 31; omega)
    (fun k _ => m _ (List.Mem.head _)) (fun k _ => m _ (List.Mem.tail _ (List.Mem.head _))) (fun k _ => m _ (List.Mem.tail _ (List.Mem.tail _ (List.Mem.head _))))
    (fun k hk => by have : k = 0 := by omega
                    subst this; exact m _ (List.Mem.tail _ (List.Mem.tail _ (List.Mem.tail _ (List.Mem.head _)))))
    (fun k hk j hj => by have : k = 0 := by omega
                         subst this; exact hs _ (List.mem_append_right _ (List.mem_map.mpr ⟨j, List.mem_range.mpr hj, rfl⟩)))
    (fun k j hk hj hn => absurd (show k = j by omega) hn) G0.na
  have h0 := hS.1 0 (by omega)
  have hR : vk_R c i tx (adK 0) s0 := vk_R.of (A := args) hr (hE 0 (by omega))
  refine ⟨adK 0, adV 0, fun z s g => hR.warm g.2.1, fun z s g => ?_⟩
  obtain ⟨rfl, g2, g3, g4⟩ := id g
  obtain ⟨a1, a2, a3, a4⟩ := h0
  have al := g2.alike
  exact ⟨(va_O.moved al a1).kept g.kq, (va_OF.moved al a2).kept g.kq, (va_OF.moved al a3).kept g.kq, (va_T.moved al a4).kept g.kq⟩
theorem txm_0 : (txA "RunwaySequencer$Input" 46 ws_super).all (fun w => decide (w ∈ atoms0)) = true := by decide +kernel
theorem txm_1 : (txA "RunwaySequencer$Input" 52 ws_heavy).all (fun w => decide (w ∈ atoms0)) = true := by decide +kernel
theorem txm_2 : (txA "RunwaySequencer$Input" 54 ws_medium).all (fun w => decide (w ∈ atoms0)) = true := by decide +kernel
theorem txm_3 : (txA "RunwaySequencer$Input" 56 ws_light).all (fun w => decide (w ∈ atoms0)) = true := by decide +kernel
theorem txm_4 : (txA "RunwaySequencer$Reader" 52 ws_runways).all (fun w => decide (w ∈ atoms0)) = true := by decide +kernel
theorem txm_5 : (txA "RunwaySequencer$Reader" 71 ws_arrival).all (fun w => decide (w ∈ atoms0)) = true := by decide +kernel
theorem txm_6 : (txA "RunwaySequencer$Reader" 77 ws_departure).all (fun w => decide (w ∈ atoms0)) = true := by decide +kernel
theorem txm_7 : (txA "RunwaySequencer$Reader" 79 ws_wake).all (fun w => decide (w ∈ atoms0)) = true := by decide +kernel
theorem txm_8 : (txA "RunwaySequencer$Reader" 84 ws_cost).all (fun w => decide (w ∈ atoms0)) = true := by decide +kernel
theorem txm_9 : (txA "RunwaySequencer$Reader" 92 ws_mixed).all (fun w => decide (w ∈ atoms0)) = true := by decide +kernel
theorem txm_10 : (txA "RunwaySequencer$Reader" 96 ws_shift).all (fun w => decide (w ∈ atoms0)) = true := by decide +kernel
theorem txm_11 : (txA "RunwaySequencer$Reader" 101 ws_freeze).all (fun w => decide (w ∈ atoms0)) = true := by decide +kernel
theorem txm_12 : (txA "RunwaySequencer$Reader" 105 ws_around).all (fun w => decide (w ∈ atoms0)) = true := by decide +kernel
theorem txm_13 : (txA "RunwaySequencerModel" 124 ws_super).all (fun w => decide (w ∈ atoms0)) = true := by decide +kernel
theorem txm_14 : (txA "RunwaySequencerModel" 130 ws_heavy).all (fun w => decide (w ∈ atoms0)) = true := by decide +kernel
theorem txm_15 : (txA "RunwaySequencerModel" 132 ws_medium).all (fun w => decide (w ∈ atoms0)) = true := by decide +kernel
theorem txm_16 : (txA "RunwaySequencerModel" 134 ws_light).all (fun w => decide (w ∈ atoms0)) = true := by decide +kernel
theorem txm_17 : (txA "RunwaySequencerModel" 155 ws_wake).all (fun w => decide (w ∈ atoms0)) = true := by decide +kernel
theorem txm_18 : (txA "RunwaySequencerModel" 157 ws_mixed).all (fun w => decide (w ∈ atoms0)) = true := by decide +kernel
theorem txm_19 : (txA "RunwaySequencerModel" 159 ws_shift).all (fun w => decide (w ∈ atoms0)) = true := by decide +kernel
theorem txm_20 : (txA "RunwaySequencerModel" 161 ws_freeze).all (fun w => decide (w ∈ atoms0)) = true := by decide +kernel
theorem txm_21 : (txA "RunwaySequencerModel" 163 ws_around).all (fun w => decide (w ∈ atoms0)) = true := by decide +kernel
theorem txm_22 : (txA "RunwaySequencerModel" 165 ws_cost).all (fun w => decide (w ∈ atoms0)) = true := by decide +kernel
theorem txm_23 : (txA "RunwaySequencerModel" 167 ws_arrival).all (fun w => decide (w ∈ atoms0)) = true := by decide +kernel
theorem txm_24 : (txA "RunwaySequencerModel" 173 ws_departure).all (fun w => decide (w ∈ atoms0)) = true := by decide +kernel
theorem txm_25 : (txA "RunwaySequencerModel" 179 ws_runways).all (fun w => decide (w ∈ atoms0)) = true := by decide +kernel
theorem txm {c : String} {i : Nat} {bs : List Int32} (h : (txA c i bs).all (fun w => decide (w ∈ atoms0)) = true) (hg : (Jvm.Cond.and given_1 narrow_1).before args s0 = true) : ∀ w ∈ txA c i bs, w.before args s0 = true := fun w hw => flat_of_before _ hg w (by have := List.all_eq_true.mp h w hw; simpa using this)
theorem G0.C (hg : (Jvm.Cond.and given_1 narrow_1).before args s0 = true) (ht : ∀ w ∈ lw_tbl, w.before args s0 = true) : gC (G0 s0) := by
  have hs := flat_of_before _ hg
  have z1 : va_Z "java/lang/String" "COMPACT_STRINGS" "Z" (.int 1) (aA s0.heap.size) s0 s0.heap := va_Zof (ht _ (tb_mem 408 (by decide +kernel))) (ht _ (tb_mem 14 (by decide +kernel))) (va_eqi (hs _ (by decide +kernel))) G0.na
  have z2 : va_Zq "jdk/internal/util/Preconditions" "SIOOBE_FORMATTER" "Ljava/util/function/BiFunction;" (aA s0.heap.size) s0 s0.heap := va_Zqof (ht _ (tb_mem 424 (by decide +kernel))) (ht _ (tb_mem 16 (by decide +kernel))) (hs _ (by decide +kernel)) G0.na
  intro z s g
  obtain ⟨rfl, g2, g3, g4⟩ := id g
  exact ⟨(va_Z.moved g2.alike z1).kept g.kq, (va_Zq.moved g2.alike z2).kept g.kq⟩
theorem G0.T (hg : (Jvm.Cond.and given_1 narrow_1).before args s0 = true) (ht : ∀ w ∈ lw_tbl, w.before args s0 = true) : gT (G0 s0) := by
  refine ⟨G0.C hg ht, fun c i tx bs h => ?_⟩
  have key : ∀ q ∈ wds, ∃ a t : Nat, (∀ (z : Nat) (s : State), G0 s0 z s → vk_R q.1 q.2.1 q.2.2.1 a s) ∧ gS (G0 s0) a t q.2.2.2 := by
    refine List.forall_mem_cons.mpr ⟨tx_of (by decide) (txm txm_0 hg) (ht _ (tb_mem 481 (by decide +kernel))), List.forall_mem_cons.mpr ⟨tx_of (by decide) (txm txm_1 hg) (ht _ (tb_mem 483 (by decide +kernel))), List.forall_mem_cons.mpr ⟨tx_of (by decide) (txm txm_2 hg) (ht _ (tb_mem 484 (by decide +kernel))), List.forall_mem_cons.mpr ⟨tx_of (by decide) (txm txm_3 hg) (ht _ (tb_mem 485 (by decide +kernel))), List.forall_mem_cons.mpr ⟨tx_of (by decide) (txm txm_4 hg) (ht _ (tb_mem 394 (by decide +kernel))), List.forall_mem_cons.mpr ⟨tx_of (by decide) (txm txm_5 hg) (ht _ (tb_mem 457 (by decide +kernel))), List.forall_mem_cons.mpr ⟨tx_of (by decide) (txm txm_6 hg) (ht _ (tb_mem 490 (by decide +kernel))), List.forall_mem_cons.mpr ⟨tx_of (by decide) (txm txm_7 hg) (ht _ (tb_mem 491 (by decide +kernel))), List.forall_mem_cons.mpr ⟨tx_of (by decide) (txm txm_8 hg) (ht _ (tb_mem 495 (by decide +kernel))), List.forall_mem_cons.mpr ⟨tx_of (by decide) (txm txm_9 hg) (ht _ (tb_mem 502 (by decide +kernel))), List.forall_mem_cons.mpr ⟨tx_of (by decide) (txm txm_10 hg) (ht _ (tb_mem 503 (by decide +kernel))), List.forall_mem_cons.mpr ⟨tx_of (by decide) (txm txm_11 hg) (ht _ (tb_mem 504 (by decide +kernel))), List.forall_mem_cons.mpr ⟨tx_of (by decide) (txm txm_12 hg) (ht _ (tb_mem 505 (by decide +kernel))), List.forall_mem_cons.mpr ⟨tx_of (by decide) (txm txm_13 hg) (ht _ (tb_mem 1350 (by decide +kernel))), List.forall_mem_cons.mpr ⟨tx_of (by decide) (txm txm_14 hg) (ht _ (tb_mem 1351 (by decide +kernel))), List.forall_mem_cons.mpr ⟨tx_of (by decide) (txm txm_15 hg) (ht _ (tb_mem 1352 (by decide +kernel))), List.forall_mem_cons.mpr ⟨tx_of (by decide) (txm txm_16 hg) (ht _ (tb_mem 1353 (by decide +kernel))), List.forall_mem_cons.mpr ⟨tx_of (by decide) (txm txm_17 hg) (ht _ (tb_mem 1345 (by decide +kernel))), List.forall_mem_cons.mpr ⟨tx_of (by decide) (txm txm_18 hg) (ht _ (tb_mem 1354 (by decide +kernel))), List.forall_mem_cons.mpr ⟨tx_of (by decide) (txm txm_19 hg) (ht _ (tb_mem 1355 (by decide +kernel))), List.forall_mem_cons.mpr ⟨tx_of (by decide) (txm txm_20 hg) (ht _ (tb_mem 1356 (by decide +kernel))), List.forall_mem_cons.mpr ⟨tx_of (by decide) (txm txm_21 hg) (ht _ (tb_mem 1357 (by decide +kernel))), List.forall_mem_cons.mpr ⟨tx_of (by decide) (txm txm_22 hg) (ht _ (tb_mem 1358 (by decide +kernel))), List.forall_mem_cons.mpr ⟨tx_of (by decide) (txm txm_23 hg) (ht _ (tb_mem 1359 (by decide +kernel))), List.forall_mem_cons.mpr ⟨tx_of (by decide) (txm txm_24 hg) (ht _ (tb_mem 1380 (by decide +kernel))), List.forall_mem_cons.mpr ⟨tx_of (by decide) (txm txm_25 hg) (ht _ (tb_mem 1318 (by decide +kernel))), fun _ h => absurd h List.not_mem_nil⟩⟩⟩⟩⟩⟩⟩⟩⟩⟩⟩⟩⟩⟩⟩⟩⟩⟩⟩⟩⟩⟩⟩⟩⟩⟩
  exact key _ h
theorem exb_face : excB.all (fun w => w.faceAtom) = true := by decide +kernel
theorem G0.X {l : Launch} (hl : l.flags = flags0) (hg : (Jvm.Cond.and given_1 narrow_1).before args s0 = true) (ht : ∀ w ∈ lw_tbl, w.before args s0 = true) : GX l (G0 s0) := by
  have hs := flat_of_before _ hg
  have z1 : vx_Zq Bundle.tN "UNASSIGNED_STACK" Bundle.steD (aA s0.heap.size) s0 s0.heap := vx_Zqof (ht _ (tb_mem 735 (by decide +kernel))) (ht _ (tb_mem 9 (by decide +kernel))) (hs _ (by decide +kernel)) G0.na
  have z2 : vx_Zq Bundle.tN "SUPPRESSED_SENTINEL" Bundle.listD (aA s0.heap.size) s0 s0.heap := vx_Zqof (ht _ (tb_mem 737 (by decide +kernel))) (ht _ (tb_mem 9 (by decide +kernel))) (hs _ (by decide +kernel)) G0.na
  have hb : ∀ w ∈ excB, w.before args s0 = true := List.forall_mem_cons.mpr ⟨ht _ (tb_mem 710 (by decide +kernel)), List.forall_mem_cons.mpr ⟨ht _ (tb_mem 788 (by decide +kernel)), List.forall_mem_cons.mpr ⟨ht _ (tb_mem 712 (by decide +kernel)), List.forall_mem_cons.mpr ⟨ht _ (tb_mem 714 (by decide +kernel)), List.forall_mem_cons.mpr ⟨ht _ (tb_mem 716 (by decide +kernel)), fun _ h => absurd h List.not_mem_nil⟩⟩⟩⟩⟩
  have hr : ∀ q ∈ thrT, ∃ sa : Nat, vk_R "RunwaySequencer" q.1 q.2 sa s0 := by
    have k : ∀ (i : Nat) (tx : String), Cond.exactly (.string "RunwaySequencer" i) "java/lang/String" ∈ atoms0 → Cond.stringRef "RunwaySequencer" i tx ∈ lw_tbl → ∃ sa : Nat, vk_R "RunwaySequencer" i tx sa s0 := fun i tx h1 h2 => by
      obtain ⟨a, c, cA, kA, q1, -⟩ := Cond.exactly_spec (args := args) (first := s0) (o := none) (s := s0) (idx := []) (hs _ h1)
      exact ⟨a, vk_R.of (A := args) (ht _ h2) q1⟩
    exact List.forall_mem_cons.mpr ⟨k 46 "a byte is 0 to 255" (by decide +kernel) (tb_mem 748 (by decide +kernel)), List.forall_mem_cons.mpr ⟨k 155 "a separation is 0 to 600" (by decide +kernel) (tb_mem 902 (by decide +kernel)), List.forall_mem_cons.mpr ⟨k 275 "an earliest time is 0 to 200000" (by decide +kernel) (tb_mem 1159 (by decide +kernel)), List.forall_mem_cons.mpr ⟨k 281 "a parameter is out of range" (by decide +kernel) (tb_mem 1171 (by decide +kernel)), List.forall_mem_cons.mpr ⟨k 301 "there is no such flight" (by decide +kernel) (tb_mem 795 (by decide +kernel)), List.forall_mem_cons.mpr ⟨k 304 "there is no such runway" (by decide +kernel) (tb_mem 921 (by decide +kernel)), List.forall_mem_cons.mpr ⟨k 306 "a class is 0 to 3" (by decide +kernel) (tb_mem 847 (by decide +kernel)), List.forall_mem_cons.mpr ⟨k 308 "a shift is 0 to 4" (by decide +kernel) (tb_mem 894 (by decide +kernel)), List.forall_mem_cons.mpr ⟨k 310 "seconds are 1 to 7200" (by decide +kernel) (tb_mem 866 (by decide +kernel)), List.forall_mem_cons.mpr ⟨k 312 "a slot is 0 or 1" (by decide +kernel) (tb_mem 1191 (by decide +kernel)), fun _ h => absurd h List.not_mem_nil⟩⟩⟩⟩⟩⟩⟩⟩⟩⟩
  refine ⟨?_, fun z s g => ?_⟩
  · unfold Launch.stackTraces
    rw [hl]
    decide +kernel
  obtain ⟨rfl, g2, g3, g4⟩ := id g
  have al := g2.alike
  refine ⟨⟨(vx_Zq.moved al z1).kept g.kq, (vx_Zq.moved al z2).kept g.kq⟩, fun w hw => ?_, fun q hq => ?_⟩
  · have h1 := Cond.faceAtom_setVm (args := args) al w (List.all_eq_true.mp exb_face w hw) (hb w hw)
    exact va_tabs (u := s0.setVm s.vm) (U := s) (List.all_eq_true.mp exc_bt w hw) rfl h1
  · obtain ⟨sa, h⟩ := hr q hq
    exact ⟨sa, h.warm g2⟩
theorem G0.Nc (hg : (Jvm.Cond.and given_1 narrow_1).before args s0 = true) : gNc (G0 s0) := fun z s g => va_Nc.moved g.2.1.alike (va_Nc.of (flat_of_before _ hg (.not (.castable "java/lang/IllegalArgumentException" "java/lang/IndexOutOfBoundsException")) (by decide +kernel)))
theorem nws_mem : nws.all (fun w => decide (w ∈ tables_1)) = true := by decide +kernel
theorem G0.N (ht : ∀ w ∈ lw_tbl, w.before args s0 = true) : gN (G0 s0) := by
  have k : ∀ w ∈ nws, w.onTables = true ∧ w.keepsH = true := by
    have : nws.all (fun w => w.onTables && w.keepsH) = true := by decide +kernel
    exact fun w hw => by have := List.all_eq_true.mp this w hw; simpa using this
  intro w hw z s a9 g
  have h1 : w.before args s0 = true := ht w (List.mem_append_right _ (by have := List.all_eq_true.mp nws_mem w hw; simpa using this))
  exact Cond.onTables_warmH (T := s) (args' := a9) g.2.1 (k w hw).1 (k w hw).2 h1
theorem G0.A (ht : ∀ w ∈ lw_tbl, w.before args s0 = true) : gA (G0 s0) := fun z s g => va_AO.moved g.2.1.alike (va_AO.of (ht (.arrayOver (.object "RunwaySequencer$State")) (tb_mem 336 (by decide +kernel))))
theorem G0.S {b L : Nat} {xs : Nat → Int32} (hX : va_X b L xs s0 s0.heap) (hb : b < s0.heap.size) : gX (G0 s0) b L xs := by
  intro z s g
  obtain ⟨rfl, g2, g3, g4⟩ := id g
  obtain ⟨scr, h1, h2, h3⟩ := hX
  exact ⟨⟨scr, (g4 b hb).trans h1, State.isArrayOf_alike g2.alike h2, h3⟩, hb⟩
/-- the classes and the arrays' classes -/
theorem K0 (ht : ∀ w ∈ lw_good, w.before args s0 = true) (ho : va_AO "RunwaySequencer$State" s0) : ∃ (D : va_G) (ca : Nat → ClassId), va_K D vwCl (aTys ca) s0 := by
  obtain ⟨c0, i0, k0⟩ := u_known (C := RX0) (T := TX0) (N := 9) (n := 9) ht us_X0 (ht _ (w_mem 209 (by decide +kernel) (by decide +kernel)))
  obtain ⟨c1, i1, k1⟩ := u_known (C := RX1) (T := TX1) (N := 7) (n := 7) ht us_X1 (ht _ (w_mem 31 (by decide +kernel) (by decide +kernel)))
  obtain ⟨c2, i2, k2⟩ := u_known (C := RX2) (T := TX2) (N := 6) (n := 6) ht us_X2 (ht _ (w_mem 69 (by decide +kernel) (by decide +kernel)))
  obtain ⟨c3, i3, k3⟩ := u_known (C := RX4) (T := TX4) (N := 8) (n := 8) ht us_X4 (ht _ (w_mem 155 (by decide +kernel) (by decide +kernel)))
  obtain ⟨c4, i4, k4⟩ := u_known (C := RX5) (T := TX5) (N := 15) (n := 15) ht us_X5 (ht _ (w_mem 75 (by decide +kernel) (by decide +kernel)))
  obtain ⟨c5, i5, k5⟩ := u_known (C := RX6) (T := TX6) (N := 13) (n := 13) ht us_X6 (ht _ (w_mem 149 (by decide +kernel) (by decide +kernel)))
  obtain ⟨c6, i6, k6⟩ := u_known (C := RX7) (T := TX7) (N := 6) (n := 6) ht us_X7 (ht _ (w_mem 23 (by decide +kernel) (by decide +kernel)))
  obtain ⟨c7, i7, k7⟩ := u_known (C := RX8) (T := TX8) (N := 26) (n := 26) ht us_X8 (ht _ (w_mem 1200 (by decide +kernel) (by decide +kernel)))
  obtain ⟨a0, ka0, co0, f0, g0, h0⟩ := Cond.arrayClass_spec (type := .int) (args := args) (first := s0) (o := none) (s := s0) (idx := []) (ht _ (w_mem 67 (by decide +kernel) (by decide +kernel)))
  obtain ⟨a1, ka1, co1, f1, g1, h1⟩ := Cond.arrayClass_spec (type := .boolean) (args := args) (first := s0) (o := none) (s := s0) (idx := []) (ht _ (w_mem 268 (by decide +kernel) (by decide +kernel)))
  obtain ⟨a2, ka2, co2, f2, g2, h2⟩ := Cond.arrayClass_spec (type := .byte) (args := args) (first := s0) (o := none) (s := s0) (idx := []) (ht _ (w_mem 539 (by decide +kernel) (by decide +kernel)))
  obtain ⟨a3, ka3, co3, f3, g3, h3⟩ := Cond.arrayClass_spec (type := .long) (args := args) (first := s0) (o := none) (s := s0) (idx := []) (ht _ (w_mem 128 (by decide +kernel) (by decide +kernel)))
  obtain ⟨a4, ka4, co4, f4, g4, h4⟩ := Cond.arrayClass_spec (type := .double) (args := args) (first := s0) (o := none) (s := s0) (idx := []) (ht _ (w_mem 1815 (by decide +kernel) (by decide +kernel)))
  obtain ⟨co5, a5, ka5, f5, -, g5, h5, m5⟩ := Cond.arrayOver_spec (args := #[]) (first := s0) (o := none) (s := s0) (idx := []) ho
  refine ⟨(fun k => [c0, c1, c2, c3, c4, c5, c6, c7].getD k c0, fun k => [i0, i1, i2, i3, i4, i5, i6, i7].getD k i0), fun k => [a0, a1, a2, a3, a4, a5].getD k a0, fun c q hq => ?_, fun k q hq => ?_⟩
  · match c, hq with
    | 0, hq => cases hq; exact k0
    | 1, hq => cases hq; exact k1
    | 2, hq => cases hq; exact k2
    | 3, hq => cases hq; exact k3
    | 4, hq => cases hq; exact k4
    | 5, hq => cases hq; exact k5
    | 6, hq => cases hq; exact k6
    | 7, hq => cases hq; exact k7
    | c + 8, hq => simp [vwCl] at hq
  · match k, hq with
    | 0, hq => cases hq; exact ⟨fun n z => ⟨fun k h => (by cases h), ka0, g0, co0, h0⟩, f0⟩
    | 1, hq => cases hq; exact ⟨fun n z => ⟨fun k h => (by cases h), ka1, g1, co1, h1⟩, f1⟩
    | 2, hq => cases hq; exact ⟨fun n z => ⟨fun k h => (by cases h), ka2, g2, co2, h2⟩, f2⟩
    | 3, hq => cases hq; exact ⟨fun n z => ⟨fun k h => (by cases h), ka3, g3, co3, h3⟩, f3⟩
    | 4, hq => cases hq; exact ⟨fun n z => ⟨fun k h => (by cases h), ka4, g4, co4, h4⟩, f4⟩
    | 5, hq => cases hq; exact ⟨fun n z => ⟨fun k h => (by cases h), ka5, g5, co5, h5⟩, ka5, co5, g5, h5, f5, m5⟩
    | k + 6, hq => simp [aTys] at hq
end
