/-! methods that catch; the law's own rows -/
def aWsH (M : MI) : List Cond := Cond.codeWith M.1 M.2.1 M.2.2.1 M.2.2.2.1 M.2.2.2.2 :: lw_good
def CLH (l : Launch) (G : GT) (M : MI) (d mc ms : Nat) (as : List AV) (H : AH) (Q : AV → AH → Prop) : Prop :=
  ∀ (z : Nat) (D : va_G) (ca : Nat → ClassId) (ws : va_W), vx_Met l M.1 (aWsH M) (aRoom d mc ms) (aPc G z D ca ws as H) (aQ z D ca ws Q) (aX z D ca ws Q) mc ms (aA z)
theorem CLH.of {l : Launch} {G : GT} {M : MI} {d mc ms : Nat} {as : List AV} {H : AH} {Q : AV → AH → Prop} (hy : plainName M.1.cls = true) (hle : (aLay as).length ≤ M.2.2.1)
    (h : AW l G M d mc ms Q 0 (aArgs M.2.2.1 as) [] 0 0 H) : CLH l G M d mc ms as H Q := by
  intro z D ca ws
  refine vx_ofWH (cc := M.2.1) (maxL := M.2.2.1) (ret := M.2.2.2.1) (hh := M.2.2.2.2) hy rfl ?_
  intro p e s m args below meth c s₁ B hml hv
  obtain ⟨vs, rfl, hvs, hR, hK, hz, hst, hG⟩ := hv
  have hts := atoms_spec (ws := aWsH M) B.pre
  have hl := lv_entry vs (n := M.2.2.1) (by rw [aLay_len hvs]; exact hle)
  rw [lg_entry_eq]
  refine h p e s m vs.toArray below meth c z D ca ws ⟨B.exec, B.bytes, hml, B.returns, B.notSynchronized, findClass_of_methodNamed B.named, fun w hw => hts w (List.mem_cons_of_mem _ hw), hK, hz, (name_of_methodNamed B.named B.method).1, vx_table (x := M.1) B (hts _ List.mem_cons_self), hst, hG⟩ ws s.heap [] _ [] hR aext.rfl' va_S.rf ⟨?_, _, hl, fun i a ha hn => ?_⟩ trivial
  · simp [aArgs]
    omega
  · unfold aArgs at ha
    by_cases hi : i < (aLay as).length
    · rw [List.getElem?_append_left hi] at ha
      obtain ⟨v, h1, h2⟩ := aLay_at hvs 0 i a ha hn
      exact ⟨v, by simpa using h1, h2⟩
    · rw [List.getElem?_append_right (by omega), List.getElem?_replicate] at ha
      split at ha
      · cases ha; exact absurd rfl hn
      · cases ha
/-- which row of the table takes what is thrown -/
def CT (G : GT) (M : MI) (pc : Nat) (k : Int) (hp : Nat) : Prop := ∃ (pre : List ExceptionTableEntry) (x : ExceptionTableEntry) (suf : List ExceptionTableEntry), tableOf M.2.2.2.2 = pre ++ x :: suf ∧ x.handlerPc = hp ∧ covers x pc = true ∧ x.catchType ≠ 0 ∧ Cond.classLink M.1.cls x.catchType (aExc k) ∈ lw_good ∧ ∀ y ∈ pre, covers y pc = false ∨ (y.catchType ≠ 0 ∧ ∃ nm : String, Cond.classLink M.1.cls y.catchType nm ∈ lw_good ∧ ∀ (z : Nat) (s : State), G z s → va_Nc (aExc k) nm s)
theorem aExc_c (k : Int) : Cond.castable (aExc k) (aExc k) ∈ excB := by
  unfold aExc
  split
  · exact List.Mem.head _
  · exact List.Mem.tail _ (List.Mem.head _)
section
variable {l : Launch} {G : GT} {M : MI} {d mc ms : Nat} {Q : AV → AH → Prop} {pc : Nat} {ls st : List AV} {cs sl : Nat} {H : AH}
/-- behind a call that may be caught -/
def aKH (l : Launch) (G : GT) (M : MI) (d mc ms : Nat) (Q : AV → AH → Prop) (p0 pc : Nat) (ls rest : List AV) (cs sl : Nat) : AV → AH → Prop := fun r H' =>
  match r.1 with
  | 8 => ∃ hp : Nat, CT G M p0 r.2 hp ∧ ∀ q : Nat, AW l G M d mc ms Q hp ls [vX q] cs sl H'
  | 7 => AW l G M d mc ms Q pc ls rest cs sl H'
  | _ => AW l G M d mc ms Q pc ls (r :: rest) cs sl H'
theorem aKH_val {p0 : Nat} {rest : List AV} {r : AV} {H' : AH} (h : aKH l G M d mc ms Q p0 pc ls rest cs sl r H') (h7 : r.1 ≠ 7) (h8 : r.1 ≠ 8) : AW l G M d mc ms Q pc ls (r :: rest) cs sl H' := by
  unfold aKH at h
  split at h
  · exact absurd (by assumption) h8
  · exact absurd (by assumption) h7
  · exact h
theorem a_runH {p : Program} {e : Env} {s : State} {m : MethodId} {args a9 : Array Value} {below : List Frame} {meth : Method} {c : Code} {z : Nat} {D : va_G} {ca : Nat → ClassId} {ws0 ws : va_W} {Hp : Heap} {locs : List Loc} {lsR : Array Slot} {stR restR : List Value} {rest : List AV} {mc' ms' : Nat} (hG : GX l G)
    (C : Ctx G M p s m args meth c z D ca) (hE : aext ws0 ws) (hS : va_S (aA z) s.heap Hp locs) (hL : rls ws M.2.2.1 ls lsR) (hT : rvs ws restR rest)
    (hr : vx_Run p l e (aRoom d mc ms) s m args below meth c Hp locs cs sl mc' ms' (F0 m pc lsR stR) restR (aQ z D ca ws (aKH l G M d mc ms Q pc (pc + 3) ls rest (cs + mc') (sl + ms')) a9) (aX z D ca ws (aKH l G M d mc ms Q pc (pc + 3) ls rest (cs + mc') (sl + ms'))) (aA z)) :
    W p l e (aRoom d mc ms) s m args below meth c Hp locs cs sl (vx_MQ below (aQ z D ca ws0 Q) (aX z D ca ws0 Q) args s mc ms (aA z)) (F0 m pc lsR stR) := by
  intro T hT9 X
  rcases hr T hT9 X with ⟨v, st₀, t, T', L, e1, X', hL9, e2, e3, ⟨ov, ao, ws', H', ho, hrv, hR', hE', hKK, hF⟩, hgo⟩ | ⟨q, st₀, t, T', L, E, ce, e1, X', hL9, e2, e3, ⟨k, ws', H', hEq, hR', hE', hKK, hF⟩, hce, hcv, hcl, hgo⟩
  · cases ho
    have hS' : va_S (aA z) s.heap T'.heap (locs ++ L) := by
      obtain ⟨f1, f2⟩ := hF
      rw [e1] at f1 f2
      refine ⟨by rw [e2]; exact Nat.le_trans hS.1 f1, fun q h1 h2 => ?_, fun q hq => ?_⟩
      · rw [e2, f2 q (Nat.lt_of_lt_of_le h1 hS.1) h2]
        exact hS.2.1 q h1 h2
      · rcases List.mem_append.mp hq with h | h
        · exact hS.2.2 q h
        · exact hL9 q h
    have key : W p l e (aRoom d mc ms) s m args below meth c T'.heap (locs ++ L) (cs + mc') (sl + ms') (vx_MQ below (aQ z D ca ws0 Q) (aX z D ca ws0 Q) args s mc ms (aA z)) (F0 m (pc + 3) lsR (v.toList ++ restR)) := by
      cases v with
      | none =>
        have hrv : ao = vV := hrv
        subst hrv
        exact hKK p e s m args below meth c z D ca ws0 C ws' T'.heap (locs ++ L) lsR restR (by rw [e2]; exact hR') (hE.trans hE') hS' (hL.ext hE') (hT.ext hE')
      | some v =>
        have ht := rv_tag hrv
        exact aKH_val hKK ht.1 ht.2 p e s m args below meth c z D ca ws0 C ws' T'.heap (locs ++ L) lsR (v :: restR) (by rw [e2]; exact hR') (hE.trans hE') hS' (hL.ext hE') ⟨hrv, hT.ext hE'⟩
    obtain ⟨t2, a1, b1⟩ := key T' rfl X'
    exact ⟨t2, hgo t2 a1, b1⟩
  · have hS' : va_S (aA z) s.heap T'.heap (locs ++ L) := by
      obtain ⟨f1, f2⟩ := hF
      rw [e1] at f1 f2
      refine ⟨by rw [e2]; exact Nat.le_trans hS.1 f1, fun q h1 h2 => ?_, fun q hq => ?_⟩
      · rw [e2, f2 q (Nat.lt_of_lt_of_le h1 hS.1) h2]
        exact hS.2.1 q h1 h2
      · rcases List.mem_append.mp hq with h | h
        · exact hS.2.2 q h
        · exact hL9 q h
    have hKK : ∃ hp : Nat, CT G M pc k hp ∧ ∀ q : Nat, AW l G M d mc ms Q hp ls [vX q] (cs + mc') (sl + ms') H' := hKK
    obtain ⟨hp, ⟨pre, x, suf, t1, rfl, t3, t4, t5, t6⟩, hk⟩ := hKK
    have Gz := C.2.2.2.2.2.2.2.2.2.2.2.2
    have hb := (hG.2 z s Gz).2.1
    have hB : (Cond.castable (aExc k) (aExc k)).before args s = true := va_tabs (List.all_eq_true.mp exc_bt _ (aExc_c k)) rfl (hb _ (aExc_c k))
    subst hEq
    have key : vx_W p l e (aRoom d mc ms) s m args below meth c T'.heap (locs ++ L) (cs + mc') (sl + ms') (vx_MQ below (aQ z D ca ws0 Q) (aX z D ca ws0 Q) args s mc ms (aA z)) (F0 m pc lsR restR) q :=
      vx_catch (name := aExc k) (E := aExc k) (ce := ce) C.2.2.2.2.2.1 pre x suf (by rw [C.2.2.2.2.2.2.2.2.2.2.1]; exact t1)
        (fun y hy => by
          rcases t6 y hy with h | ⟨h1, nm, h2, h3⟩
          · exact Or.inl h
          · exact Or.inr ⟨h1, nm, C.2.2.2.2.2.2.1 _ h2, h3 z s Gz⟩) t3 t4 (C.2.2.2.2.2.2.1 _ t5) hB (by rw [e2]; exact hce) hcv hcl
        (hk q p e s m args below meth c z D ca ws0 C ws' T'.heap (locs ++ L) lsR [.ref q] (by rw [e2]; exact hR') (hE.trans hE') hS' (hL.ext hE') ⟨Or.inr rfl, trivial⟩)
    obtain ⟨t2, a1, b1⟩ := key T' rfl X'
    exact ⟨t2, hgo.trans a1, b1⟩
theorem a_callVH {idx n ci d' mc' ms' : Nat} {M' : MI} {as rest : List AV} {a : Int} (hG : GX l G) (hd : decode M.2.1 pc = .ok (.invokevirtual idx, 3)) (hw : CWV M M' idx n ci) (hst : st = as.reverse ++ vR a :: rest) (hn : as.length = n) (hkd : hk H a = ci) (hdd : d' + 1 ≤ d) (hca : aCat rest ≤ 8) (hcs : cs + mc' ≤ mc) (hsl : sl + ms' ≤ ms)
    (h : CL l G M' d' mc' ms' (vR a :: as) H (aKH l G M d mc ms Q pc (pc + 3) ls rest (cs + mc') (sl + ms'))) : AW l G M d mc ms Q pc ls st cs sl H := by
  intro p e s m args below meth c z D ca ws0 C ws Hp locs lsR stR hR hE hS hL hT
  subst hst
  obtain ⟨v1, v2, rfl, hA1, hT2⟩ := rvs_args hT
  obtain ⟨_, rR, e0, hx, hT3⟩ := rvs_cons hT2
  subst e0
  obtain ⟨hP, hD, hHp⟩ := id hR
  obtain ⟨hb, hlink, hinst, hsel, q, hq, hci, hqc⟩ := hw
  have hts := C.2.2.2.2.2.2.1
  rcases rv_R hx with ⟨rfl, rfl⟩ | ⟨p9, q9, e9, rfl, hw9, rfl⟩
  · have hkd : (H.2.1 0).1 = ci := hkd
    have := hHp.2.1
    omega
  · have hkd : (H.2.1 (p9 + 1)).1 = ci := hkd
    obtain ⟨fs, rfl, -, -⟩ := aEnt_obj (hHp.2.2 p9 q9 e9 hw9) (by omega)
    rw [hkd] at hw9
    refine a_runH hG C hE hS hL hT3 (vx_runV (C := M'.1.cls) (nL := M.2.2.1) (Ts := lw_good) ⟨C.1, C.2.1, C.2.2.1, C.2.2.2.2.2.1, hts⟩ (h z D ca ws) ⟨hb.b C hdd hlink, hts _ hinst, hts _ hsel⟩ ⟨aPc_blind, ?_, fun U hU hW => aPc_of C hR hS (rvs_mk hx hA1) U hU hW⟩ rfl ((rvs_len hA1).trans hn) ?_ rfl (lv_room (by rw [aCat_eq hT3]; exact hca)) hd ⟨hcs, hsl⟩)
    · rw [← hqc]
      exact va_recv C.2.2.2.2.2.2.2.1 hP hq hw9
    · obtain ⟨-, lv, h1, -⟩ := hL
      exact h1.1
/-- what a call of a method that catches needs of the tables -/
def CWH (M M' : MI) (idx n : Nat) : Prop := Cond.codeWith M'.1 M'.2.1 M'.2.2.1 M'.2.2.2.1 M'.2.2.2.2 ∈ lw_good ∧ Cond.initialized M'.1.cls ∈ lw_good ∧ (M'.1.cls ≠ "java/lang/invoke/MethodHandle" ∧ M'.1.cls ≠ "java/lang/invoke/VarHandle") ∧ (parseMethodDescriptor M'.1.desc).map (fun d => d.parameters.length) = some n ∧ M'.2.2.1 ≤ 40 ∧ Cond.methodLink M.1.cls idx M'.1 ∈ lw_good ∧ Cond.static M'.1 ∈ lw_good
theorem a_callSH {idx n d' mc' ms' : Nat} {M' : MI} {as rest : List AV} (hd : decode M.2.1 pc = .ok (.invokestatic idx, 3)) (hw : CWH M M' idx n) (hst : st = as.reverse ++ rest) (hn : as.length = n) (hdd : d' + 1 ≤ d) (hca : aCat rest ≤ 8) (hcov : ∀ x ∈ tableOf M.2.2.2.2, covers x pc = false) (hcs : cs + mc' ≤ mc) (hsl : sl + ms' ≤ ms)
    (h : CLH l G M' d' mc' ms' as H (aK l G M d mc ms Q (pc + 3) ls rest (cs + mc') (sl + ms'))) : AW l G M d mc ms Q pc ls st cs sl H := by
  intro p e s m args below meth c z D ca ws0 C ws Hp locs lsR stR hR hE hS hL hT
  subst hst
  obtain ⟨v1, v2, rfl, hA1, hT3⟩ := rvs_args hT
  obtain ⟨h1, h2, h3, h4, h5, hlink, hsta⟩ := hw
  have hts := C.2.2.2.2.2.2.1
  have hB : vx_CSW (aRoom d mc ms) s args M.1.cls idx M'.1 M'.2.1 M'.2.2.1 M'.2.2.2.1 M'.2.2.2.2 (aWsH M') (aRoom d' mc' ms') mc' ms' n := by
    refine ⟨⟨rfl, rfl, hdd, ?_, fun w hw a' U hW => ?_, List.mem_cons_self⟩, hts _ h1, hts _ h2, h3, fun sig hsig => ?_, hts _ hlink, hts _ hsta⟩
    · show 8 + (M'.2.2.1 + 11) + 64 * d' ≤ 64 * d
      omega
    · have hw' : w ∈ lw_good := by
        rcases List.mem_cons.mp hw with rfl | hw
        · exact h1
        · exact hw
      exact word_at hW (good_of_word (lw_goodW hw')) (hts w hw')
    · rw [hsig] at h4
      exact (Option.some.inj h4).symm
  refine a_run C hE hS hL hT3 hcov hcs hsl (vx_runSX (nL := M.2.2.1) (Ts := lw_good) ⟨C.1, C.2.1, C.2.2.1, C.2.2.2.2.2.1, hts⟩ (h z D ca ws) hB ⟨aPc_blind, fun U hU hW => aPc_of C hR hS hA1 U hU hW⟩ rfl ((rvs_len hA1).trans hn) ?_ rfl (lv_room (by rw [aCat_eq hT3]; exact hca)) hd ⟨hcs, hsl⟩)
  obtain ⟨-, lv, h1, -⟩ := hL
  exact h1.1
/-- the script -/
def gX (G : GT) (b L : Nat) (xs : Nat → Int32) : Prop := ∀ (z : Nat) (s : State), G z s → va_X b L xs s s.heap ∧ b < z
theorem a_sld {b L : Nat} {xs : Nat → Int32} {i : Int} (hX : gX G b L xs) (hd : decode M.2.1 pc = .ok (.iaload, 1)) (hb : 0 ≤ i ∧ i < L) (kk : AW l G M d mc ms Q (pc + 1) ls (vI (xs i.toNat).toInt :: st) cs sl H) : AW l G M d mc ms Q pc ls (vI i :: vX b :: st) cs sl H := by
  intro p e s m args below meth c z D ca ws0 C ws Hp locs lsR stR hR hE hS hL hT
  obtain ⟨_, _, e0, hx, hT0⟩ := rvs_cons hT
  subst e0
  obtain ⟨_, _, e1, hy, hT1⟩ := rvs_cons hT0
  subst e1
  obtain ⟨i', rfl, rfl⟩ := rv_I hx
  obtain ⟨q, rfl, hq⟩ := rv_X hy
  have hq : b = q := by omega
  subst hq
  obtain ⟨h1, h2⟩ := hX z s C.2.2.2.2.2.2.2.2.2.2.2.2
  have hz := C.2.2.2.2.2.2.2.2.1
  exact va_sld C.1 C.2.1 h1 (Nat.lt_of_lt_of_le h2 hz) (A := aA z) (fun w => absurd h2 (Nat.not_lt.mpr w)) hS (vp_in_of' hb.1 hb.2) hd (kk p e s m args below meth c z D ca ws0 C ws Hp locs lsR _ hR hE hS hL ⟨rfl, hT1⟩)
theorem a_slen {b L : Nat} {xs : Nat → Int32} (hX : gX G b L xs) (hL9 : L ≤ 2560) (hd : decode M.2.1 pc = .ok (.arraylength, 1)) (kk : AW l G M d mc ms Q (pc + 1) ls (vI L :: st) cs sl H) : AW l G M d mc ms Q pc ls (vX b :: st) cs sl H := by
  intro p e s m args below meth c z D ca ws0 C ws Hp locs lsR stR hR hE hS hL hT
  obtain ⟨_, _, e1, hy, hT1⟩ := rvs_cons hT
  subst e1
  obtain ⟨q, rfl, hq⟩ := rv_X hy
  have hq : b = q := by omega
  subst hq
  obtain ⟨h1, h2⟩ := hX z s C.2.2.2.2.2.2.2.2.2.2.2.2
  have hz := C.2.2.2.2.2.2.2.2.1
  refine va_slen C.1 C.2.1 h1 (Nat.lt_of_lt_of_le h2 hz) (A := aA z) (fun w => absurd h2 (Nat.not_lt.mpr w)) hS hd (kk p e s m args below meth c z D ca ws0 C ws Hp locs lsR _ hR hE hS hL ⟨?_, hT1⟩)
  show vI L = vI (Int32.ofNat L).toInt
  rw [Int32.toInt_ofNat', bm32 (by unfold inI; omega)]
theorem a_tabIn {dflt lo hi x off : Int} {offs : Array Int} {len tgt : Nat} (hd : decode M.2.1 pc = .ok (.tableswitch dflt lo hi offs, len)) (h1 : lo ≤ x) (h2 : x ≤ hi) (ho : offs[(x - lo).toNat]? = some off) (ht : (pc : Int) + off = (tgt : Int)) (kk : AW l G M d mc ms Q tgt ls st cs sl H) : AW l G M d mc ms Q pc ls (vI x :: st) cs sl H := by
  intro p e s m args below meth c z D ca ws0 C ws Hp locs lsR stR hR hE hS hL hT
  obtain ⟨_, _, e0, hx, hT0⟩ := rvs_cons hT
  subst e0
  obtain ⟨x', rfl, rfl⟩ := rv_I hx
  exact lv_tableIn C.1 C.2.1 hd (by omega) (by omega) ho ht (kk p e s m args below meth c z D ca ws0 C ws Hp locs lsR _ hR hE hS hL hT0)
theorem a_tabOut {dflt lo hi x : Int} {offs : Array Int} {len tgt : Nat} (hd : decode M.2.1 pc = .ok (.tableswitch dflt lo hi offs, len)) (h1 : x < lo ∨ hi < x) (ht : (pc : Int) + dflt = (tgt : Int)) (kk : AW l G M d mc ms Q tgt ls st cs sl H) : AW l G M d mc ms Q pc ls (vI x :: st) cs sl H := by
  intro p e s m args below meth c z D ca ws0 C ws Hp locs lsR stR hR hE hS hL hT
  obtain ⟨_, _, e0, hx, hT0⟩ := rvs_cons hT
  subst e0
  obtain ⟨x', rfl, rfl⟩ := rv_I hx
  exact lv_tableOut C.1 C.2.1 hd h1 ht (kk p e s m args below meth c z D ca ws0 C ws Hp locs lsR _ hR hE hS hL hT0)
/-- no NaN -/
def fnn (x : Int) : Prop := FP.Core.fIsNaN (UInt32.ofNat x.toNat) = false
theorem fnn_d {x : Int} (h : fnn x) : FP.Core.dIsNaN (FP.f2d (UInt32.ofNat x.toNat)) = false := (FP.f2d_nan _).trans h
theorem fnn_ok {x : Int} (h : fnn x) : adok x := n64_of (fnn_d h)
theorem fnn_div {a b : UInt32} (ha : FP.Core.FFin a) (hb : FP.Core.FFin b) (hz : b.toNat % 2 ^ 31 ≠ 0) : fnn ((FP.fdiv a b).toNat : Int) := by
  unfold fnn
  rw [Int.toNat_natCast, UInt32.ofNat_toNat]
  exact FP.Core.fdiv_out ha.notNaN hb (fun q => hz ((FP.Core.zero_bits232 b).mp q))
theorem a_dcmpE {x : Int} (hf : fnn x) (hd : decode M.2.1 pc = .ok (.dcmp .l, 1)) (kk : AW l G M d mc ms Q (pc + 1) ls (vI 0 :: st) cs sl H) : AW l G M d mc ms Q pc ls (vD (af2d x) :: vD (af2d x) :: st) cs sl H := by
  intro p e s m args below meth c z D ca ws0 C ws Hp locs lsR stR hR hE hS hL hT
  obtain ⟨_, _, e0, hx, hT0⟩ := rvs_cons hT
  subst e0
  obtain ⟨_, _, e1, hy, hT1⟩ := rvs_cons hT0
  subst e1
  obtain ⟨x', rfl, hx1⟩ := rv_D hx
  obtain ⟨y', rfl, hy1⟩ := rv_D hy
  have hxy : x' = y' := UInt64.toNat_inj.mp (by omega)
  subst hxy
  have hv : x' = FP.f2d (UInt32.ofNat x.toNat) := UInt64.toNat_inj.mp (by unfold af2d at hx1; omega)
  have h1 : FP.dcmp x' x' = some .eq := by
    rw [hv]
    exact FP.Core.dcmp_self ((FP.Core.notNaN_iff _).mp (fnn_d hf))
  exact lv_dcmp C.1 C.2.1 hd (by rw [h1]; exact kk p e s m args below meth c z D ca ws0 C ws Hp locs lsR _ hR hE hS hL ⟨rfl, hT1⟩)
theorem a_newaD {n : Nat} (hd : decode M.2.1 pc = .ok (.newarray .double, 2)) (hw : Cond.arrayClass .double ∈ lw_good) (hb : n * componentBytes .double ≤ 536870912) (hnb : n < 100000) (hcs : cs + 1 ≤ mc) (hsl : sl + n ≤ ms) (kk : AW l G M d mc ms Q (pc + 2) ls (vR (H.1 + 1) :: st) (cs + 1) (sl + n) (hnew H 14 n)) : AW l G M d mc ms Q pc ls (vI n :: st) cs sl H := by
  intro p e s m args below meth c z D ca ws0 C ws Hp locs lsR stR hR hE hS hL hT
  obtain ⟨_, _, e0, hy, hT0⟩ := rvs_cons hT
  subst e0
  obtain ⟨y, rfl, hy2⟩ := rv_I hy
  have hK := C.2.2.2.2.2.2.2.1
  have hz := C.2.2.2.2.2.2.2.2.1
  have hyN : y.toNatClampNeg = n := by
    show y.toInt.toNat = n
    omega
  refine va_newa (atype := .double) (ty := .double) C.1 C.2.1 (C.2.2.2.2.2.2.1 _ hw) rfl hK hR.1 hR.2.1 hS (fun q hq => Nat.le_trans hz hq) (N' := n) (a0 := (n, .inr (.inr (.inr (.inl fun _ => 0))))) (fun cA => rfl) (fun w => by have := Int32.lt_iff_toInt_lt.mp w; have h0 : (0 : Int32).toInt = 0 := rfl; omega) hyN hb hcs hsl hd (fun q cA H1 hK1 hP1 hD1 hS1 => ?_)
  have r1 : s.vm.findClass ("[" ++ FieldType.double.toString) = some cA := (hK1.2 (aTys ca).length (cA, .double) (by rw [List.getElem?_append_right (Nat.le_refl _)]; simp)).2
  have r2 : s.vm.findClass ("[" ++ FieldType.double.toString) = some (ca 4) := (hK.2 4 (ca 4, .double) rfl).2
  have ec : cA = ca 4 := Option.some.inj (r1.symm.trans r2)
  subst ec
  refine kk p e s m args below meth c z D ca ws0 C (ws ++ [(q, .inl (ca 4, n, .inr (.inr (.inr (.inl fun _ => 0)))))]) H1 locs lsR _ ⟨hP1, hD1, aHp_new (e := .inl (ca 4, n, .inr (.inr (.inr (.inl fun _ => 0))))) hR.2.2 ⟨rfl, rfl, rfl, fun k _ => rfl⟩⟩ (hE.trans aext_app) hS1 (hL.ext aext_app) ⟨Or.inl ⟨ws.length, _, app_last, ?_⟩, hT0.ext aext_app⟩
  have := hR.2.2.1
  exact congrArg vR (by omega)
end
