/-! the class: its world, and what it tells -/
def pX (x : Int) : Int → Int → Prop := fun c i => pPla (x + 3) c i ∨ pSu (x + 20) c i ∨ pSt (x + 43) c i
/-- the class's world: the state, its names, the place of trials -/
def RX (H : AH) (x : Int) (M : Row) : Prop := Lay LRun H x ∧ (SX H (x + 20) M ∧ NM H (x + 20) M) ∧ SB H (x + 43)
section
variable {l : Launch} {G : GT} {H : AH} {x : Int} {M : Row}
theorem RX.la (h : RX H x M) : Lay LRun H x := h.1
theorem RX.sx (h : RX H x M) : SX H (x + 20) M := h.2.1.1
theorem RX.sk (h : RX H x M) : SK H (x + 20) M := h.2.1.1.1
theorem RX.ok (h : RX H x M) : okM M := h.2.1.1.1.2.1
theorem RX.pl (h : RX H x M) : Lay LPla H (x + 3) := s_Run_Pla_3 h.1
theorem pX_nrf (hL : Lay LRun H x) : ∀ c i, pX x c i → nrf H c i := by
  rintro c i (h | h | h)
  · exact pPla_nrf (s_Run_Pla_3 hL) c i h
  · exact pSt_nrf (s_Run_Sta_20 hL) c i h.1
  · exact pSt_nrf (s_Run_Sta_43 hL) c i h
theorem pX_in {c i : Int} (h : pX x c i) : x + 4 ≤ c ∧ c ≤ x + 65 := by
  rcases h with h | h | h
  · have := pPla_in h; omega
  · have := pSt_in h.1; omega
  · have := pSt_in h; omega
theorem pTm_X {p b : Int} (hp : p = x + 3) (hb : b = x + 20) : ∀ c i, pTm p b c i → pX x c i := by
  subst hp; subst hb
  rintro c i (h | h)
  · exact Or.inl h
  · exact Or.inr (Or.inl h)
theorem pRf_X : ∀ c i, pRf (x + 3) (x + 20) c i → pX x c i := fun c i h => pTm_X rfl rfl c i (pRf_tm c i h)
/-- the state goes on, the rest stays -/
theorem RX.go {H' : AH} {M' : Row} (h : RX H x M) (ho : only H H' (pTm (x + 3) (x + 20))) (hX : SX H' (x + 20) M') (h6 : M' 6 = M 6) (hw : ∀ f w, fl M f → 10 ≤ w → w < 16 → ofM M' f w = ofM M f w) : RX H' x M' ∧ only H H' (pX x) := by
  have oX : only H H' (pX x) := ho.mono (pTm_X rfl rfl)
  have off : ∀ c i, (c = x + 26 ∨ c = x + 27 ∨ x + 43 ≤ c) → hg H' c i = hg H c i := fun c i q => ho.2.2 _ _ (fun z => by
    rcases z with z | z
    · have := pPla_in z; omega
    · have := pSt_in z.1
      have := z.2
      omega)
  refine ⟨⟨h.1.only ok_Run oX (pX_nrf h.1), ⟨hX, h.2.1.2.step h6 hw (fun c i q => off c i (by omega))⟩, (h.2.2.1.only ok_Sta oX (pX_nrf h.1)), fun i hi => ?_⟩, oX⟩
  rw [off _ _ (by omega)]
  exact h.2.2.2 i hi
theorem RX.rf {H' : AH} (h : RX H x M) (q : rfQ (x + 3) (x + 20) M H H') : RX H' x M ∧ only H H' (pX x) := h.go (q.1.mono pRf_tm) q.2.1 rfl (fun _ _ _ _ _ => rfl)
theorem RX.pla {H' : AH} (h : RX H x M) (ho : only H H' (pPla (x + 3))) : RX H' x M ∧ only H H' (pX x) := by
  refine h.go (ho.mono fun c i q => Or.inl q) ⟨skO h.sk ho (pPla_nrf h.pl) (pPla_off (by omega)), h.sx.2.1.only ho (fun i z => by have := pPla_in z; omega), fun q hq => ?_⟩ rfl (fun _ _ _ _ _ => rfl)
  have e : ∀ c i, x + 20 ≤ c → hg H' c i = hg H c i := fun c i q => ho.2.2 _ _ (fun z => by have := pPla_in z; omega)
  obtain ⟨h1, h2⟩ := h.sx.2.2 q hq
  rw [e _ _ (by omega), e _ _ (by omega)]
  refine ⟨h1, ?_⟩
  rcases h2 with h2 | ⟨h2, h3⟩
  · exact Or.inl h2
  · exact Or.inr ⟨h2, h3.keep h.ok (e _ _ (by omega)) (fun i _ _ => e _ _ (by omega)) (fun f _ => e _ _ (by omega)) (e _ _ (by omega))⟩
/-- an answer, or a throw -/
def ans (th e : Int) (v : AV) : AV := if th = 0 then v else vT e
abbrev xP (x : Int) (M' : Row) (th e : Int) (v : AV) (H : AH) : AV → AH → Prop := fun r H' => r = ans th e v ∧ only H H' (pX x) ∧ RX H' x M'
theorem ans_0 {e : Int} {v : AV} : ans 0 e v = v := by unfold ans; rw [if_pos rfl]
theorem ans_t {P : Prop} {i : Decidable P} (h : P) {e : Int} {v : AV} : ans (1 - bi (@decide P i)) e v = v := by rw [bi_t h]; exact ans_0
theorem ans_f {P : Prop} {i : Decidable P} (h : ¬ P) {e : Int} {v : AV} : ans (1 - bi (@decide P i)) e v = vT e := by rw [bi_f h]; rfl
theorem xP.id {th e : Int} {v r : AV} (h : RX H x M) (hr : r = ans th e v) : xP x M th e v H r H := ⟨hr, only.rf, h⟩
theorem k_checkFlight {d : Nat} {f : Int} (hG : GX l G) (hL : Lay LRun H x) (hS : SK H (x + 20) M) (hd : 6 ≤ d := by omega) : CL l G mX7_checkFlight d 1 6 [vR x, vI f] H (fun v H' => H' = H ∧ ((¬ fl M f ∧ v = vT 1) ∨ (fl M f ∧ v = vV))) :=
  CL.of (by decide) rfl (Nat.le_of_ble_eq_true rfl) (s_X7_checkFlight_0 hG hS hL ⟨fun c => ⟨rfl, Or.inl ⟨fun z => by have := z.1; omega, rfl⟩⟩, fun c => ⟨fun c2 => ⟨rfl, Or.inr ⟨⟨c, c2⟩, rfl⟩⟩, fun c2 => ⟨rfl, Or.inl ⟨fun z => by have := z.2; omega, rfl⟩⟩⟩⟩)
theorem k_checkRunway {d : Nat} {f : Int} (hG : GX l G) (hL : Lay LRun H x) (hS : SK H (x + 20) M) (hd : 6 ≤ d := by omega) : CL l G mX7_checkRunway d 1 6 [vR x, vI f] H (fun v H' => H' = H ∧ ((¬ rl M f ∧ v = vT 1) ∨ (rl M f ∧ v = vV))) :=
  CL.of (by decide) rfl (Nat.le_of_ble_eq_true rfl) (s_X7_checkRunway_0 hG hS hL ⟨fun c => ⟨rfl, Or.inl ⟨fun z => by have := z.1; omega, rfl⟩⟩, fun c => ⟨fun c2 => ⟨rfl, Or.inr ⟨⟨c, c2⟩, rfl⟩⟩, fun c2 => ⟨rfl, Or.inl ⟨fun z => by have := z.2; omega, rfl⟩⟩⟩⟩)
theorem k_checkClass {d : Nat} {f : Int} (hG : GX l G) (hd : 6 ≤ d := by omega) : CL l G mX7_checkClass d 1 6 [vI f] H (fun v H' => H' = H ∧ ((¬ (0 ≤ f ∧ f ≤ 3) ∧ v = vT 0) ∨ ((0 ≤ f ∧ f ≤ 3) ∧ v = vV))) :=
  CL.of (by decide) rfl (Nat.le_of_ble_eq_true rfl) (s_X7_checkClass_0 hG ⟨fun c => ⟨rfl, Or.inl ⟨by omega, rfl⟩⟩, fun c => ⟨fun c2 => ⟨rfl, Or.inr ⟨by omega, rfl⟩⟩, fun c2 => ⟨rfl, Or.inl ⟨by omega, rfl⟩⟩⟩⟩)
theorem k_checkShift {d : Nat} {f : Int} (hG : GX l G) (hd : 6 ≤ d := by omega) : CL l G mX7_checkShift d 1 6 [vI f] H (fun v H' => H' = H ∧ ((¬ (0 ≤ f ∧ f ≤ 4) ∧ v = vT 0) ∨ ((0 ≤ f ∧ f ≤ 4) ∧ v = vV))) :=
  CL.of (by decide) rfl (Nat.le_of_ble_eq_true rfl) (s_X7_checkShift_0 hG ⟨fun c => ⟨rfl, Or.inl ⟨by omega, rfl⟩⟩, fun c => ⟨fun c2 => ⟨rfl, Or.inr ⟨by omega, rfl⟩⟩, fun c2 => ⟨rfl, Or.inl ⟨by omega, rfl⟩⟩⟩⟩)
theorem k_checkSeconds {d : Nat} {f : Int} (hG : GX l G) (hd : 6 ≤ d := by omega) : CL l G mX7_checkSeconds d 1 6 [vI f] H (fun v H' => H' = H ∧ ((¬ (1 ≤ f ∧ f ≤ 7200) ∧ v = vT 0) ∨ ((1 ≤ f ∧ f ≤ 7200) ∧ v = vV))) :=
  CL.of (by decide) rfl (Nat.le_of_ble_eq_true rfl) (s_X7_checkSeconds_0 hG ⟨fun c => ⟨rfl, Or.inl ⟨by omega, rfl⟩⟩, fun c => ⟨fun c2 => ⟨rfl, Or.inr ⟨by omega, rfl⟩⟩, fun c2 => ⟨rfl, Or.inl ⟨by omega, rfl⟩⟩⟩⟩)
theorem k_checkSlot {d : Nat} {f : Int} (hG : GX l G) (hd : 6 ≤ d := by omega) : CL l G mX7_checkSlot d 1 6 [vI f] H (fun v H' => H' = H ∧ ((¬ (0 ≤ f ∧ f ≤ 1) ∧ v = vT 0) ∨ ((0 ≤ f ∧ f ≤ 1) ∧ v = vV))) :=
  CL.of (by decide) rfl (Nat.le_of_ble_eq_true rfl) (s_X7_checkSlot_0 hG ⟨fun c => ⟨rfl, Or.inl ⟨by omega, rfl⟩⟩, fun c => ⟨fun c2 => ⟨rfl, Or.inr ⟨by omega, rfl⟩⟩, fun c2 => ⟨rfl, Or.inl ⟨by omega, rfl⟩⟩⟩⟩)
theorem k_errorOfMove {d : Nat} {f r : Int} (hS : SK H (x + 20) M) (hL : Lay LRun H x) (hf : fl M f) (hr : 0 ≤ r ∧ r < 3) (hd : 1 ≤ d := by omega) : CL l G mX7_errorOfMove d 0 0 [vR x, vI f, vI r] H (PQ (vI (refuM M f r)) H) := by
  obtain ⟨d, rfl⟩ : ∃ k, d = k + 1 := ⟨d - 1, by omega⟩
  refine CL.of (by decide) rfl (Nat.le_of_ble_eq_true rfl) (s_X7_errorOfMove_0 hS hL ⟨hf, fun c => ⟨hf, hr, fun c2 => ⟨?_, rfl⟩, fun c2 => ⟨?_, rfl⟩⟩, fun c => ⟨?_, rfl⟩⟩)
  · rw [refuM, if_pos c, if_neg c2]
  · rw [refuM, if_pos c, if_pos c2]
  · rw [refuM, if_neg c]
theorem k_errorOfTurn {d : Nat} {f : Int} (hS : SK H (x + 20) M) (hL : Lay LRun H x) (hf : fl M f) : CL l G mX7_errorOfTurn d 0 0 [vR x, vI f] H (PQ (vI (noarM M f)) H) := by
  have h0 := (hS.2.1.2 f hf.1 hf.2).1
  refine CL.of (by decide) rfl (Nat.le_of_ble_eq_true rfl) (s_X7_errorOfTurn_0 hS hL ⟨hf, fun c => ⟨fun c2 => ⟨?_, rfl⟩, fun c2 => ⟨?_, rfl⟩⟩, fun c => ⟨?_, rfl⟩⟩)
  · rw [noarM, if_pos c, if_neg (by omega)]
  · rw [noarM, if_pos c, if_pos (by omega)]
  · rw [noarM, if_neg c]
end
