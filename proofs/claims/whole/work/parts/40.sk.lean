/-! the class: a State block and the row that it stands for -/
section
variable {l : Launch} {G : GT} {M : MI} {d mc ms : Nat} {Q : AV → AH → Prop} {pc : Nat} {ls st : List AV} {cs sl : Nat} {H : AH}
theorem a_getIV {idx ci k : Nat} {a ki v : Int} (hd : decode M.2.1 pc = .ok (.getfield idx, 3)) (hf : FW M.1.cls idx ci k) (ht : tgOf (aTy ci k) = 0) (hki : (k : Int) = ki) (hkd : hk H a = ci) (hv : hg H a ki = v) (kk : AW l G M d mc ms Q (pc + 3) ls (vI v :: st) cs sl H) : AW l G M d mc ms Q pc ls (vR a :: st) cs sl H := a_getI hd hf ht hki hkd (by rw [hv]; exact kk)
theorem b_zaldV {a i n v : Int} (hd : decode M.2.1 pc = .ok (.baload, 1)) (hkd : hk H a = 11) (hl : hn H a = n) (hb : 0 ≤ i ∧ i < n) (hv : hg H a i = v) (kk : AW l G M d mc ms Q (pc + 1) ls (vI v :: st) cs sl H) : AW l G M d mc ms Q pc ls (vI i :: vR a :: st) cs sl H := b_zald hd hkd hl hb (by rw [hv]; exact kk)
end
/-- what a State block says of settings and flights -/
def SS (H : AH) (b : Int) (M : Row) : Prop :=
  (hg H b 2 = M 0 ∧ hg H b 8 = M 7) ∧ (hg H (b + 1) 0 = M 5 ∧ hg H (b + 1) 1 = M 4 ∧ hg H (b + 1) 2 = M 1 ∧ hg H (b + 1) 3 = M 2 ∧ hg H (b + 1) 4 = M 3) ∧
  ((∀ k, 0 ≤ k ∧ k < 16 → hg H (b + 2) k = M (8 + k)) ∧ (∀ k, 0 ≤ k ∧ k < 4 → hg H (b + 3) k = M (24 + k)) ∧ (∀ k, 0 ≤ k ∧ k < 4 → hg H (b + 4) k = M (28 + k))) ∧
  hg H (b + 5) 0 = M 6 ∧
  (∀ f, fl M f → hg H (b + 8) f = ofM M f 0 ∧ hg H (b + 9) f = ofM M f 1 ∧ hg H (b + 10) f = ofM M f 2 ∧ hg H (b + 11) f = ofM M f 3 ∧ hg H (b + 12) f = ofM M f 4 ∧ hg H (b + 13) f = ofM M f 5 ∧ hg H (b + 14) f = ofM M f 6 ∧ hg H (b + 15) f = ofM M f 7 ∧ hg H (b + 17) f = ofM M f 9) ∧
  (∀ k, 0 ≤ k ∧ k < M 7 → hg H (b + 18) k = M (32 + k))
def SK (H : AH) (b : Int) (M : Row) : Prop := Lay LSta H b ∧ okM M ∧ SS H b M
section
variable {H : AH} {b : Int} {M : Row}
theorem sk_0_2 (h : SK H b M) : hg H b 2 = M 0 := h.2.2.1.1
theorem sk_0_8 (h : SK H b M) : hg H b 8 = M 7 := h.2.2.1.2
theorem sk_1_0 (h : SK H b M) : hg H (b + 1) 0 = M 5 := h.2.2.2.1.1
theorem sk_1_1 (h : SK H b M) : hg H (b + 1) 1 = M 4 := h.2.2.2.1.2.1
theorem sk_1_2 (h : SK H b M) : hg H (b + 1) 2 = M 1 := h.2.2.2.1.2.2.1
theorem sk_1_3 (h : SK H b M) : hg H (b + 1) 3 = M 2 := h.2.2.2.1.2.2.2.1
theorem sk_1_4 (h : SK H b M) : hg H (b + 1) 4 = M 3 := h.2.2.2.1.2.2.2.2
theorem sk_2 (h : SK H b M) {k : Int} (hk : 0 ≤ k ∧ k < 16) : hg H (b + 2) k = M (8 + k) := h.2.2.2.2.1.1 k hk
theorem sk_3 (h : SK H b M) {k : Int} (hk : 0 ≤ k ∧ k < 4) : hg H (b + 3) k = M (24 + k) := h.2.2.2.2.1.2.1 k hk
theorem sk_4 (h : SK H b M) {k : Int} (hk : 0 ≤ k ∧ k < 4) : hg H (b + 4) k = M (28 + k) := h.2.2.2.2.1.2.2 k hk
theorem sk_5_0 (h : SK H b M) : hg H (b + 5) 0 = M 6 := h.2.2.2.2.2.1
theorem sk_8 (h : SK H b M) {f : Int} (hf : 0 ≤ f ∧ f < M 6) : hg H (b + 8) f = ofM M f 0 := (h.2.2.2.2.2.2.1 f hf).1
theorem sk_9 (h : SK H b M) {f : Int} (hf : 0 ≤ f ∧ f < M 6) : hg H (b + 9) f = ofM M f 1 := (h.2.2.2.2.2.2.1 f hf).2.1
theorem sk_10 (h : SK H b M) {f : Int} (hf : 0 ≤ f ∧ f < M 6) : hg H (b + 10) f = ofM M f 2 := (h.2.2.2.2.2.2.1 f hf).2.2.1
theorem sk_11 (h : SK H b M) {f : Int} (hf : 0 ≤ f ∧ f < M 6) : hg H (b + 11) f = ofM M f 3 := (h.2.2.2.2.2.2.1 f hf).2.2.2.1
theorem sk_12 (h : SK H b M) {f : Int} (hf : 0 ≤ f ∧ f < M 6) : hg H (b + 12) f = ofM M f 4 := (h.2.2.2.2.2.2.1 f hf).2.2.2.2.1
theorem sk_13 (h : SK H b M) {f : Int} (hf : 0 ≤ f ∧ f < M 6) : hg H (b + 13) f = ofM M f 5 := (h.2.2.2.2.2.2.1 f hf).2.2.2.2.2.1
theorem sk_14 (h : SK H b M) {f : Int} (hf : 0 ≤ f ∧ f < M 6) : hg H (b + 14) f = ofM M f 6 := (h.2.2.2.2.2.2.1 f hf).2.2.2.2.2.2.1
theorem sk_15 (h : SK H b M) {f : Int} (hf : 0 ≤ f ∧ f < M 6) : hg H (b + 15) f = ofM M f 7 := (h.2.2.2.2.2.2.1 f hf).2.2.2.2.2.2.2.1
theorem sk_17 (h : SK H b M) {f : Int} (hf : 0 ≤ f ∧ f < M 6) : hg H (b + 17) f = ofM M f 9 := (h.2.2.2.2.2.2.1 f hf).2.2.2.2.2.2.2.2
theorem sk_18 (h : SK H b M) {k : Int} (hk : 0 ≤ k ∧ k < M 7) : hg H (b + 18) k = M (32 + k) := h.2.2.2.2.2.2.2 k hk
theorem sk_lt (h : SK H b M) {f : Int} (hf : 0 ≤ f ∧ f < M 6) : 0 ≤ f ∧ f < 24 := by have := okM_n h.2.1; omega
theorem sk_ld (h : SK H b M) {f : Int} (hf : 0 ≤ f ∧ f < M 7) : 0 ≤ f ∧ f < 24 := by have := okM_n h.2.1; have := h.2.1.1.2.2.2.2.2.2.2.1; omega
/-- cells that SK doesn't speak of -/
abbrev offS (b c : Int) : Prop := c < b ∨ b + 23 ≤ c ∨ c = b + 16 ∨ (b + 19 ≤ c ∧ c ≤ b + 22) ∨ c = b + 6 ∨ c = b + 7
theorem ssO {H' : AH} {P : Int → Int → Prop} (h : SS H b M) (ho : only H H' P) (hP : ∀ c i, P c i → offS b c) : SS H' b M := by
  have e : ∀ o i, 0 ≤ o → o ≤ 18 → o ≠ 16 → o ≠ 6 → o ≠ 7 → hg H' (b + o) i = hg H (b + o) i := fun o i h1 h2 h3 h4 h5 => ho.2.2 _ _ (fun q => by have := hP _ _ q; unfold offS at this; omega)
  have e0 : ∀ i, hg H' b i = hg H b i := fun i => by have := e 0 i (by omega) (by omega) (by omega) (by omega) (by omega); rwa [Int.add_zero] at this
  obtain ⟨h0, h1, h2, h3, h4, h5⟩ := h
  refine ⟨?_, ?_, ⟨fun k hk => ?_, fun k hk => ?_, fun k hk => ?_⟩, ?_, fun f hf => ?_, fun k hk => ?_⟩
  · rw [e0, e0]; exact h0
  · rw [e 1 _ (by omega) (by omega) (by omega) (by omega) (by omega), e 1 _ (by omega) (by omega) (by omega) (by omega) (by omega), e 1 _ (by omega) (by omega) (by omega) (by omega) (by omega), e 1 _ (by omega) (by omega) (by omega) (by omega) (by omega), e 1 _ (by omega) (by omega) (by omega) (by omega) (by omega)]; exact h1
  · rw [e 2 _ (by omega) (by omega) (by omega) (by omega) (by omega)]; exact h2.1 k hk
  · rw [e 3 _ (by omega) (by omega) (by omega) (by omega) (by omega)]; exact h2.2.1 k hk
  · rw [e 4 _ (by omega) (by omega) (by omega) (by omega) (by omega)]; exact h2.2.2 k hk
  · rw [e 5 _ (by omega) (by omega) (by omega) (by omega) (by omega)]; exact h3
  · rw [e 8 _ (by omega) (by omega) (by omega) (by omega) (by omega), e 9 _ (by omega) (by omega) (by omega) (by omega) (by omega), e 10 _ (by omega) (by omega) (by omega) (by omega) (by omega), e 11 _ (by omega) (by omega) (by omega) (by omega) (by omega), e 12 _ (by omega) (by omega) (by omega) (by omega) (by omega), e 13 _ (by omega) (by omega) (by omega) (by omega) (by omega), e 14 _ (by omega) (by omega) (by omega) (by omega) (by omega), e 15 _ (by omega) (by omega) (by omega) (by omega) (by omega), e 17 _ (by omega) (by omega) (by omega) (by omega) (by omega)]
    exact h4 f hf
  · rw [e 18 _ (by omega) (by omega) (by omega) (by omega) (by omega)]; exact h5 k hk
theorem skO {H' : AH} {P : Int → Int → Prop} (h : SK H b M) (ho : only H H' P) (hn : ∀ c i, P c i → nrf H c i) (hP : ∀ c i, P c i → offS b c) : SK H' b M := ⟨h.1.only ok_Sta ho hn, h.2.1, ssO h.2.2 ho hP⟩
theorem SK.wr {c i x : Int} (h : SK H b M) (hn : nrf H c i) (hc : offS b c) : SK (hs H c i x) b M := skO (P := fun c' i' => c' = c ∧ i' = i) h (only.wr ⟨rfl, rfl⟩) (fun c' i' q => by rw [q.1, q.2]; exact hn) (fun c' i' q => by rw [q.1]; exact hc)
end
