/-! a runway's plan depends on its own flights alone -/
section
variable {M M' : Row} {r : Int}
def setS (M M' : Row) : Prop := M' 1 = M 1 ∧ M' 4 = M 4 ∧ M' 6 = M 6 ∧ ∀ k, 8 ≤ k → k < 32 → M' k = M k
theorem ap_eq (hM : okM M) (hS : setS M M') {f g : Int} (hf : fl M f) (hg : fl M g) (f0 : ofM M' f 0 = ofM M f 0) (f1 : ofM M' f 1 = ofM M f 1) (g0 : ofM M' g 0 = ofM M g 0) (g1 : ofM M' g 1 = ofM M g 1) : apartM M' f g = apartM M f g := by
  have c1 := (okF_123 hM hf).1
  have c2 := (okF_123 hM hg).1
  unfold apartM
  rw [f0, f1, g0, g1, hS.2.1, hS.2.2.2 _ (by omega) (by omega)]
theorem co_eq (hM : okM M) (hS : setS M M') {f t : Int} (hf : fl M f) (f1 : ofM M' f 1 = ofM M f 1) (f3 : ofM M' f 3 = ofM M f 3) (f4 : ofM M' f 4 = ofM M f 4) : costM M' f t = costM M f t := by
  have c1 := (okF_123 hM hf).1
  unfold costM
  rw [f1, f3, f4, hS.2.2.2 _ (by omega) (by omega), hS.2.2.2 _ (by omega) (by omega)]
def sim (M M' : Row) (r : Int) : Prop := setS M M' ∧ (∀ f, fl M f → ((ofM M' f 7 = 0 ∧ ofM M' f 6 = r) ↔ (ofM M f 7 = 0 ∧ ofM M f 6 = r))) ∧ ∀ f, fl M f → ofM M f 7 = 0 → ofM M f 6 = r → (ofM M' f 0 = ofM M f 0 ∧ ofM M' f 1 = ofM M f 1 ∧ ofM M' f 3 = ofM M f 3 ∧ ofM M' f 4 = ofM M f 4) ∧ baseM M' r f = baseM M r f
theorem insF_congr {f : Int} (h0 : ofM M' f 3 = ofM M f 3) : ∀ {L : List Int}, (∀ x ∈ L, ofM M' x 3 = ofM M x 3) → insF M' f L = insF M f L
  | [], _ => rfl
  | g :: L, h => by
    have e : (∀ x ∈ g :: L, ofM M' f 3 < ofM M' x 3) ↔ (∀ x ∈ g :: L, ofM M f 3 < ofM M x 3) := by
      constructor
      · intro q x hx; have := q x hx; rw [h0, h x hx] at this; exact this
      · intro q x hx; rw [h0, h x hx]; exact q x hx
    unfold insF
    rw [insF_congr h0 (fun x hx => h x (List.mem_cons_of_mem _ hx))]
    by_cases q : ∀ x ∈ g :: L, ofM M f 3 < ofM M x 3
    · rw [if_pos q, if_pos (e.mpr q)]
    · rw [if_neg q, if_neg (fun z => q (e.mp z))]
theorem comeN_sim (hM : okM M) (h : sim M M' r) : ∀ {n : Nat}, (n : Int) ≤ M 6 → comeN M' r n = comeN M r n
  | 0, _ => rfl
  | n + 1, hn => by
    have hf : fl M n := ⟨by omega, by omega⟩
    have ih := comeN_sim hM h (n := n) (by omega)
    unfold comeN
    rw [ih]
    by_cases q : ofM M n 7 = 0 ∧ ofM M n 6 = r
    · rw [if_pos q, if_pos ((h.2.1 n hf).mpr q)]
      refine insF_congr (h.2.2 n hf q.1 q.2).1.2.2.1 (fun x hx => ?_)
      obtain ⟨j, hj, rfl, q2⟩ := comeN_mem.mp hx
      exact (h.2.2 j ⟨by omega, by omega⟩ q2.1 q2.2).1.2.2.1
    · rw [if_neg q, if_neg (fun z => q ((h.2.1 n hf).mp z))]
theorem comeL_sim (hM : okM M) (h : sim M M' r) : comeL M' r = comeL M r := by
  have := okM_n hM
  unfold comeL
  rw [h.1.2.2.1]
  exact comeN_sim hM h (by omega)
theorem sim.ap (hM : okM M) (h : sim M M' r) {f g : Int} (hf : f ∈ comeL M r) (hg : g ∈ comeL M r) : apartM M' f g = apartM M f g := by
  have f' := (comeL_mem hM).mp hf
  have g' := (comeL_mem hM).mp hg
  have e1 := (h.2.2 f f'.1 f'.2.1 f'.2.2).1
  have e2 := (h.2.2 g g'.1 g'.2.1 g'.2.2).1
  exact ap_eq hM h.1 f'.1 g'.1 e1.1 e1.2.1 e2.1 e2.2.1
theorem sim.co (hM : okM M) (h : sim M M' r) {f t : Int} (hf : f ∈ comeL M r) : costM M' f t = costM M f t := by
  have f' := (comeL_mem hM).mp hf
  have e1 := (h.2.2 f f'.1 f'.2.1 f'.2.2).1
  exact co_eq hM h.1 f'.1 e1.2.1 e1.2.2.1 e1.2.2.2
theorem sim.ba (hM : okM M) (h : sim M M' r) {f : Int} (hf : f ∈ comeL M r) : baseM M' r f = baseM M r f := by
  have f' := (comeL_mem hM).mp hf
  exact (h.2.2 f f'.1 f'.2.1 f'.2.2).2
theorem tmA_congr {f : Int} : ∀ {T : List (Int × Int)} {b : Int}, (∀ p ∈ T, apartM M' p.1 f = apartM M p.1 f) → tmA M' b T f = tmA M b T f
  | [], _, _ => rfl
  | p :: T, b, h => by
    show tmA M' (max b (p.2 + apartM M' p.1 f)) T f = tmA M (max b (p.2 + apartM M p.1 f)) T f
    rw [h p List.mem_cons_self]
    exact tmA_congr (fun q hq => h q (List.mem_cons_of_mem _ hq))
theorem flat_congr {α β : Type} {f g : α → List β} : ∀ {L : List α}, (∀ x ∈ L, f x = g x) → L.flatMap f = L.flatMap g
  | [], _ => rfl
  | a :: L, h => by rw [List.flatMap_cons, List.flatMap_cons, h a List.mem_cons_self, flat_congr (fun x hx => h x (List.mem_cons_of_mem _ hx))]
theorem oks_eq (h1 : M' 1 = M 1) (W : List Int) (place used : Int) : oks M' W place used = oks M W place used := by
  have e : okK M' place used = okK M place used := by
    funext k
    unfold okK
    rw [h1]
  unfold oks
  rw [e]
theorem lvs_sim (hM : okM M) (h : sim M M' r) {W : List Int} (hW : ∀ x ∈ W, x ∈ comeL M r) : ∀ {n : Nat} {place used : Int} {T : List (Int × Int)} {c : Int}, (∀ p ∈ T, p.1 ∈ comeL M r) → lvs M' r W n place used T c = lvs M r W n place used T c
  | 0, _, _, _, _, _ => rfl
  | n + 1, place, used, T, c, hT => by
    rw [lvs_succ, lvs_succ, oks_eq h.1.1]
    refine flat_congr fun k hk => ?_
    have hw := hW _ (wAt_mem (oks_mem.mp hk).1)
    unfold lv1
    rw [h.ba hM hw, tmA_congr (fun p hp => h.ap hM (hT p hp) hw), h.co hM hw]
    refine lvs_sim hM h hW (fun p hp => ?_)
    rcases List.mem_append.mp hp with hp | hp
    · exact hT p hp
    · have : p = (wAt W k, tmA M (baseM M r (wAt W k)) T (wAt W k)) := by simpa using hp
      rw [this]
      exact hw
theorem tmS_sim (hM : okM M) (h : sim M M' r) : ∀ {L : List Int} {T : List (Int × Int)}, (∀ x ∈ L, x ∈ comeL M r) → (∀ p ∈ T, p.1 ∈ comeL M r) → tmS M' r T L = tmS M r T L
  | [], _, _, _ => rfl
  | f :: L, T, hL, hT => by
    have hw := hL f List.mem_cons_self
    unfold tmS
    rw [h.ba hM hw, tmA_congr (fun p hp => h.ap hM (hT p hp) hw)]
    refine tmS_sim hM h (fun x hx => hL x (List.mem_cons_of_mem _ hx)) (fun p hp => ?_)
    rcases List.mem_append.mp hp with hp | hp
    · exact hT p hp
    · have : p = (f, tmA M (baseM M r f) T f) := by simpa using hp
      rw [this]
      exact hw
theorem planL_sim (hM : okM M) (h : sim M M' r) : planL M' r = planL M r := by
  unfold planL bestW
  rw [comeL_sim hM h, lvs_sim hM h (fun x hx => List.mem_of_mem_take hx) (fun p hp => by cases hp)]
theorem plan_sim (hM : okM M) (h : sim M M' r) : tmS M' r [] (planL M' r) = tmS M r [] (planL M r) := by
  rw [planL_sim hM h]
  exact tmS_sim hM h (fun x hx => ((planL_perm hM).2.2 x).mp hx) (fun p hp => by cases hp)
theorem planT_sim (hM : okM M) (h : sim M M' r) {f : Int} (hr : ofM M f 6 = r) (hr' : ofM M' f 6 = r) : planT M' f = planT M f := by
  unfold planT
  rw [hr, hr', plan_sim hM h]
def alike (M M' : Row) (r k : Int) : Prop := (¬ ofM M k 6 = r ∧ ¬ ofM M' k 6 = r) ∨ ((∀ w, 0 ≤ w → w ≤ 6 → ofM M' k w = ofM M k w) ∧ ofM M' k 8 = ofM M k 8 ∧ (ofM M' k 7 = 0 ↔ ofM M k 7 = 0) ∧ ((ofM M' k 7 = 1 ∨ ofM M' k 7 = 2) ↔ (ofM M k 7 = 1 ∨ ofM M k 7 = 2)))
theorem baseN_alike (hM : okM M) (hS : setS M M') (h0 : M' 0 = M 0) (h : ∀ k, fl M k → alike M M' r k) {f : Int} (hf : fl M f) (hr : ofM M f 6 = r) : ∀ {n : Nat}, (n : Int) ≤ M 6 → baseN M' r f n = baseN M r f n
  | 0, _ => by
    unfold baseN
    rcases h f hf with q | q
    · exact absurd hr q.1
    · rw [h0, q.1 2 (by omega) (by omega)]
  | n + 1, hn => by
    have hk : fl M n := ⟨by omega, by omega⟩
    have ih := baseN_alike hM hS h0 h hf hr (n := n) (by omega)
    unfold baseN
    rw [ih]
    rcases h n hk with q | q
    · rw [if_neg (fun z => q.2 z.2), if_neg (fun z => q.1 z.2)]
    · rcases h f hf with q' | q'
      · exact absurd hr q'.1
      · rw [q.1 6 (by omega) (by omega), q.2.1, ap_eq hM hS hk hf (q.1 0 (by omega) (by omega)) (q.1 1 (by omega) (by omega)) (q'.1 0 (by omega) (by omega)) (q'.1 1 (by omega) (by omega))]
        by_cases c : (ofM M n 7 = 1 ∨ ofM M n 7 = 2) ∧ ofM M n 6 = r
        · rw [if_pos c, if_pos ⟨q.2.2.2.mpr c.1, c.2⟩]
        · rw [if_neg c, if_neg (fun z => c ⟨q.2.2.2.mp z.1, z.2⟩)]
theorem sim_alike (hM : okM M) (hS : setS M M') (h0 : M' 0 = M 0) (h : ∀ k, fl M k → alike M M' r k) : sim M M' r := by
  have hn := okM_n hM
  refine ⟨hS, fun f hf => ?_, fun f hf c1 c2 => ?_⟩
  · rcases h f hf with q | q
    · exact ⟨fun z => absurd z.2 q.2, fun z => absurd z.2 q.1⟩
    · rw [q.1 6 (by omega) (by omega), q.2.2.1]
  · rcases h f hf with q | q
    · exact absurd c2 q.1
    · refine ⟨⟨q.1 0 (by omega) (by omega), q.1 1 (by omega) (by omega), q.1 3 (by omega) (by omega), q.1 4 (by omega) (by omega)⟩, ?_⟩
      unfold baseM
      rw [hS.2.2.1]
      exact baseN_alike hM hS h0 h hf c2 (by omega)
/-- a flight that isn't there, before and after -/
theorem sim_off (hM : okM M) {g : Int} (hS : ∀ k, 0 ≤ k → k < 56 → M' k = M k) (ho : ∀ f w, f ≠ g → 0 ≤ f → 0 ≤ w → w < 9 → ofM M' f w = ofM M f w) (h1 : ¬ ofM M g 6 = r) (h2 : ¬ ofM M' g 6 = r) : sim M M' r := by
  refine sim_alike hM ⟨hS 1 (by omega) (by omega), hS 4 (by omega) (by omega), hS 6 (by omega) (by omega), fun k q1 q2 => hS k (by omega) (by omega)⟩ (hS 0 (by omega) (by omega)) (fun k hk => ?_)
  by_cases e : k = g
  · rw [e]; exact Or.inl ⟨h1, h2⟩
  · refine Or.inr ⟨fun w w1 w2 => ho k w e hk.1 w1 (by omega), ho k 8 e hk.1 (by omega) (by omega), ?_, ?_⟩
    · rw [ho k 7 e hk.1 (by omega) (by omega)]
    · rw [ho k 7 e hk.1 (by omega) (by omega)]
/-- how many -/
theorem comeN_cnt : ∀ {n : Nat}, ((comeN M r n).length : Int) = sm (fun k => bi (decide (ofM M k 7 = 0 ∧ ofM M k 6 = r))) n
  | 0 => rfl
  | n + 1 => by
    have ih := comeN_cnt (n := n)
    unfold comeN sm
    by_cases c : ofM M n 7 = 0 ∧ ofM M n 6 = r
    · rw [if_pos c, insF_len, bi_t c]
      omega
    · rw [if_neg c, bi_f c]
      omega
theorem sm_one {f g : Nat → Int} {j : Nat} : ∀ {n : Nat}, (∀ k, k < n → k ≠ j → f k = g k) → j < n → sm f n - f j = sm g n - g j
  | 0, _, h => by omega
  | n + 1, h, hj => by
    unfold sm
    by_cases e : j = n
    · have := sm_congr (n := n) (f := f) (g := g) (fun k hk => h k (by omega) (by omega))
      rw [e]
      omega
    · have ih := sm_one (n := n) (fun k hk => h k (by omega)) (by omega)
      have := h n (by omega) (Ne.symm e)
      omega
end
