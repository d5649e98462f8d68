/-! the reading: what a row keeps to, and that it goes on -/
section
variable {n p q s : Int} {B R : Row} {σ : PS}
theorem nm_ok {lo hi : Int} (h : (nmS B n σ lo hi).1.1 = 0) : σ.1 = 0 ∧ (lo ≤ (nmS B n σ lo hi).2 ∧ (nmS B n σ lo hi).2 ≤ hi) ∧ (nmS B n σ lo hi).1.2.2.2 = σ.2.2.2 := by
  obtain ⟨e, q, p, R⟩ := σ
  by_cases he : e = 0
  · subst he
    by_cases k : nmE B n p lo hi = 0
    · rw [nmS_good k]; exact ⟨rfl, nm_in k, rfl⟩
    · rw [nmS_bad k] at h; exact absurd h k
  · rw [nmS_er he] at h; exact absurd h he
theorem kd_ok (h : (kdS B n σ).1.1 = 0) : σ.1 = 0 ∧ (0 ≤ (kdS B n σ).2 ∧ (kdS B n σ).2 ≤ 3) ∧ (kdS B n σ).1.2.2.2 = σ.2.2.2 := by
  obtain ⟨e, q, p, R⟩ := σ
  by_cases he : e = 0
  · subst he
    rcases kdE_01 (B := B) (n := n) (p := p) with k | k
    · rw [kdS_good k]; exact ⟨rfl, kdV_in k, rfl⟩
    · rw [kdS_bad k] at h; exact absurd h one0
  · rw [kdS_er he] at h; exact absurd h he
theorem stn_ok {k lo hi : Int} (h : (stnS B n σ k lo hi).1 = 0) : σ.1 = 0 ∧ ∃ v, (lo ≤ v ∧ v ≤ hi) ∧ (stnS B n σ k lo hi).2.2.2 = upM σ.2.2.2 k v := by
  obtain ⟨h1, h2, h3⟩ := nm_ok (B := B) (n := n) (σ := σ) (lo := lo) (hi := hi) h
  refine ⟨h1, _, h2, ?_⟩
  show upM (nmS B n σ lo hi).1.2.2.2 k _ = _
  rw [h3]
theorem okRd.set {k v : Int} (h : okRd R) (hk : (k = 1 ∧ 0 ≤ v ∧ v ≤ 4) ∨ (k = 2 ∧ 0 ≤ v ∧ v ≤ 1800) ∨ (k = 3 ∧ 60 ≤ v ∧ v ≤ 3600) ∨ (k = 4 ∧ 0 ≤ v ∧ v ≤ 600) ∨ (8 ≤ k ∧ k < 24 ∧ 0 ≤ v ∧ v ≤ 600) ∨ (24 ≤ k ∧ k < 32 ∧ 0 ≤ v ∧ v ≤ 9999)) : okRd (upM R k v) := by
  obtain ⟨a0, a1, a2, a3, a4, a5, a6, a8, a24, aZ, aF⟩ := h
  have hi : ∀ j, 56 ≤ j → upM R k v j = R j := fun j hj => upM_ne _ (by omega)
  refine ⟨?_, ?_, ?_, ?_, ?_, ?_, ?_, fun i i1 i2 => ?_, fun i i1 i2 => ?_, fun f f1 f2 => ?_, fun f hf => ?_⟩
  · rw [upM_ne _ (by omega), upM_ne _ (by omega)]; exact a0
  · by_cases c : k = 1
    · rw [c, upM_same]; omega
    · rw [upM_ne _ (by omega)]; exact a1
  · by_cases c : k = 2
    · rw [c, upM_same]; omega
    · rw [upM_ne _ (by omega)]; exact a2
  · by_cases c : k = 3
    · rw [c, upM_same]; omega
    · rw [upM_ne _ (by omega)]; exact a3
  · by_cases c : k = 4
    · rw [c, upM_same]; omega
    · rw [upM_ne _ (by omega)]; exact a4
  · rw [upM_ne _ (by omega)]; exact a5
  · rw [upM_ne _ (by omega)]; exact a6
  · by_cases c : k = 8 + i
    · rw [← c, upM_same]; omega
    · rw [upM_ne _ (by omega)]; exact a8 i i1 i2
  · by_cases c : k = 24 + i
    · rw [← c, upM_same]; omega
    · rw [upM_ne _ (by omega)]; exact a24 i i1 i2
  · have := aZ f f1 f2
    unfold ofM at this ⊢
    rw [hi _ (by omega), hi _ (by omega), hi _ (by omega), hi _ (by omega)]
    exact this
  · have hf1 := hf.1
    have e6 : upM R k v 6 = R 6 := upM_ne _ (by omega)
    have hfR : fl R f := by unfold fl at hf ⊢; rw [e6] at hf; exact hf
    have := aF f hfR
    unfold ofM at this ⊢
    rw [hi _ (by omega), hi _ (by omega), hi _ (by omega), hi _ (by omega), hi _ (by omega), hi _ (by omega), upM_ne _ (show (5 : Int) ≠ k by omega)]
    exact this
theorem okRd_wak (h : okRd σ.2.2.2) (h0 : (wakS B n σ).1 = 0) : okRd (wakS B n σ).2.2.2 := by
  unfold wakS at h0 ⊢
  simp only [] at h0 ⊢
  obtain ⟨a1, v, v1, e⟩ := stn_ok h0
  obtain ⟨b1, b2, b3⟩ := kd_ok a1
  obtain ⟨c1, c2, c3⟩ := kd_ok b1
  rw [e, b3, c3]
  exact h.set (by omega)
theorem okRd_cos (h : okRd σ.2.2.2) (h0 : (cosS B n σ).1 = 0) : okRd (cosS B n σ).2.2.2 := by
  unfold cosS at h0 ⊢
  simp only [] at h0 ⊢
  obtain ⟨a1, v, v1, e⟩ := stn_ok h0
  obtain ⟨b1, w, w1, e2⟩ := stn_ok a1
  obtain ⟨c1, c2, c3⟩ := kd_ok b1
  rw [e, e2, c3]
  exact (h.set (by omega)).set (by omega)
theorem okRd_fly {arr b : Int} (h : okRd σ.2.2.2) (ha : arr = 0 ∨ arr = 1) (h0 : (flyS B n σ b arr).1 = 0) : okRd (flyS B n σ b arr).2.2.2 := by
  unfold flyS at h0 ⊢
  by_cases c6 : σ.2.2.2 6 = 24
  · rw [if_pos c6] at h0
    exact absurd h0 (by show (4 : Int) ≠ 0; decide)
  · rw [if_neg c6] at h0 ⊢
    simp only [] at h0 ⊢
    obtain ⟨R, hR⟩ : ∃ R, R = σ.2.2.2 := ⟨_, rfl⟩
    rw [← hR] at h c6 h0 ⊢
    have r6 := h.r6
    have r5 := h.r5
    obtain ⟨a1, v, v1, e⟩ := stn_ok (show (stnS B n _ _ _ _).1 = 0 from h0)
    unfold timS at a1
    simp only [] at a1
    obtain ⟨b1, w, w1, e2⟩ := stn_ok a1
    obtain ⟨c1, c2, c3⟩ := nm_ok (show (nmS B n _ _ _).1.1 = 0 from b1)
    obtain ⟨d1, d2, d3⟩ := nm_ok c1
    obtain ⟨f1, f2, f3⟩ := kd_ok (show (kdS B n _).1.1 = 0 from d1)
    have g1 : (namS B n σ (R 6)).1 = 0 := f1
    have gn : ∃ s z, (namS B n σ (R 6)).2.2.2 = namR R B s z (R 6) := by
      unfold namS at g1 ⊢
      simp only [] at g1 ⊢
      split
      · rename_i c; rw [if_pos c] at g1; exact absurd g1 one0
      · rename_i c
        rw [if_neg c] at g1
        split
        · rename_i c2; rw [if_pos c2] at g1; exact absurd g1 (by show (3 : Int) ≠ 0; decide)
        · exact ⟨_, _, by rw [hR]⟩
    obtain ⟨s, z, gn⟩ := gn
    obtain ⟨ka, hka⟩ : ∃ ka, ka = kdS B n (upS (namS B n σ (R 6)) (56 + 16 * R 6 + 0) arr) := ⟨_, rfl⟩
    rw [← hka] at e e2 v1 c2 c3 d2 d3 f2 f3 w1 ⊢
    obtain ⟨ta, hta⟩ : ∃ ta, ta = nmS B n (upS ka.1 (56 + 16 * R 6 + 1) ka.2) 0 99999 := ⟨_, rfl⟩
    have ek : ka.1.2.2.2 = upM (namR R B s z (R 6)) (56 + 16 * R 6 + 0) arr := by
      rw [f3]
      show upM (namS B n σ (R 6)).2.2.2 _ _ = _
      rw [gn]
    have eT : (timS B n (upS ka.1 (56 + 16 * R 6 + 1) ka.2) (R 6)).2.2.2 = upM (upM (upM (upM (upM (namR R B s z (R 6)) (56 + 16 * R 6 + 0) arr) (56 + 16 * R 6 + 1) ka.2) (56 + 16 * R 6 + 2) ta.2) (56 + 16 * R 6 + 3) (nmS B n ta.1 ta.2 99999).2) (56 + 16 * R 6 + 4) w := by
      unfold timS
      simp only []
      rw [← hta]
      rw [← hta] at e2 c3 d3
      rw [e2]
      show upM (upM (upM (nmS B n ta.1 ta.2 99999).1.2.2.2 _ _) _ _) _ _ = _
      rw [c3, d3]
      show upM (upM (upM (upM ka.1.2.2.2 _ _) _ _) _ _) _ _ = _
      rw [ek]
    rw [← hta] at w1 c2 d2
    obtain ⟨t2, ht2⟩ : ∃ t2, t2 = ta.2 := ⟨_, rfl⟩
    obtain ⟨t3, ht3⟩ : ∃ t3, t3 = (nmS B n ta.1 ta.2 99999).2 := ⟨_, rfl⟩
    rw [← ht3, ← ht2] at eT
    rw [← ht3] at w1
    rw [← ht3, ← ht2] at c2
    rw [← ht2] at d2
    show okRd (upM (stnS B n _ _ _ _).2.2.2 6 (R 6 + 1))
    rw [e]
    obtain ⟨Y, hY⟩ : ∃ Y, Y = (timS B n (upS ka.1 (56 + 16 * R 6 + 1) ka.2) (R 6)).2.2.2 := ⟨_, rfl⟩
    rw [← hY] at eT v1 ⊢
    obtain ⟨kv, hkv⟩ : ∃ kv, kv = ka.2 := ⟨_, rfl⟩
    rw [← hkv] at eT f2
    have lo : ∀ j, (j < 56 + 16 * R 6 ∨ (56 + 16 * R 6 + 6 ≤ j ∧ j < 56 + 16 * R 6 + 10) ∨ 56 + 16 * R 6 + 16 ≤ j) → Y j = R j := by
      intro j hj
      rw [eT, upM_ne _ (by omega), upM_ne _ (by omega), upM_ne _ (by omega), upM_ne _ (by omega), upM_ne _ (by omega)]
      unfold namR
      rw [if_neg (by omega)]
    have y5 : Y 5 = R 5 := lo 5 (by omega)
    rw [y5] at v1
    obtain ⟨a0, a1, a2, a3, a4, a5, a6, a8, a24, aZ, aF⟩ := h
    obtain ⟨Z, hZ⟩ : ∃ Z, Z = upM (upM Y (56 + 16 * R 6 + 5) v) 6 (R 6 + 1) := ⟨_, rfl⟩
    rw [← hZ]
    have zz : ∀ j, j ≠ 6 → (j < 56 + 16 * R 6 ∨ (56 + 16 * R 6 + 6 ≤ j ∧ j < 56 + 16 * R 6 + 10) ∨ 56 + 16 * R 6 + 16 ≤ j) → Z j = R j := by
      intro j j1 j2
      rw [hZ, upM_ne _ j1, upM_ne _ (by omega)]
      exact lo j j2
    have z6 : Z 6 = R 6 + 1 := by rw [hZ, upM_same]
    refine ⟨?_, ?_, ?_, ?_, ?_, ?_, ?_, fun i i1 i2 => ?_, fun i i1 i2 => ?_, fun f f1 f2 => ?_, fun f hf => ?_⟩
    · rw [zz 0 (by omega) (by omega), zz 7 (by omega) (by omega)]; exact a0
    · rw [zz _ (by omega) (by omega)]; exact a1
    · rw [zz _ (by omega) (by omega)]; exact a2
    · rw [zz _ (by omega) (by omega)]; exact a3
    · rw [zz _ (by omega) (by omega)]; exact a4
    · rw [zz _ (by omega) (by omega)]; exact a5
    · omega
    · rw [zz _ (by omega) (by omega)]; exact a8 i i1 i2
    · rw [zz _ (by omega) (by omega)]; exact a24 i i1 i2
    · have := aZ f f1 f2
      unfold ofM at this ⊢
      rw [zz _ (by omega) (by omega), zz _ (by omega) (by omega), zz _ (by omega) (by omega), zz _ (by omega) (by omega)]
      exact this
    · have hf1 := hf.1
      have hf2 : f < Z 6 := hf.2
      rw [zz 5 (by omega) (by omega)]
      by_cases cf : f = R 6
      · subst cf
        unfold ofM
        have w0 : Z (56 + 16 * R 6 + 0) = arr := by rw [hZ, upM_ne _ (by omega), upM_ne _ (by omega), eT, upM_ne _ (by omega), upM_ne _ (by omega), upM_ne _ (by omega), upM_ne _ (by omega), upM_same]
        have w1' : Z (56 + 16 * R 6 + 1) = kv := by rw [hZ, upM_ne _ (by omega), upM_ne _ (by omega), eT, upM_ne _ (by omega), upM_ne _ (by omega), upM_ne _ (by omega), upM_same]
        have w2 : Z (56 + 16 * R 6 + 2) = t2 := by rw [hZ, upM_ne _ (by omega), upM_ne _ (by omega), eT, upM_ne _ (by omega), upM_ne _ (by omega), upM_same]
        have w3 : Z (56 + 16 * R 6 + 3) = t3 := by rw [hZ, upM_ne _ (by omega), upM_ne _ (by omega), eT, upM_ne _ (by omega), upM_same]
        have w4 : Z (56 + 16 * R 6 + 4) = w := by rw [hZ, upM_ne _ (by omega), upM_ne _ (by omega), eT, upM_same]
        have w5 : Z (56 + 16 * R 6 + 5) = v := by rw [hZ, upM_ne _ (by omega), upM_same]
        rw [w0, w1', w2, w3, w4, w5]
        exact ⟨ha, f2, d2, c2, w1, v1⟩
      · have := aF f ⟨hf1, by omega⟩
        unfold ofM at this ⊢
        rw [zz _ (by omega) (by omega), zz _ (by omega) (by omega), zz _ (by omega) (by omega), zz _ (by omega) (by omega), zz _ (by omega) (by omega), zz _ (by omega) (by omega)]
        exact this
theorem okRd_stm (h : okRd σ.2.2.2) (h0 : (stmS B n σ).1 = 0) : okRd (stmS B n σ).2.2.2 := by
  have st : ∀ (τ : PS) (k lo hi : Int), okRd τ.2.2.2 → ((k = 1 ∧ lo = 0 ∧ hi = 4) ∨ (k = 2 ∧ lo = 0 ∧ hi = 1800) ∨ (k = 3 ∧ lo = 60 ∧ hi = 3600) ∨ (k = 4 ∧ lo = 0 ∧ hi = 600)) → (stnS B n τ k lo hi).1 = 0 → okRd (stnS B n τ k lo hi).2.2.2 := by
    intro τ k lo hi hτ hk h1
    obtain ⟨-, v, v1, e⟩ := stn_ok h1
    rw [e]
    exact hτ.set (by omega)
  unfold stmS at h0 ⊢
  simp only [] at h0 ⊢
  split
  · rename_i c; rw [if_pos c] at h0; exact okRd_wak (σ := (0, _, _, σ.2.2.2)) h h0
  rename_i c1; rw [if_neg c1] at h0
  split
  · rename_i c; rw [if_pos c] at h0; exact st _ _ _ _ h (by omega) h0
  rename_i c2; rw [if_neg c2] at h0
  split
  · rename_i c; rw [if_pos c] at h0; exact st _ _ _ _ h (by omega) h0
  rename_i c3; rw [if_neg c3] at h0
  split
  · rename_i c; rw [if_pos c] at h0; exact st _ _ _ _ h (by omega) h0
  rename_i c4; rw [if_neg c4] at h0
  split
  · rename_i c; rw [if_pos c] at h0; exact st _ _ _ _ h (by omega) h0
  rename_i c5; rw [if_neg c5] at h0
  split
  · rename_i c; rw [if_pos c] at h0; exact okRd_cos (σ := (0, _, _, σ.2.2.2)) h h0
  rename_i c6; rw [if_neg c6] at h0
  split
  · rename_i c; rw [if_pos c] at h0; exact okRd_fly (σ := (0, _, _, σ.2.2.2)) h (Or.inr rfl) h0
  rename_i c7; rw [if_neg c7] at h0
  split
  · rename_i c; rw [if_pos c] at h0; exact okRd_fly (σ := (0, _, _, σ.2.2.2)) h (Or.inl rfl) h0
  rename_i c8; rw [if_neg c8] at h0
  exact absurd h0 one0
/-- a reading goes on -/
def pGe (n p : Int) (σ : PS) : Prop := p ≤ σ.2.2.1 ∧ σ.2.2.1 ≤ n
theorem pGe.nm {lo hi : Int} (h : pGe n p σ) : pGe n p (nmS B n σ lo hi).1 := by
  obtain ⟨e, q, p1, R⟩ := σ
  have h : p ≤ p1 ∧ p1 ≤ n := h
  have a := spE_f (B := B) (i := p1) h.2
  have b := dgE_f (B := B) (i := spE B n p1) a.2.1
  unfold nmS pGe
  split
  · exact h
  · show p ≤ dgE B n (spE B n p1) ∧ dgE B n (spE B n p1) ≤ n
    omega
theorem pGe.kd (h : pGe n p σ) : pGe n p (kdS B n σ).1 := by
  obtain ⟨e, q, p1, R⟩ := σ
  have h : p ≤ p1 ∧ p1 ≤ n := h
  have a := spE_f (B := B) (i := p1) h.2
  have b := wdE_f (B := B) (i := spE B n p1) a.2.1
  unfold kdS pGe
  split
  · exact h
  · show p ≤ wdE B n (spE B n p1) ∧ wdE B n (spE B n p1) ≤ n
    omega
theorem pGe.up {k v : Int} (h : pGe n p σ) : pGe n p (upS σ k v) := h
theorem pGe.stn {k lo hi : Int} (h : pGe n p σ) : pGe n p (stnS B n σ k lo hi) := h.nm.up
theorem pGe.nam {f : Int} (h : pGe n p σ) : pGe n p (namS B n σ f) := by
  obtain ⟨e, q, p1, R⟩ := σ
  have h : p ≤ p1 ∧ p1 ≤ n := h
  have a := spE_f (B := B) (i := p1) h.2
  have b := wdE_f (B := B) (i := spE B n p1) a.2.1
  unfold namS pGe
  simp only []
  split
  · show p ≤ wdE B n (spE B n p1) ∧ wdE B n (spE B n p1) ≤ n
    omega
  · split
    · show p ≤ wdE B n (spE B n p1) ∧ wdE B n (spE B n p1) ≤ n
      omega
    · show p ≤ wdE B n (spE B n p1) ∧ wdE B n (spE B n p1) ≤ n
      omega
theorem pGe.tim {f : Int} (h : pGe n p σ) : pGe n p (timS B n σ f) := by
  unfold timS
  exact (h.nm.nm.up).up.stn
theorem pGe.fly {b arr : Int} (h : pGe n p σ) : pGe n p (flyS B n σ b arr) := by
  unfold flyS
  split
  · exact h
  · exact ((h.nam.up).kd.up.tim).stn.up
theorem pGe.stm (h : pGe n p σ) : pGe n p (stmS B n σ) := by
  obtain ⟨e, q, p1, R⟩ := σ
  have h : p ≤ p1 ∧ p1 ≤ n := h
  have a := spE_f (B := B) (i := p1) h.2
  have b := wdE_f (B := B) (i := spE B n p1) a.2.1
  have t : ∀ e q, pGe n p (e, q, wdE B n (spE B n p1), R) := fun e q => ⟨by show p ≤ wdE B n (spE B n p1); omega, by show wdE B n (spE B n p1) ≤ n; omega⟩
  unfold stmS
  simp only []
  split
  · unfold wakS; exact (t _ _).kd.kd.stn
  split
  · exact (t _ _).stn
  split
  · exact (t _ _).stn
  split
  · exact (t _ _).stn
  split
  · exact (t _ _).stn
  split
  · unfold cosS; exact (t _ _).kd.stn.stn
  split
  · exact (t _ _).fly
  split
  · exact (t _ _).fly
  · exact t _ _
theorem allS_er (h : σ.1 ≠ 0) : ∀ k, allS B n k σ = σ
  | 0 => rfl
  | k + 1 => by
    unfold allS
    have : morS B n σ = (σ, false) := by unfold morS; rw [if_pos h]
    rw [this]
    rfl
theorem okRd_beg {r : Int} (h : 1 ≤ r ∧ r ≤ 3) : okRd (begM r) := by
  refine ⟨⟨rfl, rfl⟩, by show (0 : Int) ≤ 2 ∧ (2 : Int) ≤ 4; omega, by show (0 : Int) ≤ 120 ∧ (120 : Int) ≤ 1800; omega, by show (60 : Int) ≤ 600 ∧ (600 : Int) ≤ 3600; omega, by show (0 : Int) ≤ 60 ∧ (60 : Int) ≤ 600; omega, h, by show (0 : Int) ≤ 0 ∧ (0 : Int) ≤ 24; omega, fun k k1 k2 => ?_, fun k k1 k2 => ?_, fun f f1 f2 => ?_, fun f hf => absurd hf.2 (by have := hf.1; show ¬ f < 0; omega)⟩
  · unfold begM
    rw [if_neg (by omega), if_neg (by omega), if_neg (by omega), if_neg (by omega), if_neg (by omega), if_pos (by omega)]
    omega
  · unfold begM
    rw [if_neg (by omega), if_neg (by omega), if_neg (by omega), if_neg (by omega), if_neg (by omega), if_neg (by omega)]
    split
    · omega
    · rw [if_pos (by omega)]; omega
  · have z : ∀ j, 32 ≤ j → begM r j = 0 := by
      intro j hj
      unfold begM
      rw [if_neg (by omega), if_neg (by omega), if_neg (by omega), if_neg (by omega), if_neg (by omega), if_neg (by omega), if_neg (by omega), if_neg (by omega)]
    unfold ofM
    exact ⟨z _ (by omega), z _ (by omega), z _ (by omega), z _ (by omega)⟩
end
