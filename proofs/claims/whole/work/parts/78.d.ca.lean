/-! the class: the allowed sequences, counted by sets -/
def wS (w F : Int → Int) (s : Int) (N : Nat) : Int := sm (fun t => if s ≤ (t : Int) then w t * F t else 0) N
section
variable {w w' F : Int → Int} {s j v : Int} {N : Nat}
theorem wS_head (hs : 0 ≤ s ∧ s < N) : wS w F s N = w s * F s + wS w F (s + 1) N := by
  have := sm_one (f := fun t => if s ≤ (t : Int) then w t * F t else 0) (g := fun t => if s + 1 ≤ (t : Int) then w t * F t else 0) (j := s.toNat) (n := N) (fun k _ hk => by
    by_cases c : s ≤ (k : Int)
    · rw [if_pos c, if_pos (by omega)]
    · rw [if_neg c, if_neg (by omega)]) (by omega)
  simp only [show ((s.toNat : Nat) : Int) = s by omega] at this
  rw [if_pos (Int.le_refl s), if_neg (by omega)] at this
  show sm _ _ = _ + sm _ _
  omega
theorem wS_upd (hj : s ≤ j ∧ 0 ≤ j ∧ j < N) (h1 : w' j = w j + v) (h2 : ∀ t, t ≠ j → w' t = w t) : wS w' F s N = wS w F s N + v * F j := by
  have := sm_one (f := fun t => if s ≤ (t : Int) then w' t * F t else 0) (g := fun t => if s ≤ (t : Int) then w t * F t else 0) (j := j.toNat) (n := N) (fun k _ hk => by rw [h2 k (by omega)]) (by omega)
  simp only [show ((j.toNat : Nat) : Int) = j by omega] at this
  rw [if_pos hj.1, if_pos hj.1, h1, Int.add_mul] at this
  show sm _ _ = sm _ _ + _
  omega
theorem sm_term {f : Nat → Int} {k : Nat} : ∀ {n : Nat}, (∀ i, i < n → 0 ≤ f i) → k < n → f k ≤ sm f n
  | 0, _, h => absurd h (Nat.not_lt_zero _)
  | n + 1, h0, h => by
    have nn : 0 * (n : Int) ≤ sm f n := by
      have : ∀ m, (∀ i, i < m → 0 ≤ f i) → 0 ≤ sm f m := by
        intro m
        induction m with
        | zero => intro _; exact Int.le_refl _
        | succ m ih => intro h; have := ih (fun i hi => h i (by omega)); have := h m (by omega); show 0 ≤ sm f m + f m; omega
      have := this n (fun i hi => h0 i (by omega))
      omega
    show f k ≤ sm f n + f n
    by_cases e : k = n
    · rw [e]; omega
    · have := sm_term (n := n) (fun i hi => h0 i (by omega)) (show k < n by omega)
      have := h0 n (by omega)
      omega
theorem wS_term (hj : s ≤ j ∧ 0 ≤ j ∧ j < N) (h : ∀ t : Int, 0 ≤ t → t < N → 0 ≤ w t ∧ 1 ≤ F t) : w j ≤ wS w F s N := by
  have := sm_term (f := fun t => if s ≤ (t : Int) then w t * F t else 0) (k := j.toNat) (n := N) (fun i hi => by
    by_cases c : s ≤ (i : Int)
    · rw [if_pos c]; have := h i (by omega) (by omega); exact Int.mul_nonneg this.1 (by omega)
    · rw [if_neg c]; omega) (by omega)
  simp only [show ((j.toNat : Nat) : Int) = j by omega] at this
  rw [if_pos hj.1] at this
  have hj2 := h j hj.2.1 hj.2.2
  have : w j * 1 ≤ w j * F j := Int.mul_le_mul_of_nonneg_left hj2.2 hj2.1
  show w j ≤ sm _ _
  omega
theorem wS_congr (h : ∀ t : Int, 0 ≤ t → t < N → w' t = w t) : wS w' F s N = wS w F s N := sm_congr (fun k hk => by rw [h k (by omega) (by omega)])
end
noncomputable def cF (M : Row) (m : Nat) (t : Int) : Int := cmpN M m (m - pcI t).toNat (pcI t) t
def gF (m : Nat) (t : Int) : Int := 7 ^ (m - pcI t).toNat
theorem gF_1 {m : Nat} {t : Int} : 1 ≤ gF m t := by
  unfold gF
  exact Int.pow_pos (by decide)
section
variable {l : Launch} {G : GT}
theorem k_countAllowed {d : Nat} {H : AH} {p b r : Int} {M : Row} (hS : SK H b M) (hP : Lay LPla H p) (hsep : b + 23 ≤ p ∨ p + 17 ≤ b) (hd : 2 ≤ d := by omega) :
    CL l G mX2_countAllowed d 0 0 [vR p, vR b, vI r] H (fun v H' => v = vI (phi pT (lvW M r)) ∧ only H H' (pPla p)) := by
  obtain ⟨d, rfl⟩ : ∃ k, d = k + 1 := ⟨d - 1, by omega⟩
  have hM := hS.2.1
  have hC := comeL_len hM (r := r)
  obtain ⟨m, hm⟩ : ∃ m, m = ((comeL M r).take 7).length := ⟨_, rfl⟩
  have hmv : m = min 7 (comeL M r).length := by rw [hm, List.length_take]
  have hV : phi pT (lvW M r) = cmpN M m m 0 0 := by unfold lvW; rw [phi_cmp, ← hm]
  rw [hV]
  have hm7 : m ≤ 7 := by omega
  obtain ⟨N, hN⟩ : ∃ N : Nat, N = 2 ^ m := ⟨_, rfl⟩
  have pa := pc_all ⟨m, by omega⟩
  have pa1 : pcI (pw m - 1) = m := pa.1
  have pa2 : pw (m : Int) - 1 = ((2 ^ m - 1 : Nat) : Int) := pa.2
  have hN1 : 1 ≤ N ∧ N ≤ 128 := by
    rw [hN]
    exact ⟨Nat.one_le_two_pow, Nat.le_trans (Nat.pow_le_pow_right (by decide) hm7) (by decide)⟩
  have eall : pw (m : Int) - 1 = (N : Int) - 1 := by rw [pa2, ← hN]; omega
  have pin : ∀ t : Int, 0 ≤ t → t < N → 0 ≤ pcI t ∧ pcI t ≤ m ∧ (t < N - 1 → pcI t < m) := by
    intro t t1 t2
    have := pc_in ⟨m, by omega⟩ ⟨t.toNat, by omega⟩ (by show t.toNat < 2 ^ m; omega)
    have e : ((t.toNat : Nat) : Int) = t := by omega
    have this : 0 ≤ pcI ((t.toNat : Nat) : Int) ∧ pcI ((t.toNat : Nat) : Int) ≤ m ∧ (t.toNat < 2 ^ m - 1 → pcI ((t.toNat : Nat) : Int) < m) := this
    rw [e] at this
    exact ⟨this.1, this.2.1, fun w => this.2.2 (by omega)⟩
  have pst : ∀ (t k : Int), 0 ≤ t → t < N → 0 ≤ k → k < m → shr t k % 2 = 0 → pcI (ior t (pw k)) = pcI t + 1 ∧ t < ior t (pw k) ∧ ior t (pw k) < N := by
    intro t k t1 t2 k1 k2 hb
    have e : ((t.toNat : Nat) : Int) = t := by omega
    have e2 : ((k.toNat : Nat) : Int) = k := by omega
    have a := pc_step ⟨t.toNat, by omega⟩ ⟨k.toNat, by omega⟩
    have a : shr ((t.toNat : Nat) : Int) ((k.toNat : Nat) : Int) % 2 = 0 → pcI (ior ((t.toNat : Nat) : Int) (pw ((k.toNat : Nat) : Int))) = pcI ((t.toNat : Nat) : Int) + 1 ∧ ((t.toNat : Nat) : Int) < ior ((t.toNat : Nat) : Int) (pw ((k.toNat : Nat) : Int)) ∧ ior ((t.toNat : Nat) : Int) (pw ((k.toNat : Nat) : Int)) < 128 := a
    have c := ior_in ⟨m, by omega⟩ ⟨t.toNat, by omega⟩ ⟨k.toNat, by omega⟩ (by show t.toNat < 2 ^ m; omega) (by show k.toNat < m; omega)
    have c : ior ((t.toNat : Nat) : Int) (pw ((k.toNat : Nat) : Int)) < ((2 ^ m : Nat) : Int) := c
    rw [e, e2] at a c
    rw [← hN] at c
    exact ⟨(a hb).1, (a hb).2.1, c⟩
  have p7 : (7 : Int) ^ m ≤ 823543 := by
    have : ∀ k : Fin 8, (7 : Int) ^ k.val ≤ 823543 := by decide
    exact this ⟨m, by omega⟩
  refine CL.of (by decide) rfl (Nat.le_of_ble_eq_true rfl) (s_X2_countAllowed_0 hP hS.1 (CL.mono (k_lineUp hS hP hsep) ?_))
  rintro v H1 ⟨rfl, o1, -⟩
  have w1 : only H H1 (pPla p) := o1.mono fun c i h => Or.inr (by omega)
  have env : ∀ H1, only H H1 (pPla p) → SK H1 b M ∧ Lay LPla H1 p := fun H1 ho => ⟨skO hS ho (pPla_nrf hP) (pPla_off hsep), hP.only ok_Pla ho (pPla_nrf hP)⟩
  obtain ⟨S1, L1⟩ := env H1 w1
  obtain ⟨Q, hQ⟩ : ∃ Q : AV → AH → Prop, Q = (fun v H' => v = vI (cmpN M m m 0 0) ∧ only H H' (pPla p)) := ⟨_, rfl⟩
  rw [← hQ]
  obtain ⟨y, hy⟩ : ∃ y : Int, y = (comeL M r).length := ⟨_, rfl⟩
  rw [← hy]
  have main : ∀ (k : Nat), k ≤ N - 1 → ∀ H2, only H H2 (pPla p) → (∀ t : Int, 0 ≤ t → t < N → 0 ≤ hg H2 (p + 16) t) → wS (hg H2 (p + 16)) (cF M m) k N = cmpN M m m 0 0 → wS (hg H2 (p + 16)) (gF m) k N ≤ 7 ^ m → AW l G mX2_countAllowed (d + 1) 0 0 Q 65 [vR p, vR b, vI r, vI y, vI m, vI (N - 1), vI k, vU, vU, vU] [] 0 0 H2 := by
    refine upN _ ?_ ?_
    · intro k hk ih H2 o2 n2 i1 i2
      obtain ⟨S2, L2⟩ := env H2 o2
      have hp := pin k (by omega) (by omega)
      have hpk := hp.2.2 (by omega)
      refine s_X2_countAllowed_65 L2 S2.1 ⟨fun c => absurd c (by omega), fun _ => ⟨by omega, ?_⟩⟩
      obtain ⟨u, hu⟩ : ∃ u, u = hg H2 (p + 16) k := ⟨_, rfl⟩
      have u0 : 0 ≤ u := by rw [hu]; exact n2 k (by omega) (by omega)
      rw [wS_head (by omega)] at i1 i2
      rw [← hu] at i1 i2
      obtain ⟨c, hc⟩ : ∃ c : Nat, c = (m - pcI k).toNat - 1 := ⟨_, rfl⟩
      have ec : (m - pcI k).toNat = c + 1 := by omega
      have eF : cF M m k = sm (fun j => if pdec (okK M (pcI k) k j) = true then cmpN M m c (pcI k + 1) (ior k (pw j)) else 0) m := by unfold cF; rw [ec]; rfl
      have eG : gF m k = 7 * 7 ^ c := by unfold gF; rw [ec, Int.pow_succ, Int.mul_comm]
      rw [eF] at i1
      rw [eG] at i2
      have c0 : (1 : Int) ≤ 7 ^ c := Int.pow_pos (by decide)
      have inner : ∀ i : Nat, i ≤ m → ∀ H3, only H H3 (pPla p) → (∀ t : Int, 0 ≤ t → t < N → 0 ≤ hg H3 (p + 16) t) → hg H3 (p + 16) k = u → wS (hg H3 (p + 16)) (cF M m) (k + 1) N = wS (hg H2 (p + 16)) (cF M m) (k + 1) N + u * sm (fun j => if pdec (okK M (pcI k) k j) = true then cmpN M m c (pcI k + 1) (ior k (pw j)) else 0) i → wS (hg H3 (p + 16)) (gF m) (k + 1) N ≤ wS (hg H2 (p + 16)) (gF m) (k + 1) N + u * (i * 7 ^ c) → AW l G mX2_countAllowed (d + 1) 0 0 Q 82 [vR p, vR b, vI r, vI y, vI m, vI (N - 1), vI k, vI (pcI k), vI i, vU] [] 0 0 H3 := by
        refine upN _ ?_ ?_
        · intro i hi ihi H3 o3 n3 u3 j1 j2
          obtain ⟨S3, L3⟩ := env H3 o3
          have r3 : hg H3 (b + 1) 2 = M 1 := sk_1_2 S3
          have no : ¬ okK M (pcI k) k i → AW l G mX2_countAllowed (d + 1) 0 0 Q 82 [vR p, vR b, vI r, vI y, vI m, vI (N - 1), vI k, vI (pcI k), vI (i + 1), vU] [] 0 0 H3 := by
            intro cn
            refine ihi H3 o3 n3 u3 ?_ ?_
            · show _ = _ + u * (sm _ i + (if pdec (okK M (pcI k) k i) = true then cmpN M m c (pcI k + 1) (ior k (pw i)) else 0))
              rw [pdec_f cn, if_neg (by decide), Int.add_zero]
              exact j1
            · have : u * ((i : Int) * 7 ^ c) ≤ u * (((i + 1 : Nat) : Int) * 7 ^ c) := Int.mul_le_mul_of_nonneg_left (Int.mul_le_mul_of_nonneg_right (by omega) (by omega)) u0
              omega
          have yes : okK M (pcI k) k i → (0 ≤ (i : Int) ∧ (i : Int) ≤ 30) ∧ (0 ≤ (k : Int) ∧ 0 ≤ (pw i)) ∧ (0 ≤ (ior k (pw i)) ∧ (ior k (pw i)) < 128) ∧ (0 ≤ (k : Int) ∧ (k : Int) < 128) ∧ (-2147483648 ≤ (hg H3 (p + 16) (ior k (pw i))) + (hg H3 (p + 16) k) ∧ (hg H3 (p + 16) (ior k (pw i))) + (hg H3 (p + 16) k) ≤ 2147483647) ∧ ∀ H4 : AH, H4 = hs H3 (p + 16) (ior k (pw i)) ((hg H3 (p + 16) (ior k (pw i))) + (hg H3 (p + 16) k)) → (-2147483648 ≤ (i : Int) + 1 ∧ (i : Int) + 1 ≤ 2147483647) ∧ AW l G mX2_countAllowed (d + 1) 0 0 Q 82 [vR p, vR b, vI r, vI y, vI m, vI (N - 1), vI k, vI (pcI k), vI (i + 1), vU] [] 0 0 H4 := by
            intro cy
            obtain ⟨q1, q2, q3⟩ := pst k i (by omega) (by omega) (by omega) (by omega) cy.1
            obtain ⟨j, hj⟩ : ∃ j, j = ior k (pw i) := ⟨_, rfl⟩
            rw [← hj] at q1 q2 q3 ⊢
            have t1 := wS_term (w := hg H3 (p + 16)) (F := gF m) (s := (k : Int) + 1) (j := j) (N := N) ⟨by omega, by omega, q3⟩ (fun t a1 a2 => ⟨n3 t a1 a2, gF_1⟩)
            have t2 : u * ((i : Int) * 7 ^ c) ≤ u * (7 * 7 ^ c) := Int.mul_le_mul_of_nonneg_left (Int.mul_le_mul_of_nonneg_right (by omega) (by omega)) u0
            have t3 : u * 1 ≤ u * (7 * 7 ^ c) := Int.mul_le_mul_of_nonneg_left (by omega) u0
            have t4 : 0 ≤ wS (hg H2 (p + 16)) (gF m) (k + 1) N := by
              have := wS_term (w := hg H2 (p + 16)) (F := gF m) (s := (k : Int) + 1) (j := j) (N := N) ⟨by omega, by omega, q3⟩ (fun t a1 a2 => ⟨n2 t a1 a2, gF_1⟩)
              have := n2 j (by omega) q3
              omega
            have nj := n3 j (by omega) q3
            rw [u3]
            refine ⟨by omega, ⟨by omega, pw_nn _⟩, by omega, by omega, by omega, fun H4 e4 => ⟨by omega, ?_⟩⟩
            have fj : cF M m j = cmpN M m c (pcI k + 1) j := by unfold cF; rw [q1, show (m - (pcI k + 1)).toNat = c by omega]
            have gj : gF m j = 7 ^ c := by unfold gF; rw [q1, show (m - (pcI k + 1)).toNat = c by omega]
            have ua := wS_upd (w := hg H3 (p + 16)) (w' := hg H4 (p + 16)) (F := cF M m) (s := (k : Int) + 1) (j := j) (v := u) (N := N) ⟨by omega, by omega, q3⟩ (by rw [e4, hg_same]) (fun t ht => by rw [e4, hg_ne _ (by omega)])
            have ub := wS_upd (w := hg H3 (p + 16)) (w' := hg H4 (p + 16)) (F := gF m) (s := (k : Int) + 1) (j := j) (v := u) (N := N) ⟨by omega, by omega, q3⟩ (by rw [e4, hg_same]) (fun t ht => by rw [e4, hg_ne _ (by omega)])
            refine ihi H4 (by rw [e4]; exact o3.then (Or.inr (by omega))) (fun t a1 a2 => ?_) (by rw [e4, hg_ne _ (by omega)]; exact u3) ?_ ?_
            · rw [e4]
              by_cases ct : t = j
              · rw [ct, hg_same]; omega
              · rw [hg_ne _ (by omega)]; exact n3 t a1 a2
            · rw [ua, j1, fj]
              show _ = _ + u * (sm _ i + (if pdec (okK M (pcI k) k i) = true then cmpN M m c (pcI k + 1) (ior k (pw i)) else 0))
              rw [pdec_t cy, if_pos rfl, Int.mul_add, ← hj]
              omega
            · rw [ub, gj]
              have : u * (((i + 1 : Nat) : Int) * 7 ^ c) = u * ((i : Int) * 7 ^ c) + u * 7 ^ c := by
                rw [show ((i + 1 : Nat) : Int) = i + 1 by omega, Int.add_mul, Int.one_mul, Int.mul_add]
              omega
          refine s_X2_countAllowed_82 L3 S3.1 ⟨fun c9 => absurd c9 (by omega), fun _ => ?_⟩
          rw [r3]
          refine ⟨fun c1 => ⟨by omega, by omega, fun c2 => ⟨by omega, no (fun w => c2 w.1)⟩, fun c2 => ⟨fun c3 => ⟨by omega, no (fun w => by have := w.2; unfold ab at this; split at this <;> omega)⟩, fun c3 => yes ⟨c2, by unfold ab; split <;> omega⟩⟩⟩, fun c1 => ⟨by omega, by omega, fun c2 => ⟨by omega, no (fun w => c2 w.1)⟩, fun c2 => ⟨fun c3 => ⟨by omega, no (fun w => by have := w.2; unfold ab at this; split at this <;> omega)⟩, fun c3 => yes ⟨c2, by unfold ab; split <;> omega⟩⟩⟩⟩
        · intro H3 o3 n3 u3 j1 j2
          obtain ⟨S3, L3⟩ := env H3 o3
          refine s_X2_countAllowed_82 L3 S3.1 ⟨fun _ => ⟨by omega, ih H3 o3 n3 ?_ ?_⟩, fun c9 => absurd c9 (by omega)⟩
          · show wS _ _ ((k : Int) + 1) N = _
            rw [j1]; omega
          · show wS _ _ ((k : Int) + 1) N ≤ _
            have : u * ((m : Int) * 7 ^ c) ≤ u * (7 * 7 ^ c) := Int.mul_le_mul_of_nonneg_left (Int.mul_le_mul_of_nonneg_right (by omega) (by omega)) u0
            omega
      exact inner 0 (Nat.zero_le _) H2 o2 n2 hu.symm (by show _ = _ + u * 0; rw [Int.mul_zero]; omega) (by show _ ≤ _ + u * (((0 : Nat) : Int) * 7 ^ c); rw [show ((0 : Nat) : Int) = 0 from rfl, Int.zero_mul, Int.mul_zero]; omega)
    · intro H2 o2 n2 i1 i2
      obtain ⟨S2, L2⟩ := env H2 o2
      refine s_X2_countAllowed_65 L2 S2.1 ⟨fun _ => ⟨by omega, ?_⟩, fun c => absurd c (by omega)⟩
      rw [hQ]
      refine ⟨congrArg vI ?_, o2⟩
      rw [wS_head (by omega)] at i1
      have z : wS (hg H2 (p + 16)) (cF M m) (((N - 1 : Nat) : Int) + 1) N = 0 := by
        show sm _ _ = 0
        rw [sm_const (c := 0) (fun t ht => by rw [if_neg (by omega)])]
        omega
      have f1 : cF M m ((N - 1 : Nat) : Int) = 1 := by
        unfold cF
        rw [show ((N - 1 : Nat) : Int) = pw m - 1 by omega, pa1, show ((m : Int) - m).toNat = 0 by omega]
        rfl
      rw [z, f1] at i1
      rw [show (N : Int) - 1 = ((N - 1 : Nat) : Int) by omega]
      omega
  have init : ∀ (k : Nat), k ≤ N → ∀ H2, only H H2 (pPla p) → (∀ t : Int, 0 ≤ t → t < k → hg H2 (p + 16) t = if t = 0 then 1 else 0) → AW l G mX2_countAllowed (d + 1) 0 0 Q 32 [vR p, vR b, vI r, vI y, vI m, vI (N - 1), vI k, vU, vU, vU] [] 0 0 H2 := by
    refine upN _ ?_ ?_
    · intro k hk ih H2 o2 v2
      obtain ⟨S2, L2⟩ := env H2 o2
      refine s_X2_countAllowed_32 L2 S2.1 ⟨fun c => absurd c (by omega), fun _ => ⟨fun c => ⟨by omega, fun H3 e3 => ⟨by omega, ?_⟩⟩, fun c => ⟨by omega, fun H3 e3 => ⟨by omega, ?_⟩⟩⟩⟩
      · refine ih H3 (by rw [e3]; exact o2.then (Or.inr (by omega))) (fun t a1 a2 => ?_)
        rw [e3]
        by_cases ct : t = k
        · rw [ct, hg_same, if_neg c]
        · rw [hg_ne _ (by omega)]; exact v2 t a1 (by omega)
      · refine ih H3 (by rw [e3]; exact o2.then (Or.inr (by omega))) (fun t a1 a2 => ?_)
        rw [e3]
        by_cases ct : t = k
        · rw [ct, hg_same, if_pos c]
        · rw [hg_ne _ (by omega)]; exact v2 t a1 (by omega)
    · intro H2 o2 v2
      obtain ⟨S2, L2⟩ := env H2 o2
      refine s_X2_countAllowed_32 L2 S2.1 ⟨fun _ => ?_, fun c => absurd c (by omega)⟩
      have p0 : pcI 0 = 0 := by decide
      have sum : ∀ F : Int → Int, wS (hg H2 (p + 16)) F 0 N = F 0 := by
        intro F
        rw [wS_head (by omega), v2 0 (by omega) (by omega), if_pos rfl, Int.one_mul]
        have z : wS (hg H2 (p + 16)) F (0 + 1) N = 0 := by
          show sm _ _ = 0
          rw [sm_const (c := 0) (fun t ht => by
            by_cases ct : (0 : Int) + 1 ≤ t
            · rw [if_pos ct, v2 t (by omega) (by omega), if_neg (by omega), Int.zero_mul]
            · rw [if_neg ct])]
          omega
        omega
      refine main 0 (Nat.zero_le _) H2 o2 (fun t a1 a2 => ?_) ?_ ?_
      · rw [v2 t a1 a2]; split <;> omega
      · rw [show ((0 : Nat) : Int) = 0 from rfl, sum]
        unfold cF
        rw [p0, show ((m : Int) - 0).toNat = m by omega]
      · rw [show ((0 : Nat) : Int) = 0 from rfl, sum]
        unfold gF
        rw [p0, show ((m : Int) - 0).toNat = m by omega]
        exact Int.le_refl _
  have start := init 0 (Nat.zero_le _) H1 w1 (fun t a1 a2 => by omega)
  refine ⟨L1, S1.1, y, rfl, fun c => ?_, fun c => ?_⟩
  · have e7 : m = 7 := by omega
    have : pw 7 - 1 = (N : Int) - 1 := by rw [← eall, e7]; rfl
    rw [this]
    refine ⟨by omega, ?_⟩
    rw [e7] at start
    exact start
  · have em : (m : Int) = y := by omega
    rw [← em, eall]
    refine ⟨by omega, by omega, ?_⟩
    rw [em]
    rw [em] at start
    exact start
end
