/-! the first constructor, and references set down -/
theorem wo_28 : Cond.instanceMethod Lib.objectInit ∈ lw_good := w_mem 28 (by decide +kernel) (by decide +kernel)
theorem wo_29 : Cond.code Lib.objectInit ⟨#[0xb1]⟩ 1 none ∈ lw_good := w_mem 29 (by decide +kernel) (by decide +kernel)
section
variable {l : Launch} {G : GT} {M : MI} {d mc ms : Nat} {Q : AV → AH → Prop} {pc : Nat} {ls st : List AV} {cs sl : Nat} {H : AH}
theorem a_obj {idx : Nat} {a : Int} (hd : decode M.2.1 pc = .ok (.invokespecial idx, 3)) (hw : Cond.methodLink M.1.cls idx Lib.objectInit ∈ lw_good) (ha : a ≠ 0) (hdd : 1 ≤ d) (hca : aCat st ≤ 8) (kk : AW l G M d mc ms Q (pc + 3) ls st cs sl H) : AW l G M d mc ms Q pc ls (vR a :: st) cs sl H := by
  intro p e s m args below meth c z D ca ws0 C ws Hp locs lsR stR hR hE hS hL hT
  obtain ⟨_, rR, e0, hx, hT0⟩ := rvs_cons hT
  subst e0
  have hts := C.2.2.2.2.2.2.1
  rcases rv_R hx with ⟨rfl, rfl⟩ | ⟨p9, q9, e9, rfl, hw9, rfl⟩
  · exact absurd rfl ha
  · refine W.objInit C.1 C.2.1 C.2.2.2.2.2.1 (hts _ hw) (hts _ wo_28) (hts _ wo_29) rfl ?_ rfl hd hdd ?_ (kk p e s m args below meth c z D ca ws0 C ws Hp locs lsR _ hR hE hS hL hT0)
    · obtain ⟨-, lv, h1, -⟩ := hL
      rw [C.2.2.1]
      exact h1.1
    · have := aCat_eq hT0
      show 2 * 0 + _ + 12 ≤ 64 * d
      omega
/-- references may be set down in a field of a reference's type -/
theorem ref_fits {ty : FieldType} (h : tgOf ty = 4) : ∀ (ws : va_W) (v : Value) (x : Int), rv ws v (4, x) → narrow ty v = v ∧ fits ty v = true := by
  intro ws v x hv
  rcases rv_R hv with ⟨rfl, -⟩ | ⟨p, q, e, rfl, -, -⟩
  · cases ty <;> first | exact ⟨rfl, rfl⟩ | exact absurd h (by decide)
  · cases ty <;> first | exact ⟨rfl, rfl⟩ | exact absurd h (by decide)
theorem a_putRF {idx ci k : Nat} {a x : Int} (hd : decode M.2.1 pc = .ok (.putfield idx, 3)) (hf : FPF M.1.cls idx ci k) (hini : M.1.name = "<init>") (ht : tgOf (aTy ci k) = 4) (hkd : hk H a = ci) (kk : AW l G M d mc ms Q (pc + 3) ls st cs sl (hs H a k x)) : AW l G M d mc ms Q pc ls (vR x :: vR a :: st) cs sl H :=
  a_putF hd hf hini ht (fun ws v hv => ref_fits ht ws v x hv) hkd kk
end
/-- kinds of new cells, and of those there were -/
theorem hk_new {H : AH} {k : Nat} {n b : Int} : (hnew H k n).2.1 b = if b = H.1 + 1 then (k, n) else H.2.1 b := rfl
theorem hg_new {H : AH} {k : Nat} {n b i : Int} : hg (hnew H k n) b i = if b = H.1 + 1 then 0 else hg H b i := rfl
theorem h1_new {H : AH} {k : Nat} {n : Int} : (hnew H k n).1 = H.1 + 1 := rfl
theorem h1_hs {H : AH} {a i x : Int} : (hs H a i x).1 = H.1 := rfl
