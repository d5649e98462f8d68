/-! the class: the allowed sequences -/
section
variable {l : Launch} {G : GT} {H : AH} {x : Int} {M : Row} {d : Nat}
theorem k_allowedSequences {r : Int} (hG : GX l G) (hR : RX H x M) (hd : 7 ≤ d := by omega) : CL l G mX7_allowedSequences d 4 24 [vR x, vI r] H (xP x M (1 - bi (decide (rl M r))) 1 (vI (vAllS M r)) H) := by
  obtain ⟨d, rfl⟩ : ∃ k, d = k + 1 := ⟨d - 1, by omega⟩
  refine CL.of (by decide) rfl (Nat.le_of_ble_eq_true rfl) (s_X7_allowedSequences_0 hG hR.sk hR.la ⟨fun c => xP.id hR (ans_f c).symm, fun c => CL.mono (k_countAllowed hR.sk hR.pl (by omega)) ?_⟩)
  rintro v H1 ⟨rfl, q⟩
  obtain ⟨R1, o1⟩ := hR.pla q
  exact ⟨R1.la, R1.sk, _, rfl, by rw [ans_t c, vAllS, if_pos c], o1, R1⟩
end
