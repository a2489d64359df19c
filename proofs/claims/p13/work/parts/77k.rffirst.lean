/-! the first states; entry -/
section RFc
variable {n0 : Nat} {P : APD} {E : ADD}
theorem jr_entry {a b : Int32} (h : IR RF n0 P E) : BR RF n0 P id (fX10_entry a b P.2) (fX11_entry a b E) := by
  have q3 : 0 ≤ (P.2.1 2 10).toInt ∧ (P.2.1 2 10).toInt ≤ 400 := h.1.2.1.2.2.2.1
  have n := h.nowF.1
  have a2 : P.2.1 2 10 = E.1 8 0 := n.1.2.1.trans mB8
  refine h.askE (fun _ => Pu.fx oX_entry) (fun q => oM_entry q) ((bX_entry q3.2).mono (fun r _ k => ?_)) (bM_entry h.1.2.2.1.qm)
  rw [k, a2]
  by_cases hc : (0 ≤ a.toInt ∧ a.toInt < (E.1 8 0).toInt) ∧ 0 ≤ b.toInt ∧ b.toInt ≤ 3
  · rw [if_pos hc, if_pos hc]
    have ea := cl_i hc.1.1
    have eb := cl_i hc.2.1
    rw [a2] at q3
    obtain ⟨b1, b2, b3, b4⟩ := n.2.1 a.toNatClampNeg (by omega)
    by_cases h0 : b.toInt = 0
    · rw [if_pos h0, show 4 * a.toNatClampNeg + b.toNatClampNeg = 4 * a.toNatClampNeg by omega]
      exact b1
    · by_cases h1 : b.toInt = 1
      · rw [if_neg h0, if_pos h1, show b.toNatClampNeg = 1 by omega]
        exact b2
      · by_cases h2 : b.toInt = 2
        · rw [if_neg h0, if_neg h1, if_pos h2, show b.toNatClampNeg = 2 by omega]
          exact b3
        · rw [if_neg h0, if_neg h1, if_neg h2, show b.toNatClampNeg = 3 by omega]
          exact b4
  · rw [if_neg hc, if_neg hc]
end RFc
theorem rf_first (n0 n1 : Nat) : RF (slX (xB n0).2 1) (slM (m0 n1).2 0) := by
  refine RF.to.mpr ⟨RBk.to.mp (rb_first n0 n1), ⟨⟨?_, fun j hj => ?_⟩, ⟨?_, ?_⟩, ⟨?_, ?_, fun l hl => ?_⟩, ⟨?_, ?_, fun l hl => ?_⟩⟩, ?_, ?_, ?_, ?_, ?_⟩
  · rw [sm0 (by decide) (by decide), mI]
    show (xB n0).2.1 11 1 = _
    rw [xI]
    decide +kernel
  · show aB ((xB n0).2.1 12 j) = if j < 500 then (if (1 : Nat) = 1 then aB ((m0 n1).2.1 1 (500 * 0 + j)) else _) else 0
    rw [if_pos hj, if_pos rfl, xI, mI, opInt_0 xOps (by decide +kernel), opInt_0 mOps (by decide +kernel)]
  · rw [sm0 (by decide) (by decide), mI]
    show (xB n0).2.1 1 5 = _
    rw [xI]
    decide +kernel
  · rw [sm0 (by decide) (by decide), mI]
    show (xB n0).2.1 1 6 = _
    rw [xI]
    decide +kernel
  · rw [sm0 (by decide) (by decide), mI]
    show (xB n0).2.1 13 0 = _
    rw [xI]
    decide +kernel
  · show 0 ≤ ((xB n0).2.1 13 0).toInt ∧ ((xB n0).2.1 13 0).toInt ≤ 16
    rw [xI]
    decide +kernel
  · have hl : (l : Int) < ((xB n0).2.1 13 0).toInt := hl
    have z : (xB n0).2.1 13 0 = 0 := by rw [xI]; decide +kernel
    rw [z, ti_0] at hl
    omega
  · rw [sm0 (by decide) (by decide), mI]
    show (xB n0).2.1 22 0 = _
    rw [xI]
    decide +kernel
  · show 0 ≤ ((xB n0).2.1 22 0).toInt ∧ ((xB n0).2.1 22 0).toInt ≤ 16
    rw [xI]
    decide +kernel
  · have hl : (l : Int) < ((xB n0).2.1 22 0).toInt := hl
    have z : (xB n0).2.1 22 0 = 0 := by rw [xI]; decide +kernel
    rw [z, ti_0] at hl
    omega
  · rw [sm0 (by decide) (by decide), mI]
    show (xB n0).2.1 31 0 = _
    rw [xI]
    decide +kernel
  · rw [sm0 (by decide) (by decide), mI]
    show (xB n0).2.1 31 1 = _
    rw [xI]
    decide +kernel
  · rw [sm0 (by decide) (by decide), mI]
    show (xB n0).2.1 31 2 = _
    rw [xI]
    decide +kernel
  · rw [sm0 (by decide) (by decide), mI]
    show (xB n0).2.1 31 3 = _
    rw [xI]
    decide +kernel
  · rw [sm0 (by decide) (by decide), mI]
    show (xB n0).2.1 31 4 = _
    rw [xI]
    decide +kernel
