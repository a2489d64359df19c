/-! the tape -/
theorem tn_8 : (-8 : Int32).toInt = -8 := by decide
/-- a number's bytes, the highest first -/
def byO (a : Int32) (i : Nat) : Int32 := (a >>> ((24 - 8 * Int32.ofNat i) &&& 31)).toInt8.toInt32
theorem tX9_add {a : Int32} {D : ADD} (h0 : 0 ≤ (D.1 11 1).toInt) (h1 : (D.1 11 1).toInt + 4 ≤ 500) : Wp (fX9_add a D) (fun _ D1 => (∀ c, c ≠ 11 → c ≠ 12 → D1.1 c = D.1 c) ∧ D1.2 = D.2 ∧ (∀ i, i ≠ 1 → D1.1 11 i = D.1 11 i) ∧ (D1.1 11 1).toInt = (D.1 11 1).toInt + 4 ∧ ∀ j : Nat, D1.1 12 j = if (D.1 11 1).toInt ≤ j ∧ (j : Int) < (D.1 11 1).toInt + 4 then byO a (j - (D.1 11 1).toNatClampNeg) else D.1 12 j) := by
  unfold fX9_add
  refine Wp.lets (Wp.lets ?_)
  have el := cl_i h0
  have e500 : (500 : Int32).toInt = 500 := by decide
  refine Wp.fix1 (fun n x D' => ∃ t : Nat, x = 24 - 8 * Int32.ofNat t ∧ x.toInt = 24 - 8 * (t : Int) ∧ t ≤ 4 ∧ 4 - (t : Int) < (n : Int) ∧ (∀ c, c ≠ 11 → c ≠ 12 → D'.1 c = D.1 c) ∧ D'.2 = D.2 ∧ (∀ i, i ≠ 1 → D'.1 11 i = D.1 11 i) ∧ (D'.1 11 1).toInt = (D.1 11 1).toInt + t ∧ ∀ j : Nat, D'.1 12 j = if (D.1 11 1).toInt ≤ j ∧ (j : Int) < (D.1 11 1).toInt + t then byO a (j - (D.1 11 1).toNatClampNeg) else D.1 12 j) ?_ ?_ aFuel 1000000 _ _ (Nat.le_refl _) ⟨0, by decide, by decide, by decide, by decide, fun _ _ _ => rfl, rfl, fun _ _ => rfl, by omega, fun j => ?_⟩
  · intro n g hg x D' hI
    obtain ⟨t, hx0, hx, ht, hn, i1, i2, i3, i4, i5⟩ := hI
    unfold lX9_add_3
    refine Wp.ilt (fun h => ?_) (fun h => Wp.ile (fun h2 => absurd h2 (by rw [ti_0] at h; omega)) (fun h2 => ?_))
    · rw [ti_0] at h
      have ht4 : t = 4 := by omega
      subst ht4
      exact Wp.ret ⟨i1, i2, i3, by omega, i5⟩
    · rw [ti_0] at h
      have el2 := cl_i (x := D'.1 11 1) (by omega)
      have ea : (D'.1 11 1 + 1).toInt = (D'.1 11 1).toInt + 1 := ti_add rfl ti_1 (by omega) (by omega)
      have ex : (x + -8).toInt = x.toInt + -8 := ti_add rfl tn_8 (by omega) (by omega)
      refine Wp.idx (i_in (by omega) (by omega)) (Wp.lets (Wp.lets (Wp.lets (hg _ _ ⟨t + 1, ?_, by omega, by omega, by omega, fun c u v => ?_, i2, fun i hi => ?_, ?_, fun j => ?_⟩))))
      · apply ti_eq
        have e8 : (8 * Int32.ofNat (t + 1)).toInt = 8 * ((t : Int) + 1) := ti_mul (by decide) (by rw [show Int32.ofNat (t + 1) = nI (t + 1) from rfl, ti_nI (by omega)]; omega) (by omega) (by omega)
        rw [ti_sub (show (24 : Int32).toInt = 24 by decide) e8 (by omega) (by omega)]
        omega
      · funext z
        simp [aSI, u, v, i1 c u v]
      · simp [aSI, hi, i3 i hi]
      · show (D'.1 11 1 + 1).toInt = _
        omega
      · have hb : (a >>> (x &&& 31)).toInt8.toInt32 = byO a t := by rw [hx0]; rfl
        rw [hb]
        simp only [aSI, i5]
        by_cases hj : j = (D'.1 11 1).toNatClampNeg
        · have hjt : j - (D.1 11 1).toNatClampNeg = t := by omega
          simp only [show ((12 : Nat) = 11) = False by simp, false_and, if_false, true_and, if_pos hj]
          rw [if_pos ⟨by omega, by omega⟩, hjt]
        · simp only [show ((12 : Nat) = 11) = False by simp, false_and, if_false, true_and, if_neg hj]
          by_cases hj2 : (D.1 11 1).toInt ≤ j ∧ (j : Int) < (D.1 11 1).toInt + t
          · rw [if_pos hj2, if_pos ⟨by omega, by omega⟩]
          · rw [if_neg hj2, if_neg (by omega)]
  · intro x D' hI
    obtain ⟨t, hx0, hx, ht, hn, -⟩ := hI
    omega
  · rw [if_neg (by omega)]
theorem tM_four {a : Int32} {D : ADD} (h0 : 0 ≤ (D.1 2 0).toInt) (h1 : (D.1 2 0).toInt + 4 ≤ 500) : Wp (fX11_four a D) (fun _ D1 => (∀ c, c ≠ 1 → c ≠ 2 → D1.1 c = D.1 c) ∧ D1.2 = D.2 ∧ (∀ i, i ≠ 0 → D1.1 2 i = D.1 2 i) ∧ (D1.1 2 0).toInt = (D.1 2 0).toInt + 4 ∧ ∀ j : Nat, D1.1 1 j = if (D.1 2 0).toInt ≤ j ∧ (j : Int) < (D.1 2 0).toInt + 4 then byO a (j - (D.1 2 0).toNatClampNeg) else D.1 1 j) := by
  unfold fX11_four
  refine Wp.lets (Wp.lets ?_)
  have el := cl_i h0
  refine Wp.fix1 (fun n x D' => ∃ t : Nat, x = 24 - 8 * Int32.ofNat t ∧ x.toInt = 24 - 8 * (t : Int) ∧ t ≤ 4 ∧ 4 - (t : Int) < (n : Int) ∧ (∀ c, c ≠ 1 → c ≠ 2 → D'.1 c = D.1 c) ∧ D'.2 = D.2 ∧ (∀ i, i ≠ 0 → D'.1 2 i = D.1 2 i) ∧ (D'.1 2 0).toInt = (D.1 2 0).toInt + t ∧ ∀ j : Nat, D'.1 1 j = if (D.1 2 0).toInt ≤ j ∧ (j : Int) < (D.1 2 0).toInt + t then byO a (j - (D.1 2 0).toNatClampNeg) else D.1 1 j) ?_ ?_ aFuel 1000000 _ _ (Nat.le_refl _) ⟨0, by decide, by decide, by decide, by decide, fun _ _ _ => rfl, rfl, fun _ _ => rfl, by omega, fun j => ?_⟩
  · intro n g hg x D' hI
    obtain ⟨t, hx0, hx, ht, hn, i1, i2, i3, i4, i5⟩ := hI
    unfold lX11_four_3
    simp only [cl_0]
    refine Wp.ilt (fun h => ?_) (fun h => ?_)
    · rw [ti_0] at h
      have ht4 : t = 4 := by omega
      subst ht4
      exact Wp.ret ⟨i1, i2, i3, by omega, i5⟩
    · rw [ti_0] at h
      have el2 := cl_i (x := D'.1 2 0) (by omega)
      have ea : (D'.1 2 0 + 1).toInt = (D'.1 2 0).toInt + 1 := ti_add rfl ti_1 (by omega) (by omega)
      have ex : (x + -8).toInt = x.toInt + -8 := ti_add rfl tn_8 (by omega) (by omega)
      refine Wp.idd (by decide) (Wp.idx (i_in (by omega) (by omega)) (Wp.lets (Wp.idd (by decide) (Wp.idd (by decide) (Wp.lets (Wp.lets (hg _ _ ⟨t + 1, ?_, by omega, by omega, by omega, fun c u v => ?_, i2, fun i hi => ?_, ?_, fun j => ?_⟩)))))))
      · apply ti_eq
        have e8 : (8 * Int32.ofNat (t + 1)).toInt = 8 * ((t : Int) + 1) := ti_mul (by decide) (by rw [show Int32.ofNat (t + 1) = nI (t + 1) from rfl, ti_nI (by omega)]; omega) (by omega) (by omega)
        rw [ti_sub (show (24 : Int32).toInt = 24 by decide) e8 (by omega) (by omega)]
        omega
      · funext z
        simp [aSI, u, v, i1 c u v]
      · simp [aSI, hi, i3 i hi]
      · show (D'.1 2 0 + 1).toInt = _
        omega
      · have hb : (a >>> (x &&& 31)).toInt8.toInt32 = byO a t := by rw [hx0]; rfl
        rw [hb]
        simp only [aSI, i5]
        by_cases hj : j = (D'.1 2 0).toNatClampNeg
        · have hjt : j - (D.1 2 0).toNatClampNeg = t := by omega
          simp only [show ((1 : Nat) = 2) = False by simp, false_and, if_false, true_and, if_pos hj]
          rw [if_pos ⟨by omega, by omega⟩, hjt]
        · simp only [show ((1 : Nat) = 2) = False by simp, false_and, if_false, true_and, if_neg hj]
          by_cases hj2 : (D.1 2 0).toInt ≤ j ∧ (j : Int) < (D.1 2 0).toInt + t
          · rw [if_pos hj2, if_pos ⟨by omega, by omega⟩]
          · rw [if_neg hj2, if_neg (by omega)]
  · intro x D' hI
    obtain ⟨t, hx0, hx, ht, hn, -⟩ := hI
    omega
  · rw [if_neg (by omega)]
/-! an empty tape -/
theorem zX_byteAt {a : Int32} {D : ADD} (h : D.1 11 1 = 0) : fX9_byteAt a D = some (-1, D) := by
  unfold fX9_byteAt
  simp only [aLet, h]
  by_cases h1 : a < 0
  · rw [if_pos h1]
  · rw [if_neg h1, if_pos (Int32.not_lt.mp h1)]
theorem zX_advance {D : ADD} (h : D.1 11 1 = 0) (h7 : D.1 33 7 = 0) : Wp (fX5_advance D) (fun _ D1 => (∀ c, c ≠ 33 → D1.1 c = D.1 c) ∧ (∀ i, i ≠ 5 → i ≠ 6 → i ≠ 7 → D1.1 33 i = D.1 33 i) ∧ D1.1 33 5 = 0) := by
  unfold fX5_advance
  rw [h7]
  refine Wp.lets (Wp.lets (Wp.lets ?_))
  have e11 : (aSI D 33 6 0).1 11 1 = 0 := h
  rw [aFix_go]
  unfold lX5_advance_8
  refine Wp.neg (show ¬ (500 : Int32) ≤ 0 by decide) (Wp.bindE (zX_byteAt e11) (Wp.bindE (x := 0) rfl (Wp.pos rfl (Wp.bindE (zX_byteAt e11) (Wp.lets ?_)))))
  refine Wp.bindE (x := 0) rfl (Wp.lets (Wp.lets (Wp.lets (Wp.pos rfl (Wp.bindE (x := 0) rfl (Wp.lets (Wp.lets (Wp.pos rfl (Wp.pos rfl (Wp.lets (Wp.ret ⟨fun c hc => ?_, fun i h5 h6 h7 => ?_, rfl⟩)))))))))))
  · funext z
    simp [aSI, hc]
  · simp [aSI, h5, h6, h7]
theorem tX6_copyFrom {o p : Nat} {D : ADD} : Wp (fX6_copyFrom o p D) (fun _ D1 => D1.1 o 0 = D.1 p 0) := by
  unfold fX6_copyFrom
  refine Wp.lets (Wp.lets (Wp.lets (Wp.lets (Wp.lets (Wp.lets (Wp.lets (Wp.lets (Wp.lets (Wp.ret ?_)))))))))
  simp [aSI, aCp]
theorem zX_text {a : Int32} {D : ADD} (ha : a = 0 ∨ a = 1) (h : D.1 11 1 = 0) : Wp (fX10_text a D) (fun r _ => r = 0) := by
  unfold fX10_text
  refine Wp.bind (P := fun r D1 => r = 1 ∧ D1.1 34 0 = 0 ∧ D1.1 11 1 = 0) ?_ (fun x D1 q => ?_)
  · unfold fX5_read
    refine Wp.z ha (Wp.lets (Wp.lets (Wp.lets (Wp.lets (Wp.lets (Wp.bind (zX_advance h rfl) (fun _ D6 q => Wp.lets (Wp.lets ?_))))))))
    obtain ⟨q1, q2, q3⟩ := q
    rw [aFix_go]
    unfold lX5_read_34
    refine Wp.pos q3 (Wp.lets (Wp.lets (Wp.pos ?_ (Wp.z (Or.inr rfl) (Wp.ret ⟨rfl, rfl, ?_⟩)))))
    · show D6.1 33 1 = 0
      rw [q2 1 (by decide) (by decide) (by decide)]
      rfl
    · show D6.1 11 1 = 0
      rw [q1 11 (by decide)]
      exact h
  · obtain ⟨rfl, q1, q2⟩ := q
    refine Wp.lets (Wp.lets (Wp.bind (P := fun _ D4 => D4.1 34 0 = 0) ?_ (fun y D4 p => Wp.neg (by decide) (Wp.ite (fun _ => ?_) (fun _ => ?_)))))
    · unfold fX9_cut
      refine Wp.lets (Wp.neg (by decide) (Wp.pos (show (0 : Int32) ≤ D1.1 11 1 by rw [q2]; decide) (Wp.lets (Wp.ret q1))))
    · exact Wp.bind tX6_copyFrom (fun _ D5 k => Wp.ret (by rw [k, p]))
    · exact Wp.bind tX6_copyFrom (fun _ D5 k => Wp.ret (by rw [k, p]))
theorem zM_see {D : ADD} (h : D.1 0 24 = 0) (h2 : D.1 0 23 = 0) : fX11_see D = some (-1, D) := by
  unfold fX11_see
  simp only [aLet, h, h2]
  rw [if_pos (by decide)]
theorem zM_next {D : ADD} (h : D.1 0 24 = 0) (h2 : D.1 0 23 = 0) : Wp (fX11_next D) (fun _ D1 => (∀ c, c ≠ 0 → D1.1 c = D.1 c) ∧ (∀ i, i ≠ 25 → i ≠ 26 → i ≠ 27 → D1.1 0 i = D.1 0 i) ∧ D1.1 0 26 = 0) := by
  unfold fX11_next
  refine Wp.lets ?_
  rw [aFix_go]
  unfold lX11_next_0
  refine Wp.bindE (zM_see h h2) (Wp.lets (Wp.neg (by decide) (Wp.bindE (zM_see h h2) (Wp.neg (by decide) (Wp.lets (Wp.bindE (zM_see h h2) (Wp.lets (Wp.lets (Wp.lets (Wp.neg (by decide) (Wp.lets (Wp.ret ⟨fun c hc => ?_, fun i h5 h6 h7 => ?_, rfl⟩))))))))))))
  · funext z
    simp [aSI, aSL, hc]
  · simp [aSI, aSL, h5, h6, h7]
theorem zM_text {a : Int32} {D : ADD} (ha : a = 0 ∨ a = 1) (h : D.1 2 0 = 0) : Wp (fX11_text a D) (fun r _ => r = 0) := by
  unfold fX11_text
  simp only [cl_0]
  refine Wp.lets (Wp.idd (by decide) (Wp.lets (Wp.idd (by decide) (Wp.lets (Wp.idd (by decide) (Wp.lets (Wp.idd (by decide) (Wp.lets (Wp.lets (Wp.lets (Wp.lets (Wp.lets (Wp.bind (zM_next h rfl) (fun _ D1 q => Wp.lets (Wp.lets ?_)))))))))))))))
  obtain ⟨q1, q2, q3⟩ := q
  rw [aFix_go]
  unfold lX11_text_62
  have e30 : D1.1 0 30 = 0 := q2 30 (by decide) (by decide) (by decide)
  have e32 : D1.1 0 32 = 0 := q2 32 (by decide) (by decide) (by decide)
  refine Wp.neg (by decide) (Wp.pos q3 (Wp.lets (Wp.neg (by decide) (Wp.pos (by rw [e30]; decide) (Wp.lets ?_)))))
  rcases ha with rfl | rfl
  · refine Wp.pos rfl (Wp.lets (Wp.pos rfl (Wp.idd (by decide) (Wp.lets (Wp.lets (Wp.lets ?_))))))
    rw [aFix_go]
    unfold lX11_text_166
    exact Wp.pos (show D1.1 0 32 ≤ 0 by rw [e32]; decide) (Wp.ret e32)
  · refine Wp.neg (by decide) (Wp.lets (Wp.neg (by decide) (Wp.idd (by decide) (Wp.lets (Wp.lets (Wp.lets ?_))))))
    rw [aFix_go]
    unfold lX11_text_166
    exact Wp.pos (show D1.1 0 32 ≤ 0 by rw [e32]; decide) (Wp.ret e32)
