/-! small exact answers -/
theorem eq_Bo {f : Option (Int32 × ADD)} {D : ADD} {C : Prop} [Decidable C] (h : Wp f (fun x D1 => D1 = D ∧ Bo x C)) : f = some (if C then 1 else 0, D) := by
  obtain ⟨x, D1, e, rfl, h⟩ := h
  rw [e]
  split
  · rw [h.t ‹_›]
  · rw [h.f ‹_›]
theorem eX_isUnit (a : Int32) (D : ADD) : fX10_isUnit a D = some (if 10 ≤ a.toInt ∧ a.toInt ≤ 2000 then 1 else 0, D) := by
  refine eq_Bo ?_
  unfold fX10_isUnit
  refine Wp.lets (Wp.lets (Wp.ilt (fun h => ?_) (fun h => Wp.ilt (fun g => ?_) (fun g => ?_)))) <;>
    first | exact Wp.z (Or.inl rfl) (Wp.ret ⟨rfl, Or.inr ⟨rfl, by simp only [Int32.reduceToInt, tn_1, tn_3000] at *; omega⟩⟩) | exact Wp.z (Or.inr rfl) (Wp.ret ⟨rfl, Or.inl ⟨rfl, by simp only [Int32.reduceToInt, tn_1, tn_3000] at *; omega⟩⟩)
theorem eM_is (a l u : Int32) (D : ADD) : fX11_is a l u D = some (if l.toInt ≤ a.toInt ∧ a.toInt ≤ u.toInt then 1 else 0, D) := by
  refine eq_Bo ?_
  unfold fX11_is
  refine Wp.lets (Wp.lets (Wp.ilt (fun h => ?_) (fun h => Wp.ilt (fun g => ?_) (fun g => ?_)))) <;>
    first | exact Wp.z (Or.inl rfl) (Wp.ret ⟨rfl, Or.inr ⟨rfl, by omega⟩⟩) | exact Wp.z (Or.inr rfl) (Wp.ret ⟨rfl, Or.inl ⟨rfl, by omega⟩⟩)
theorem eM_isUnit (a : Int32) (D : ADD) : fX11_isUnit a D = some (if 10 ≤ a.toInt ∧ a.toInt ≤ 2000 then 1 else 0, D) := by
  unfold fX11_isUnit
  rw [eM_is]
  simp only [Int32.reduceToInt, aBind, aZ]
  split <;> simp
theorem eX_isTown (a : Int32) (D : ADD) : fX10_isTown a D = some (if 0 ≤ a.toInt ∧ a.toInt ≤ 5 then 1 else 0, D) := by
  refine eq_Bo ?_
  unfold fX10_isTown
  refine Wp.lets (Wp.lets (Wp.ilt (fun h => ?_) (fun h => Wp.ile (fun g => ?_) (fun g => ?_)))) <;>
    first | exact Wp.z (Or.inl rfl) (Wp.ret ⟨rfl, Or.inr ⟨rfl, by simp only [Int32.reduceToInt, tn_1, tn_3000] at *; omega⟩⟩) | exact Wp.z (Or.inr rfl) (Wp.ret ⟨rfl, Or.inl ⟨rfl, by simp only [Int32.reduceToInt, tn_1, tn_3000] at *; omega⟩⟩)
/-- units a to b, at most r apart -/
abbrev UR (a b : Int32) (r : Int) : Prop := 10 ≤ a.toInt ∧ a.toInt ≤ b.toInt ∧ b.toInt ≤ 2000 ∧ b.toInt - a.toInt ≤ r
theorem eX_isRange (a b r : Int32) (D : ADD) : fX10_isRange a b r D = some (if UR a b r.toInt then 1 else 0, D) := by
  refine eq_Bo ?_
  unfold fX10_isRange UR
  refine Wp.bindE (eX_isUnit a D) (Wp.lets (Wp.lets ?_))
  by_cases h1 : 10 ≤ a.toInt ∧ a.toInt ≤ 2000
  · rw [if_pos h1, if_neg (by decide)]
    refine Wp.bindE (eX_isUnit b D) ?_
    by_cases h2 : 10 ≤ b.toInt ∧ b.toInt ≤ 2000
    · rw [if_pos h2, if_neg (by decide)]
      have e : (b - a).toInt = b.toInt - a.toInt := ti_sub rfl rfl (by omega) (by omega)
      refine Wp.ilt (fun h => ?_) (fun h => Wp.ilt (fun g => ?_) (fun g => ?_)) <;>
        first | exact Wp.z (Or.inl rfl) (Wp.ret ⟨rfl, Or.inr ⟨rfl, by omega⟩⟩) | exact Wp.z (Or.inr rfl) (Wp.ret ⟨rfl, Or.inl ⟨rfl, by omega⟩⟩)
    · rw [if_neg h2, if_pos rfl]
      exact Wp.z (Or.inl rfl) (Wp.ret ⟨rfl, Or.inr ⟨rfl, by omega⟩⟩)
  · rw [if_neg h1, if_pos rfl]
    exact Wp.z (Or.inl rfl) (Wp.ret ⟨rfl, Or.inr ⟨rfl, by omega⟩⟩)
theorem eM_areUnits (a b : Int32) (D : ADD) : fX11_areUnits a b D = some (if UR a b 300 then 1 else 0, D) := by
  refine eq_Bo ?_
  unfold fX11_areUnits UR
  refine Wp.bindE (eM_isUnit a D) (Wp.lets (Wp.lets ?_))
  by_cases h1 : 10 ≤ a.toInt ∧ a.toInt ≤ 2000
  · rw [if_pos h1, if_neg (by decide)]
    refine Wp.bindE (eM_is b a 2000 D) ?_
    have e2 : (2000 : Int32).toInt = 2000 := by decide
    have e3 : (300 : Int32).toInt = 300 := by decide
    by_cases h2 : a.toInt ≤ b.toInt ∧ b.toInt ≤ (2000 : Int32).toInt
    · rw [if_pos h2, if_neg (by decide)]
      have e : (b - a).toInt = b.toInt - a.toInt := ti_sub rfl rfl (by omega) (by omega)
      refine Wp.ilt (fun g => ?_) (fun g => ?_) <;>
        first | exact Wp.z (Or.inl rfl) (Wp.ret ⟨rfl, Or.inr ⟨rfl, by omega⟩⟩) | exact Wp.z (Or.inr rfl) (Wp.ret ⟨rfl, Or.inl ⟨rfl, by omega⟩⟩)
    · rw [if_neg h2, if_pos rfl]
      exact Wp.z (Or.inl rfl) (Wp.ret ⟨rfl, Or.inr ⟨rfl, by omega⟩⟩)
  · rw [if_neg h1, if_pos rfl]
    exact Wp.z (Or.inl rfl) (Wp.ret ⟨rfl, Or.inr ⟨rfl, by omega⟩⟩)
