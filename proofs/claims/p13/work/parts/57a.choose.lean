/-! choose, both sides -/
section CH
variable {D E : ADD}
abbrev ChOK (y z m : Int32) : Prop := (-3000 ≤ y.toInt ∧ y.toInt ≤ z.toInt ∧ z.toInt ≤ 1900) ∧ 0 ≤ m.toInt ∧ m.toInt ≤ 2
theorem tX10_choose {a b y z m : Int32} : Wp (fX10_choose a b y z m D) (fun r D1 => if ChOK y z m then r = 1 ∧ (∀ c, c ≠ 31 → D1.1 c = D.1 c) ∧ D1.2 = D.2 ∧ D1.1 31 0 = a &&& 63 ∧ D1.1 31 1 = b &&& 31 ∧ D1.1 31 2 = y ∧ D1.1 31 3 = z ∧ D1.1 31 4 = m else r = 0 ∧ D1 = D) := by
  unfold fX10_choose
  refine Wp.bind (P := fun r D1 => if ChOK y z m then r = 1 ∧ (∀ c, c ≠ 31 → D1.1 c = D.1 c) ∧ D1.2 = D.2 ∧ D1.1 31 0 = a &&& 63 ∧ D1.1 31 1 = b &&& 31 ∧ D1.1 31 2 = y ∧ D1.1 31 3 = z ∧ D1.1 31 4 = m else r = 0 ∧ D1 = D) ?_ (fun x D1 q => Wp.z ?_ (Wp.ret q))
  · unfold fX1_change
    have e1 : (1900 : Int32).toInt = 1900 := by decide
    have e2 : (2 : Int32).toInt = 2 := by decide
    refine Wp.lets (Wp.ilt (fun h => Wp.ret ?_) (fun h => Wp.ilt (fun h2 => Wp.ret ?_) (fun h2 => Wp.ilt (fun h3 => Wp.ret ?_) (fun h3 => Wp.ilt (fun h4 => Wp.ret ?_) (fun h4 => Wp.ile (fun h5 => ?_) (fun h5 => Wp.ret ?_))))))
    · rw [tn_3000] at h
      rw [if_neg (by omega)]; exact ⟨rfl, rfl⟩
    · rw [if_neg (by omega)]; exact ⟨rfl, rfl⟩
    · rw [if_neg (by omega)]; exact ⟨rfl, rfl⟩
    · rw [ti_0] at h4
      rw [if_neg (by omega)]; exact ⟨rfl, rfl⟩
    · rw [tn_3000] at h
      rw [ti_0] at h4
      refine Wp.lets (Wp.lets (Wp.lets (Wp.lets (Wp.lets (Wp.ret ?_)))))
      rw [if_pos (by omega)]
      refine ⟨rfl, fun c hc => ?_, rfl, rfl, rfl, rfl, rfl, rfl⟩
      funext k
      simp [aSI, hc]
    · rw [if_neg (by omega)]; exact ⟨rfl, rfl⟩
  · by_cases h : ChOK y z m
    · rw [if_pos h] at q; exact Or.inr q.1
    · rw [if_neg h] at q; exact Or.inl q.1
theorem tM_choose {a b y z m : Int32} : Wp (fX11_choose a b y z m E) (fun r D1 => if ChOK y z m then r = 1 ∧ (∀ c, c ≠ 0 → c ≠ 11 → c ≠ 12 → c ≠ 13 → c ≠ 14 → D1.1 c = E.1 c) ∧ D1.2 = E.2 ∧ (∀ i, D1.1 11 i = if i = 0 then a else E.1 11 i) ∧ (∀ i, D1.1 12 i = if i = 0 then b else E.1 12 i) ∧ (∀ i, D1.1 13 i = if i = 1 then z else if i = 0 then y else E.1 13 i) ∧ (∀ i, D1.1 14 i = if i = 0 then m else E.1 14 i) else r = 0 ∧ SmM E D1) := by
  unfold fX11_choose
  have L1 : (1900 : Int32).toInt = 1900 := by decide
  have L2 : (2 : Int32).toInt = 2 := by decide
  have L0 : (0 : Int32).toInt = 0 := by decide
  refine Wp.lets (Wp.bindE (eM_is _ _ _ _) (Wp.lets ?_))
  rw [tn_3000]
  by_cases h1 : -3000 ≤ y.toInt ∧ y.toInt ≤ (1900 : Int32).toInt
  · rw [if_pos h1]
    refine Wp.neg (by decide) (Wp.bindE (eM_is _ _ _ _) ?_)
    by_cases h2 : y.toInt ≤ z.toInt ∧ z.toInt ≤ (1900 : Int32).toInt
    · rw [if_pos h2]
      refine Wp.neg (by decide) (Wp.bindE (eM_is _ _ _ _) ?_)
      by_cases h3 : (0 : Int32).toInt ≤ m.toInt ∧ m.toInt ≤ (2 : Int32).toInt
      · rw [if_pos h3]
        refine Wp.neg (by decide) (Wp.idd (by decide) (Wp.lets (Wp.idd (by decide) (Wp.lets (Wp.idd (by decide) (Wp.lets (Wp.idd (by decide) (Wp.lets (Wp.idd (by decide) (Wp.lets (Wp.ret ?_)))))))))))
        rw [if_pos (by omega)]
        have c1 : (1 : Int32).toNatClampNeg = 1 := by decide
        simp only [cl_0, c1]
        refine ⟨trivial, fun c c0 c11 c12 c13 c14 => ?_, rfl, fun i => ?_, fun i => ?_, fun i => ?_, fun i => ?_⟩
        · funext k
          simp [aSI, c0, c11, c12, c13, c14]
        · simp [aSI]
        · simp [aSI]
        · simp [aSI]
        · simp [aSI]
      · rw [if_neg h3]
        refine Wp.pos rfl (Wp.ret ?_)
        rw [if_neg (by omega)]; exact ⟨rfl, SmM.code⟩
    · rw [if_neg h2]
      refine Wp.pos rfl (Wp.ret ?_)
      rw [if_neg (by omega)]; exact ⟨rfl, SmM.code⟩
  · rw [if_neg h1]
    refine Wp.pos rfl (Wp.ret ?_)
    rw [if_neg (by omega)]; exact ⟨rfl, SmM.code⟩
end CH
