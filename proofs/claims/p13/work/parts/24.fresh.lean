/-! the fresh state -/
section FR
variable {D : ADD}
theorem zX_gather {k v : Int32} (h : D.1 2 9 = 0) : fX4_gather k v D = some (0, aSI D 43 0 0) := by
  simp [fX4_gather, aLet, aFix_go, lX4_gather_8, aSI, h]
theorem zX_scoreBy {a : Int32} (h : D.1 43 0 = 0) : fX4_scoreBy a D = some (0, D) := by
  simp [fX4_scoreBy, aLet, aFix_go, lX4_scoreBy_4, h]
theorem zX_nearBy {a : Int32} (h : D.1 43 0 = 0) : fX4_nearBy a D = some (0, D) := by
  simp [fX4_nearBy, aLet, aFix_go, lX4_nearBy_4, h]
theorem zX_marksNear {a : Int32} (h : D.1 43 0 = 0) : fX4_marksNear a D = some (0, D) := by
  simp [fX4_marksNear, aLet, aFix_go, lX4_marksNear_4, h]
theorem tJ_bits {a : Int32} : Wp (fJ6_bitCount_0f7a4 a D) (fun _ D1 => D1 = D) := ⟨_, _, rfl, rfl⟩
theorem zX_townsNear {a : Int32} (h : D.1 43 0 = 0) : Wp (fX4_townsNear a D) (fun _ D1 => D1 = D) := by
  unfold fX4_townsNear
  refine Wp.lets (Wp.lets ?_)
  rw [aFix_go]
  unfold lX4_townsNear_4
  rw [h, if_pos (by decide)]
  refine Wp.bind tJ_bits (fun x D1 q => ?_)
  exact Wp.ret q
theorem zX_shortsBy {a : Int32} (h : D.1 43 0 = 0) : fX4_shortsBy a D = some (0, D) := by
  simp [fX4_shortsBy, aLet, aFix_go, lX4_shortsBy_4, h]
theorem zX_doublesBy {a : Int32} (h : D.1 43 0 = 0) : fX4_doublesBy a D = some (0, D) := by
  simp [fX4_doublesBy, aLet, aFix_go, lX4_doublesBy_4, h]
theorem zX_greatest {a : Int32} (h : D.1 43 0 = 0) : fX4_greatestTimes a D = some (0, D) := by
  simp [fX4_greatestTimes, aLet, aFix_go, lX4_greatestTimes_4, h]
theorem zX_lacksBy {a : Int32} (h : D.1 43 0 = 0) : fX4_lacksBy a D = some (0, D) := by
  unfold fX4_lacksBy
  rw [zX_greatest h]
  simp only [aBind, aLet, aFix_go]
  unfold lX4_lacksBy_11
  rw [if_neg (by decide), if_pos (by decide)]
theorem zX_sumOfTwo {a b : Int32} (h : D.1 43 0 = 0) : fX7_sumOfTwo a b D = some (0, D) := by
  simp [fX7_sumOfTwo, aLet, aFix_go, lX7_sumOfTwo_6, h]
theorem zX_indexOf {a : Int32} (h : D.1 43 0 = 0) : fX4_indexOf a D = some (-1, D) := by
  simp [fX4_indexOf, aLet, aFix_go, lX4_indexOf_2, h]
theorem zX_takeAlone {a : Int32} (h : D.1 2 9 = 0) : fX4_takeAlone a D = some (0, aSI D 43 0 0) := by
  unfold fX4_takeAlone
  simp only [aLet]
  by_cases ha : a < 0
  · rw [if_pos ha]
  · rw [if_neg ha, if_neg]
    show ¬ a < D.1 2 9
    rw [h]
    exact ha
theorem zX_bestAmong {k v a b : Int32} (h : D.1 2 9 = 0) : fX10_bestAmong k v a b D = some (-1, aSI D 43 0 0) := by
  unfold fX10_bestAmong
  rw [zX_gather h]
  rfl
/-- by chance, of none -/
theorem zX_ofNear {u : Int32} (h : D.1 43 0 = 0) : Wp (fX3_ofNear u 0 D) (fun r D1 => D1.1 = D.1 ∧ r = (sL pB 0 0 33).toInt32) := by
  unfold fX3_ofNear
  refine Wp.bind tX3_begin (fun x D1 q => Wp.lets (Wp.lets ?_))
  rw [aFix_go]
  unfold lX3_ofNear_7
  rw [q.1, h, if_pos (by decide)]
  refine Wp.bind (tX3_from (by decide) (by decide)) (fun r D2 q2 => ?_)
  obtain ⟨rfl, q2⟩ := q2
  refine Wp.ret ⟨q.1, ?_⟩
  rw [q2]
  exact congrArg _ (sL_congr 33 0 0 (fun j _ hj => q.2 j (by omega)))
theorem zX_ofShort : Wp (fX3_ofShort 0 0 D) (fun r D1 => D1.1 = D.1 ∧ r = (sL pB 0 0 33).toInt32) := by
  unfold fX3_ofShort
  refine Wp.bind tX3_begin (fun x D1 q => Wp.lets (Wp.lets ?_))
  rw [aFix_go]
  unfold lX3_ofShort_6
  rw [if_pos (by decide)]
  refine Wp.bind (tX3_from (by decide) (by decide)) (fun r D2 q2 => ?_)
  obtain ⟨rfl, q2⟩ := q2
  refine Wp.ret ⟨q.1, ?_⟩
  rw [q2]
  exact congrArg _ (sL_congr 33 0 0 (fun j _ hj => q.2 j (by omega)))
theorem zX_weigh {u n : Int32} (h : D.1 43 0 = 0) (hS : SR D) : Wp (fX10_weighEvidence u n D) (fun _ D1 => ∀ a, a < 50 → D1.1 a = D.1 a) := by
  unfold fX10_weighEvidence
  refine Wp.lets (Wp.lets (Wp.bindE (zX_nearBy h) (Wp.bind (zX_ofNear h) (fun r D2 q => ?_))))
  refine Wp.lets (Wp.lets (Wp.idd (by decide) (Wp.lets (Wp.idd (by decide) (Wp.lets (Wp.lets ?_))))))
  rw [h]
  rw [if_pos (by simp)]
  refine Wp.idd (by decide) (Wp.lets (Wp.nzl (by decide) (Wp.idd (by decide) (Wp.lets (Wp.nzl (by decide) (Wp.idd (by decide) (Wp.lets ?_)))))))
  refine Wp.bind (tX7_placeOf ?_) (fun x8 D9 q9 => ?_)
  · simp only [aSI, q.1]
    exact hS
  · have e9 : ∀ a, a < 50 → D9.1 a = D.1 a := by
      intro a ha
      rw [q9.1 a (by omega) (by omega)]
      funext k
      have h57 : a ≠ 57 := by omega
      simp [aSI, h57, q.1]
    refine Wp.idd (by decide) (Wp.lets (Wp.bind (zX_townsNear ?_) (fun x9 D11 q11 => ?_)))
    · show D9.1 43 0 = 0
      rw [e9 43 (by decide)]
      exact h
    · subst q11
      refine Wp.idd (by decide) (Wp.lets (Wp.bindE (zX_marksNear ?_) (Wp.idd (by decide) (Wp.lets (Wp.ret (fun a ha => ?_))))))
      · show D9.1 43 0 = 0
        rw [e9 43 (by decide)]
        exact h
      · rw [← e9 a ha]
        funext k
        have h57 : a ≠ 57 := by omega
        simp [aSI, h57]
theorem zX_verdict {u a b : Int32} (h : D.1 2 9 = 0) (h22 : D.1 22 0 = 0) (hU : UR a b 300) : Wp (fX10_verdict u a b D) (fun r _ => r = if a.toInt ≤ u.toInt ∧ u.toInt ≤ b.toInt then 2 else -1) := by
  unfold fX10_verdict
  have e3 : (300 : Int32).toInt = 300 := by decide
  refine Wp.bindE (eX_isRange a b 300 D) (Wp.lets ?_)
  rw [e3, if_pos hU, if_neg (by decide)]
  refine Wp.ilt (fun k => Wp.ret ?_) (fun k => Wp.ile (fun k2 => ?_) (fun k2 => Wp.ret ?_))
  · rw [if_neg (by omega)]
  · rw [if_pos ⟨k, k2⟩]
    refine Wp.bindE (zX_gather h) (Wp.bind (tX7_scoreUnits hU (fun u2 D' e _ _ => ?_)) (fun x D4 q => ?_))
    · exact ⟨0, D', zX_scoreBy (by rw [e 43 (by decide) (by decide)]; rfl), rfl⟩
    · obtain ⟨q1, q2, q3, q4⟩ := q
      obtain ⟨u0, u1, u2, u3⟩ := hU
      refine Wp.bind (zX_weigh (by rw [q1 43 (by decide) (by decide)]; rfl) ⟨by rw [q3]; omega, by rw [q3]; omega, by rw [q3, q4]; omega, by rw [q3, q4]; omega⟩) (fun y D5 q5 => Wp.lets (Wp.lets ?_))
      rw [aFix_go]
      unfold lX10_verdict_72
      have e22 : D5.1 22 0 = 0 := by
        rw [q5 22 (by decide), q1 22 (by decide) (by decide)]
        exact h22
      rw [e22, if_pos (by decide)]
      exact Wp.ret rfl
  · rw [if_neg (by omega)]
/-! the reference -/
theorem in04 {α : Type} {K : Option α} : aIn (0 : Int32) 4 K = K := rfl
theorem in08 {α : Type} {K : Option α} : aIn (0 : Int32) 8 K = K := rfl
theorem in18 {α : Type} {K : Option α} : aIn (1 : Int32) 8 K = K := rfl
theorem zM_day (h7 : D.1 7 0 = -1) (h6 : D.1 6 0 = 0) : fX11_dayOfView D = some (0, D) := by
  simp [fX11_dayOfView, aLet, in04, cl_0, h7, h6]
theorem zM_look (h7 : D.1 7 0 = -1) (h6 : D.1 6 0 = 0) (h5 : D.1 5 0 = 0) (h8 : D.1 8 0 = 0) : Wp (fX11_look D) (fun _ D1 => D1 = aSI D 0 41 0) := by
  unfold fX11_look
  refine Wp.bindE (zM_day h7 h6) (Wp.idd (by decide) ?_)
  rw [cl_0, h5]
  refine Wp.lets (Wp.lets (Wp.lets ?_))
  rw [aFix_go]
  unfold lX11_look_17
  refine Wp.pos (show (0 : Int32) ≤ 0 by decide) ?_
  refine Wp.lets (Wp.lets ?_)
  rw [aFix_go]
  unfold lX11_look_203
  refine Wp.idd (by decide) ?_
  refine Wp.pos (show D.1 8 0 ≤ 0 by rw [h8]; decide) ?_
  refine Wp.lets (Wp.lets ?_)
  rw [aFix_go]
  unfold lX11_look_288
  refine Wp.pos (show (0 : Int32) ≤ 0 by decide) ?_
  exact Wp.ret rfl
theorem zM_those (h : D.1 0 41 = 0) : fX11_those D = some (0, D) := by
  simp [fX11_those, aLet, aFix_go, lX11_those_4, h]
theorem zM_scoreOf {u : Int32} (h : D.1 0 41 = 0) : fX11_scoreOf u D = some (0, D) := by
  simp [fX11_scoreOf, aLet, aFix_go, lX11_scoreOf_4, h]
theorem zM_nearOf {u : Int32} (h : D.1 0 41 = 0) : fX11_nearOf u D = some (0, D) := by
  simp [fX11_nearOf, aLet, aFix_go, lX11_nearOf_4, h]
theorem zM_sumOf {u v : Int32} (h : D.1 0 41 = 0) : fX11_sumOf u v D = some (0, D) := by
  simp [fX11_sumOf, aLet, aFix_go, lX11_sumOf_5, h]
theorem zM_keep (h : D.1 0 41 = 0) : fX11_keepChosen D = some ((), D) := by
  simp [fX11_keepChosen, aLet, aFix_go, lX11_keepChosen_2, h]
theorem zM_bestOfTown {t a b : Int32} (h : D.1 0 41 = 0) : Wp (fX11_bestOfTown t a b D) (fun r D1 => r = -1 ∧ D1 = D) := by
  unfold fX11_bestOfTown
  refine Wp.lets (Wp.lets ?_)
  rw [aFix_go]
  unfold lX11_bestOfTown_3
  rw [h, if_pos (by decide)]
  refine Wp.bindE (zM_those h) (Wp.lets ?_)
  rw [if_pos rfl]
  exact Wp.ret ⟨rfl, rfl⟩
theorem zM_chanceOf {u : Int32} (h : D.1 0 41 = 0) : Wp (fX11_chanceOf u D) (fun r D1 => D1.1 = D.1 ∧ r = sL pB 0 0 33) := by
  unfold fX11_chanceOf
  refine Wp.bind tM_begin (fun x D1 q => Wp.lets (Wp.lets ?_))
  rw [aFix_go]
  unfold lX11_chanceOf_6
  rw [q.1, h, if_pos (by decide)]
  refine Wp.bindE (zM_nearOf (by rw [q.1]; exact h)) (Wp.bind (tM_from (by decide) (by decide)) (fun r D2 q2 => ?_))
  obtain ⟨rfl, q2⟩ := q2
  refine Wp.ret ⟨q.1, ?_⟩
  rw [q2]
  exact sL_congr 33 0 0 (fun j _ hj => q.2.2 j (by omega))
theorem tM_thousands {v : Int64} : Wp (fX11_thousands v D) (fun _ D1 => D1 = D) := by
  unfold fX11_thousands
  refine Wp.nzl (by decide) (Wp.lets (Wp.lets (Wp.ite (fun _ => ?_) (fun _ => ?_)))) <;> exact Wp.ret rfl
theorem tM_findScores {a b : Int32} (h : UR a b 300) (hS : ∀ (u : Int32) (D' : ADD), (∀ c, c ≠ 36 → D'.1 c = D.1 c) → a.toInt ≤ u.toInt → u.toInt ≤ b.toInt → Wp (fX11_scoreOf u D') (fun _ D1 => D1 = D')) : Wp (fX11_findScores a b D) (fun _ D1 => (∀ c, c ≠ 36 → D1.1 c = D.1 c) ∧ D1.2 = D.2) := by
  obtain ⟨h0, h1, h2, h3⟩ := h
  unfold fX11_findScores
  refine Wp.lets (Wp.lets ?_)
  refine Wp.fix1 (fun n x D' => (a.toInt ≤ x.toInt ∧ x.toInt ≤ b.toInt + 1 ∧ b.toInt + 1 - x.toInt < (n : Int)) ∧ (∀ c, c ≠ 36 → D'.1 c = D.1 c) ∧ D'.2 = D.2) ?_ ?_ aFuel 1000000 _ _ (Nat.le_refl _) ⟨⟨by omega, by omega, by omega⟩, fun _ _ => rfl, rfl⟩
  · intro n g hg x D' hI
    obtain ⟨⟨i0, i1, i2⟩, i3, i4⟩ := hI
    have c2 : (x + 1).toInt = x.toInt + 1 := ti_add rfl ti_1 (by omega) (by omega)
    have c3 : (x - a).toInt = x.toInt - a.toInt := ti_sub rfl rfl (by omega) (by omega)
    unfold lX11_findScores_2
    refine Wp.ilt (fun _ => Wp.ret ⟨i3, i4⟩) (fun k => Wp.bind (hS x D' i3 i0 k) (fun z D1 q => ?_))
    subst q
    refine Wp.idx (i_in (by omega) (by omega)) (Wp.lets (Wp.lets (hg _ _ ⟨⟨by omega, by omega, by omega⟩, fun c u => ?_, i4⟩)))
    funext k
    simp [aSI, u, i3 c u]
  · intro x D' hI
    obtain ⟨⟨i0, i1, i2⟩, -⟩ := hI
    omega
end FR
