section P2
variable {D E : ADD}
theorem mLook {x : Int32} (hM : MFr E) : Wp (fX11_look (aSI E 0 0 x)) (fun _ D1 => D1 = aSI (aSI E 0 0 x) 0 41 0) := by
  obtain ⟨-, -, -, m5, m6, m7, m8, -⟩ := hM
  exact zM_look m7 m6 m5 m8
theorem m41 {F : ADD} : (aSI F 0 41 0).1 0 41 = 0 := rfl
theorem p1_11 (a b : Int32) (hX : XFr D) (hM : MFr E) : Bth (fX10_span a b D) (fX11_span a b E) := by
  refine both (-1) ?_ ?_
  · unfold fX10_span
    exact Wp.bindE (zX_takeAlone hX.2.1) (Wp.pos rfl (Wp.ret rfl))
  · unfold fX11_span
    exact Wp.lets (Wp.bindE (zM_isStone hM.2.2.2.1) (Wp.pos rfl (Wp.ret rfl)))
theorem p1_12 (a b c : Int32) (hX : XFr D) (hM : MFr E) : Bth (fX10_by a b c D) (fX11_by a b c E) := by
  refine both (-1) ?_ ?_
  · unfold fX10_by
    refine Wp.bindE (eX_isUnit b D) (Wp.lets ?_)
    by_cases h : 10 ≤ b.toInt ∧ b.toInt ≤ 2000
    · rw [if_pos h]
      exact Wp.neg (by decide) (Wp.bindE (zX_takeAlone hX.2.1) (Wp.pos rfl (Wp.ret rfl)))
    · rw [if_neg h]
      exact Wp.pos rfl (Wp.ret rfl)
  · unfold fX11_by
    exact Wp.lets (Wp.bindE (zM_isStone hM.2.2.2.1) (Wp.lets (Wp.pos rfl (Wp.ret rfl))))
theorem p1_13 (a : Int32) (hX : XFr D) (hM : MFr E) : Bth (fX10_score a D) (fX11_score a E) := by
  refine both (if 10 ≤ a.toInt ∧ a.toInt ≤ 2000 then 0 else -1000000000) ?_ ?_
  · unfold fX10_score
    refine Wp.bindE (eX_isUnit a D) ?_
    by_cases h : 10 ≤ a.toInt ∧ a.toInt ≤ 2000
    · rw [if_pos h, if_pos h]
      exact Wp.neg (by decide) (Wp.bindE (zX_gather hX.2.1) (Wp.bindE (zX_scoreBy rfl) (Wp.ret rfl)))
    · rw [if_neg h, if_neg h]
      exact Wp.pos rfl (Wp.ret rfl)
  · unfold fX11_score
    refine Wp.lets (Wp.bindE (eM_isUnit a _) ?_)
    by_cases h : 10 ≤ a.toInt ∧ a.toInt ≤ 2000
    · rw [if_pos h, if_pos h]
      refine Wp.neg (by decide) (Wp.bind (mLook hM) (fun _ F q => ?_))
      subst q
      exact Wp.bindE (zM_scoreOf rfl) (Wp.ret rfl)
    · rw [if_neg h, if_neg h]
      exact Wp.pos rfl (Wp.ret rfl)
theorem p1_14 (a b : Int32) (hX : XFr D) (hM : MFr E) : Bth (fX10_best a b D) (fX11_best a b E) := by
  have e3 : (300 : Int32).toInt = 300 := by decide
  refine both (-1) ?_ ?_
  · unfold fX10_best
    refine Wp.bindE (eX_isRange a b 300 D) (Wp.lets ?_)
    rw [e3]
    by_cases h : UR a b 300
    · rw [if_pos h]
      exact Wp.neg (by decide) (Wp.bindE (zX_bestAmong hX.2.1) (Wp.ret rfl))
    · rw [if_neg h]
      exact Wp.pos rfl (Wp.ret rfl)
  · unfold fX11_best
    refine Wp.lets (Wp.bindE (eM_areUnits a b _) ?_)
    by_cases h : UR a b 300
    · rw [if_pos h]
      refine Wp.neg (by decide) (Wp.bind (mLook hM) (fun _ F q => ?_))
      subst q
      exact Wp.bindE (zM_those rfl) (Wp.lets (Wp.pos (by decide) (Wp.ret rfl)))
    · rw [if_neg h]
      exact Wp.pos rfl (Wp.ret rfl)
theorem p1_15 (a b c : Int32) (hX : XFr D) (hM : MFr E) : Bth (fX10_peak a b c D) (fX11_peak a b c E) := by
  have e3 : (300 : Int32).toInt = 300 := by decide
  refine both (-1) ?_ ?_
  · unfold fX10_peak
    refine Wp.bindE (eX_isRange a b 300 D) (Wp.lets ?_)
    rw [e3]
    by_cases h : UR a b 300
    · rw [if_pos h]
      exact Wp.neg (by decide) (Wp.bindE (zX_gather hX.2.1) (Wp.pos rfl (Wp.ret rfl)))
    · rw [if_neg h]
      exact Wp.pos rfl (Wp.ret rfl)
  · unfold fX11_peak
    refine Wp.lets (Wp.bindE (eM_areUnits a b _) ?_)
    by_cases h : UR a b 300
    · rw [if_pos h]
      refine Wp.neg (by decide) (Wp.bind (mLook hM) (fun _ F q => ?_))
      subst q
      exact Wp.bindE (zM_those rfl) (Wp.lets (Wp.pos rfl (Wp.ret rfl)))
    · rw [if_neg h]
      exact Wp.pos rfl (Wp.ret rfl)
theorem p1_16 (a b : Int32) (hX : XFr D) (hM : MFr E) : Bth (fX10_pair a b D) (fX11_pair a b E) := by
  refine both (-1) ?_ ?_
  · unfold fX10_pair
    refine Wp.bindE (eX_isRange a b 40 D) (Wp.lets ?_)
    by_cases h : UR a b (40 : Int32).toInt
    · rw [if_pos h]
      exact Wp.neg (by decide) (Wp.ite (fun _ => Wp.ret rfl) (fun _ => Wp.bindE (zX_gather hX.2.1) (Wp.pos rfl (Wp.ret rfl))))
    · rw [if_neg h]
      exact Wp.pos rfl (Wp.ret rfl)
  · unfold fX11_pair
    refine Wp.lets (Wp.bindE (eM_areUnits a b _) (Wp.lets ?_))
    by_cases h : UR a b 300
    · rw [if_pos h]
      refine Wp.neg (by decide) (Wp.ite (fun _ => Wp.ret rfl) (fun _ => Wp.ite (fun _ => Wp.bind (mLook hM) (fun _ F q => ?_)) (fun _ => Wp.ret rfl)))
      subst q
      exact Wp.bindE (zM_those rfl) (Wp.pos rfl (Wp.ret rfl))
    · rw [if_neg h]
      exact Wp.pos rfl (Wp.ret rfl)
theorem p1_17 (a b : Int32) (hX : XFr D) (hM : MFr E) : Bth (fX10_sum a b D) (fX11_sum a b E) := by
  refine both (if (10 ≤ a.toInt ∧ a.toInt ≤ 2000) ∧ (10 ≤ b.toInt ∧ b.toInt ≤ 2000) ∧ a < b then 0 else -1000000000000) ?_ ?_
  · unfold fX10_sum
    refine Wp.bindE (eX_isUnit a D) (Wp.lets ?_)
    by_cases h : 10 ≤ a.toInt ∧ a.toInt ≤ 2000
    · rw [if_pos h]
      refine Wp.neg (by decide) (Wp.bindE (eX_isUnit b D) ?_)
      by_cases h2 : 10 ≤ b.toInt ∧ b.toInt ≤ 2000
      · rw [if_pos h2]
        refine Wp.neg (by decide) (Wp.ite (fun h3 => ?_) (fun h3 => Wp.ret ?_))
        · rw [if_pos ⟨h, h2, h3⟩]
          exact Wp.bindE (zX_gather hX.2.1) (Wp.bindE (zX_sumOfTwo rfl) (Wp.ret rfl))
        · rw [if_neg (fun q => h3 q.2.2)]
      · rw [if_neg h2]
        exact Wp.pos rfl (Wp.ret (by rw [if_neg (fun q => h2 q.2.1)]))
    · rw [if_neg h]
      exact Wp.pos rfl (Wp.ret (by rw [if_neg (fun q => h q.1)]))
  · unfold fX11_sum
    refine Wp.lets (Wp.bindE (eM_isUnit a _) (Wp.lets ?_))
    by_cases h : 10 ≤ a.toInt ∧ a.toInt ≤ 2000
    · rw [if_pos h]
      refine Wp.neg (by decide) (Wp.bindE (eM_isUnit b _) ?_)
      by_cases h2 : 10 ≤ b.toInt ∧ b.toInt ≤ 2000
      · rw [if_pos h2]
        refine Wp.neg (by decide) (Wp.ite (fun h3 => Wp.bind (mLook hM) (fun _ F q => ?_)) (fun h3 => Wp.ret ?_))
        · subst q
          rw [if_pos ⟨h, h2, h3⟩]
          exact Wp.bindE (zM_sumOf rfl) (Wp.ret rfl)
        · rw [if_neg (fun q => h3 q.2.2)]
      · rw [if_neg h2]
        exact Wp.pos rfl (Wp.ret (by rw [if_neg (fun q => h2 q.2.1)]))
    · rw [if_neg h]
      exact Wp.pos rfl (Wp.ret (by rw [if_neg (fun q => h q.1)]))
theorem p1_18 (a : Int32) (hX : XFr D) (hM : MFr E) : Bth (fX10_chance a D) (fX11_chance a E) := by
  refine both (if 10 ≤ a.toInt ∧ a.toInt ≤ 2000 then (sL pB 0 0 33).toInt32 else -1) ?_ ?_
  · unfold fX10_chance
    refine Wp.bindE (eX_isUnit a D) ?_
    by_cases h : 10 ≤ a.toInt ∧ a.toInt ≤ 2000
    · rw [if_pos h, if_pos h]
      exact Wp.neg (by decide) (Wp.bindE (zX_gather hX.2.1) (Wp.bindE (zX_nearBy rfl) (Wp.bind (zX_ofNear rfl) (fun r D1 q => Wp.ret q.2))))
    · rw [if_neg h, if_neg h]
      exact Wp.pos rfl (Wp.ret rfl)
  · unfold fX11_chance
    refine Wp.lets (Wp.bindE (eM_isUnit a _) ?_)
    by_cases h : 10 ≤ a.toInt ∧ a.toInt ≤ 2000
    · rw [if_pos h, if_pos h]
      refine Wp.neg (by decide) (Wp.bind (mLook hM) (fun _ F q => ?_))
      subst q
      exact Wp.bind (zM_chanceOf rfl) (fun r D1 q => Wp.ret (by rw [q.2]))
    · rw [if_neg h, if_neg h]
      exact Wp.pos rfl (Wp.ret rfl)
theorem zM_proof {u a b : Int32} {F : ADD} (h : F.1 0 41 = 0) (hU : UR a b 300) : Wp (fX11_findProof u a b F) (fun _ D1 => ∀ c, c ≠ 0 → c < 30 → D1.1 c = F.1 c) := by
  unfold fX11_findProof
  refine Wp.bindE (zM_those h) (Wp.bind (zM_chanceOf h) (fun ch D2 q2 => Wp.lets (Wp.lets (Wp.lets ?_))))
  obtain ⟨q2, -⟩ := q2
  rw [aFix_go]
  unfold lX11_findProof_33
  refine Wp.pos (by rw [q2, h]; decide) (Wp.letK (fun j => ∀ x6, Wp (j x6 D2) (fun _ D1 => ∀ c, c ≠ 0 → c < 30 → D1.1 c = F.1 c)) (fun x6 => ?_) (fun j K => Wp.lets ?_))
  · refine Wp.bind (tM_findScores hU (fun u2 D' e _ _ => ?_)) (fun _ D5 q5 => Wp.idd (by decide) (Wp.lets (Wp.bindE (zM_nearOf ?_) (Wp.idd (by decide) (Wp.lets (Wp.lets (Wp.pos rfl (Wp.idd (by decide) (Wp.lets (Wp.bind tM_thousands (fun x9 D11 q11 => Wp.idd (by decide) (Wp.leti (fun D12 e12 => ?_)))))))))))))
    · exact ⟨0, D', zM_scoreOf (by rw [e 0 (by decide), q2]; exact h), rfl⟩
    · show D5.1 0 41 = 0
      rw [q5.1 0 (by decide), q2]
      exact h
    · subst q11
      have hD : ∀ c, c < 30 → D12.1 c = F.1 c := by
        intro c hc
        rw [← q2, ← q5.1 c (by omega), e12]
        funext z
        have : c ≠ 30 := by omega
        simp [aSI, this]
      refine Wp.letK (fun j => ∀ x10, Wp (j x10 D12) (fun _ D1 => ∀ c, c ≠ 0 → c < 30 → D1.1 c = F.1 c)) (fun x10 => ?_) (fun j hj => Wp.ite (fun _ => hj _) (fun _ => hj _))
      refine Wp.bind tM_thousands (fun x11 D14 q14 => ?_)
      subst q14
      refine Wp.idd (by decide) (Wp.lets (Wp.lets (Wp.pos rfl (Wp.idd (by decide) (Wp.lets (Wp.idd (by decide) (Wp.lets (Wp.idd (by decide) (Wp.lets (Wp.ret (fun c _ hc => ?_)))))))))))
      rw [← hD c hc]
      funext z
      have : c ≠ 30 := by omega
      simp [aSI, this]
  refine Wp.fix2 (fun n y x D' => (0 ≤ x.toInt ∧ x.toInt ≤ 6 ∧ 6 - x.toInt < (n : Int)) ∧ D' = D2) ?_ ?_ aFuel 1000000 _ _ _ (Nat.le_refl _) ⟨⟨by decide, by decide, by decide⟩, rfl⟩
  · intro n g hg y x D' hI
    obtain ⟨⟨i0, i1, i2⟩, i3⟩ := hI
    subst i3
    have e6 : (6 : Int32).toInt = 6 := by decide
    unfold lX11_findProof_113
    refine Wp.ile (fun _ => K y) (fun k => Wp.lets (Wp.lets (hg _ _ _ ⟨?_, rfl⟩)))
    have c2 : (x + 1).toInt = x.toInt + 1 := ti_add rfl ti_1 (by omega) (by omega)
    omega
  · intro y x D' hI
    obtain ⟨⟨i0, i1, i2⟩, -⟩ := hI
    omega
theorem p1_19 (u a b : Int32) (hX : XFr D) (hM : MFr E) : Bth (fX10_verdict u a b D) (fX11_verdict u a b E) := by
  have e3 : (300 : Int32).toInt = 300 := by decide
  refine both (if UR a b 300 ∧ a.toInt ≤ u.toInt ∧ u.toInt ≤ b.toInt then 2 else -1) ?_ ?_
  · by_cases h : UR a b 300
    · refine (zX_verdict hX.2.1 hX.2.2.2.2.2.2.2.1 h).mono (fun r D1 q => ?_)
      rw [q]
      by_cases h2 : a.toInt ≤ u.toInt ∧ u.toInt ≤ b.toInt
      · rw [if_pos h2, if_pos ⟨h, h2⟩]
      · rw [if_neg h2, if_neg (fun q => h2 q.2)]
    · rw [if_neg (fun q => h q.1)]
      unfold fX10_verdict
      refine Wp.bindE (eX_isRange a b 300 D) (Wp.lets ?_)
      rw [e3, if_neg h]
      exact Wp.pos rfl (Wp.ret rfl)
  · unfold fX11_verdict
    refine Wp.lets (Wp.bindE (eM_areUnits a b _) (Wp.lets ?_))
    by_cases h : UR a b 300
    · rw [if_pos h]
      refine Wp.neg (by decide) (Wp.bindE (eM_is u a b _) ?_)
      by_cases h2 : a.toInt ≤ u.toInt ∧ u.toInt ≤ b.toInt
      · rw [if_pos h2]
        refine Wp.neg (by decide) (Wp.bind (mLook hM) (fun _ F q => ?_))
        subst q
        refine Wp.bind (zM_proof rfl h) (fun _ D6 q6 => Wp.lets (Wp.lets ?_))
        rw [aFix_go]
        unfold lX11_verdict_38
        refine Wp.idd (by decide) (Wp.pos ?_ (Wp.ret (by rw [if_pos ⟨h, h2⟩])))
        rw [q6 15 (by decide) (by decide)]
        show E.1 15 1 ≤ 0
        rw [hM.2.2.2.2.2.2.2.2.1]
        decide
      · rw [if_neg h2]
        exact Wp.pos rfl (Wp.ret (by rw [if_neg (fun q => h2 q.2)]))
    · rw [if_neg h]
      exact Wp.pos rfl (Wp.ret (by rw [if_neg (fun q => h q.1)]))
end P2
