section
/-! the class's questions: never none, and nothing told is changed -/
def FX (D D1 : ADD) : Prop := ∀ c, (c < 43 ∨ 58 ≤ c) → D1.1 c = D.1 c
theorem FX.refl (D : ADD) : FX D D := fun _ _ => rfl
theorem FX.trans {D D1 D2 : ADD} (h : FX D D1) (k : FX D1 D2) : FX D D2 := fun c hc => (k c hc).trans (h c hc)
theorem FrP.fx {D D1 : ADD} (h : FrP D D1) : FX D D1 := fun c hc => h.1 c (by omega)
/-- what the class's questions ask of the state -/
def QX (D : ADD) : Prop := (0 ≤ (D.1 2 9).toInt ∧ (D.1 2 9).toInt ≤ 32) ∧ (D.1 13 0).toInt ≤ 16 ∧ (D.1 22 0).toInt ≤ 16
theorem QX.fx {D D1 : ADD} (h : QX D) (f : FX D D1) : QX D1 := by
  unfold QX
  rw [f 2 (by omega), f 13 (by omega), f 22 (by omega)]
  exact h
section XO
variable {D : ADD}
/-- a pile is laid -/
theorem tX4_ga {k v : Int32} (h : QX D) : Wp (fX4_gather k v D) (fun r D1 => r = D1.1 43 0 ∧ FX D D1 ∧ 0 ≤ (D1.1 43 0).toInt ∧ (D1.1 43 0).toInt ≤ 32) := by
  refine (tX4_gather (FrP.refl D) h.1 h.2.1).mono (fun r D1 q => ?_)
  obtain ⟨q1, q2, q3, q4, -⟩ := q
  exact ⟨q1, q2.fx, by omega, by omega⟩
/-- scores are laid -/
theorem tX7_su {a b : Int32} (hm : (D.1 43 0).toInt ≤ 32) (hU : UR a b 300) : Wp (fX7_scoreUnits a b D) (fun _ D1 => FX D D1 ∧ D1.1 43 0 = D.1 43 0 ∧ SR D1) := by
  refine (tX7_scoreUnits hU (fun u D' e _ _ => ?_)).mono (fun _ D1 q => ?_)
  · exact ⟨_, D', eX_scoreBy u (by rw [e 43 (by decide) (by decide)]; exact hm), rfl⟩
  · obtain ⟨q1, q2, q3, q4⟩ := q
    obtain ⟨u0, u1, u2, u3⟩ := hU
    exact ⟨fun c hc => q1 c (by omega) (by omega), by rw [q1 43 (by decide) (by decide)], by rw [q3]; omega, by rw [q3]; omega, by rw [q3, q4]; omega, by rw [q3, q4]; omega⟩
theorem oX_span {a b : Int32} (h : QX D) : Wp (fX10_span a b D) (fun _ D1 => FX D D1) := by
  unfold fX10_span
  refine Wp.bind (tX4_takeAlone h.1 h.2.1) (fun x D1 q => ?_)
  have f := q.1.fx
  refine Wp.ite (fun _ => Wp.ret f) (fun _ => Wp.tab3 (fun _ => Wp.idd (by decide) (Wp.ret f)) (fun _ => Wp.idd (by decide) (Wp.ret f)) (fun _ => Wp.bind tX1_takes (fun y D2 q2 => ?_)) (fun _ => Wp.ret f))
  obtain ⟨rfl, -⟩ := q2
  exact Wp.lets (Wp.ite (fun _ => Wp.ret f) (fun _ => Wp.ret f))
theorem oX_by {a b c : Int32} (h : QX D) : Wp (fX10_by a b c D) (fun _ D1 => FX D D1) := by
  unfold fX10_by
  refine Wp.bindE (eX_isUnit _ _) (Wp.lets ?_)
  by_cases hb : 10 ≤ b.toInt ∧ b.toInt ≤ 2000
  · rw [if_pos hb]
    refine Wp.neg (by decide) (Wp.bind (tX4_takeAlone h.1 h.2.1) (fun x D1 q => ?_))
    have f := q.1.fx
    exact Wp.ite (fun _ => Wp.ret f) (fun _ => Wp.tab4 (fun _ => Wp.bindE (eX_offOf _ _ _) (Wp.ret f)) (fun _ => Wp.bindE (eX_isNear _ _ _) (Wp.lets (Wp.ite (fun _ => Wp.ret f) (fun _ => Wp.ret f)))) (fun _ => Wp.bindE (eX_shortOf _ _ _ (by omega)) (Wp.ret f)) (fun _ => Wp.bindE (eX_timesOf _ _ _) (Wp.ret f)) (fun _ => Wp.ret f))
  · rw [if_neg hb]
    exact Wp.pos rfl (Wp.ret (FX.refl D))
theorem oX_score {a : Int32} (h : QX D) : Wp (fX10_score a D) (fun _ D1 => FX D D1) := by
  unfold fX10_score
  refine Wp.bindE (eX_isUnit _ _) (Wp.ite (fun _ => Wp.ret (FX.refl D)) (fun _ => Wp.bind (tX4_ga h) (fun x D1 q => ?_)))
  obtain ⟨-, f, m0, m1⟩ := q
  exact Wp.bindE (eX_scoreBy _ m1) (Wp.ret f)
theorem oX_bestAmong {k v a b : Int32} (h : QX D) (hU : UR a b 300) : Wp (fX10_bestAmong k v a b D) (fun _ D1 => FX D D1) := by
  unfold fX10_bestAmong
  refine Wp.bind (tX4_ga h) (fun x D1 q => ?_)
  obtain ⟨-, f, m0, m1⟩ := q
  refine Wp.ite (fun _ => Wp.ret f) (fun _ => Wp.bind (tX7_su m1 hU) (fun _ D2 q2 => Wp.bind (tX7_bestUnit q2.2.2) (fun y D3 q3 => ?_)))
  subst q3
  exact Wp.ret (f.trans q2.1)
theorem oX_best {a b : Int32} (h : QX D) : Wp (fX10_best a b D) (fun _ D1 => FX D D1) := by
  unfold fX10_best
  refine Wp.bindE (eX_isRange _ _ _ _) (Wp.lets ?_)
  by_cases hU : UR a b (300 : Int32).toInt
  · rw [if_pos hU]
    exact Wp.neg (by decide) (Wp.bind (oX_bestAmong h hU) (fun y D2 q2 => Wp.ret q2))
  · rw [if_neg hU]
    exact Wp.pos rfl (Wp.ret (FX.refl D))
theorem oX_peak {a b c : Int32} (h : QX D) : Wp (fX10_peak a b c D) (fun _ D1 => FX D D1) := by
  unfold fX10_peak
  refine Wp.bindE (eX_isRange _ _ _ _) (Wp.lets ?_)
  by_cases hU : UR a b (300 : Int32).toInt
  · rw [if_pos hU]
    refine Wp.neg (by decide) (Wp.bind (tX4_ga h) (fun x D1 q => ?_))
    obtain ⟨-, f, m0, m1⟩ := q
    exact Wp.ite (fun _ => Wp.ret f) (fun _ => Wp.bind (tX7_su m1 hU) (fun _ D2 q2 => Wp.bind (tX7_peakAt q2.2.2) (fun y D3 q3 => Wp.ret ((f.trans q2.1).trans (fun c hc => q3.1 c (by omega) (by omega))))))
  · rw [if_neg hU]
    exact Wp.pos rfl (Wp.ret (FX.refl D))
theorem oX_pair {a b : Int32} (h : QX D) : Wp (fX10_pair a b D) (fun _ D1 => FX D D1) := by
  unfold fX10_pair
  refine Wp.bindE (eX_isRange _ _ _ _) (Wp.lets ?_)
  by_cases hU : UR a b (40 : Int32).toInt
  · rw [if_pos hU]
    obtain ⟨u0, u1, u2, u3⟩ := hU
    refine Wp.neg (by decide) (Wp.ite (fun _ => Wp.ret (FX.refl D)) (fun _ => Wp.bind (tX4_ga h) (fun x D1 q => ?_)))
    obtain ⟨-, f, m0, m1⟩ := q
    exact Wp.ite (fun _ => Wp.ret f) (fun _ => Wp.bind (tX7_bestPair (by omega) (by omega) u1) (fun y D3 q3 => Wp.ret (f.trans (fun c hc => q3.1 c (by omega)))))
  · rw [if_neg hU]
    exact Wp.pos rfl (Wp.ret (FX.refl D))
theorem oX_sum {a b : Int32} (h : QX D) : Wp (fX10_sum a b D) (fun _ D1 => FX D D1) := by
  unfold fX10_sum
  refine Wp.bindE (eX_isUnit _ _) (Wp.lets (Wp.ite (fun _ => Wp.ret (FX.refl D)) (fun _ => Wp.bindE (eX_isUnit _ _) (Wp.ite (fun _ => Wp.ret (FX.refl D)) (fun _ => Wp.ite (fun _ => Wp.bind (tX4_ga h) (fun x D1 q => ?_)) (fun _ => Wp.ret (FX.refl D)))))))
  obtain ⟨-, f, m0, m1⟩ := q
  refine Wp.bind (tX7_sumOfTwo m1) (fun y D2 q2 => ?_)
  subst q2
  exact Wp.ret f
theorem oX_chance {a : Int32} (h : QX D) : Wp (fX10_chance a D) (fun _ D1 => FX D D1) := by
  unfold fX10_chance
  refine Wp.bindE (eX_isUnit _ _) ?_
  by_cases hb : 10 ≤ a.toInt ∧ a.toInt ≤ 2000
  · rw [if_pos hb]
    refine Wp.neg (by decide) (Wp.bind (tX4_ga h) (fun x D1 q => ?_))
    obtain ⟨-, f, m0, m1⟩ := q
    exact Wp.bindE (eX_nearBy _ m1) (Wp.bind (tX3_ofNear m1 (by omega)) (fun y D2 q2 => Wp.ret (fun c hc => by rw [q2]; exact f c hc)))
  · rw [if_neg hb]
    exact Wp.pos rfl (Wp.ret (FX.refl D))
theorem tX10_weigh {u n : Int32} (hm : (D.1 43 0).toInt ≤ 32) (hS : SR D) (hu : 1 ≤ u.toInt) : Wp (fX10_weighEvidence u n D) (fun _ D1 => ∀ c, (c < 50 ∨ 58 ≤ c) → D1.1 c = D.1 c) := by
  unfold fX10_weighEvidence
  refine Wp.lets (Wp.lets (Wp.bindE (eX_nearBy _ hm) (Wp.bind (tX3_ofNear hm hu) (fun r D2 q => ?_))))
  refine Wp.lets (Wp.lets (Wp.idd (by decide) (Wp.lets (Wp.idd (by decide) (Wp.leti (fun D4 e4 => ?_))))))
  have f4 : ∀ c, c ≠ 57 → D4.1 c = D.1 c := by
    intro c hc
    rw [e4, ← q]
    funext z
    simp [aSI, hc]
  refine Wp.letQ (fun Q j => ∀ x D5, (∀ c, c ≠ 57 → D5.1 c = D.1 c) → Wp (j x D5) Q) (fun x D5 f5 => ?_) (fun j K => Wp.ite (fun _ => K _ _ f4) (fun hx => Wp.bindE (eX_scoreBy _ (by rw [f4 43 (by decide)]; exact hm)) (Wp.nz hx (K _ _ f4))))
  refine Wp.idd (by decide) (Wp.lets (Wp.nzl (by decide) (Wp.idd (by decide) (Wp.lets (Wp.nzl (by decide) (Wp.idd (by decide) (Wp.leti (fun D8 e8 => ?_))))))))
  have f8 : ∀ c, c ≠ 57 → D8.1 c = D.1 c := by
    intro c hc
    rw [e8, ← f5 c hc]
    funext z
    simp [aSI, hc]
  refine Wp.bind (tX7_placeOf (hS.fr (by rw [f8 50 (by decide)]) (by rw [f8 50 (by decide)]))) (fun x8 D9 q9 => ?_)
  refine Wp.idd (by decide) (Wp.leti (fun D10 e10 => ?_))
  have f10 : ∀ c, (c < 50 ∨ 58 ≤ c) → D10.1 c = D.1 c := by
    intro c hc
    rw [e10, ← f8 c (by omega), ← q9.1 c (by omega) (by omega)]
    funext z
    have h57 : c ≠ 57 := by omega
    simp [aSI, h57]
  have m10 : (D10.1 43 0).toInt ≤ 32 := by rw [f10 43 (by omega)]; exact hm
  refine Wp.bind (tX4_townsNear m10) (fun x9 D11 q11 => ?_)
  subst q11
  refine Wp.idd (by decide) (Wp.leti (fun D12 e12 => ?_))
  have f12 : ∀ c, (c < 50 ∨ 58 ≤ c) → D12.1 c = D.1 c := by
    intro c hc
    rw [e12, ← f10 c hc]
    funext z
    have h57 : c ≠ 57 := by omega
    simp [aSI, h57]
  refine Wp.bindE (eX_marksNear _ (by rw [f12 43 (by omega)]; exact hm)) (Wp.idd (by decide) (Wp.lets (Wp.ret (fun c hc => ?_))))
  rw [← f12 c hc]
  funext z
  have h57 : c ≠ 57 := by omega
  simp [aSI, h57]
theorem oX_verdict {u a b : Int32} (h : QX D) : Wp (fX10_verdict u a b D) (fun _ D1 => FX D D1) := by
  unfold fX10_verdict
  refine Wp.bindE (eX_isRange _ _ _ _) (Wp.lets ?_)
  by_cases hU : UR a b (300 : Int32).toInt
  · rw [if_pos hU]
    refine Wp.neg (by decide) (Wp.ilt (fun _ => Wp.ret (FX.refl D)) (fun h1 => Wp.ile (fun _ => Wp.bind (tX4_ga h) (fun x D1 q => ?_)) (fun _ => Wp.ret (FX.refl D))))
    obtain ⟨-, f, m0, m1⟩ := q
    refine Wp.bind (tX7_su m1 hU) (fun _ D2 q2 => ?_)
    obtain ⟨g1, g2, g3⟩ := q2
    obtain ⟨u0, u1, u2, u3⟩ := hU
    refine Wp.bind (tX10_weigh (by rw [g2]; exact m1) g3 (by omega)) (fun _ D5 q5 => Wp.lets (Wp.lets ?_))
    have f5 : FX D D5 := (f.trans g1).trans (fun c hc => q5 c (by omega))
    have l5 : (D5.1 22 0).toInt ≤ 16 := (h.fx f5).2.2
    refine Wp.up1 (D := D5) 16 (by decide) (fun g x i0 k => ?_) (by decide) (by decide)
    unfold lX10_verdict_72
    refine Wp.ile (fun _ => Wp.ret f5) (fun h2 => Wp.bind tX6_holds (fun y D6 q6 => ?_))
    obtain ⟨rfl, -⟩ := q6
    exact Wp.ite (fun _ => Wp.lets (k (by omega))) (fun _ => Wp.bindE (eX_deedOf _ _ _) (Wp.ret f5))
  · rw [if_neg hU]
    exact Wp.pos rfl (Wp.ret (FX.refl D))
theorem oX_set {a b c : Int32} (h : QX D) : Wp (fX10_set a b c D) (fun _ D1 => FX D D1) := by
  unfold fX10_set
  refine Wp.lets (Wp.ite (fun _ => Wp.ret (FX.refl D)) (fun _ => Wp.ite (fun _ => Wp.ret (FX.refl D)) (fun _ => Wp.bindE (eX_isUnit _ _) (Wp.ite (fun _ => Wp.ret (FX.refl D)) (fun _ => Wp.bind (tX4_ga h) (fun x D1 q => ?_))))))
  obtain ⟨-, f, m0, m1⟩ := q
  exact Wp.tab4 (fun _ => Wp.ret f) (fun _ => Wp.bind (tX4_doublesBy m1) (fun y D2 q2 => by subst q2; exact Wp.ret f)) (fun _ => Wp.bind (tX4_lacksBy m1) (fun y D2 q2 => by subst q2; exact Wp.ret f)) (fun _ => Wp.bind (tX4_greatest m1) (fun y D2 q2 => by subst q2; exact Wp.ret f)) (fun _ => Wp.ret f)
theorem oX_rate {a b c d e : Int32} (h : QX D) : Wp (fX10_rate a b c d e D) (fun _ D1 => FX D D1) := by
  unfold fX10_rate
  refine Wp.bindE (eX_isTown _ _) (Wp.lets (Wp.ite (fun _ => Wp.ret (FX.refl D)) (fun _ => Wp.bindE (eX_isTown _ _) (Wp.ite (fun _ => Wp.ret (FX.refl D)) (fun _ => Wp.ite (fun _ => Wp.ret (FX.refl D)) (fun _ => Wp.ite (fun _ => Wp.ret (FX.refl D)) (fun _ => Wp.ite (fun _ => Wp.ret (FX.refl D)) (fun _ => Wp.bindE (eX_isRange _ _ _ _) ?_))))))))
  by_cases hU : UR c d (300 : Int32).toInt
  · rw [if_pos hU]
    refine Wp.neg (by decide) (Wp.bind (oX_bestAmong h hU) (fun y D2 q2 => Wp.bind (oX_bestAmong (h.fx q2) hU) (fun z D3 q3 => ?_)))
    have f := q2.trans q3
    refine Wp.lets (Wp.lets (Wp.ite (fun _ => Wp.ret f) (fun _ => Wp.ite (fun _ => Wp.ret f) (fun _ => Wp.bind tX10_simplest (fun w D4 q4 => ?_)))))
    subst q4
    exact Wp.ret f
  · rw [if_neg hU]
    exact Wp.pos rfl (Wp.ret (FX.refl D))
theorem oX_drift {a b c : Int32} (h : QX D) : Wp (fX10_drift a b c D) (fun _ D1 => FX D D1) := by
  unfold fX10_drift
  refine Wp.bindE (eX_isRange _ _ _ _) ?_
  by_cases hU : UR b c (300 : Int32).toInt
  · rw [if_pos hU]
    refine Wp.neg (by decide) (Wp.bind (oX_bestAmong h hU) (fun y D2 q2 => Wp.bind (oX_bestAmong (h.fx q2) hU) (fun z D3 q3 => ?_)))
    have f := q2.trans q3
    exact Wp.lets (Wp.lets (Wp.ite (fun _ => Wp.ret f) (fun _ => Wp.ite (fun _ => Wp.ret f) (fun _ => Wp.ret f))))
  · rw [if_neg hU]
    exact Wp.pos rfl (Wp.ret (FX.refl D))
theorem oX_owner {a b c : Int32} (h : QX D) : Wp (fX10_owner a b c D) (fun _ D1 => FX D D1) := by
  unfold fX10_owner
  refine Wp.lets (Wp.ite (fun _ => Wp.ret (FX.refl D)) (fun _ => Wp.ite (fun _ => Wp.ret (FX.refl D)) (fun _ => Wp.bindE (eX_isUnit _ _) ?_)))
  by_cases hb : 10 ≤ b.toInt ∧ b.toInt ≤ 2000
  · rw [if_pos hb]
    refine Wp.neg (by decide) (Wp.bind (tX4_ga h) (fun x D1 q => ?_))
    obtain ⟨-, f, m0, m1⟩ := q
    exact Wp.tab3 (fun _ => Wp.ret f) (fun _ => Wp.bindE (eX_shortsBy _ (by omega) m1) (Wp.ret f)) (fun _ => Wp.bindE (eX_shortsBy _ (by omega) m1) (Wp.bind tX3_ofShort (fun y D2 q2 => Wp.ret (fun c hc => by rw [q2]; exact f c hc)))) (fun _ => Wp.ret f)
  · rw [if_neg hb]
    exact Wp.pos rfl (Wp.ret (FX.refl D))
theorem oX_heap {a b : Int32} (h : QX D) : Wp (fX10_heap a b D) (fun _ D1 => FX D D1) := by
  unfold fX10_heap
  refine Wp.lets (Wp.ite (fun _ => Wp.ret (FX.refl D)) (fun _ => Wp.ite (fun _ => Wp.bind (tX4_ga h) (fun x D1 q => ?_)) (fun _ => Wp.ret (FX.refl D))))
  obtain ⟨-, f, m0, m1⟩ := q
  refine Wp.bind (tX4_indexOf m1) (fun y D2 q2 => ?_)
  obtain ⟨rfl, -⟩ := q2
  exact Wp.lets (Wp.ite (fun _ => Wp.ret f) (fun _ => Wp.bind (tX4_heap m1) (fun z D3 q3 => by subst q3; exact Wp.ret f)))
theorem oX_anew {a b : Int32} (h : QX D) : Wp (fX10_anew a b D) (fun _ D1 => FX D D1) := by
  unfold fX10_anew
  refine Wp.bindE (eX_isRange _ _ _ _) (Wp.lets ?_)
  by_cases hU : UR a b (300 : Int32).toInt
  · rw [if_pos hU]
    refine Wp.neg (by decide) (Wp.bind (tX4_ga h) (fun x D1 q => ?_))
    obtain ⟨-, f, m0, m1⟩ := q
    refine Wp.ite (fun _ => Wp.ret f) (fun _ => Wp.bind (tX7_su m1 hU) (fun _ D2 q2 => Wp.lets (Wp.lets ?_)))
    obtain ⟨g1, g2, g3⟩ := q2
    refine Wp.fix3 (fun n a b x D' => (0 ≤ x.toInt ∧ x.toInt ≤ 33 ∧ 33 - x.toInt < (n : Int)) ∧ FX D D' ∧ (D'.1 43 0).toInt ≤ 32 ∧ SR D') ?_ ?_ aFuel 1000000 _ _ _ _ (Nat.le_refl _) ⟨⟨by decide, by decide, by decide⟩, f.trans g1, by rw [g2]; exact m1, g3⟩
    · intro n g hg a b x D' hI
      obtain ⟨⟨i0, i1, i2⟩, i3, i4, i5⟩ := hI
      unfold lX10_anew_50
      refine Wp.ile (fun _ => Wp.ret i3) (fun h2 => Wp.bind (tX7_worthOf i5) (fun y D3 q3 => ?_))
      have c2 : (x + 1).toInt = x.toInt + 1 := ti_add rfl ti_1 (by omega) (by omega)
      have go : ∀ a b, Wp (g a b (x + 1) D3) (fun _ D1 => FX D D1) := fun a b => hg _ _ _ _ ⟨⟨by omega, by omega, by omega⟩, i3.trans (fun c hc => q3.1 c (by omega)), by rw [q3.1 43 (by decide)]; exact i4, i5.fr (by rw [q3.1 50 (by decide)]) (by rw [q3.1 50 (by decide)])⟩
      exact Wp.lets (Wp.ite (fun _ => Wp.lets (go _ _)) (fun _ => Wp.bindE (eX_numberOf _ _) (Wp.lets (go _ _))))
    · intro a b x D' hI
      obtain ⟨⟨i0, i1, i2⟩, -⟩ := hI
      omega
  · rw [if_neg hU]
    exact Wp.pos rfl (Wp.ret (FX.refl D))
theorem oX_worth {a b c : Int32} (h : QX D) : Wp (fX10_worth a b c D) (fun _ D1 => FX D D1) := by
  unfold fX10_worth
  refine Wp.bindE (eX_isRange _ _ _ _) ?_
  by_cases hU : UR b c (300 : Int32).toInt
  · rw [if_pos hU]
    refine Wp.neg (by decide) (Wp.bind (tX4_ga h) (fun x D1 q => ?_))
    obtain ⟨-, f, m0, m1⟩ := q
    refine Wp.bind (tX4_indexOf m1) (fun y D2 q2 => ?_)
    obtain ⟨rfl, -⟩ := q2
    exact Wp.ite (fun _ => Wp.ret f) (fun _ => Wp.bind (tX7_su m1 hU) (fun _ D3 q3 => Wp.bind (tX7_worthOf q3.2.2) (fun z D4 q4 => Wp.ret ((f.trans q3.1).trans (fun c hc => q4.1 c (by omega))))))
  · rw [if_neg hU]
    exact Wp.pos rfl (Wp.ret (FX.refl D))
theorem oX_count {a : Int32} (h : QX D) : Wp (fX10_count a D) (fun _ D1 => FX D D1) := by
  unfold fX10_count
  have r := FX.refl D
  exact Wp.tab7 (fun _ => Wp.ret r) (fun _ => Wp.bind (tX4_ga h) (fun x D1 q => Wp.ret q.2.1)) (fun _ => Wp.ret r) (fun _ => Wp.ret r) (fun _ => Wp.ret r) (fun _ => Wp.ret r) (fun _ => Wp.ret r) (fun _ => Wp.lets (Wp.lets (Wp.ite (fun _ => Wp.ret r) (fun _ => Wp.ite (fun _ => Wp.ret r) (fun _ => Wp.bind (tX4_ga h) (fun x D1 q => Wp.ret q.2.1))))))
theorem oX_fact {a b : Int32} : fX10_fact a b D = some (knX D a b, D) := by
  unfold fX10_fact
  rw [eX_known]
  rfl
theorem oX_entry {a b : Int32} : Pu (fX10_entry a b D) D := by
  unfold fX10_entry
  refine Wp.bind (P := fun _ D1 => D1 = D) ?_ (fun x D1 q => Wp.ret q)
  unfold fX0_written
  have e4 : (400 : Int32).toInt = 400 := by decide
  refine Wp.lets (Wp.ilt (fun _ => Wp.ret rfl) (fun h => Wp.ite (fun _ => Wp.ret rfl) (fun _ => Wp.ilt (fun h2 => ?_) (fun _ => Wp.ret rfl))))
  rw [ti_0] at h
  have ii : vp_in a 400 := i_in h (by omega)
  exact Wp.tab4 (fun _ => Wp.idx ii (Wp.ret rfl)) (fun _ => Wp.idx ii (Wp.ret rfl)) (fun _ => Wp.idx ii (Wp.ret rfl)) (fun _ => Wp.idx ii (Wp.ret rfl)) (fun _ => Wp.ret rfl)
theorem oX_fault {a : Int32} : Pu (fX10_fault a D) D := by
  unfold fX10_fault
  exact Wp.ite (fun _ => Wp.ret rfl) (fun _ => Wp.ite (fun _ => Wp.ret rfl) (fun _ => Wp.ret rfl))
end XO
end
section
/-! the class's reader: never none -/
/-- the reader's own cells alone have changed since D0; start and stop are places; no line has less than no test -/
def RdI (D0 D : ADD) : Prop := (∀ c, (c < 33 ∨ 43 ≤ c) → D.1 c = D0.1 c) ∧ (0 ≤ (D.1 33 6).toInt ∧ (D.1 33 6).toInt ≤ 501) ∧ (0 ≤ (D.1 33 7).toInt ∧ (D.1 33 7).toInt ≤ 501) ∧ ∀ l, l < 16 → 0 ≤ (D.1 38 l).toInt
theorem RdI.w {D0 D : ADD} {k : Nat} {x : Int32} (h : RdI D0 D) (hk : k = 6 ∨ k = 7 → 0 ≤ x.toInt ∧ x.toInt ≤ 501) : RdI D0 (aSI D 33 k x) := by
  obtain ⟨h1, h2, h3, h4⟩ := h
  refine ⟨fun c hc => ?_, ?_, ?_, fun l hl => ?_⟩
  · rw [← h1 c hc]
    funext z
    have : c ≠ 33 := by omega
    simp [aSI, this]
  · show 0 ≤ (if (33 : Nat) = 33 ∧ 6 = k then x else D.1 33 6).toInt ∧ (if (33 : Nat) = 33 ∧ 6 = k then x else D.1 33 6).toInt ≤ 501
    by_cases hk6 : 6 = k
    · rw [if_pos ⟨rfl, hk6⟩]
      exact hk (Or.inl hk6.symm)
    · rw [if_neg (fun q => hk6 q.2)]
      exact h2
  · show 0 ≤ (if (33 : Nat) = 33 ∧ 7 = k then x else D.1 33 7).toInt ∧ (if (33 : Nat) = 33 ∧ 7 = k then x else D.1 33 7).toInt ≤ 501
    by_cases hk7 : 7 = k
    · rw [if_pos ⟨rfl, hk7⟩]
      exact hk (Or.inr hk7.symm)
    · rw [if_neg (fun q => hk7 q.2)]
      exact h3
  · show 0 ≤ (if (38 : Nat) = 33 ∧ l = k then x else D.1 38 l).toInt
    rw [if_neg (by omega)]
    exact h4 l hl
theorem RdI.w2 {D0 D : ADD} {c j : Nat} {x : Int32} (h : RdI D0 D) (hc : 34 ≤ c ∧ c ≤ 42) (hx : c = 38 → 0 ≤ x.toInt) : RdI D0 (aSI D c j x) := by
  obtain ⟨h1, h2, h3, h4⟩ := h
  refine ⟨fun b hb => ?_, ?_, ?_, fun l hl => ?_⟩
  · rw [← h1 b hb]
    funext z
    have : b ≠ c := by omega
    simp [aSI, this]
  · show 0 ≤ (if (33 : Nat) = c ∧ 6 = j then x else D.1 33 6).toInt ∧ _
    rw [if_neg (by omega)]
    refine ⟨h2.1, ?_⟩
    show (if (33 : Nat) = c ∧ 6 = j then x else D.1 33 6).toInt ≤ 501
    rw [if_neg (by omega)]
    exact h2.2
  · show 0 ≤ (if (33 : Nat) = c ∧ 7 = j then x else D.1 33 7).toInt ∧ _
    rw [if_neg (by omega)]
    refine ⟨h3.1, ?_⟩
    show (if (33 : Nat) = c ∧ 7 = j then x else D.1 33 7).toInt ≤ 501
    rw [if_neg (by omega)]
    exact h3.2
  · show 0 ≤ (if (38 : Nat) = c ∧ l = j then x else D.1 38 l).toInt
    by_cases h38 : 38 = c ∧ l = j
    · rw [if_pos h38]
      exact hx h38.1.symm
    · rw [if_neg h38]
      exact h4 l hl
section RD
variable {D0 D : ADD}
theorem tX9_byteAt {a : Int32} : Wp (fX9_byteAt a D) (fun x D1 => D1 = D ∧ (x = -1 ∨ (0 ≤ a.toInt ∧ a.toInt < 500))) := by
  unfold fX9_byteAt
  have e5 : (500 : Int32).toInt = 500 := by decide
  refine Wp.lets (Wp.lets (Wp.ilt (fun _ => Wp.ret ⟨rfl, Or.inl rfl⟩) (fun h => Wp.ite (fun _ => Wp.ret ⟨rfl, Or.inl rfl⟩) (fun _ => Wp.ile (fun _ => Wp.ret ⟨rfl, Or.inl rfl⟩) (fun h2 => ?_)))))
  rw [ti_0] at h
  exact Wp.idx (i_in h (by omega)) (Wp.ret ⟨rfl, Or.inr ⟨h, by omega⟩⟩)
theorem tX5_isBlank {a : Int32} : Pu (fX5_isBlank a D) D := by
  unfold fX5_isBlank
  exact Wp.lets (Wp.lets (Wp.ite (fun _ => Wp.z (Or.inr rfl) (Wp.ret rfl)) (fun _ => Wp.ite (fun _ => Wp.z (Or.inr rfl) (Wp.ret rfl)) (fun _ => Wp.z (Or.inl rfl) (Wp.ret rfl)))))
theorem tX5_isLetter {a : Int32} : Pu (fX5_isLetter a D) D := by
  unfold fX5_isLetter
  exact Wp.lets (Wp.lets (Wp.ite (fun _ => Wp.z (Or.inl rfl) (Wp.ret rfl)) (fun _ => Wp.ite (fun _ => Wp.z (Or.inl rfl) (Wp.ret rfl)) (fun _ => Wp.z (Or.inr rfl) (Wp.ret rfl)))))
theorem tX5_isDigit {a : Int32} : Pu (fX5_isDigit a D) D := by
  unfold fX5_isDigit
  exact Wp.lets (Wp.lets (Wp.ite (fun _ => Wp.z (Or.inl rfl) (Wp.ret rfl)) (fun _ => Wp.ite (fun _ => Wp.z (Or.inl rfl) (Wp.ret rfl)) (fun _ => Wp.z (Or.inr rfl) (Wp.ret rfl)))))
theorem tX5_isSignByte {a : Int32} : Pu (fX5_isSignByte a D) D := by
  unfold fX5_isSignByte
  exact Wp.lets (Wp.lets (Wp.ite (fun _ => Wp.z (Or.inr rfl) (Wp.ret rfl)) (fun _ => Wp.ite (fun _ => Wp.z (Or.inr rfl) (Wp.ret rfl)) (fun _ => Wp.ite (fun _ => Wp.z (Or.inr rfl) (Wp.ret rfl)) (fun _ => Wp.ite (fun _ => Wp.z (Or.inr rfl) (Wp.ret rfl)) (fun _ => Wp.ite (fun _ => Wp.z (Or.inr rfl) (Wp.ret rfl)) (fun _ => Wp.z (Or.inl rfl) (Wp.ret rfl))))))))
theorem tX5_advance (h : RdI D0 D) : Wp (fX5_advance D) (fun _ D1 => RdI D0 D1) := by
  unfold fX5_advance
  have e5 : (500 : Int32).toInt = 500 := by decide
  have h1 : RdI D0 (aSI D 33 6 (D.1 33 7)) := h.w (fun _ => h.2.2.1)
  refine Wp.lets (Wp.letQ (fun Q j => ∀ D2, RdI D0 D2 → Wp (j D2) Q) (fun D2 r2 => ?_) (fun j K => Wp.lets ?_))
  · refine Wp.bind tX9_byteAt (fun x D3 q3 => ?_)
    obtain ⟨rfl, q3⟩ := q3
    refine Wp.leti (fun D4 e4 => ?_)
    have r4 : RdI D0 D4 := by rw [e4]; exact r2.w (fun _ => r2.2.1)
    have s4 : x = -1 ∨ (D4.1 33 7).toInt < 500 := by
      rcases q3 with q3 | q3
      · exact Or.inl q3
      · right
        rw [e4]
        exact q3.2
    refine Wp.bind tX5_isLetter (fun y D5 q5 => ?_)
    subst q5
    refine Wp.letQ (fun Q j => ∀ D6, RdI D0 D6 → Wp (j D6) Q) (fun D6 r6 => Wp.ret r6) (fun j1 K1 => Wp.letQ (fun Q j => ∀ D6, RdI D0 D6 → Wp (j D6) Q) (fun D6 r6 => Wp.lets (K1 _ (r6.w (by omega)))) (fun j2 K2 => Wp.lets ?_))
    refine Wp.ite (fun _ => Wp.bind tX5_isDigit (fun z D6 q6 => ?_)) (fun _ => ?_)
    · subst q6
      refine Wp.letQ (fun Q j => ∀ D6, RdI D0 D6 → Wp (j D6) Q) (fun D7 r7 => Wp.lets (Wp.ite (fun _ => Wp.lets (K1 _ (r7.w (by omega)))) (fun _ => Wp.lets (K1 _ (r7.w (by omega)))))) (fun j3 K3 => Wp.lets (Wp.ite (fun _ => Wp.ite (fun _ => Wp.lets (K1 _ (r4.w (by omega)))) (fun hx => ?_)) (fun _ => ?_)))
      · have s5 : (D6.1 33 7).toInt < 500 := s4.resolve_left hx
        have c1 : (D6.1 33 7 + 1).toInt = (D6.1 33 7).toInt + 1 := ti_add rfl ti_1 (by have := r4.2.2.1; omega) (by omega)
        refine Wp.leti (fun D7 e7 => ?_)
        have r7 : RdI D0 D7 := by rw [e7]; exact r4.w (fun _ => by have := r4.2.2.1; omega)
        refine Wp.bind tX5_isSignByte (fun w D8 q8 => ?_)
        subst q8
        exact Wp.lets (Wp.ite (fun _ => Wp.lets (K1 _ (r7.w (by omega)))) (fun _ => Wp.lets (K1 _ (r7.w (by omega)))))
      · refine Wp.fix0 (fun n D' => RdI D0 D' ∧ 501 - (D'.1 33 7).toInt < (n : Int)) ?_ ?_ aFuel 1000000 _ (Nat.le_refl _) ⟨r4, by have := r4.2.2.1; omega⟩
        · intro n g hg D' hI
          obtain ⟨i1, i2⟩ := hI
          have i3 := i1.2.2.1
          unfold lX5_advance_130
          refine Wp.ile (fun _ => K3 _ i1) (fun h2 => Wp.bind tX9_byteAt (fun x D1 q1 => ?_))
          obtain ⟨rfl, -⟩ := q1
          refine Wp.bind tX5_isDigit (fun y D2 q2 => ?_)
          subst q2
          have c1 : (D2.1 33 7 + 1).toInt = (D2.1 33 7).toInt + 1 := ti_add rfl ti_1 (by omega) (by omega)
          refine Wp.ite (fun _ => K3 _ i1) (fun _ => Wp.lets (hg _ ⟨i1.w (fun _ => by omega), ?_⟩))
          show 501 - (D2.1 33 7 + 1).toInt < _
          omega
        · intro D' hI
          have := hI.1.2.2.1
          have := hI.2
          omega
    · refine Wp.fix0 (fun n D' => RdI D0 D' ∧ 501 - (D'.1 33 7).toInt < (n : Int)) ?_ ?_ aFuel 1000000 _ (Nat.le_refl _) ⟨r4, by have := r4.2.2.1; omega⟩
      · intro n g hg D' hI
        obtain ⟨i1, i2⟩ := hI
        have i3 := i1.2.2.1
        unfold lX5_advance_75
        refine Wp.ile (fun _ => K2 _ i1) (fun h2 => Wp.bind tX9_byteAt (fun x D1 q1 => ?_))
        obtain ⟨rfl, -⟩ := q1
        refine Wp.bind tX5_isLetter (fun y D2 q2 => ?_)
        subst q2
        have c1 : (D2.1 33 7 + 1).toInt = (D2.1 33 7).toInt + 1 := ti_add rfl ti_1 (by omega) (by omega)
        refine Wp.ite (fun _ => K2 _ i1) (fun _ => Wp.lets (hg _ ⟨i1.w (fun _ => by omega), ?_⟩))
        show 501 - (D2.1 33 7 + 1).toInt < _
        omega
      · intro D' hI
        have := hI.1.2.2.1
        have := hI.2
        omega
  · refine Wp.fix0 (fun n D' => RdI D0 D' ∧ 501 - (D'.1 33 6).toInt < (n : Int)) ?_ ?_ aFuel 1000000 _ (Nat.le_refl _) ⟨h1, by have := h1.2.1; omega⟩
    · intro n g hg D' hI
      obtain ⟨i1, i2⟩ := hI
      have i3 := i1.2.1
      unfold lX5_advance_8
      refine Wp.ile (fun _ => K _ i1) (fun h2 => Wp.bind tX9_byteAt (fun x D1 q1 => ?_))
      obtain ⟨rfl, -⟩ := q1
      refine Wp.bind tX5_isBlank (fun y D2 q2 => ?_)
      subst q2
      have c1 : (D2.1 33 6 + 1).toInt = (D2.1 33 6).toInt + 1 := ti_add rfl ti_1 (by omega) (by omega)
      refine Wp.ite (fun _ => K _ i1) (fun _ => Wp.lets (hg _ ⟨i1.w (fun _ => by omega), ?_⟩))
      show 501 - (D2.1 33 6 + 1).toInt < _
      omega
    · intro D' hI
      have := hI.1.2.1
      have := hI.2
      omega
theorem tl_ok : ∀ si, si < 8 → aTl si ≤ 50 := by decide +kernel
theorem tl_sh : ∀ si, si < 8 → Int32.ofNat (aTl si) >>> ((0 : Int32) &&& 31) = Int32.ofNat (aTl si) := by decide +kernel
theorem tc_ch : ∀ si, si < 8 → ∀ j, j < aTl si → narrow .char (.int (aTc si j &&& 255)) = .int (aTc si j &&& 255) := by decide +kernel
theorem eJ_len {si : Nat} (h : si < 8) : fJ0_length_8abf5 si D = some (nI (aTl si), D) := by
  unfold fJ0_length_8abf5 fJ0_coder aBind
  show some (Int32.ofNat (aTl si) >>> ((0 : Int32) &&& 31), D) = _
  rw [tl_sh si h]
  rfl
theorem eJ_charAt {si : Nat} {j : Int32} (h : si < 8) (h0 : 0 ≤ j.toInt) (h1 : j.toInt < (aTl si : Int)) : fJ0_charAt_5068e si j D = some (aTc si j.toNatClampNeg &&& 255, D) := by
  have hl := tl_ok si h
  have el : (Int32.ofNat (aTl si)).toInt = (aTl si : Int) := ti_nI (by omega)
  have ej := cl_i h0
  have l0 : ¬ j < 0 := fun q => by have := Int32.lt_iff_toInt_lt.mp q; rw [ti_0] at this; omega
  have l1 : j < Int32.ofNat (aTl si) := Int32.lt_iff_toInt_lt.mpr (by omega)
  unfold fJ0_charAt_5068e fJ0_isLatin1 fJ1_charAt fJ0_checkIndex fJ3_checkIndex
  simp only [aBind, if_neg l0, if_pos l1, aIn_ok (i_in (n := aTl si) h0 h1), if_neg b01, aCh]
  rw [if_pos (tc_ch si h j.toNatClampNeg (by omega))]
theorem tX5_wordIn {si : Nat} (h : si < 8) : Pu (fX5_wordIn si D) D := by
  unfold fX5_wordIn
  have hl := tl_ok si h
  have el : (nI (aTl si)).toInt = (aTl si : Int) := ti_nI (by omega)
  refine Wp.ite (fun _ => Wp.lets (Wp.lets (Wp.lets ?_))) (fun _ => Wp.ret rfl)
  refine Wp.up4 (D := D) (aTl si + 1) (by omega) 0 (by decide) (fun g a b c x i0 k => ?_) (by decide) (by decide)
  unfold lX5_wordIn_23
  refine Wp.bindE (eJ_len h) (Wp.ilt (fun _ => Wp.ret rfl) (fun h1 => Wp.bindE (eJ_len h) ?_))
  refine Wp.letQ (fun Q j => ∀ a b c, Wp (j a b c D) Q) (fun a b c => Wp.lets (k (by omega) _ _ _)) (fun j1 K1 => Wp.letQ (fun Q j => Wp (j D) Q) (Wp.lets (Wp.ite (fun _ => Wp.lets (Wp.lets (K1 _ _ _))) (fun _ => Wp.ite (fun _ => Wp.ret rfl) (fun _ => Wp.lets (Wp.lets (K1 _ _ _)))))) (fun j2 K2 => Wp.ite (fun _ => K2) (fun hx => ?_)))
  have hx := ti_ne hx
  have cc := eJ_charAt (D := D) h i0 (by omega)
  refine Wp.bindE cc (Wp.ite (fun _ => K2) (fun _ => Wp.lets (Wp.lets (Wp.ite (fun _ => Wp.lets (K1 _ _ _)) (fun _ => Wp.ite (fun _ => Wp.lets (K1 _ _ _)) (fun _ => Wp.bind tX9_byteAt (fun y D1 q => ?_)))))))
  obtain ⟨rfl, -⟩ := q
  exact Wp.bindE cc (Wp.ite (fun _ => Wp.lets (K1 _ _ _)) (fun _ => Wp.lets (K1 _ _ _)))
theorem tX5_number (h : RdI D0 D) : Pu (fX5_number D) D := by
  unfold fX5_number
  obtain ⟨-, h6, h7, -⟩ := h
  refine Wp.lets (Wp.lets (Wp.lets (Wp.up2 (D := D) 501 (by decide) (fun g a x i0 k => ?_) h6.1 (by omega))))
  unfold lX5_number_7
  refine Wp.ile (fun _ => Wp.ret rfl) (fun h1 => Wp.bind tX9_byteAt (fun y D1 q => ?_))
  obtain ⟨rfl, -⟩ := q
  exact Wp.lets (Wp.lets (k (by omega) _))
theorem tX5_refuse (h : RdI D0 D) : Wp (fX5_refuse D) (fun x D1 => x = 0 ∧ RdI D0 D1) := by
  unfold fX5_refuse
  exact Wp.lets (Wp.lets (Wp.ret ⟨rfl, (h.w (by omega)).w (by omega)⟩))
theorem tX5_remark {a b : Int32} (h : RdI D0 D) : Wp (fX5_remark a b D) (fun _ D1 => RdI D0 D1) := by
  unfold fX5_remark
  exact Wp.lets (Wp.ite (fun _ => Wp.lets (Wp.lets (Wp.ret ((h.w (by omega)).w (by omega))))) (fun _ => Wp.ret h))
theorem tX5_isSign {a : Int32} : Pu (fX5_isSign a D) D := by
  unfold fX5_isSign
  refine Wp.lets (Wp.lets (Wp.ite (fun _ => Wp.bind tX9_byteAt (fun y D1 q => ?_)) (fun _ => Wp.z (Or.inl rfl) (Wp.ret rfl))))
  obtain ⟨rfl, -⟩ := q
  exact Wp.ite (fun _ => Wp.z (Or.inr rfl) (Wp.ret rfl)) (fun _ => Wp.z (Or.inl rfl) (Wp.ret rfl))
/-- a refusal's answer -/
theorem tX5_ref {K : Option (Int32 × ADD)} (h : RdI D0 D) : Wp (aBind (fX5_refuse D) (fun x D1 => aZ x (some (x, D1)))) (fun x D1 => (x = 0 ∨ x = 1) ∧ RdI D0 D1) := by
  refine Wp.bind (tX5_refuse h) (fun x D1 q => ?_)
  exact Wp.z (Or.inl q.1) (Wp.ret ⟨Or.inl q.1, q.2⟩)
theorem tX5_pass {a : Int32} (h : RdI D0 D) : Wp (fX5_pass a D) (fun x D1 => (x = 0 ∨ x = 1) ∧ RdI D0 D1) := by
  unfold fX5_pass
  refine Wp.bind tX5_isSign (fun y D1 q => ?_)
  subst q
  exact Wp.ite (fun _ => tX5_ref (K := none) h) (fun _ => Wp.bind (tX5_advance h) (fun _ D2 q2 => Wp.ret ⟨Or.inr rfl, q2⟩))
theorem tX6_setDeed {l a b c : Int32} (h : RdI D0 D) : Wp (fX6_setDeed 34 l a b c D) (fun _ D1 => RdI D0 D1) := by
  unfold fX6_setDeed
  refine Wp.bindE (eX_hasLine _ _) ?_
  by_cases hl : 0 ≤ l.toInt ∧ l.toInt < 16
  · rw [if_pos hl]
    have ii : vp_in l 16 := i_in hl.1 hl.2
    exact Wp.neg (by decide) (Wp.idx ii (Wp.lets (Wp.idx ii (Wp.lets (Wp.idx ii (Wp.lets (Wp.ret (((h.w2 (by omega) (by omega)).w2 (by omega) (by omega)).w2 (by omega) (by omega)))))))))
  · rw [if_neg hl]
    exact Wp.pos rfl (Wp.ret h)
theorem tX6_clear {l : Int32} (h : RdI D0 D) : Wp (fX6_clearTests 34 l D) (fun _ D1 => RdI D0 D1) := by
  unfold fX6_clearTests
  refine Wp.bindE (eX_hasLine _ _) (Wp.lets ?_)
  by_cases hl : 0 ≤ l.toInt ∧ l.toInt < 16
  · rw [if_pos hl]
    exact Wp.neg (by decide) (Wp.idx (i_in hl.1 hl.2) (Wp.lets (Wp.ret (h.w2 (by omega) (fun _ => by decide)))))
  · rw [if_neg hl]
    exact Wp.pos rfl (Wp.ret h)
theorem tX6_addTest {l a b c d : Int32} (h : RdI D0 D) : Wp (fX6_addTest 34 l a b c d D) (fun _ D1 => RdI D0 D1) := by
  unfold fX6_addTest
  simp only [Nat.reduceAdd]
  have e4 : (4 : Int32).toInt = 4 := by decide
  refine Wp.bindE (eX_hasLine _ _) (Wp.lets ?_)
  by_cases hl : 0 ≤ l.toInt ∧ l.toInt < 16
  · rw [if_pos hl]
    have ii : vp_in l 16 := i_in hl.1 hl.2
    have el := cl_i hl.1
    have h4 := h.2.2.2 l.toNatClampNeg (by omega)
    refine Wp.neg (by decide) (Wp.idx ii (Wp.ilt (fun h5 => Wp.idx ii ?_) (fun _ => Wp.ret h)))
    have h5 : (D.1 38 l.toNatClampNeg).toInt < 4 := by omega
    have e1 : (l * 4).toInt = l.toInt * 4 := ti_mul rfl e4 (by omega) (by omega)
    have e2 : (l * 4 + D.1 38 l.toNatClampNeg).toInt = l.toInt * 4 + (D.1 38 l.toNatClampNeg).toInt := ti_add e1 rfl (by omega) (by omega)
    have ix : vp_in (l * 4 + D.1 38 l.toNatClampNeg) 64 := i_in (by omega) (by omega)
    have r6 : ∀ j, RdI D0 (aSI (aSI (aSI (aSI D 42 j a) 39 j b) 40 j c) 41 j d) := fun j => (((h.w2 (by omega) (by omega)).w2 (by omega) (by omega)).w2 (by omega) (by omega)).w2 (by omega) (by omega)
    refine Wp.lets (Wp.idx ix (Wp.lets (Wp.idx ix (Wp.lets (Wp.idx ix (Wp.lets (Wp.idx ix (Wp.lets (Wp.idx ii (Wp.idx ii (Wp.lets (Wp.ret ((r6 _).w2 (by omega) (fun _ => ?_)))))))))))))) 
    show 0 ≤ (D.1 38 l.toNatClampNeg + 1).toInt
    rw [ti_add rfl ti_1 (by omega) (by omega)]
    omega
  · rw [if_neg hl]
    exact Wp.pos rfl (Wp.ret h)
end RD
end
section
section RT
variable {D0 D : ADD}
theorem tX5_readTest {l : Int32} (h : RdI D0 D) : Wp (fX5_readTest l D) (fun x D1 => (x = 0 ∨ x = 1) ∧ RdI D0 D1) := by
  unfold fX5_readTest
  refine Wp.bind (tX5_wordIn (by decide)) (fun y D1 q => ?_)
  subst q
  refine Wp.letQ (fun Q j => ∀ x, Wp (j x D1) Q) (fun x2 => ?_) (fun j K => Wp.ite (fun _ => K _) (fun _ => K _))
  refine Wp.letQ (fun Q j => ∀ D2, RdI D0 D2 → Wp (j D2) Q) (fun D2 r2 => ?_) (fun j K => Wp.ite (fun _ => K _ h) (fun _ => Wp.bind (tX5_advance h) (fun _ D3 q3 => K _ q3)))
  refine Wp.ite (fun _ => Wp.bind (tX5_wordIn (by decide)) (fun z D3 q3 => ?_)) (fun _ => Wp.bind (tX5_wordIn (by decide)) (fun z D3 q3 => ?_)) <;>
  · subst q3
    refine Wp.ite (fun _ => tX5_ref (K := none) r2) (fun _ => Wp.bind (tX5_advance r2) (fun _ D4 r4 => Wp.bind tX5_isSign (fun w D5 q5 => ?_)))
    subst q5
    refine Wp.letQ (fun Q j => Wp (j D5) Q) ?_ (fun j K => ?_)
    · refine Wp.bind tX9_byteAt (fun v D6 q6 => ?_)
      obtain ⟨rfl, -⟩ := q6
      refine Wp.bind (tX5_advance r4) (fun _ D7 r7 => Wp.ite (fun _ => Wp.bind (tX5_number r7) (fun u D8 q8 => ?_)) (fun _ => tX5_ref (K := none) r7))
      subst q8
      exact Wp.bind (tX6_addTest r7) (fun _ D9 r9 => Wp.bind (tX5_advance r9) (fun _ D10 r10 => Wp.ret ⟨Or.inr rfl, r10⟩))
    · refine Wp.ite (fun _ => Wp.bind tX5_isSign (fun v D6 q6 => ?_)) (fun _ => K)
      subst q6
      refine Wp.ite (fun _ => Wp.bind tX5_isSign (fun v D6 q6 => ?_)) (fun _ => K)
      subst q6
      exact Wp.ite (fun _ => tX5_ref (K := none) r4) (fun _ => K)
theorem tX5_readAmounts {l a : Int32} (h : RdI D0 D) : Wp (fX5_readAmounts l a D) (fun x D1 => (x = 0 ∨ x = 1) ∧ RdI D0 D1) := by
  unfold fX5_readAmounts
  refine Wp.ite (fun _ => Wp.bind (tX5_number h) (fun y D1 q => ?_)) (fun _ => tX5_ref (K := none) h)
  subst q
  refine Wp.bind (tX5_advance h) (fun _ D2 r2 => Wp.bind (tX5_wordIn (by decide)) (fun z D3 q3 => ?_))
  subst q3
  refine Wp.letQ (fun Q j => ∀ x D4, RdI D0 D4 → Wp (j x D4) Q) (fun x D4 r4 => Wp.bind (tX6_setDeed r4) (fun _ D5 r5 => Wp.ret ⟨Or.inr rfl, r5⟩)) (fun j K => Wp.ite (fun _ => Wp.bind (tX5_advance r2) (fun _ D6 r6 => Wp.ite (fun _ => Wp.bind (tX5_number r6) (fun w D7 q7 => ?_)) (fun _ => tX5_ref (K := none) r6))) (fun _ => K _ _ r2))
  subst q7
  exact Wp.letQ (fun Q j => ∀ D8, RdI D0 D8 → Wp (j D8) Q) (fun D8 r8 => Wp.bind (tX5_advance r8) (fun _ D9 r9 => K _ _ r9)) (fun j2 K2 => Wp.ite (fun _ => K2 _ r6) (fun _ => Wp.bind (tX5_remark r6) (fun _ D10 r10 => K2 _ r10)))
theorem tX5_readDeed {l : Int32} (h : RdI D0 D) : Wp (fX5_readDeed l D) (fun x D1 => (x = 0 ∨ x = 1) ∧ RdI D0 D1) := by
  unfold fX5_readDeed
  refine Wp.ite (fun _ => Wp.bind (tX5_wordIn (by decide)) (fun z D3 q3 => ?_)) (fun _ => Wp.bind (tX5_wordIn (by decide)) (fun z D3 q3 => ?_)) <;>
  · subst q3
    refine Wp.ite (fun _ => tX5_ref (K := none) h) (fun _ => Wp.bind (tX5_advance h) (fun _ D4 r4 => ?_))
    refine Wp.letQ (fun Q j => Wp (j D4) Q) (Wp.bind (tX6_setDeed r4) (fun _ D5 r5 => Wp.ret ⟨Or.inr rfl, r5⟩)) (fun j K => Wp.ite (fun _ => Wp.ite (fun _ => K) (fun _ => Wp.bind (tX5_readAmounts r4) (fun x D5 q5 => Wp.z q5.1 (Wp.ret q5)))) (fun _ => K))
theorem tX5_readTests {l : Int32} (h : RdI D0 D) : Wp (fX5_readTests l D) (fun x D1 => (x = 0 ∨ x = 1) ∧ RdI D0 D1) := by
  unfold fX5_readTests
  have e5 : (500 : Int32).toInt = 500 := by decide
  refine Wp.letQ (fun Q j => ∀ D1, RdI D0 D1 → Wp (j D1) Q) (fun D1 r1 => Wp.bind (tX5_pass r1) (fun x D2 q2 => Wp.z q2.1 (Wp.ret q2))) (fun j K => Wp.lets ?_)
  refine Wp.fix1 (fun n x D' => (0 ≤ x.toInt ∧ x.toInt ≤ 500 ∧ 500 - x.toInt < (n : Int)) ∧ RdI D0 D') ?_ ?_ aFuel 1000000 _ _ (Nat.le_refl _) ⟨⟨by decide, by decide, by decide⟩, h⟩
  · intro n g hg x D' hI
    obtain ⟨⟨i0, i1, i2⟩, i3⟩ := hI
    unfold lX5_readTests_2
    have c2 : (x + 1).toInt = x.toInt + 1 := ti_add rfl ti_1 (by omega) (by omega)
    refine Wp.bind (tX5_advance i3) (fun _ D4 r4 => Wp.letQ (fun Q j => ∀ D1, RdI D0 D1 → Wp (j D1) Q) (fun D5 r5 => ?_) (fun j2 K2 => Wp.ite (fun _ => Wp.bind (tX5_remark r4) (fun _ D8 r8 => K2 _ r8)) (fun _ => K2 _ r4)))
    refine Wp.bind (tX5_readTest r5) (fun y D6 q6 => Wp.ite (fun _ => Wp.ret ⟨Or.inl rfl, q6.2⟩) (fun _ => Wp.lets (Wp.bind (tX5_wordIn (by decide)) (fun z D7 q7 => ?_))))
    subst q7
    exact Wp.ite (fun _ => Wp.ilt (fun h2 => hg _ _ ⟨⟨by omega, by omega, by omega⟩, q6.2⟩) (fun _ => K _ q6.2)) (fun _ => K _ q6.2)
  · intro x D' hI
    obtain ⟨⟨i0, i1, i2⟩, -⟩ := hI
    omega
theorem tX5_readLine {l : Int32} (h : RdI D0 D) : Wp (fX5_readLine l D) (fun x D1 => (x = 0 ∨ x = 1) ∧ RdI D0 D1) := by
  unfold fX5_readLine
  refine Wp.bind (tX6_clear h) (fun _ D1 r1 => Wp.bind (tX5_wordIn (by decide)) (fun y D2 q2 => ?_))
  subst q2
  refine Wp.letQ (fun Q j => ∀ D3, RdI D0 D3 → Wp (j D3) Q) (fun D3 r3 => ?_) (fun j K => Wp.ite (fun _ => Wp.bind (tX5_readTests r1) (fun x D8 q8 => Wp.ite (fun _ => Wp.ret ⟨Or.inl rfl, q8.2⟩) (fun _ => K _ q8.2))) (fun _ => K _ r1))
  refine Wp.bind (tX5_readDeed r3) (fun x D4 q4 => Wp.lets (Wp.lets (Wp.ite (fun _ => Wp.z (Or.inl rfl) (Wp.ret ⟨Or.inl rfl, q4.2⟩)) (fun _ => Wp.bind (tX5_pass q4.2) (fun z D7 q7 => Wp.ite (fun _ => Wp.z (Or.inl rfl) (Wp.ret ⟨Or.inl rfl, q7.2⟩)) (fun _ => Wp.z (Or.inr rfl) (Wp.ret ⟨Or.inr rfl, q7.2⟩)))))))
/-- no line of the reader has less than no test -/
abbrev TN (D : ADD) : Prop := ∀ l, l < 16 → 0 ≤ (D.1 38 l).toInt
theorem tX5_read {a : Int32} (ha : a = 0 ∨ a = 1) (h : TN D) : Wp (fX5_read a D) (fun x D1 => (x = 0 ∨ x = 1) ∧ (∀ c, (c < 33 ∨ 43 ≤ c) → D1.1 c = D.1 c) ∧ TN D1 ∧ (x = 1 → 0 ≤ (D1.1 34 0).toInt ∧ (D1.1 34 0).toInt ≤ 16)) := by
  unfold fX5_read
  have e5 : (500 : Int32).toInt = 500 := by decide
  have e16 : (16 : Int32).toInt = 16 := by decide
  refine Wp.z ha (Wp.lets (Wp.lets (Wp.lets (Wp.lets (Wp.leti (fun D5 e5' => ?_))))))
  -- the reader begins
  refine Wp.bind (P := fun _ D6 => RdI D D6) ?_ (fun _ D6 r6 => ?_)
  · have r0 : RdI D (aSI D5 33 6 0) := by
      refine ⟨fun c hc => ?_, ⟨by show 0 ≤ (0 : Int32).toInt; decide, by show (0 : Int32).toInt ≤ 501; decide⟩, ?_, fun l hl => ?_⟩
      · rw [e5']
        funext z
        have h33 : c ≠ 33 := by omega
        have h34 : c ≠ 34 := by omega
        simp [aSI, h33, h34]
      · rw [e5']
        exact ⟨by show 0 ≤ (0 : Int32).toInt; decide, by show (0 : Int32).toInt ≤ 501; decide⟩
      · rw [e5']
        exact h l hl
    have e : fX5_advance (aSI D5 33 6 0) = fX5_advance D5 := by
      have e2 : aSI (aSI D5 33 6 0) 33 6 ((aSI D5 33 6 0).1 33 7) = aSI D5 33 6 (D5.1 33 7) := by
        unfold aSI
        refine Prod.ext ?_ rfl
        funext c z
        by_cases hc : c = 33 ∧ z = 6
        · simp [hc]
        · simp [hc]
      unfold fX5_advance
      rw [e2]
    rw [← e]
    exact tX5_advance r0
  · refine Wp.letQ (fun Q j => ∀ x D7, 0 ≤ x.toInt → RdI D D7 → Wp (j x D7) Q) (fun x D7 hx r7 => ?_) (fun j K => Wp.lets ?_)
    · have m : 0 ≤ (aMin x 16).toInt ∧ (aMin x 16).toInt ≤ 16 := by rw [ti_min, e16]; omega
      have r8 : RdI D (aSI D7 34 0 (aMin x 16)) := r7.w2 (by omega) (by omega)
      exact Wp.lets (Wp.lets (Wp.ite (fun _ => Wp.z (Or.inr rfl) (Wp.ret ⟨Or.inr rfl, r8.1, r8.2.2.2, fun _ => m⟩)) (fun _ => Wp.z (Or.inl rfl) (Wp.ret ⟨Or.inl rfl, r8.1, r8.2.2.2, fun q => absurd q (by decide)⟩))))
    · refine Wp.fix1 (fun n x D' => (0 ≤ x.toInt ∧ x.toInt ≤ 500 ∧ 500 - x.toInt < (n : Int)) ∧ RdI D D') ?_ ?_ aFuel 1000000 _ _ (Nat.le_refl _) ⟨⟨by decide, by decide, by decide⟩, r6⟩
      · intro n g hg x D' hI
        obtain ⟨⟨i0, i1, i2⟩, i3⟩ := hI
        unfold lX5_read_34
        refine Wp.ite (fun _ => K _ _ i0 i3) (fun _ => Wp.ile (fun _ => K _ _ i0 i3) (fun h2 => Wp.letQ (fun Q j => ∀ D1, RdI D D1 → Wp (j D1) Q) (fun D8 r8 => ?_) (fun j2 K2 => Wp.ite (fun _ => Wp.bind (tX5_remark i3) (fun _ D9 r9 => K2 _ r9)) (fun _ => K2 _ i3))))
        have c2 : (x + 1).toInt = x.toInt + 1 := ti_add rfl ti_1 (by omega) (by omega)
        exact Wp.bind (tX5_readLine r8) (fun y D9 q9 => Wp.ite (fun _ => Wp.ret ⟨Or.inl rfl, q9.2.1, q9.2.2.2.2, fun q => absurd q (by decide)⟩) (fun _ => Wp.lets (hg _ _ ⟨⟨by omega, by omega, by omega⟩, q9.2⟩)))
      · intro x D' hI
        obtain ⟨⟨i0, i1, i2⟩, -⟩ := hI
        omega
end RT
end
section
/-! the class: what is told -/
section XM
variable {D : ADD}
/-- a value goes with the stone's other facts of now -/
abbrev AgX (D : ADD) (s : Nat) (f v : Int32) : Prop := if f.toInt = 0 then (D.1 3 (11 * s + 3)).toInt < v.toInt else if f.toInt = 3 then v.toInt < (D.1 3 (11 * s)).toInt else if f.toInt = 5 then v.toInt ≤ (D.1 3 (11 * s + 6)).toInt else if f.toInt = 6 then (D.1 3 (11 * s + 5)).toInt ≤ v.toInt else True
theorem tX0_agrees {s f v : Int32} (hs : 0 ≤ s.toInt ∧ s.toInt < 32) : Wp (fX0_agrees s f v D) (fun x D1 => D1 = D ∧ Bo x (AgX D s.toNatClampNeg f v)) := by
  unfold fX0_agrees
  have es := cl_i hs.1
  have e1 : (s * 11).toInt = s.toInt * 11 := ti_mul rfl (by decide) (by omega) (by omega)
  have cell : ∀ (i : Int32) (n : Nat), i.toInt = n → n < 11 → vp_in (s * 11 + i) 352 ∧ (s * 11 + i).toNatClampNeg = 11 * s.toNatClampNeg + n := by
    intro i n hi hn
    have e : (s * 11 + i).toInt = s.toInt * 11 + n := ti_add e1 hi (by omega) (by omega)
    exact ⟨i_in (by omega) (by omega), cl_of (by omega)⟩
  obtain ⟨v0, w0⟩ := cell 0 0 (by decide) (by decide)
  obtain ⟨v3, w3⟩ := cell 3 3 (by decide) (by decide)
  obtain ⟨v5, w5⟩ := cell 5 5 (by decide) (by decide)
  obtain ⟨v6, w6⟩ := cell 6 6 (by decide) (by decide)
  rw [Nat.add_zero] at w0
  refine Wp.lets (Wp.lets (Wp.tab7 (fun hf => ?_) (fun hf => Wp.ret ⟨rfl, Or.inl ⟨rfl, ?_⟩⟩) (fun hf => Wp.ret ⟨rfl, Or.inl ⟨rfl, ?_⟩⟩) (fun hf => ?_) (fun hf => Wp.ret ⟨rfl, Or.inl ⟨rfl, ?_⟩⟩) (fun hf => ?_) (fun hf => ?_) (fun hf => Wp.ret ⟨rfl, Or.inl ⟨rfl, ?_⟩⟩)))
  · refine Wp.idx v3 (Wp.lets ?_)
    rw [w3]
    have ag : AgX D s.toNatClampNeg f v = ((D.1 3 (11 * s.toNatClampNeg + 3)).toInt < v.toInt) := if_pos hf
    rw [ag]
    refine Wp.ile (fun h => Wp.z (Or.inl rfl) (Wp.ret ⟨rfl, Or.inr ⟨rfl, by omega⟩⟩)) (fun h => Wp.z (Or.inr rfl) (Wp.ret ⟨rfl, Or.inl ⟨rfl, h⟩⟩))
  · unfold AgX
    rw [if_neg (by omega), if_neg (by omega), if_neg (by omega), if_neg (by omega)]
    trivial
  · unfold AgX
    rw [if_neg (by omega), if_neg (by omega), if_neg (by omega), if_neg (by omega)]
    trivial
  · refine Wp.idx v0 (Wp.lets ?_)
    rw [w0]
    have ag : AgX D s.toNatClampNeg f v = (v.toInt < (D.1 3 (11 * s.toNatClampNeg)).toInt) := (if_neg (by omega)).trans (if_pos hf)
    rw [ag]
    refine Wp.ile (fun h => Wp.z (Or.inl rfl) (Wp.ret ⟨rfl, Or.inr ⟨rfl, by omega⟩⟩)) (fun h => Wp.z (Or.inr rfl) (Wp.ret ⟨rfl, Or.inl ⟨rfl, h⟩⟩))
  · unfold AgX
    rw [if_neg (by omega), if_neg (by omega), if_neg (by omega), if_neg (by omega)]
    trivial
  · refine Wp.idx v6 (Wp.lets ?_)
    rw [w6]
    have ag : AgX D s.toNatClampNeg f v = (v.toInt ≤ (D.1 3 (11 * s.toNatClampNeg + 6)).toInt) := (if_neg (by omega)).trans ((if_neg (by omega)).trans (if_pos hf))
    rw [ag]
    refine Wp.ilt (fun h => Wp.z (Or.inl rfl) (Wp.ret ⟨rfl, Or.inr ⟨rfl, by omega⟩⟩)) (fun h => Wp.z (Or.inr rfl) (Wp.ret ⟨rfl, Or.inl ⟨rfl, h⟩⟩))
  · refine Wp.idx v5 (Wp.lets ?_)
    rw [w5]
    have ag : AgX D s.toNatClampNeg f v = ((D.1 3 (11 * s.toNatClampNeg + 5)).toInt ≤ v.toInt) := (if_neg (by omega)).trans ((if_neg (by omega)).trans ((if_neg (by omega)).trans (if_pos hf)))
    rw [ag]
    refine Wp.ilt (fun h => Wp.z (Or.inl rfl) (Wp.ret ⟨rfl, Or.inr ⟨rfl, by omega⟩⟩)) (fun h => Wp.z (Or.inr rfl) (Wp.ret ⟨rfl, Or.inl ⟨rfl, h⟩⟩))
  · unfold AgX
    rw [if_neg (by omega), if_neg (by omega), if_neg (by omega), if_neg (by omega)]
    trivial
/-- what telling asks -/
abbrev TlX (D : ADD) (s f v : Int32) : Prop := (0 ≤ s.toInt ∧ s.toInt < (D.1 2 8).toInt) ∧ (D.1 2 10).toInt < 400 ∧ InR f v ∧ AgX D s.toNatClampNeg f v
theorem oX_tell {s f v : Int32} (h8 : (D.1 2 8).toInt ≤ 32) (he : 0 ≤ (D.1 2 10).toInt) : Wp (fX10_tell s f v D) (fun r D1 => if TlX D s f v then r = 1 ∧ WrX D D1 s f v else r = 0 ∧ D1 = D) := by
  unfold fX10_tell
  refine Wp.bind (P := fun r D1 => if TlX D s f v then r = 1 ∧ WrX D D1 s f v else r = 0 ∧ D1 = D) ?_ (fun x D1 q => Wp.z ?_ (Wp.ret q))
  · unfold fX0_retell
    have e400 : (400 : Int32).toInt = 400 := by decide
    refine Wp.lets (Wp.ilt (fun k => Wp.ret ?_) (fun k => Wp.ile (fun k2 => Wp.ret ?_) (fun k2 => Wp.ile (fun k3 => Wp.ret ?_) (fun k3 => Wp.bindE (eX_inRange f v D) ?_))))
    · rw [ti_0] at k
      rw [if_neg (fun q => by have := q.1; omega)]; exact ⟨rfl, rfl⟩
    · rw [if_neg (fun q => by have := q.1; omega)]; exact ⟨rfl, rfl⟩
    · rw [if_neg (fun q => by have := q.2.1; omega)]; exact ⟨rfl, rfl⟩
    · rw [ti_0] at k
      by_cases c1 : InR f v
      · rw [if_pos c1]
        refine Wp.neg (by decide) (Wp.bind (tX0_agrees ⟨k, by omega⟩) (fun x D3 q => ?_))
        obtain ⟨rfl, q⟩ := q
        rcases q with ⟨rfl, q⟩ | ⟨rfl, q⟩
        · refine Wp.neg (by decide) (Wp.bind (tX0_write ⟨he, by omega⟩ ⟨k, by omega⟩) (fun _ D4 q4 => Wp.ret ?_))
          rw [if_pos ⟨⟨k, k2⟩, by omega, c1, q⟩]
          exact ⟨rfl, q4⟩
        · refine Wp.pos rfl (Wp.ret ?_)
          rw [if_neg (fun p => q p.2.2.2)]; exact ⟨rfl, rfl⟩
      · rw [if_neg c1]
        refine Wp.pos rfl (Wp.ret ?_)
        rw [if_neg (fun q => c1 q.2.2.1)]; exact ⟨rfl, rfl⟩
  · by_cases h : TlX D s f v
    · rw [if_pos h] at q; exact Or.inr q.1
    · rw [if_neg h] at q; exact Or.inl q.1
theorem oX_day {a : Int32} : Wp (fX10_day a D) (fun r D1 => if (D.1 2 11).toInt ≤ a.toInt ∧ a.toInt ≤ 9999 then r = 1 ∧ D1 = aSI D 2 11 a else r = 0 ∧ D1 = D) := by
  unfold fX10_day
  have e9 : (9999 : Int32).toInt = 9999 := by decide
  refine Wp.bind (P := fun r D1 => if (D.1 2 11).toInt ≤ a.toInt ∧ a.toInt ≤ 9999 then r = 1 ∧ D1 = aSI D 2 11 a else r = 0 ∧ D1 = D) ?_ (fun x D1 q => Wp.z ?_ (Wp.ret q))
  · unfold fX0_turnTo
    refine Wp.lets (Wp.ilt (fun h => Wp.ret ?_) (fun h => Wp.ile (fun g => Wp.lets (Wp.ret ?_)) (fun g => Wp.ret ?_)))
    · rw [if_neg (by omega)]; exact ⟨rfl, rfl⟩
    · rw [if_pos (by omega)]; exact ⟨rfl, rfl⟩
    · rw [if_neg (by omega)]; exact ⟨rfl, rfl⟩
  · by_cases h : (D.1 2 11).toInt ≤ a.toInt ∧ a.toInt ≤ 9999
    · rw [if_pos h] at q; exact Or.inr q.1
    · rw [if_neg h] at q; exact Or.inl q.1
/-- the seen rows and stones behind k entries, looked at from vw -/
def rpS (D : ADD) (vw : Int32) : Nat → (Nat → Int32) × Int32
  | 0 => (D.1 4, 0)
  | k + 1 => if vw = -1 ∨ (D.1 7 k).toInt ≤ vw.toInt then (apF (rpS D vw k).1 (D.1 8 k).toNatClampNeg (D.1 9 k) (D.1 10 k) (D.1 5 (D.1 8 k).toNatClampNeg) (D.1 6 (D.1 8 k).toNatClampNeg), if D.1 9 k = -1 then D.1 8 k + 1 else (rpS D vw k).2) else rpS D vw k
/-- the class behind a new view -/
def VwX (D D1 : ADD) (a : Int32) : Prop := (∀ c, c ≠ 2 → c ≠ 4 → D1.1 c = D.1 c) ∧ D1.2 = D.2 ∧ (∀ i, i ≠ 9 → i ≠ 12 → D1.1 2 i = D.1 2 i) ∧ D1.1 2 12 = a ∧ D1.1 2 9 = (rpS D a (D.1 2 10).toNatClampNeg).2 ∧ D1.1 4 = (rpS D a (D.1 2 10).toNatClampNeg).1
theorem oX_view {a : Int32} (he : 0 ≤ (D.1 2 10).toInt ∧ (D.1 2 10).toInt ≤ 400) (hs : ∀ k : Nat, (k : Int) < (D.1 2 10).toInt → 0 ≤ (D.1 8 k).toInt ∧ (D.1 8 k).toInt < 32) : Wp (fX10_view a D) (fun r D1 => if a = -1 ∨ (0 ≤ a.toInt ∧ a.toInt ≤ (D.1 2 11).toInt) then r = 1 ∧ VwX D D1 a else r = 0 ∧ D1 = D) := by
  unfold fX10_view
  refine Wp.bind (P := fun r D1 => if a = -1 ∨ (0 ≤ a.toInt ∧ a.toInt ≤ (D.1 2 11).toInt) then r = 1 ∧ VwX D D1 a else r = 0 ∧ D1 = D) ?_ (fun x D1 q => Wp.z ?_ (Wp.ret q))
  · unfold fX0_lookFrom
    have e400 : (400 : Int32).toInt = 400 := by decide
    refine Wp.letQ (fun Q j => (a = -1 ∨ (0 ≤ a.toInt ∧ a.toInt ≤ (D.1 2 11).toInt)) → Wp (j D) Q) (fun hv => ?_) (fun j K => Wp.ite (fun h => K (Or.inl h)) (fun h => Wp.lets (Wp.ilt (fun h2 => Wp.ret ?_) (fun h2 => Wp.ile (fun h3 => K (Or.inr ⟨by rw [ti_0] at h2; exact h2, h3⟩)) (fun h3 => Wp.ret ?_)))))
    · refine Wp.lets (Wp.leti (fun D3 e3 => Wp.lets (Wp.lets ?_)))
      have f3 : ∀ c, c ≠ 2 → D3.1 c = D.1 c := by
        intro c hc
        funext z
        rw [e3]
        simp [aSI, hc]
      have g3 : ∀ i, D3.1 2 i = if i = 9 then 0 else if i = 12 then a else D.1 2 i := by
        intro i
        rw [e3]
        simp [aSI]
      have l3 : D3.2 = D.2 := by rw [e3]; rfl
      have en := cl_i he.1
      refine Wp.fix1 (fun n x D' => (0 ≤ x.toInt ∧ x.toInt ≤ (D.1 2 10).toInt ∧ (D.1 2 10).toInt - x.toInt < (n : Int)) ∧ (∀ c, c ≠ 2 → c ≠ 4 → D'.1 c = D.1 c) ∧ D'.2 = D.2 ∧ (∀ i, i ≠ 9 → D'.1 2 i = if i = 12 then a else D.1 2 i) ∧ D'.1 2 9 = (rpS D a x.toNatClampNeg).2 ∧ D'.1 4 = (rpS D a x.toNatClampNeg).1) ?_ ?_ aFuel 1000000 _ _ (Nat.le_refl _) ⟨⟨by decide, by rw [ti_0]; omega, by rw [ti_0]; omega⟩, fun c c2 _ => f3 c c2, l3, fun i hi => by rw [g3, if_neg hi], by rw [g3]; rfl, by rw [f3 4 (by decide)]; rfl⟩
      · intro n g hg x D' hI
        obtain ⟨⟨i0, i1, i2⟩, i3, i4, i5, i6, i7⟩ := hI
        have ex := cl_i i0
        unfold lX0_lookFrom_31
        have i10 : D'.1 2 10 = D.1 2 10 := by rw [i5 10 (by decide), if_neg (by decide)]
        have i12 : D'.1 2 12 = a := by rw [i5 12 (by decide), if_pos rfl]
        rw [i10]
        have fin : (D.1 2 10).toInt ≤ x.toInt → Wp (some ((1 : Int32), D')) (fun r D1 => if a = -1 ∨ (0 ≤ a.toInt ∧ a.toInt ≤ (D.1 2 11).toInt) then r = 1 ∧ VwX D D1 a else r = 0 ∧ D1 = D) := by
          intro hx
          refine Wp.ret ?_
          rw [if_pos hv]
          rw [show x.toNatClampNeg = (D.1 2 10).toNatClampNeg by omega] at i6 i7
          exact ⟨rfl, i3, i4, fun i h9 h12 => by rw [i5 i h9, if_neg h12], by rw [i5 12 (by decide), if_pos rfl], i6, i7⟩
        refine Wp.ile (fun h => fin h) (fun h => Wp.ile (fun h2 => absurd h2 (by omega)) (fun h2 => ?_))
        have ii : vp_in x 400 := i_in i0 (by omega)
        obtain ⟨c1, c2⟩ := cl_add1 (x := x) (by omega) (by omega)
        refine Wp.idx ii (Wp.bindE (eX_isSeen _ D') (Wp.lets ?_))
        rw [i12, i3 7 (by decide) (by decide)]
        have hs0 := hs x.toNatClampNeg (by omega)
        by_cases hse : a = -1 ∨ (D.1 7 x.toNatClampNeg).toInt ≤ a.toInt
        · rw [if_pos hse]
          have rp : rpS D a (x.toNatClampNeg + 1) = _ := if_pos hse
          refine Wp.neg (by decide) (Wp.bind (tX0_see ⟨i0, by omega⟩ (by rw [i3 8 (by decide) (by decide)]; exact hs0)) (fun _ D8 q => Wp.lets (hg _ _ ⟨⟨by omega, by omega, by omega⟩, ?_⟩)))
          obtain ⟨q1, q2, q3, q4, q5⟩ := q
          rw [i3 8 (by decide) (by decide), i3 9 (by decide) (by decide), i3 10 (by decide) (by decide), i3 5 (by decide) (by decide), i3 6 (by decide) (by decide), i7] at q5
          rw [i3 8 (by decide) (by decide), i3 9 (by decide) (by decide), i6] at q4
          rw [c1, rp]
          exact ⟨fun c c2 c4 => by rw [q1 c c2 c4, i3 c c2 c4], by rw [q2, i4], fun i hi => by rw [q3 i hi, i5 i hi], q4, funext q5⟩
        · rw [if_neg hse]
          have rp : rpS D a (x.toNatClampNeg + 1) = rpS D a x.toNatClampNeg := if_neg hse
          refine Wp.pos rfl (Wp.lets (hg _ _ ⟨⟨by omega, by omega, by omega⟩, ?_⟩))
          rw [c1, rp]
          exact ⟨i3, i4, i5, i6, i7⟩
      · intro x D' hI
        obtain ⟨⟨i0, i1, i2⟩, -⟩ := hI
        omega
    · rw [ti_0] at h2
      rw [if_neg (fun q => by rcases q with q | q; exact h q; omega)]; exact ⟨rfl, rfl⟩
    · rw [if_neg (fun q => by rcases q with q | q; exact h q; omega)]; exact ⟨rfl, rfl⟩
  · by_cases h : a = -1 ∨ (0 ≤ a.toInt ∧ a.toInt ≤ (D.1 2 11).toInt)
    · rw [if_pos h] at q; exact Or.inr q.1
    · rw [if_neg h] at q; exact Or.inl q.1
/-- four bytes behind a tape -/
def fdF (row : Nat → Int32) (n : Nat) (a : Int32) (j : Nat) : Int32 := if n ≤ j ∧ j < n + 4 then byO a (j - n) else row j
theorem tX9_add2 {a : Int32} {n : Nat} (h0 : (D.1 11 1).toInt = n) (h1 : n + 4 ≤ 500) : Wp (fX9_add a D) (fun _ D1 => (∀ c, c ≠ 11 → c ≠ 12 → D1.1 c = D.1 c) ∧ D1.2 = D.2 ∧ (∀ i, i ≠ 1 → D1.1 11 i = D.1 11 i) ∧ (D1.1 11 1).toInt = ((n + 4 : Nat) : Int) ∧ D1.1 12 = fdF (D.1 12) n a) := by
  refine (tX9_add (by omega) (by omega)).mono (fun _ D1 q => ?_)
  obtain ⟨q1, q2, q3, q4, q5⟩ := q
  refine ⟨q1, q2, q3, by omega, funext (fun j => ?_)⟩
  rw [q5, cl_of h0]
  unfold fdF
  by_cases hj : n ≤ j ∧ j < n + 4
  · rw [if_pos hj, if_pos ⟨by omega, by omega⟩]
  · rw [if_neg hj, if_neg (by omega)]
def fd5 (row : Nat → Int32) (n : Nat) (a b c d e : Int32) : Nat → Int32 := fdF (fdF (fdF (fdF (fdF row n a) (n + 4) b) (n + 8) c) (n + 12) d) (n + 16) e
theorem oX_feed {a b c d e : Int32} {n : Nat} (h0 : (D.1 11 1).toInt = n) (h1 : n ≤ 500) : Wp (fX10_feed a b c d e D) (fun r D1 => if n + 20 ≤ 500 then r.toInt = ((n + 20 : Nat) : Int) ∧ r = D1.1 11 1 ∧ (∀ c, c ≠ 11 → c ≠ 12 → D1.1 c = D.1 c) ∧ D1.2 = D.2 ∧ (∀ i, i ≠ 1 → D1.1 11 i = D.1 11 i) ∧ D1.1 12 = fd5 (D.1 12) n a b c d e else r = -1 ∧ D1 = D) := by
  unfold fX10_feed
  have e20 : (D.1 11 1 + 20).toInt = (D.1 11 1).toInt + 20 := ti_add rfl (by decide) (by omega) (by omega)
  have e500 : (500 : Int32).toInt = 500 := by decide
  refine Wp.bind (P := fun x D1 => D1 = D ∧ Bo x (n + 20 ≤ 500)) ?_ (fun x D1 q => ?_)
  · unfold fX9_hasRoom
    refine Wp.lets (Wp.ilt (fun k => Wp.z (Or.inl rfl) (Wp.ret ⟨rfl, Or.inr ⟨rfl, by omega⟩⟩)) (fun k => Wp.z (Or.inr rfl) (Wp.ret ⟨rfl, Or.inl ⟨rfl, by omega⟩⟩)))
  · obtain ⟨rfl, q⟩ := q
    rcases q with ⟨rfl, q⟩ | ⟨rfl, q⟩
    · refine Wp.neg (by decide) (Wp.bind (tX9_add2 h0 (by omega)) (fun _ D2 q2 => Wp.bind (tX9_add2 q2.2.2.2.1 (by omega)) (fun _ D3 q3 => Wp.bind (tX9_add2 q3.2.2.2.1 (by omega)) (fun _ D4 q4 => Wp.bind (tX9_add2 q4.2.2.2.1 (by omega)) (fun _ D5 q5 => Wp.bind (tX9_add2 q5.2.2.2.1 (by omega)) (fun _ D6 q6 => Wp.ret ?_))))))
      obtain ⟨a1, a2, a3, a4, a5⟩ := q2
      obtain ⟨b1, b2, b3, b4, b5⟩ := q3
      obtain ⟨c1, c2, c3, c4, c5⟩ := q4
      obtain ⟨d1, d2, d3, d4, d5⟩ := q5
      obtain ⟨f1, f2, f3, f4, f5⟩ := q6
      rw [if_pos q]
      refine ⟨f4, rfl, fun c k1 k2 => by rw [f1 c k1 k2, d1 c k1 k2, c1 c k1 k2, b1 c k1 k2, a1 c k1 k2], by rw [f2, d2, c2, b2, a2], fun i hi => by rw [f3 i hi, d3 i hi, c3 i hi, b3 i hi, a3 i hi], ?_⟩
      rw [f5, d5, c5, b5, a5]
      rfl
    · refine Wp.pos rfl (Wp.ret ?_)
      rw [if_neg q]
      exact ⟨rfl, rfl⟩
theorem oX_end {a : Int32} : Wp (fX10_end a D) (fun r D1 => if 0 ≤ a.toInt ∧ a.toInt ≤ (D.1 11 1).toInt then r = a ∧ D1 = aSI D 11 1 a else r = -1 ∧ D1 = D) := by
  unfold fX10_end
  refine Wp.bind (P := fun r D1 => if 0 ≤ a.toInt ∧ a.toInt ≤ (D.1 11 1).toInt then r = 1 ∧ D1 = aSI D 11 1 a else r = 0 ∧ D1 = D) ?_ (fun x D1 q => Wp.lets ?_)
  · unfold fX9_cut
    refine Wp.lets (Wp.ilt (fun h => Wp.ret ?_) (fun h => Wp.ile (fun g => Wp.lets (Wp.ret ?_)) (fun g => Wp.ret ?_)))
    · rw [ti_0] at h
      rw [if_neg (by omega)]; exact ⟨rfl, rfl⟩
    · rw [ti_0] at h
      rw [if_pos (by omega)]; exact ⟨rfl, rfl⟩
    · rw [if_neg (by omega)]; exact ⟨rfl, rfl⟩
  · by_cases h : 0 ≤ a.toInt ∧ a.toInt ≤ (D.1 11 1).toInt
    · rw [if_pos h] at q
      obtain ⟨rfl, rfl⟩ := q
      refine Wp.neg (by decide) (Wp.ret ?_)
      rw [if_pos h]
      exact ⟨rfl, rfl⟩
    · rw [if_neg h] at q
      obtain ⟨rfl, rfl⟩ := q
      refine Wp.pos rfl (Wp.ret ?_)
      rw [if_neg h]
      exact ⟨rfl, rfl⟩
theorem tX6_copy {o p : Nat} (ho : p ≥ o + 9 ∨ o ≥ p + 9) : Wp (fX6_copyFrom o p D) (fun _ D1 => (∀ c, (c < o ∨ o + 9 ≤ c) → D1.1 c = D.1 c) ∧ D1.2 = D.2 ∧ D1.1 o 0 = D.1 p 0) := by
  unfold fX6_copyFrom
  refine Wp.lets (Wp.lets (Wp.lets (Wp.lets (Wp.lets (Wp.lets (Wp.lets (Wp.lets (Wp.lets (Wp.ret ⟨fun c hc => ?_, rfl, ?_⟩)))))))))
  · funext z
    have h0 : c ≠ o := by omega
    have h1 : c ≠ o + 1 := by omega
    have h2 : c ≠ o + 2 := by omega
    have h3 : c ≠ o + 3 := by omega
    have h4 : c ≠ o + 4 := by omega
    have h5 : c ≠ o + 5 := by omega
    have h6 : c ≠ o + 6 := by omega
    have h7 : c ≠ o + 7 := by omega
    have h8 : c ≠ o + 8 := by omega
    simp [aSI, aCp, h0, h1, h2, h3, h4, h5, h6, h7, h8]
  · simp [aSI, aCp]
/-- the class behind a text -/
theorem oX_text {a : Int32} (ha : a = 0 ∨ a = 1) (h : TN D) (hl : 0 ≤ (D.1 11 1).toInt) (hw : (0 ≤ (D.1 13 0).toInt ∧ (D.1 13 0).toInt ≤ 16) ∧ 0 ≤ (D.1 22 0).toInt ∧ (D.1 22 0).toInt ≤ 16) : Wp (fX10_text a D) (fun _ D1 => (∀ c, (c = 0 ∨ (2 ≤ c ∧ c ≤ 10) ∨ c = 12 ∨ c = 31 ∨ c = 32 ∨ 43 ≤ c) → D1.1 c = D.1 c) ∧ TN D1 ∧ D1.1 11 1 = 0 ∧ (0 ≤ (D1.1 13 0).toInt ∧ (D1.1 13 0).toInt ≤ 16) ∧ 0 ≤ (D1.1 22 0).toInt ∧ (D1.1 22 0).toInt ≤ 16) := by
  unfold fX10_text
  refine Wp.bind (tX5_read ha h) (fun x D1 q => Wp.lets (Wp.leti (fun D3 e3 => ?_)))
  obtain ⟨q0, q1, q2, q3⟩ := q
  have f3 : ∀ c, c ≠ 1 → D3.1 c = D1.1 c := by
    intro c hc
    funext z
    rw [e3]
    simp [aSI, hc]
  refine Wp.bind (P := fun _ D4 => D4 = aSI D3 11 1 0) ?_ (fun y D4 q4 => ?_)
  · unfold fX9_cut
    refine Wp.lets (Wp.neg (by decide) (Wp.pos ?_ (Wp.lets (Wp.ret rfl))))
    rw [f3 11 (by decide), q1 11 (by omega)]
    exact Int32.le_iff_toInt_le.mpr (by rw [ti_0]; exact hl)
  · have f4 : ∀ c, c ≠ 1 → c ≠ 11 → D4.1 c = D1.1 c := by
      intro c c1 c11
      rw [q4, ← f3 c c1]
      funext z
      simp [aSI, c11]
    have l4 : D4.1 11 1 = 0 := by rw [q4]; rfl
    have t4 : TN D4 := fun l hl => by rw [f4 38 (by decide) (by decide)]; exact q2 l hl
    have b4 : ∀ c, (c = 0 ∨ (2 ≤ c ∧ c ≤ 10) ∨ c = 12 ∨ c = 31 ∨ c = 32 ∨ 43 ≤ c) → D4.1 c = D.1 c := fun c hc => by rw [f4 c (by omega) (by omega), q1 c (by omega)]
    have w4 : D4.1 13 0 = D.1 13 0 := by rw [f4 13 (by decide) (by decide), q1 13 (by omega)]
    have p4 : D4.1 22 0 = D.1 22 0 := by rw [f4 22 (by decide) (by decide), q1 22 (by omega)]
    refine Wp.ite (fun _ => Wp.ret ⟨b4, t4, l4, by rw [w4]; exact hw.1, by rw [p4]; exact hw.2⟩) (fun hx => ?_)
    have hx1 := q3 (q0.resolve_left hx)
    have e34 : D4.1 34 0 = D1.1 34 0 := by rw [f4 34 (by decide) (by decide)]
    refine Wp.ite (fun _ => Wp.bind (tX6_copy (by omega)) (fun _ D5 q5 => Wp.ret ?_)) (fun _ => Wp.bind (tX6_copy (by omega)) (fun _ D5 q5 => Wp.ret ?_))
    · refine ⟨fun c hc => by rw [q5.1 c (by omega), b4 c hc], fun l hl => by rw [q5.1 38 (by omega)]; exact t4 l hl, by rw [q5.1 11 (by omega)]; exact l4, by rw [q5.2.2, e34]; exact hx1, by rw [q5.1 22 (by omega), p4]; exact hw.2⟩
    · refine ⟨fun c hc => by rw [q5.1 c (by omega), b4 c hc], fun l hl => by rw [q5.1 38 (by omega)]; exact t4 l hl, by rw [q5.1 11 (by omega)]; exact l4, by rw [q5.1 13 (by omega), w4]; exact hw.1, by rw [q5.2.2, e34]; exact hx1⟩
end XM
end
section
/-! the reference: small functions -/
section ML
variable {D : ADD}
theorem eM_f {k f : Int32} (hk : 0 ≤ k.toInt ∧ k.toInt < 32) (hf : 0 ≤ f.toInt ∧ f.toInt < 11) : fX11_f k f D = some (D.1 32 (11 * k.toNatClampNeg + f.toNatClampNeg), D) := by
  unfold fX11_f
  have e1 : ((11 : Int32) * k).toInt = 11 * k.toInt := ti_mul (by decide) rfl (by omega) (by omega)
  have e2 : ((11 : Int32) * k + f).toInt = 11 * k.toInt + f.toInt := ti_add e1 rfl (by omega) (by omega)
  have c1 := cl_i hk.1
  have c2 := cl_i hf.1
  rw [aIn_ok (i_in (n := 352) (by omega) (by omega)), cl_of (x := (11 : Int32) * k + f) (n := 11 * k.toNatClampNeg + f.toNatClampNeg) (by omega)]
def farF (lo hi p : Int32) : Int32 := if lo ≤ p then (if p ≤ hi then 0 else p - hi) else lo - p
theorem eM_far (lo hi p : Int32) : fX11_far lo hi p D = some (farF lo hi p, D) := by
  unfold fX11_far farF
  simp only [aLet]
  split
  · split <;> rfl
  · rfl
def heldF (v : Int32) : Int32 := if -500 ≤ v then (if v ≤ 1000 then v else 1000) else -500
theorem eM_held (v : Int32) : fX11_held v D = some (heldF v, D) := by
  unfold fX11_held heldF
  simp only [aLet]
  split
  · split <;> rfl
  · rfl
/-- a unit's times, by the reference -/
def tmF (lo hi mk u : Int32) : Int32 := if mk ≤ 0 then (if farF lo hi ((if 1 ≤ lo / u then lo / u else 1) * u) ≤ farF lo hi (((if 1 ≤ lo / u then lo / u else 1) + 1) * u) then (if 1 ≤ lo / u then lo / u else 1) else (if 1 ≤ lo / u then lo / u else 1) + 1) else mk
theorem eM_timesOf {k u : Int32} (hk : 0 ≤ k.toInt ∧ k.toInt < 32) (hu : u ≠ 0) : fX11_timesOf k u D = some (tmF (D.1 33 k.toNatClampNeg) (D.1 34 k.toNatClampNeg) (D.1 32 (11 * k.toNatClampNeg + 7)) u, D) := by
  have c7 : (7 : Int32).toNatClampNeg = 7 := by decide
  have f7 : fX11_f k 7 D = some (D.1 32 (11 * k.toNatClampNeg + 7), D) := by rw [eM_f hk ⟨by decide, by decide⟩, c7]
  have ik : ∀ {α : Type} {K : Option α}, aIn k 32 K = K := fun {α} {K} => aIn_ok (i_in hk.1 hk.2)
  unfold fX11_timesOf tmF
  rw [f7]
  simp only [aBind, f7]
  by_cases hm : D.1 32 (11 * k.toNatClampNeg + 7) ≤ 0
  · rw [if_pos hm, if_pos hm, ik]
    unfold aNZ
    rw [if_neg hu]
    have K : ∀ b : Int32, (aLet (fun (x6 : Int32) (D5 : ADD) => some (x6, D5)) (fun (j91 : Int32 → ADD → Option (Int32 × ADD)) => (if farF (D.1 33 k.toNatClampNeg) (D.1 34 k.toNatClampNeg) (b * u) ≤ farF (D.1 33 k.toNatClampNeg) (D.1 34 k.toNatClampNeg) ((b + 1) * u) then j91 b D else j91 (b + (1 : Int32)) D))) = some ((if farF (D.1 33 k.toNatClampNeg) (D.1 34 k.toNatClampNeg) (b * u) ≤ farF (D.1 33 k.toNatClampNeg) (D.1 34 k.toNatClampNeg) ((b + 1) * u) then b else b + 1), D) := by
      intro b
      simp only [aLet]
      split <;> rfl
    simp only [aLet, ik, eM_far] at K ⊢
    by_cases h1 : 1 ≤ D.1 33 k.toNatClampNeg / u
    · simp only [if_pos h1]
      exact K _
    · simp only [if_neg h1]
      exact K _
  · rw [if_neg hm, if_neg hm]
def ofF (lo hi mk u : Int32) : Int32 := if u ≤ farF lo hi (tmF lo hi mk u * u) then u else farF lo hi (tmF lo hi mk u * u)
theorem eM_off {k u : Int32} (hk : 0 ≤ k.toInt ∧ k.toInt < 32) (hu : u ≠ 0) : fX11_off k u D = some (ofF (D.1 33 k.toNatClampNeg) (D.1 34 k.toNatClampNeg) (D.1 32 (11 * k.toNatClampNeg + 7)) u, D) := by
  unfold fX11_off ofF
  rw [aIn_ok (i_in (n := 32) hk.1 hk.2), aIn_ok (i_in (n := 32) hk.1 hk.2), eM_timesOf hk hu]
  simp only [aBind, eM_far, aLet]
  split <;> rfl
theorem tM_shortOf {k u : Int32} (hk : 0 ≤ k.toInt ∧ k.toInt < 32) (hu : u ≠ 0) : Pu (fX11_shortOf k u D) D := by
  unfold fX11_shortOf
  refine Wp.idx (i_in hk.1 hk.2) (Wp.lets (Wp.bindE (eM_f hk ⟨by decide, by decide⟩) (Wp.letQ (fun Q j => ∀ x, Wp (j x D) Q) (fun x => Wp.lets (Wp.ite (fun _ => Wp.ret rfl) (fun _ => Wp.ret rfl))) (fun j K => Wp.ite (fun _ => Wp.nz hu (Wp.lets (Wp.lets (Wp.lets (Wp.ite (fun _ => K _) (fun _ => Wp.nz hu (Wp.ite (fun _ => K _) (fun _ => K _)))))))) (fun _ => K _)))))
theorem tM_likely {u w : Int32} (hu : u.toInt ≤ 100000) : Pu (fX11_likely u w D) D := by
  unfold fX11_likely
  refine Wp.lets (Wp.lets (Wp.up2 (D := D) 100000 (by decide) (fun g a x h0 k => ?_) (by decide) (by decide)))
  unfold lX11_likely_4
  refine Wp.ile (fun _ => Wp.ret rfl) (fun h => Wp.bindE (eM_far _ _ _) (Wp.bindE (eM_far _ _ _) (Wp.lets (Wp.ite (fun _ => Wp.lets (Wp.ite (fun _ => ?_) (fun _ => ?_))) (fun _ => Wp.lets (Wp.ite (fun _ => ?_) (fun _ => ?_))))))) <;> exact Wp.lets (Wp.lets (k (by omega) _))
theorem tM_draw {one of : Int32} (ho : 1 ≤ of.toInt) : Wp (fX11_draw one of D) (fun _ D1 => D1.1 = D.1 ∧ ∀ j, j ≤ 32 → D1.2 37 j = drF (D.2 37) one of j) := by
  unfold fX11_draw
  have ne := i64_ne (a := of) (by omega)
  refine Wp.lets (Wp.lets ?_)
  refine Wp.fix1 (fun n x D' => (-1 ≤ x.toInt ∧ x.toInt ≤ 32 ∧ x.toInt + 1 < (n : Int)) ∧ D'.1 = D.1 ∧ ∀ j : Nat, j ≤ 32 → D'.2 37 j = if x.toInt < (j : Int) then drF (D.2 37) one of j else D.2 37 j) ?_ ?_ aFuel 1000000 _ _ (Nat.le_refl _) ⟨⟨by decide, by decide, by decide⟩, rfl, fun j hj => by rw [show (32 : Int32).toInt = 32 by decide, if_neg (by omega)]⟩
  · intro n g hg x D' hI
    obtain ⟨⟨i0, i1, i2⟩, i3, i4⟩ := hI
    unfold lX11_draw_3
    refine Wp.ilt (fun h => Wp.ret ⟨i3, fun j hj => ?_⟩) (fun h => ?_)
    · rw [ti_0] at h
      rw [i4 j hj, if_pos (by omega)]
    · rw [ti_0] at h
      have ex := cl_i h
      have ii : vp_in x 33 := i_in h (by omega)
      have c1 : (x - 1).toInt = x.toInt - 1 := ti_sub rfl ti_1 (by omega) (by omega)
      have c2 : (x + -1).toInt = x.toInt + -1 := ti_add rfl ti_m1 (by omega) (by omega)
      have fin : ∀ (y : Int64), ((D'.2 37 x.toNatClampNeg * (of - one).toInt64 + y) / of.toInt64 = drF (D.2 37) one of x.toNatClampNeg) → ∀ j : Nat, j ≤ 32 → (aSL D' 37 x.toNatClampNeg ((D'.2 37 x.toNatClampNeg * (of - one).toInt64 + y) / of.toInt64)).2 37 j = if (x + -1).toInt < (j : Int) then drF (D.2 37) one of j else D.2 37 j := by
        intro y hy j hj
        show (if (37 : Nat) = 37 ∧ j = x.toNatClampNeg then (D'.2 37 x.toNatClampNeg * (of - one).toInt64 + y) / of.toInt64 else D'.2 37 j) = _
        by_cases hjx : j = x.toNatClampNeg
        · rw [if_pos ⟨rfl, hjx⟩, hy, if_pos (by omega), hjx]
        · rw [if_neg (fun q => hjx q.2), i4 j hj]
          by_cases hjl : x.toInt < (j : Int)
          · rw [if_pos hjl, if_pos (by omega)]
          · rw [if_neg hjl, if_neg (by omega)]
      have e0 : D'.2 37 x.toNatClampNeg = D.2 37 x.toNatClampNeg := by rw [i4 _ (by omega), if_neg (by omega)]
      refine Wp.idx ii (Wp.lets (Wp.ile (fun h0 => ?_) (fun h0 => ?_)))
      · rw [ti_0] at h0
        refine Wp.nzl ne (Wp.idx ii (Wp.lets (Wp.lets (hg _ _ ⟨⟨by omega, by omega, by omega⟩, i3, fin 0 ?_⟩))))
        rw [e0]
        unfold drF
        rw [if_pos (by omega), show x.toNatClampNeg = 0 by omega, Int64.add_zero]
      · rw [ti_0] at h0
        have w1 : (x - 1).toNatClampNeg = x.toNatClampNeg - 1 := cl_of (by omega)
        refine Wp.idx (i_in (by omega) (by omega)) (Wp.nzl ne (Wp.idx ii (Wp.lets (Wp.lets (hg _ _ ⟨⟨by omega, by omega, by omega⟩, i3, fin _ ?_⟩)))))
        rw [e0, w1, i4 (x.toNatClampNeg - 1) (by omega), if_neg (by omega)]
        unfold drF
        rw [if_neg (by omega)]
  · intro x D' hI
    obtain ⟨⟨i0, i1, i2⟩, -⟩ := hI
    omega
theorem tM_against {a u v : Int32} (hu : 0 ≤ u.toInt - a.toInt ∧ u.toInt - a.toInt ≤ 300) (hv : 0 ≤ v.toInt - a.toInt ∧ v.toInt - a.toInt ≤ 300) : Pu (fX11_against a u v D) D := by
  unfold fX11_against
  have e1 : (u - a).toInt = u.toInt - a.toInt := ti_sub rfl rfl (by omega) (by omega)
  have e2 : (v - a).toInt = v.toInt - a.toInt := ti_sub rfl rfl (by omega) (by omega)
  exact Wp.idx (i_in (by omega) (by omega)) (Wp.idx (i_in (by omega) (by omega)) (Wp.ret rfl))
theorem tM_isPeak {a b u : Int32} (hU : UR a b 300) (h0 : a.toInt ≤ u.toInt) (h1 : u.toInt ≤ b.toInt) : Wp (fX11_isPeak a b u D) (fun x D1 => D1 = D ∧ (x = 0 ∨ x = 1)) := by
  obtain ⟨u0, u1, u2, u3⟩ := hU
  unfold fX11_isPeak
  refine Wp.lets (Wp.lets (Wp.letQ (fun Q j => Wp (j D) Q) (Wp.lets (Wp.ite (fun _ => Wp.z (Or.inr rfl) (Wp.ret ⟨rfl, Or.inr rfl⟩)) (fun hne => ?_))) (fun j K => Wp.ite (fun _ => K) (fun hne => ?_))))
  · have hne := ti_ne hne
    have e : (u + 1).toInt = u.toInt + 1 := ti_add rfl ti_1 (by omega) (by omega)
    refine Wp.bind (tM_against (by omega) (by omega)) (fun x D1 q => ?_)
    subst q
    exact Wp.ite (fun _ => Wp.z (Or.inl rfl) (Wp.ret ⟨rfl, Or.inl rfl⟩)) (fun _ => Wp.z (Or.inr rfl) (Wp.ret ⟨rfl, Or.inr rfl⟩))
  · have hne := ti_ne hne
    have e : (u - 1).toInt = u.toInt - 1 := ti_sub rfl ti_1 (by omega) (by omega)
    refine Wp.bind (tM_against (by omega) (by omega)) (fun x D1 q => ?_)
    subst q
    exact Wp.ite (fun _ => Wp.z (Or.inl rfl) (Wp.ret ⟨rfl, Or.inl rfl⟩)) (fun _ => K)
theorem tM_placeOf {a b u : Int32} (hU : UR a b 300) (h0 : a.toInt ≤ u.toInt) (h1 : u.toInt ≤ b.toInt) : Pu (fX11_placeOf a b u D) D := by
  unfold fX11_placeOf
  have hU' := hU
  obtain ⟨u0, u1, u2, u3⟩ := hU'
  refine Wp.bind (tM_isPeak hU h0 h1) (fun x D1 q => ?_)
  obtain ⟨rfl, q⟩ := q
  refine Wp.ite (fun _ => Wp.ret rfl) (fun _ => Wp.lets (Wp.lets ?_))
  refine Wp.fix2 (fun n y x D' => (a.toInt ≤ x.toInt ∧ x.toInt ≤ b.toInt + 1 ∧ b.toInt + 1 - x.toInt < (n : Int)) ∧ D' = D1) ?_ ?_ aFuel 1000000 _ _ _ (Nat.le_refl _) ⟨⟨by omega, by omega, by omega⟩, rfl⟩
  · intro n g hg y x D' hI
    obtain ⟨⟨i0, i1, i2⟩, i3⟩ := hI
    subst i3
    have c2 : (x + 1).toInt = x.toInt + 1 := ti_add rfl ti_1 (by omega) (by omega)
    unfold lX11_placeOf_20
    refine Wp.ilt (fun _ => Wp.ret rfl) (fun k => Wp.bind (tM_against (by omega) (by omega)) (fun z D2 q2 => ?_))
    subst q2
    have go : ∀ y, Wp (g y (x + 1) D2) (fun _ D1 => D1 = D2) := fun y => hg _ _ _ ⟨⟨by omega, by omega, by omega⟩, rfl⟩
    refine Wp.lets (Wp.lets (Wp.ite (fun _ => Wp.lets (Wp.lets (go _))) (fun _ => Wp.bind (tM_isPeak hU i0 k) (fun w D3 q3 => ?_))))
    obtain ⟨rfl, -⟩ := q3
    exact Wp.ite (fun _ => Wp.lets (Wp.lets (go _))) (fun _ => Wp.lets (Wp.ite (fun _ => Wp.lets (Wp.lets (go _))) (fun _ => Wp.ite (fun _ => Wp.ite (fun _ => Wp.lets (Wp.lets (go _))) (fun _ => Wp.lets (Wp.lets (go _)))) (fun _ => Wp.lets (Wp.lets (go _))))))
  · intro y x D' hI
    obtain ⟨⟨i0, i1, i2⟩, -⟩ := hI
    omega
/-- how many stones the reference looks at -/
abbrev MN (D : ADD) : Prop := 0 ≤ (D.1 0 41).toInt ∧ (D.1 0 41).toInt ≤ 32
theorem u_ne {u : Int32} (h : 1 ≤ u.toInt) : u ≠ 0 := fun e => by rw [e, ti_0] at h; omega
theorem tM_scoreOf {u : Int32} (hm : MN D) (hu : 1 ≤ u.toInt) : Pu (fX11_scoreOf u D) D := by
  unfold fX11_scoreOf
  refine Wp.lets (Wp.lets (Wp.up2 (D := D) 32 (by decide) (fun g a x h0 k => ?_) (by decide) (by decide)))
  unfold lX11_scoreOf_4
  refine Wp.ile (fun _ => Wp.ret rfl) (fun h => Wp.idx (i_in h0 (by omega)) (Wp.lets (Wp.ite (fun _ => Wp.lets (Wp.lets (k (by omega) _))) (fun _ => Wp.bindE (eM_off ⟨h0, by omega⟩ (u_ne hu)) (Wp.lets (Wp.lets (k (by omega) _)))))))
theorem tM_sumOf {u v : Int32} (hm : MN D) (hu : 1 ≤ u.toInt) (hv : 1 ≤ v.toInt) : Pu (fX11_sumOf u v D) D := by
  unfold fX11_sumOf
  refine Wp.lets (Wp.lets (Wp.up2 (D := D) 32 (by decide) (fun g a x h0 k => ?_) (by decide) (by decide)))
  unfold lX11_sumOf_5
  refine Wp.ile (fun _ => Wp.ret rfl) (fun h => Wp.idx (i_in h0 (by omega)) (Wp.lets (Wp.ite (fun _ => Wp.lets (k (by omega) _)) (fun _ => Wp.bindE (eM_off ⟨h0, by omega⟩ (u_ne hu)) (Wp.bindE (eM_off ⟨h0, by omega⟩ (u_ne hv)) (Wp.lets (Wp.ite (fun _ => Wp.lets (Wp.lets (k (by omega) _))) (fun _ => Wp.lets (Wp.lets (k (by omega) _))))))))))
theorem tM_those (hm : MN D) : Pu (fX11_those D) D := by
  unfold fX11_those
  refine Wp.lets (Wp.lets (Wp.up2 (D := D) 32 (by decide) (fun g a x h0 k => ?_) (by decide) (by decide)))
  unfold lX11_those_4
  refine Wp.ile (fun _ => Wp.ret rfl) (fun h => Wp.idx (i_in h0 (by omega)) (Wp.lets (Wp.ite (fun _ => Wp.lets (Wp.lets (k (by omega) _))) (fun _ => Wp.lets (Wp.lets (k (by omega) _))))))
theorem tM_nearOf {u : Int32} (hm : MN D) (hu : 1 ≤ u.toInt) : Wp (fX11_nearOf u D) (fun x D1 => D1 = D ∧ 0 ≤ x.toInt ∧ x.toInt ≤ 32) := by
  unfold fX11_nearOf
  refine Wp.lets (Wp.lets ?_)
  refine Wp.fix2 (fun n y x D' => (0 ≤ x.toInt ∧ x.toInt ≤ 32 ∧ 32 - x.toInt < (n : Int)) ∧ D' = D ∧ 0 ≤ y.toInt ∧ y.toInt ≤ x.toInt) ?_ ?_ aFuel 1000000 _ _ _ (Nat.le_refl _) ⟨⟨by decide, by decide, by decide⟩, rfl, by decide, by decide⟩
  · intro n g hg y x D' hI
    obtain ⟨⟨i0, i1, i2⟩, i3, i4, i5⟩ := hI
    subst i3
    unfold lX11_nearOf_4
    refine Wp.ile (fun _ => Wp.ret ⟨rfl, i4, by omega⟩) (fun h => ?_)
    have c2 : (x + 1).toInt = x.toInt + 1 := ti_add rfl ti_1 (by omega) (by omega)
    have y1 : (y + 1).toInt = y.toInt + 1 := ti_add rfl ti_1 (by omega) (by omega)
    have y0 : (y + 0).toInt = y.toInt := by rw [Int32.add_zero]
    have g0 : Wp (g (y + 0) (x + 1) D') (fun x D1 => D1 = D' ∧ 0 ≤ x.toInt ∧ x.toInt ≤ 32) := hg _ _ _ ⟨⟨by omega, by omega, by omega⟩, rfl, by omega, by omega⟩
    have g1 : Wp (g (y + 1) (x + 1) D') (fun x D1 => D1 = D' ∧ 0 ≤ x.toInt ∧ x.toInt ≤ 32) := hg _ _ _ ⟨⟨by omega, by omega, by omega⟩, rfl, by omega, by omega⟩
    exact Wp.idx (i_in i0 (by omega)) (Wp.lets (Wp.lets (Wp.ite (fun _ => Wp.lets (Wp.lets g0)) (fun _ => Wp.bindE (eM_off ⟨i0, by omega⟩ (u_ne hu)) (Wp.ite (fun _ => Wp.lets (Wp.lets g0)) (fun _ => Wp.lets (Wp.lets g1)))))))
  · intro y x D' hI
    obtain ⟨⟨i0, i1, i2⟩, -⟩ := hI
    omega
theorem tM_bestOf {a b : Int32} (hm : MN D) (hU : UR a b 300) : Wp (fX11_bestOf a b D) (fun _ D1 => (∀ c, c ≠ 36 → D1.1 c = D.1 c) ∧ D1.2 = D.2) := by
  unfold fX11_bestOf
  have hU' := hU
  obtain ⟨u0, u1, u2, u3⟩ := hU'
  refine Wp.bind (tM_findScores hU (fun u D' e h1 h2 => ?_)) (fun _ D1 q => ?_)
  · exact tM_scoreOf (by unfold MN; rw [e 0 (by decide)]; exact hm) (by omega)
  · have e1 : (a + 1).toInt = a.toInt + 1 := ti_add rfl ti_1 (by omega) (by omega)
    refine Wp.lets (Wp.lets (Wp.lets ?_))
    refine Wp.fix2 (fun n y x D' => (a.toInt ≤ x.toInt ∧ x.toInt ≤ b.toInt + 1 ∧ b.toInt + 1 - x.toInt < (n : Int)) ∧ (a.toInt ≤ y.toInt ∧ y.toInt ≤ b.toInt) ∧ D' = D1) ?_ ?_ aFuel 1000000 _ _ _ (Nat.le_refl _) ⟨⟨by omega, by omega, by omega⟩, ⟨by omega, by omega⟩, rfl⟩
    · intro n g hg y x D' hI
      obtain ⟨⟨i0, i1, i2⟩, i4, i3⟩ := hI
      subst i3
      have c2 : (x + 1).toInt = x.toInt + 1 := ti_add rfl ti_1 (by omega) (by omega)
      unfold lX11_bestOf_13
      refine Wp.ilt (fun _ => Wp.ret q) (fun k => Wp.bind (tM_against (by omega) (by omega)) (fun z D2 q2 => ?_))
      subst q2
      exact Wp.lets (Wp.ite (fun _ => Wp.lets (hg _ _ _ ⟨⟨by omega, by omega, by omega⟩, i4, rfl⟩)) (fun _ => Wp.lets (hg _ _ _ ⟨⟨by omega, by omega, by omega⟩, ⟨i0, k⟩, rfl⟩)))
    · intro y x D' hI
      obtain ⟨⟨i0, i1, i2⟩, -⟩ := hI
      omega
theorem tM_worthOf {k a b : Int32} (hm : MN D) (hk : 0 ≤ k.toInt ∧ k.toInt < 32) (hU : UR a b 300) : Wp (fX11_worthOf k a b D) (fun _ D1 => ∀ c, c ≠ 33 → c ≠ 34 → c ≠ 36 → D1.1 c = D.1 c) := by
  unfold fX11_worthOf
  have ik : vp_in k 32 := i_in hk.1 hk.2
  refine Wp.idx ik (Wp.lets (Wp.idx ik (Wp.lets (Wp.idx ik (Wp.leti (fun D1 e1 => ?_))))))
  have f1 : ∀ c, c ≠ 34 → D1.1 c = D.1 c := by
    intro c hc
    funext z
    rw [e1]
    simp [aSI, hc]
  refine Wp.bind (tM_bestOf (by unfold MN; rw [f1 0 (by decide)]; exact hm) hU) (fun y D2 q2 => Wp.idx ik (Wp.lets (Wp.idx ik (Wp.leti (fun D4 e4 => ?_)))))
  have f4 : ∀ c, c ≠ 33 → c ≠ 34 → c ≠ 36 → D4.1 c = D.1 c := by
    intro c c33 c34 c36
    rw [← f1 c c34, ← q2.1 c c36]
    funext z
    rw [e4]
    simp [aSI, c33, c34]
  refine Wp.bind (tM_bestOf (by unfold MN; rw [f4 0 (by decide) (by decide) (by decide)]; exact hm) hU) (fun z D5 q5 => Wp.idx ik (Wp.leti (fun D6 e6 => ?_)))
  have f6 : ∀ c, c ≠ 33 → c ≠ 34 → c ≠ 36 → D6.1 c = D.1 c := by
    intro c c33 c34 c36
    rw [← f4 c c33 c34 c36, ← q5.1 c c36]
    funext z
    rw [e6]
    simp [aSI, c33]
  exact Wp.lets (Wp.ite (fun _ => Wp.ret f6) (fun _ => Wp.ret f6))
theorem tM_chanceOf {u : Int32} (hm : MN D) (hu : 1 ≤ u.toInt ∧ u.toInt ≤ 2000) : Wp (fX11_chanceOf u D) (fun _ D1 => D1.1 = D.1) := by
  unfold fX11_chanceOf
  refine Wp.bind tM_begin (fun _ D1 q => Wp.lets (Wp.lets ?_))
  refine Wp.fix1 (fun n x D' => (0 ≤ x.toInt ∧ x.toInt ≤ 32 ∧ 32 - x.toInt < (n : Int)) ∧ D'.1 = D.1) ?_ ?_ aFuel 1000000 _ _ (Nat.le_refl _) ⟨⟨by decide, by decide, by decide⟩, q.1⟩
  · intro n g hg x D' hI
    obtain ⟨⟨i0, i1, i2⟩, i3⟩ := hI
    unfold lX11_chanceOf_6
    have hm' : MN D' := by unfold MN; rw [i3]; exact hm
    refine Wp.ile (fun _ => Wp.bind (tM_nearOf hm' hu.1) (fun r D2 q2 => ?_)) (fun h => ?_)
    · obtain ⟨rfl, r0, r1⟩ := q2
      refine Wp.bind (tM_from r0 (by omega)) (fun s D3 q3 => ?_)
      obtain ⟨rfl, -⟩ := q3
      exact Wp.ret i3
    · have h : x.toInt < (D'.1 0 41).toInt := h
      have ii : vp_in x 32 := i_in i0 (by omega)
      have c2 : (x + 1).toInt = x.toInt + 1 := ti_add rfl ti_1 (by omega) (by omega)
      refine Wp.idx ii (Wp.lets (Wp.ite (fun _ => Wp.lets (hg _ _ ⟨⟨by omega, by omega, by omega⟩, i3⟩)) (fun _ => Wp.idx ii (Wp.idx ii (Wp.bind (tM_likely (by omega)) (fun r D2 q2 => ?_))))))
      subst q2
      exact Wp.bind (tM_draw hu.1) (fun _ D3 q3 => Wp.lets (hg _ _ ⟨⟨by omega, by omega, by omega⟩, by rw [q3.1, i3]⟩))
  · intro x D' hI
    obtain ⟨⟨i0, i1, i2⟩, -⟩ := hI
    omega
theorem tM_keep (hm : MN D) : Wp (fX11_keepChosen D) (fun _ D1 => ∀ c, c ≠ 38 → D1.1 c = D.1 c) := by
  unfold fX11_keepChosen
  refine Wp.lets (Wp.lets ?_)
  refine Wp.fix1 (fun n x D' => (0 ≤ x.toInt ∧ x.toInt ≤ 32 ∧ 32 - x.toInt < (n : Int)) ∧ ∀ c, c ≠ 38 → D'.1 c = D.1 c) ?_ ?_ aFuel 1000000 _ _ (Nat.le_refl _) ⟨⟨by decide, by decide, by decide⟩, fun _ _ => rfl⟩
  · intro n g hg x D' hI
    obtain ⟨⟨i0, i1, i2⟩, i3⟩ := hI
    unfold lX11_keepChosen_2
    rw [i3 0 (by decide)]
    refine Wp.ile (fun _ => Wp.ret i3) (fun h => ?_)
    have c2 : (x + 1).toInt = x.toInt + 1 := ti_add rfl ti_1 (by omega) (by omega)
    refine Wp.idx (i_in i0 (by omega)) (Wp.idx (i_in i0 (by omega)) (Wp.lets (Wp.lets (hg _ _ ⟨⟨by omega, by omega, by omega⟩, fun c hc => ?_⟩))))
    funext z
    simp [aSI, hc, i3 c hc]
  · intro x D' hI
    obtain ⟨⟨i0, i1, i2⟩, -⟩ := hI
    omega
end ML
end
section
/-! the reference: looking -/
/-- what the reference's questions ask of the state -/
def QM (D : ADD) : Prop := (0 ≤ (D.1 5 0).toInt ∧ (D.1 5 0).toInt ≤ 32) ∧ (0 ≤ (D.1 8 0).toInt ∧ (D.1 8 0).toInt ≤ 400) ∧ (∀ k : Nat, (k : Int) < (D.1 8 0).toInt → (0 ≤ (D.1 9 (4 * k + 1)).toInt ∧ (D.1 9 (4 * k + 1)).toInt < 32) ∧ -1 ≤ (D.1 9 (4 * k + 2)).toInt ∧ (D.1 9 (4 * k + 2)).toInt ≤ 10) ∧ ((D.1 15 0).toInt ≤ 16 ∧ (D.1 15 1).toInt ≤ 16) ∧ ∀ l, l < 32 → (D.1 16 l).toInt ≤ 4
/-- what is told to the reference is the same -/
def FmM (D D1 : ADD) : Prop := ∀ c, ((1 ≤ c ∧ c ≤ 29) ∨ c = 39) → D1.1 c = D.1 c
theorem FmM.refl (D : ADD) : FmM D D := fun _ _ => rfl
theorem FmM.trans {D D1 D2 : ADD} (h : FmM D D1) (k : FmM D1 D2) : FmM D D2 := fun c hc => (k c hc).trans (h c hc)
theorem QM.fr {D D1 : ADD} (h : QM D) (f : FmM D D1) : QM D1 := by
  unfold QM
  rw [f 5 (by omega), f 8 (by omega), f 9 (by omega), f 15 (by omega), f 16 (by omega)]
  exact h
theorem FmM.code {D : ADD} {x : Int32} : FmM D (aSI D 0 0 x) := fun c hc => by
  funext z
  have : c ≠ 0 := by omega
  simp [aSI, this]
section MK
variable {D : ADD}
theorem and7 (x : Int32) : 0 ≤ (x &&& 7).toInt ∧ (x &&& 7).toInt < 8 := by
  obtain ⟨j, hj, ej⟩ := pk_andE x (m := 7) 3 (by decide)
  have hj : j < 8 := hj
  rw [ej]
  have e : (Int32.ofNat j).toInt = (j : Int) := ti_nI (by omega)
  have e2 : (nI j).toInt = (j : Int) := ti_nI (by omega)
  first | (rw [e]; omega) | (rw [e2]; omega)
theorem tM_holds {l : Int32} (hl : 0 ≤ l.toInt ∧ l.toInt < 32) (ht : (D.1 16 l.toNatClampNeg).toInt ≤ 4) : Pu (fX11_holds l D) D := by
  unfold fX11_holds
  have e1 : ((4 : Int32) * l).toInt = 4 * l.toInt := ti_mul (by decide) rfl (by omega) (by omega)
  have tlo := ti_lo (D.1 16 l.toNatClampNeg)
  have e2 : ((4 : Int32) * l + D.1 16 l.toNatClampNeg).toInt = 4 * l.toInt + (D.1 16 l.toNatClampNeg).toInt := ti_add e1 rfl (by omega) (by omega)
  have il : vp_in l 128 := i_in hl.1 (by omega)
  refine Wp.lets (Wp.lets (Wp.lets (Wp.up1 (D := D) 200 (by decide) (fun g x h0 k => ?_) (by omega) (by omega))))
  unfold lX11_holds_4
  refine Wp.idx il (Wp.ile (fun _ => Wp.ret rfl) (fun h => ?_))
  have ix : vp_in x 512 := i_in h0 (by omega)
  have i7 := and7 (D.1 17 x.toNatClampNeg)
  refine Wp.idx ix (Wp.idx (i_in i7.1 i7.2) (Wp.lets (Wp.idx ix (Wp.lets (Wp.idx ix (Wp.letQ (fun Q j => ∀ y, Wp (j y D) Q) (fun y => Wp.idx ix (Wp.lets (Wp.ite (fun _ => Wp.ite (fun _ => Wp.ret rfl) (fun _ => Wp.lets (k (by omega)))) (fun _ => Wp.ite (fun _ => Wp.ret rfl) (fun _ => Wp.lets (k (by omega))))))) (fun j K => Wp.ite (fun _ => Wp.ite (fun _ => K _) (fun _ => K _)) (fun _ => Wp.idx ix (Wp.ite (fun _ => Wp.ite (fun _ => K _) (fun _ => K _)) (fun _ => Wp.ite (fun _ => K _) (fun _ => K _)))))))))))
theorem tM_findSpan {k : Int32} (hk : 0 ≤ k.toInt ∧ k.toInt < 32) (hl : (D.1 15 0).toInt ≤ 16) (ht : ∀ l, l < 32 → (D.1 16 l).toInt ≤ 4) : Wp (fX11_findSpan k D) (fun _ D1 => ∀ c, c ≠ 30 → c ≠ 33 → c ≠ 34 → D1.1 c = D.1 c) := by
  unfold fX11_findSpan
  have ik : vp_in k 32 := i_in hk.1 hk.2
  refine Wp.bindE (eM_f hk ⟨by decide, by decide⟩) (Wp.idd (by decide) (Wp.lets (Wp.bindE (eM_f hk ⟨by decide, by decide⟩) (Wp.idd (by decide) (Wp.lets (Wp.bindE (eM_f hk ⟨by decide, by decide⟩) (Wp.idd (by decide) (Wp.lets (Wp.bindE (eM_f hk ⟨by decide, by decide⟩) (Wp.idd (by decide) (Wp.lets (Wp.bindE (eM_f hk ⟨by decide, by decide⟩) (Wp.idd (by decide) (Wp.lets (Wp.bindE (eM_f hk ⟨by decide, by decide⟩) (Wp.idd (by decide) (Wp.lets (Wp.bindE (eM_f hk ⟨by decide, by decide⟩) (Wp.idd (by decide) (Wp.leti (fun E e => ?_)))))))))))))))))))))
  have fE : ∀ c, c ≠ 30 → E.1 c = D.1 c := by
    intro c hc
    funext z
    rw [e]
    simp [aSI, hc]
  refine Wp.letQ (fun Q j => ∀ x y, Wp (j x y E) Q) (fun x y => ?_) (fun j K => Wp.lets ?_)
  · refine Wp.bindE (eM_f hk ⟨by decide, by decide⟩) (Wp.bindE (eM_f hk ⟨by decide, by decide⟩) (Wp.lets (Wp.bindE (eM_held _) (Wp.nz (by decide) (Wp.lets (Wp.bindE (eM_held _) (Wp.nz (by decide) (Wp.lets (Wp.letQ (fun Q j => ∀ x, Wp (j x E) Q) (fun x => ?_) (fun j K => Wp.ite (fun _ => K _) (fun _ => K _)))))))))))
    refine Wp.idx ik (Wp.leti (fun E1 e1 => Wp.letQ (fun Q j => ∀ x, Wp (j x E1) Q) (fun y => Wp.idx ik (Wp.lets (Wp.ret (fun c c30 c33 c34 => ?_)))) (fun j K => Wp.ite (fun _ => K _) (fun _ => K _))))
    rw [← fE c c30]
    funext z
    rw [e1]
    simp [aSI, c33, c34]
  · refine Wp.up4 (D := E) 16 (by decide) 0 (by decide) (fun g a b c x h0 kk => ?_) (by decide) (by decide)
    unfold lX11_findSpan_102
    refine Wp.idd (by decide) ?_
    rw [cl_0, fE 15 (by decide)]
    refine Wp.ile (fun _ => K _ _) (fun h => Wp.ite (fun _ => K _ _) (fun _ => ?_))
    have ex := cl_i h0
    have ix : vp_in x 128 := i_in h0 (by omega)
    refine Wp.bind (tM_holds ⟨h0, by omega⟩ (by rw [fE 16 (by decide)]; exact ht _ (by omega))) (fun y D1 q => ?_)
    subst q
    refine Wp.letQ (fun Q j => ∀ a b c, Wp (j a b c D1) Q) (fun a b c => Wp.lets (kk (by omega) _ _ _)) (fun j2 K2 => Wp.ite (fun _ => K2 _ _ _) (fun _ => Wp.idx ix (Wp.letQ (fun Q j => ∀ w, Wp (j w D1) Q) (fun w => Wp.ite (fun _ => K2 _ _ _) (fun _ => Wp.idx ix (Wp.letQ (fun Q j => ∀ w, Wp (j w D1) Q) (fun v => Wp.lets (Wp.idx ix (Wp.lets (Wp.ite (fun _ => Wp.idx ix (Wp.lets (K2 _ _ _))) (fun _ => Wp.idx ix (Wp.lets (K2 _ _ _))))))) (fun j4 K4 => Wp.ite (fun _ => Wp.idx ix (K4 _)) (fun _ => Wp.idx ix (K4 _)))))) (fun j3 K3 => Wp.ite (fun _ => K3 _) (fun _ => K3 _)))))
theorem tM_isChosen {k : Int32} (hk : 0 ≤ k.toInt ∧ k.toInt < 32) : Wp (fX11_isChosen k D) (fun x D1 => D1 = D ∧ (x = 0 ∨ x = 1)) := by
  unfold fX11_isChosen
  refine Wp.bindE (eM_f hk ⟨by decide, by decide⟩) (Wp.idd (by decide) (Wp.letQ (fun Q j => ∀ x, Wp (j x D) Q) (fun x => ?_) (fun j K => Wp.lets (Wp.ite (fun _ => K _) (fun _ => Wp.bindE (eM_f hk ⟨by decide, by decide⟩) (Wp.idd (by decide) (Wp.ite (fun _ => K _) (fun _ => K _))))))))
  refine Wp.idd (by decide) (Wp.letQ (fun Q j => ∀ x, Wp (j x D) Q) (fun y => ?_) (fun j K => Wp.lets (Wp.ite (fun _ => K _) (fun _ => Wp.idd (by decide) (Wp.letQ (fun Q j => ∀ x, Wp (j x D) Q) (fun z => Wp.bindE (eM_f hk ⟨by decide, by decide⟩) (Wp.lets (Wp.ite (fun _ => Wp.ite (fun _ => K _) (fun _ => K _)) (fun _ => Wp.ite (fun _ => K _) (fun _ => K _))))) (fun j2 K2 => Wp.ite (fun _ => K2 _) (fun _ => K2 _)))))))
  have z0 : Wp (aZ 0 (some ((0 : Int32), D))) (fun x D1 => D1 = D ∧ (x = 0 ∨ x = 1)) := Wp.z (Or.inl rfl) (Wp.ret ⟨rfl, Or.inl rfl⟩)
  have z1 : Wp (aZ 1 (some ((1 : Int32), D))) (fun x D1 => D1 = D ∧ (x = 0 ∨ x = 1)) := Wp.z (Or.inr rfl) (Wp.ret ⟨rfl, Or.inr rfl⟩)
  exact Wp.bindE (eM_f hk ⟨by decide, by decide⟩) (Wp.lets (Wp.lets (Wp.ite (fun _ => Wp.idd (by decide) (Wp.bindE (eM_f hk ⟨by decide, by decide⟩) (Wp.ite (fun _ => z0) (fun _ => Wp.idd (by decide) (Wp.bindE (eM_f hk ⟨by decide, by decide⟩) (Wp.ite (fun _ => z0) (fun _ => Wp.ite (fun _ => z0) (fun _ => Wp.ite (fun _ => z0) (fun _ => z1))))))))) (fun _ => z0))))
theorem tM_day : Pu (fX11_dayOfView D) D := by
  unfold fX11_dayOfView
  exact Wp.idd (by decide) (Wp.lets (Wp.ite (fun _ => Wp.idd (by decide) (Wp.ret rfl)) (fun _ => Wp.idd (by decide) (Wp.ret rfl))))
/-- the reference's looking writes its own rows alone -/
abbrev LkF (D D1 : ADD) : Prop := ∀ c, (1 ≤ c ∧ c ≤ 29) ∨ 36 ≤ c → D1.1 c = D.1 c
theorem tM_look (h : QM D) : Wp (fX11_look D) (fun _ D1 => LkF D D1 ∧ D1.1 0 41 = D.1 5 0) := by
  obtain ⟨h5, h8, h9, h15, h16⟩ := h
  unfold fX11_look
  refine Wp.bind tM_day (fun dy D1 q => ?_)
  subst q
  refine Wp.idd (by decide) ?_
  rw [cl_0]
  refine Wp.leti (fun D2 e2 => ?_)
  have f2 : LkF D1 D2 := by
    intro c hc
    funext z
    rw [e2]
    have : c ≠ 0 := by omega
    simp [aSI, this]
  have m2 : D2.1 0 41 = D1.1 5 0 := by rw [e2]; rfl
  refine Wp.letQ (fun Q j => ∀ D3, LkF D1 D3 → D3.1 0 41 = D1.1 5 0 → Wp (j D3) Q) (fun D3 f3 m3 => ?_) (fun j K => Wp.lets ?_)
  · refine Wp.letQ (fun Q j => ∀ D4, LkF D1 D4 → D4.1 0 41 = D1.1 5 0 → Wp (j D4) Q) (fun D4 f4 m4 => ?_) (fun j K => Wp.lets ?_)
    · refine Wp.lets (Wp.lets ?_)
      refine Wp.fix1 (fun n x D' => (0 ≤ x.toInt ∧ x.toInt ≤ 32 ∧ 32 - x.toInt < (n : Int)) ∧ LkF D1 D' ∧ D'.1 0 41 = D1.1 5 0) ?_ ?_ aFuel 1000000 _ _ (Nat.le_refl _) ⟨⟨by decide, by decide, by decide⟩, f4, m4⟩
      · intro n g hg x D' hI
        obtain ⟨⟨i0, i1, i2⟩, i3, i4⟩ := hI
        unfold lX11_look_288
        rw [i4]
        refine Wp.ile (fun _ => Wp.ret ⟨i3, i4⟩) (fun h => ?_)
        have ix : vp_in x 32 := i_in i0 (by omega)
        have c2 : (x + 1).toInt = x.toInt + 1 := ti_add rfl ti_1 (by omega) (by omega)
        refine Wp.idx ix (Wp.leti (fun D7 e7 => Wp.idx ix ?_))
        have f7 : LkF D1 D7 := by
          intro c hc
          rw [← i3 c hc]
          funext z
          rw [e7]
          have : c ≠ 35 := by omega
          simp [aSI, this]
        have m7 : D7.1 0 41 = D1.1 5 0 := by rw [e7]; exact i4
        refine Wp.letQ (fun Q j => ∀ D8, LkF D1 D8 → D8.1 0 41 = D1.1 5 0 → Wp (j D8) Q) (fun D8 f8 m8 => Wp.lets (hg _ _ ⟨⟨by omega, by omega, by omega⟩, f8, m8⟩)) (fun j2 K2 => Wp.ite (fun _ => K2 _ f7 m7) (fun _ => ?_))
        refine Wp.bind (tM_findSpan ⟨i0, by omega⟩ (by rw [f7 15 (by omega)]; exact h15.1) (by rw [f7 16 (by omega)]; exact h16)) (fun _ D9 q9 => ?_)
        have f9 : LkF D1 D9 := fun c hc => by rw [q9 c (by omega) (by omega) (by omega), f7 c hc]
        have m9 : D9.1 0 41 = D1.1 5 0 := by rw [q9 0 (by decide) (by decide) (by decide), m7]
        refine Wp.bind (tM_isChosen ⟨i0, by omega⟩) (fun y D10 q10 => ?_)
        obtain ⟨rfl, -⟩ := q10
        refine Wp.idx ix (Wp.lets (K2 _ ?_ ?_))
        · intro c hc
          rw [← f9 c hc]
          funext z
          have : c ≠ 35 := by omega
          simp [aSI, this]
        · exact m9
      · intro x D' hI
        obtain ⟨⟨i0, i1, i2⟩, -⟩ := hI
        omega
    · refine Wp.fix1 (fun n x D' => (0 ≤ x.toInt ∧ x.toInt ≤ 400 ∧ 400 - x.toInt < (n : Int)) ∧ LkF D1 D' ∧ D'.1 0 41 = D1.1 5 0) ?_ ?_ aFuel 1000000 _ _ (Nat.le_refl _) ⟨⟨by decide, by decide, by decide⟩, f3, m3⟩
      · intro n g hg x D' hI
        obtain ⟨⟨i0, i1, i2⟩, i3, i4⟩ := hI
        unfold lX11_look_203
        refine Wp.idd (by decide) ?_
        rw [cl_0, i3 8 (by omega)]
        refine Wp.ile (fun _ => K _ i3 i4) (fun h => ?_)
        have ex := cl_i i0
        have c2 : (x + 1).toInt = x.toInt + 1 := ti_add rfl ti_1 (by omega) (by omega)
        have e4 : ((4 : Int32) * x).toInt = 4 * x.toInt := ti_mul (by decide) rfl (by omega) (by omega)
        have cell : ∀ (i : Int32) (n : Nat), i.toInt = n → n < 4 → vp_in ((4 : Int32) * x + i) 6400 ∧ ((4 : Int32) * x + i).toNatClampNeg = 4 * x.toNatClampNeg + n := by
          intro i n hi hn
          have e : ((4 : Int32) * x + i).toInt = 4 * x.toInt + n := ti_add e4 hi (by omega) (by omega)
          exact ⟨i_in (by omega) (by omega), cl_of (by omega)⟩
        obtain ⟨v1, w1⟩ := cell 1 1 (by decide) (by decide)
        obtain ⟨v2, w2⟩ := cell 2 2 (by decide) (by decide)
        obtain ⟨v3, w3⟩ := cell 3 3 (by decide) (by decide)
        have hk := h9 x.toNatClampNeg (by omega)
        refine Wp.lets (Wp.idx (i_in (by omega) (by omega)) (Wp.letQ (fun Q j => ∀ D8, LkF D1 D8 → D8.1 0 41 = D1.1 5 0 → Wp (j D8) Q) (fun D8 f8 m8 => Wp.lets (hg _ _ ⟨⟨by omega, by omega, by omega⟩, f8, m8⟩)) (fun j2 K2 => Wp.ite (fun _ => K2 _ i3 i4) (fun _ => Wp.idx v2 (Wp.letQ (fun Q j => ∀ y, (0 ≤ y.toInt ∧ y.toInt ≤ 10) → Wp (j y D') Q) (fun y hy => ?_) (fun j3 K3 => Wp.ite (fun _ => K3 _ ⟨by decide, by decide⟩) (fun hne => Wp.idx v2 (K3 _ ?_))))))))
        · have hs : (0 ≤ (D'.1 9 ((4 : Int32) * x + 1).toNatClampNeg).toInt ∧ (D'.1 9 ((4 : Int32) * x + 1).toNatClampNeg).toInt < 32) := by
            rw [w1, i3 9 (by omega)]
            exact hk.1
          have e1 : ((11 : Int32) * D'.1 9 ((4 : Int32) * x + 1).toNatClampNeg).toInt = 11 * (D'.1 9 ((4 : Int32) * x + 1).toNatClampNeg).toInt := ti_mul (by decide) rfl (by omega) (by omega)
          have e2 : ((11 : Int32) * D'.1 9 ((4 : Int32) * x + 1).toNatClampNeg + y).toInt = 11 * (D'.1 9 ((4 : Int32) * x + 1).toNatClampNeg).toInt + y.toInt := ti_add e1 rfl (by omega) (by omega)
          refine Wp.idx v1 (Wp.idx v3 (Wp.idx (i_in (by omega) (by omega)) (Wp.lets (K2 _ ?_ i4))))
          intro c hc
          rw [← i3 c hc]
          funext z
          have : c ≠ 32 := by omega
          simp [aSI, this]
        · have hne := ti_ne hne
          rw [w2, i3 9 (by omega), tn_1] at hne
          rw [w2, i3 9 (by omega)]
          omega
      · intro x D' hI
        obtain ⟨⟨i0, i1, i2⟩, -⟩ := hI
        omega
  · refine Wp.fix1 (fun n x D' => (0 ≤ x.toInt ∧ x.toInt ≤ 32 ∧ 32 - x.toInt < (n : Int)) ∧ LkF D1 D' ∧ D'.1 0 41 = D1.1 5 0) ?_ ?_ aFuel 1000000 _ _ (Nat.le_refl _) ⟨⟨by decide, by decide, by decide⟩, f2, m2⟩
    · intro n g hg x D' hI
      obtain ⟨⟨i0, i1, i2⟩, i3, i4⟩ := hI
      unfold lX11_look_17
      rw [i4]
      refine Wp.ile (fun _ => K _ i3 i4) (fun h => ?_)
      have ix : vp_in x 32 := i_in i0 (by omega)
      have c2 : (x + 1).toInt = x.toInt + 1 := ti_add rfl ti_1 (by omega) (by omega)
      have e3 : ((3 : Int32) * x).toInt = 3 * x.toInt := ti_mul (by decide) rfl (by omega) (by omega)
      have e11 : ((11 : Int32) * x).toInt = 11 * x.toInt := ti_mul (by decide) rfl (by omega) (by omega)
      have t3 : ∀ (i : Int32) (n : Nat), i.toInt = n → n < 3 → vp_in ((3 : Int32) * x + i) 384 := by
        intro i n hi hn
        have e : ((3 : Int32) * x + i).toInt = 3 * x.toInt + n := ti_add e3 hi (by omega) (by omega)
        exact i_in (by omega) (by omega)
      have t11 : ∀ (i : Int32) (n : Nat), i.toInt = n → n < 11 → vp_in ((11 : Int32) * x + i) 352 := by
        intro i n hi hn
        have e : ((11 : Int32) * x + i).toInt = 11 * x.toInt + n := ti_add e11 hi (by omega) (by omega)
        exact i_in (by omega) (by omega)
      refine Wp.idx (i_in (by omega) (by omega)) (Wp.letQ (fun Q j => ∀ y, Wp (j y D') Q) (fun y => ?_) (fun j2 K2 => Wp.ite (fun _ => K2 _) (fun _ => K2 _)))
      refine Wp.idx ix (Wp.lets (Wp.idx (t3 1 1 (by decide) (by decide)) (Wp.idx (t11 1 1 (by decide) (by decide)) (Wp.lets (Wp.idx (t3 2 2 (by decide) (by decide)) (Wp.idx (t11 4 4 (by decide) (by decide)) (Wp.lets (Wp.idx (t11 2 2 (by decide) (by decide)) (Wp.lets (Wp.idx (t11 3 3 (by decide) (by decide)) (Wp.lets (Wp.idx (t11 5 5 (by decide) (by decide)) (Wp.lets (Wp.idx (t11 6 6 (by decide) (by decide)) (Wp.lets (Wp.idx (t11 7 7 (by decide) (by decide)) (Wp.lets (Wp.idx (t11 8 8 (by decide) (by decide)) (Wp.lets (Wp.idx (t11 9 9 (by decide) (by decide)) (Wp.lets (Wp.idx (t11 10 10 (by decide) (by decide)) (Wp.leti (fun E e => Wp.lets (hg _ _ ⟨⟨by omega, by omega, by omega⟩, fun c hc => ?_, ?_⟩)))))))))))))))))))))))))
      · rw [← i3 c hc]
        funext z
        rw [e]
        have h31 : c ≠ 31 := by omega
        have h32 : c ≠ 32 := by omega
        simp [aSI, h31, h32]
      · rw [e]
        exact i4
    · intro x D' hI
      obtain ⟨⟨i0, i1, i2⟩, -⟩ := hI
      omega
end MK
end
section
def bt (x : Int32) (i : Nat) : Bool := x.toBitVec.getLsbD i
theorem b_ext {x y : Int32} (h : ∀ i, i < 32 → bt x i = bt y i) : x = y := Int32.toBitVec_inj.mp (BitVec.eq_of_getLsbD_eq (fun i hi => h i hi))
theorem b_or (x y : Int32) (i : Nat) : bt (x ||| y) i = (bt x i || bt y i) := by unfold bt; rw [Int32.toBitVec_or, BitVec.getLsbD_or]
theorem b_and (x y : Int32) (i : Nat) : bt (x &&& y) i = (bt x i && bt y i) := by unfold bt; rw [Int32.toBitVec_and, BitVec.getLsbD_and]
theorem b_xor (x y : Int32) (i : Nat) : bt (x ^^^ y) i = (bt x i ^^ bt y i) := by unfold bt; rw [Int32.toBitVec_xor, BitVec.getLsbD_xor]
theorem b_big {x : Int32} {i : Nat} (h : 32 ≤ i) : bt x i = false := BitVec.getLsbD_of_ge _ _ h
theorem b_255 (i : Nat) : bt 255 i = decide (i < 8) := by
  rcases Nat.lt_or_ge i 32 with h | h
  · exact (by decide +kernel : ∀ i, i < 32 → bt 255 i = decide (i < 8)) i h
  · rw [b_big h, decide_eq_false (by omega)]
theorem b_65535 (i : Nat) : bt 65535 i = decide (i < 16) := by
  rcases Nat.lt_or_ge i 32 with h | h
  · exact (by decide +kernel : ∀ i, i < 32 → bt 65535 i = decide (i < 16)) i h
  · rw [b_big h, decide_eq_false (by omega)]
theorem b_m1 : ∀ i, i < 32 → bt (-1) i = true := by decide +kernel
theorem b_0 (i : Nat) : bt 0 i = false := BitVec.getLsbD_zero
theorem s_l : ∀ n, n < 32 → ((nI n &&& 31).toBitVec.smod 32).toNat = n := by decide +kernel
theorem s_u : ∀ n, n < 32 → (((nI n).toUInt32 &&& Int32.toUInt32 31).toBitVec % 32).toNat = n := by decide +kernel
theorem b_shl (n : Nat) (hn : n < 32) (x : Int32) {i : Nat} (hi : i < 32) : bt (x <<< (nI n &&& 31)) i = (decide (n ≤ i) && bt x (i - n)) := by
  unfold bt
  rw [Int32.toBitVec_shiftLeft]
  show (x.toBitVec <<< ((nI n &&& 31).toBitVec.smod 32).toNat).getLsbD i = _
  rw [s_l n hn, BitVec.getLsbD_shiftLeft]
  rcases Nat.lt_or_ge i n with h | h
  · simp [h, Nat.not_le.mpr h]
  · simp [hi, h, Nat.not_lt.mpr h]
theorem b_ushr (n : Nat) (hn : n < 32) (x : Int32) (i : Nat) : bt ((x.toUInt32 >>> ((nI n).toUInt32 &&& Int32.toUInt32 31)).toInt32) i = bt x (n + i) := by
  show (x.toUInt32 >>> ((nI n).toUInt32 &&& Int32.toUInt32 31)).toBitVec.getLsbD i = x.toUInt32.toBitVec.getLsbD (n + i)
  rw [UInt32.toBitVec_shiftRight]
  show (x.toUInt32.toBitVec >>> (((nI n).toUInt32 &&& Int32.toUInt32 31).toBitVec % 32).toNat).getLsbD i = _
  rw [s_u n hn, BitVec.getLsbD_ushiftRight]
theorem b_sshr (n : Nat) (hn : n < 32) (x : Int32) {i : Nat} (hi : i < 32) : bt (x >>> (nI n &&& 31)) i = if n + i < 32 then bt x (n + i) else bt x 31 := by
  unfold bt
  rw [Int32.toBitVec_shiftRight]
  show (x.toBitVec.sshiftRight ((nI n &&& 31).toBitVec.smod 32).toNat).getLsbD i = _
  rw [s_l n hn, BitVec.getLsbD_sshiftRight, BitVec.msb_eq_getLsbD_last]
  simp [hi]
end
section
/-! the reference's heap -/
theorem bt_1 : ∀ i, i < 32 → bt 1 i = decide (i = 0) := by decide +kernel
theorem bit_t {x : Int32} {n : Nat} (hn : n < 32) : ((x >>> (nI n &&& 31)) &&& 1) = 0 ↔ bt x n = false := by
  have e0 : bt (x >>> (nI n &&& 31)) 0 = bt x n := by rw [b_sshr n hn x (by decide), if_pos (by omega)]; rfl
  constructor
  · intro h
    have h2 : bt ((x >>> (nI n &&& 31)) &&& 1) 0 = false := by rw [h, b_0]
    rw [b_and, bt_1 0 (by decide), e0] at h2
    simpa using h2
  · intro h
    refine b_ext (fun i hi => ?_)
    rw [b_0, b_and, bt_1 i hi]
    by_cases h0 : i = 0
    · subst h0
      rw [e0, h]
      rfl
    · simp [h0]
theorem bt_own {n : Nat} (hn : n < 32) : bt ((1 : Int32) <<< (nI n &&& 31)) n = true := by
  rw [b_shl n hn 1 hn, Nat.sub_self, bt_1 0 (by decide)]
  simp
/-- how many bits -/
def cnB (x : Int32) : Nat → Nat
  | 0 => 0
  | n + 1 => cnB x n + (if bt x n then 1 else 0)
theorem cnB_le (x : Int32) : ∀ n, cnB x n ≤ n
  | 0 => Nat.le_refl _
  | n + 1 => by
    have := cnB_le x n
    show cnB x n + _ ≤ n + 1
    split <;> omega
theorem cnB_mono {x y : Int32} : ∀ n, (∀ i, i < n → bt x i = true → bt y i = true) → cnB x n ≤ cnB y n
  | 0, _ => Nat.le_refl _
  | n + 1, h => by
    have ih := cnB_mono n (fun i hi => h i (by omega))
    show cnB x n + _ ≤ cnB y n + _
    by_cases hx : bt x n = true
    · rw [if_pos hx, if_pos (h n (by omega) hx)]
      omega
    · rw [if_neg hx]
      omega
theorem cnB_lt {x y : Int32} : ∀ n, (∀ i, i < n → bt x i = true → bt y i = true) → (∃ i, i < n ∧ bt y i = true ∧ bt x i = false) → cnB x n < cnB y n
  | 0, _, ⟨i, hi, _⟩ => by omega
  | n + 1, h, ⟨i, hi, hy, hx⟩ => by
    show cnB x n + _ < cnB y n + _
    by_cases hin : i = n
    · subst hin
      have ih := cnB_mono i (fun j hj => h j (by omega))
      rw [if_pos hy, hx]
      simp
      omega
    · have ih := cnB_lt n (fun i hi => h i (by omega)) ⟨i, by omega, hy, hx⟩
      by_cases hx : bt x n = true
      · rw [if_pos hx, if_pos (h n (by omega) hx)]
        omega
      · rw [if_neg hx]
        omega
abbrev subB (x y : Int32) : Prop := ∀ i, i < 32 → bt x i = true → bt y i = true
theorem subB_or {x y z : Int32} (h : subB x y) : subB x (y ||| z) := fun i hi hx => by rw [b_or, h i hi hx]; rfl
theorem cnB_ne {x y : Int32} (h : subB x y) (hne : x ≠ y) : cnB x 32 < cnB y 32 := by
  refine cnB_lt 32 h ?_
  false_or_by_contra
  rename_i hno
  refine hne (b_ext (fun i hi => ?_))
  cases hx : bt x i with
  | true => rw [h i hi hx]
  | false =>
    cases hy : bt y i with
    | false => rfl
    | true => exact absurd ⟨i, hi, hy, hx⟩ hno
section HP
variable {D : ADD}
theorem tM_areTwins {i k d : Int32} (hi : 0 ≤ i.toInt ∧ i.toInt < 32) (hk : 0 ≤ k.toInt ∧ k.toInt < 32) : Pu (fX11_areTwins i k d D) D := by
  unfold fX11_areTwins
  have z0 : Wp (aZ 0 (some ((0 : Int32), D))) (fun _ D1 => D1 = D) := Wp.z (Or.inl rfl) (Wp.ret rfl)
  have z1 : Wp (aZ 1 (some ((1 : Int32), D))) (fun _ D1 => D1 = D) := Wp.z (Or.inr rfl) (Wp.ret rfl)
  have fi : ∀ f : Int32, (0 ≤ f.toInt ∧ f.toInt < 11) → fX11_f i f D = some (D.1 32 (11 * i.toNatClampNeg + f.toNatClampNeg), D) := fun f hf => eM_f hi hf
  have fk : ∀ f : Int32, (0 ≤ f.toInt ∧ f.toInt < 11) → fX11_f k f D = some (D.1 32 (11 * k.toNatClampNeg + f.toNatClampNeg), D) := fun f hf => eM_f hk hf
  exact Wp.bindE (fi 0 ⟨by decide, by decide⟩) (Wp.bindE (fk 0 ⟨by decide, by decide⟩) (Wp.lets (Wp.idx (i_in hi.1 hi.2) (Wp.lets (Wp.lets (Wp.ite (fun _ => z0) (fun _ => Wp.idx (i_in hk.1 hk.2) (Wp.ite (fun _ => z0) (fun _ => Wp.bindE (fi 4 ⟨by decide, by decide⟩) (Wp.bindE (fk 4 ⟨by decide, by decide⟩) (Wp.ite (fun _ => Wp.bindE (fi 1 ⟨by decide, by decide⟩) (Wp.bindE (fk 1 ⟨by decide, by decide⟩) (Wp.ite (fun _ => Wp.bindE (fi 7 ⟨by decide, by decide⟩) (Wp.bindE (fk 7 ⟨by decide, by decide⟩) (Wp.ite (fun _ => Wp.bindE (eM_is _ _ _ _) (Wp.ite (fun _ => z0) (fun _ => z1))) (fun _ => z0)))) (fun _ => z0)))) (fun _ => z0))))))))))))
/-- from a stone's own bit to the least one -/
theorem tM_heapGo {s d : Int32} {Q : Int32 → ADD → Prop} (hm : MN D) (hs : 0 ≤ s.toInt ∧ s.toInt < 32) {j : Int32 → ADD → Option (Int32 × ADD)} (K : ∀ x, bt x s.toNatClampNeg = true → Wp (j x D) Q) {z : Int32 → Int32 → ADD → Option (Int32 × ADD)} : Wp (aFix aFuel (lX11_heap_48 d j) z ((1 : Int32) <<< (s &&& 31)) 0 D) Q := by
  have es := cl_i hs.1
  have own : bt ((1 : Int32) <<< (s &&& 31)) s.toNatClampNeg = true := by
    have := bt_own (n := s.toNatClampNeg) (by omega)
    rw [← nI_val hs.1] at this
    exact this
  refine Wp.fix2 (fun n x y D' => D' = D ∧ subB y x ∧ bt x s.toNatClampNeg = true ∧ 34 - (cnB y 32 : Int) < (n : Int)) ?_ ?_ aFuel 1000000 _ _ _ (Nat.le_refl _) ⟨rfl, (fun i hi h => by rw [b_0] at h; cases h), own, by omega⟩
  · intro n g hg x y D' hI
    obtain ⟨rfl, i1, i2, i3⟩ := hI
    unfold lX11_heap_48
    refine Wp.ite (fun _ => K x i2) (fun hne => Wp.letQ (fun Q j => ∀ w, subB x w → Wp (j w D') Q) (fun w hw => ?_) (fun j2 K2 => Wp.lets ?_))
    · refine hg _ _ _ ⟨rfl, hw, hw _ (by omega) i2, ?_⟩
      have := cnB_ne i1 hne
      omega
    · refine Wp.fix2 (fun n w k D2 => (0 ≤ k.toInt ∧ k.toInt ≤ 32 ∧ 32 - k.toInt < (n : Int)) ∧ D2 = D' ∧ subB x w) ?_ ?_ aFuel 1000000 _ _ _ (Nat.le_refl _) ⟨⟨by decide, by decide, by decide⟩, rfl, fun _ _ h => h⟩
      · intro n g2 hg2 w k D2 hI
        obtain ⟨⟨k0, k1, k2⟩, rfl, k3⟩ := hI
        unfold lX11_heap_60
        refine Wp.ile (fun _ => K2 w k3) (fun hk => Wp.letQ (fun Q j => ∀ w, subB x w → Wp (j w D2) Q) (fun v hv => Wp.lets (hg2 _ _ _ ⟨?_, rfl, hv⟩)) (fun j3 K3 => Wp.lets ?_))
        · have c2 : (k + 1).toInt = k.toInt + 1 := ti_add rfl ti_1 (by omega) (by omega)
          omega
        · refine Wp.fix2 (fun n w l D3 => (0 ≤ l.toInt ∧ l.toInt ≤ 32 ∧ 32 - l.toInt < (n : Int)) ∧ D3 = D2 ∧ subB x w) ?_ ?_ aFuel 1000000 _ _ _ (Nat.le_refl _) ⟨⟨by decide, by decide, by decide⟩, rfl, k3⟩
          · intro n g3 hg3 v l D3 hI
            obtain ⟨⟨l0, l1, l2⟩, rfl, l3⟩ := hI
            unfold lX11_heap_72
            refine Wp.ile (fun _ => K3 v l3) (fun hl => ?_)
            have c2 : (l + 1).toInt = l.toInt + 1 := ti_add rfl ti_1 (by omega) (by omega)
            have go : ∀ q, Wp (g3 (v ||| q) (l + 1) D3) Q := fun q => hg3 _ _ _ ⟨⟨by omega, by omega, by omega⟩, rfl, subB_or l3⟩
            refine Wp.lets (Wp.lets (Wp.ite (fun _ => Wp.lets (Wp.lets (go _))) (fun _ => Wp.bind (tM_areTwins ⟨k0, by omega⟩ ⟨l0, by omega⟩) (fun t D4 q4 => ?_))))
            subst q4
            exact Wp.ite (fun _ => Wp.lets (Wp.lets (go _))) (fun _ => Wp.lets (Wp.lets (go _)))
          · intro w l D3 hI
            obtain ⟨⟨l0, l1, l2⟩, -⟩ := hI
            omega
      · intro w k D2 hI
        obtain ⟨⟨k0, k1, k2⟩, -⟩ := hI
        omega
  · intro x y D' hI
    have := cnB_le y 32
    have := hI.2.2.2
    omega
theorem tM_least {x s : Int32} (hs : 0 ≤ s.toInt ∧ s.toInt < 32) (hb : bt x s.toNatClampNeg = true) {j : Int32 → ADD → Option (Int32 × ADD)} {Q : Int32 → ADD → Prop} (K : ∀ y, Wp (j y D) Q) {z : Int32 → ADD → Option (Int32 × ADD)} : Wp (aFix aFuel (lX11_heap_131 x j) z 0 D) Q := by
  have es := cl_i hs.1
  refine Wp.fix1 (fun n y D' => (0 ≤ y.toInt ∧ y.toInt ≤ s.toInt ∧ 32 - y.toInt < (n : Int)) ∧ D' = D) ?_ ?_ aFuel 1000000 _ _ (Nat.le_refl _) ⟨⟨by decide, by rw [ti_0]; exact hs.1, by decide⟩, rfl⟩
  · intro n g hg y D' hI
    obtain ⟨⟨i0, i1, i2⟩, rfl⟩ := hI
    unfold lX11_heap_131
    refine Wp.ite (fun h => Wp.lets (hg _ _ ⟨?_, rfl⟩)) (fun _ => K y)
    have ey := cl_i i0
    have c2 : (y + 1).toInt = y.toInt + 1 := ti_add rfl ti_1 (by omega) (by omega)
    rw [nI_val i0] at h
    have h := (bit_t (by omega)).mp h
    have hne : y.toNatClampNeg ≠ s.toNatClampNeg := fun e => by rw [e, hb] at h; cases h
    omega
  · intro y D' hI
    obtain ⟨⟨i0, i1, i2⟩, -⟩ := hI
    omega
end HP
end
