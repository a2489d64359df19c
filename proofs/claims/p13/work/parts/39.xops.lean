/-! the class's questions: never none, and nothing told is changed -/
def FX (D D1 : ADD) : Prop := ∀ c, (c < 43 ∨ 58 ≤ c) → D1.1 c = D.1 c
theorem FX.refl (D : ADD) : FX D D := fun _ _ => rfl
theorem FX.trans {D D1 D2 : ADD} (h : FX D D1) (k : FX D1 D2) : FX D D2 := fun c hc => (k c hc).trans (h c hc)
theorem FrP.fx {D D1 : ADD} (h : FrP D D1) : FX D D1 := fun c hc => h.1 c (by omega)
/-- what the class's questions ask of the state -/
def QX (D : ADD) : Prop := (0 ≤ (D.1 2 9).toInt ∧ (D.1 2 9).toInt ≤ 32) ∧ (D.1 13 0).toInt ≤ 16 ∧ (D.1 22 0).toInt ≤ 16
theorem QX.fx {D D1 : ADD} (h : QX D) (f : FX D D1) : QX D1 := by
  unfold QX
  rw [f 2 (by omega), f 13 (by omega), f 22 (by omega)]
  exact h
section XO
variable {D : ADD}
/-- a pile is laid -/
theorem tX4_ga {k v : Int32} (h : QX D) : Wp (fX4_gather k v D) (fun r D1 => r = D1.1 43 0 ∧ FX D D1 ∧ 0 ≤ (D1.1 43 0).toInt ∧ (D1.1 43 0).toInt ≤ 32) := by
  refine (tX4_gather (FrP.refl D) h.1 h.2.1).mono (fun r D1 q => ?_)
  obtain ⟨q1, q2, q3, q4, -⟩ := q
  exact ⟨q1, q2.fx, by omega, by omega⟩
/-- scores are laid -/
theorem tX7_su {a b : Int32} (hm : (D.1 43 0).toInt ≤ 32) (hU : UR a b 300) : Wp (fX7_scoreUnits a b D) (fun _ D1 => FX D D1 ∧ D1.1 43 0 = D.1 43 0 ∧ SR D1) := by
  refine (tX7_scoreUnits hU (fun u D' e _ _ => ?_)).mono (fun _ D1 q => ?_)
  · exact ⟨_, D', eX_scoreBy u (by rw [e 43 (by decide) (by decide)]; exact hm), rfl⟩
  · obtain ⟨q1, q2, q3, q4⟩ := q
    obtain ⟨u0, u1, u2, u3⟩ := hU
    exact ⟨fun c hc => q1 c (by omega) (by omega), by rw [q1 43 (by decide) (by decide)], by rw [q3]; omega, by rw [q3]; omega, by rw [q3, q4]; omega, by rw [q3, q4]; omega⟩
theorem oX_span {a b : Int32} (h : QX D) : Wp (fX10_span a b D) (fun _ D1 => FX D D1) := by
  unfold fX10_span
  refine Wp.bind (tX4_takeAlone h.1 h.2.1) (fun x D1 q => ?_)
  have f := q.1.fx
  refine Wp.ite (fun _ => Wp.ret f) (fun _ => Wp.tab3 (fun _ => Wp.idd (by decide) (Wp.ret f)) (fun _ => Wp.idd (by decide) (Wp.ret f)) (fun _ => Wp.bind tX1_takes (fun y D2 q2 => ?_)) (fun _ => Wp.ret f))
  obtain ⟨rfl, -⟩ := q2
  exact Wp.lets (Wp.ite (fun _ => Wp.ret f) (fun _ => Wp.ret f))
theorem oX_by {a b c : Int32} (h : QX D) : Wp (fX10_by a b c D) (fun _ D1 => FX D D1) := by
  unfold fX10_by
  refine Wp.bindE (eX_isUnit _ _) (Wp.lets ?_)
  by_cases hb : 10 ≤ b.toInt ∧ b.toInt ≤ 2000
  · rw [if_pos hb]
    refine Wp.neg (by decide) (Wp.bind (tX4_takeAlone h.1 h.2.1) (fun x D1 q => ?_))
    have f := q.1.fx
    exact Wp.ite (fun _ => Wp.ret f) (fun _ => Wp.tab4 (fun _ => Wp.bindE (eX_offOf _ _ _) (Wp.ret f)) (fun _ => Wp.bindE (eX_isNear _ _ _) (Wp.lets (Wp.ite (fun _ => Wp.ret f) (fun _ => Wp.ret f)))) (fun _ => Wp.bindE (eX_shortOf _ _ _ (by omega)) (Wp.ret f)) (fun _ => Wp.bindE (eX_timesOf _ _ _) (Wp.ret f)) (fun _ => Wp.ret f))
  · rw [if_neg hb]
    exact Wp.pos rfl (Wp.ret (FX.refl D))
theorem oX_score {a : Int32} (h : QX D) : Wp (fX10_score a D) (fun _ D1 => FX D D1) := by
  unfold fX10_score
  refine Wp.bindE (eX_isUnit _ _) (Wp.ite (fun _ => Wp.ret (FX.refl D)) (fun _ => Wp.bind (tX4_ga h) (fun x D1 q => ?_)))
  obtain ⟨-, f, m0, m1⟩ := q
  exact Wp.bindE (eX_scoreBy _ m1) (Wp.ret f)
theorem oX_bestAmong {k v a b : Int32} (h : QX D) (hU : UR a b 300) : Wp (fX10_bestAmong k v a b D) (fun _ D1 => FX D D1) := by
  unfold fX10_bestAmong
  refine Wp.bind (tX4_ga h) (fun x D1 q => ?_)
  obtain ⟨-, f, m0, m1⟩ := q
  refine Wp.ite (fun _ => Wp.ret f) (fun _ => Wp.bind (tX7_su m1 hU) (fun _ D2 q2 => Wp.bind (tX7_bestUnit q2.2.2) (fun y D3 q3 => ?_)))
  subst q3
  exact Wp.ret (f.trans q2.1)
theorem oX_best {a b : Int32} (h : QX D) : Wp (fX10_best a b D) (fun _ D1 => FX D D1) := by
  unfold fX10_best
  refine Wp.bindE (eX_isRange _ _ _ _) (Wp.lets ?_)
  by_cases hU : UR a b (300 : Int32).toInt
  · rw [if_pos hU]
    exact Wp.neg (by decide) (Wp.bind (oX_bestAmong h hU) (fun y D2 q2 => Wp.ret q2))
  · rw [if_neg hU]
    exact Wp.pos rfl (Wp.ret (FX.refl D))
theorem oX_peak {a b c : Int32} (h : QX D) : Wp (fX10_peak a b c D) (fun _ D1 => FX D D1) := by
  unfold fX10_peak
  refine Wp.bindE (eX_isRange _ _ _ _) (Wp.lets ?_)
  by_cases hU : UR a b (300 : Int32).toInt
  · rw [if_pos hU]
    refine Wp.neg (by decide) (Wp.bind (tX4_ga h) (fun x D1 q => ?_))
    obtain ⟨-, f, m0, m1⟩ := q
    exact Wp.ite (fun _ => Wp.ret f) (fun _ => Wp.bind (tX7_su m1 hU) (fun _ D2 q2 => Wp.bind (tX7_peakAt q2.2.2) (fun y D3 q3 => Wp.ret ((f.trans q2.1).trans (fun c hc => q3.1 c (by omega) (by omega))))))
  · rw [if_neg hU]
    exact Wp.pos rfl (Wp.ret (FX.refl D))
theorem oX_pair {a b : Int32} (h : QX D) : Wp (fX10_pair a b D) (fun _ D1 => FX D D1) := by
  unfold fX10_pair
  refine Wp.bindE (eX_isRange _ _ _ _) (Wp.lets ?_)
  by_cases hU : UR a b (40 : Int32).toInt
  · rw [if_pos hU]
    obtain ⟨u0, u1, u2, u3⟩ := hU
    refine Wp.neg (by decide) (Wp.ite (fun _ => Wp.ret (FX.refl D)) (fun _ => Wp.bind (tX4_ga h) (fun x D1 q => ?_)))
    obtain ⟨-, f, m0, m1⟩ := q
    exact Wp.ite (fun _ => Wp.ret f) (fun _ => Wp.bind (tX7_bestPair (by omega) (by omega) u1) (fun y D3 q3 => Wp.ret (f.trans (fun c hc => q3.1 c (by omega)))))
  · rw [if_neg hU]
    exact Wp.pos rfl (Wp.ret (FX.refl D))
theorem oX_sum {a b : Int32} (h : QX D) : Wp (fX10_sum a b D) (fun _ D1 => FX D D1) := by
  unfold fX10_sum
  refine Wp.bindE (eX_isUnit _ _) (Wp.lets (Wp.ite (fun _ => Wp.ret (FX.refl D)) (fun _ => Wp.bindE (eX_isUnit _ _) (Wp.ite (fun _ => Wp.ret (FX.refl D)) (fun _ => Wp.ite (fun _ => Wp.bind (tX4_ga h) (fun x D1 q => ?_)) (fun _ => Wp.ret (FX.refl D)))))))
  obtain ⟨-, f, m0, m1⟩ := q
  refine Wp.bind (tX7_sumOfTwo m1) (fun y D2 q2 => ?_)
  subst q2
  exact Wp.ret f
theorem oX_chance {a : Int32} (h : QX D) : Wp (fX10_chance a D) (fun _ D1 => FX D D1) := by
  unfold fX10_chance
  refine Wp.bindE (eX_isUnit _ _) ?_
  by_cases hb : 10 ≤ a.toInt ∧ a.toInt ≤ 2000
  · rw [if_pos hb]
    refine Wp.neg (by decide) (Wp.bind (tX4_ga h) (fun x D1 q => ?_))
    obtain ⟨-, f, m0, m1⟩ := q
    exact Wp.bindE (eX_nearBy _ m1) (Wp.bind (tX3_ofNear m1 (by omega)) (fun y D2 q2 => Wp.ret (fun c hc => by rw [q2]; exact f c hc)))
  · rw [if_neg hb]
    exact Wp.pos rfl (Wp.ret (FX.refl D))
theorem tX10_weigh {u n : Int32} (hm : (D.1 43 0).toInt ≤ 32) (hS : SR D) (hu : 1 ≤ u.toInt) : Wp (fX10_weighEvidence u n D) (fun _ D1 => ∀ c, (c < 50 ∨ 58 ≤ c) → D1.1 c = D.1 c) := by
  unfold fX10_weighEvidence
  refine Wp.lets (Wp.lets (Wp.bindE (eX_nearBy _ hm) (Wp.bind (tX3_ofNear hm hu) (fun r D2 q => ?_))))
  refine Wp.lets (Wp.lets (Wp.idd (by decide) (Wp.lets (Wp.idd (by decide) (Wp.leti (fun D4 e4 => ?_))))))
  have f4 : ∀ c, c ≠ 57 → D4.1 c = D.1 c := by
    intro c hc
    rw [e4, ← q]
    funext z
    simp [aSI, hc]
  refine Wp.letQ (fun Q j => ∀ x D5, (∀ c, c ≠ 57 → D5.1 c = D.1 c) → Wp (j x D5) Q) (fun x D5 f5 => ?_) (fun j K => Wp.ite (fun _ => K _ _ f4) (fun hx => Wp.bindE (eX_scoreBy _ (by rw [f4 43 (by decide)]; exact hm)) (Wp.nz hx (K _ _ f4))))
  refine Wp.idd (by decide) (Wp.lets (Wp.nzl (by decide) (Wp.idd (by decide) (Wp.lets (Wp.nzl (by decide) (Wp.idd (by decide) (Wp.leti (fun D8 e8 => ?_))))))))
  have f8 : ∀ c, c ≠ 57 → D8.1 c = D.1 c := by
    intro c hc
    rw [e8, ← f5 c hc]
    funext z
    simp [aSI, hc]
  refine Wp.bind (tX7_placeOf (hS.fr (by rw [f8 50 (by decide)]) (by rw [f8 50 (by decide)]))) (fun x8 D9 q9 => ?_)
  refine Wp.idd (by decide) (Wp.leti (fun D10 e10 => ?_))
  have f10 : ∀ c, (c < 50 ∨ 58 ≤ c) → D10.1 c = D.1 c := by
    intro c hc
    rw [e10, ← f8 c (by omega), ← q9.1 c (by omega) (by omega)]
    funext z
    have h57 : c ≠ 57 := by omega
    simp [aSI, h57]
  have m10 : (D10.1 43 0).toInt ≤ 32 := by rw [f10 43 (by omega)]; exact hm
  refine Wp.bind (tX4_townsNear m10) (fun x9 D11 q11 => ?_)
  subst q11
  refine Wp.idd (by decide) (Wp.leti (fun D12 e12 => ?_))
  have f12 : ∀ c, (c < 50 ∨ 58 ≤ c) → D12.1 c = D.1 c := by
    intro c hc
    rw [e12, ← f10 c hc]
    funext z
    have h57 : c ≠ 57 := by omega
    simp [aSI, h57]
  refine Wp.bindE (eX_marksNear _ (by rw [f12 43 (by omega)]; exact hm)) (Wp.idd (by decide) (Wp.lets (Wp.ret (fun c hc => ?_))))
  rw [← f12 c hc]
  funext z
  have h57 : c ≠ 57 := by omega
  simp [aSI, h57]
theorem oX_verdict {u a b : Int32} (h : QX D) : Wp (fX10_verdict u a b D) (fun _ D1 => FX D D1) := by
  unfold fX10_verdict
  refine Wp.bindE (eX_isRange _ _ _ _) (Wp.lets ?_)
  by_cases hU : UR a b (300 : Int32).toInt
  · rw [if_pos hU]
    refine Wp.neg (by decide) (Wp.ilt (fun _ => Wp.ret (FX.refl D)) (fun h1 => Wp.ile (fun _ => Wp.bind (tX4_ga h) (fun x D1 q => ?_)) (fun _ => Wp.ret (FX.refl D))))
    obtain ⟨-, f, m0, m1⟩ := q
    refine Wp.bind (tX7_su m1 hU) (fun _ D2 q2 => ?_)
    obtain ⟨g1, g2, g3⟩ := q2
    obtain ⟨u0, u1, u2, u3⟩ := hU
    refine Wp.bind (tX10_weigh (by rw [g2]; exact m1) g3 (by omega)) (fun _ D5 q5 => Wp.lets (Wp.lets ?_))
    have f5 : FX D D5 := (f.trans g1).trans (fun c hc => q5 c (by omega))
    have l5 : (D5.1 22 0).toInt ≤ 16 := (h.fx f5).2.2
    refine Wp.up1 (D := D5) 16 (by decide) (fun g x i0 k => ?_) (by decide) (by decide)
    unfold lX10_verdict_72
    refine Wp.ile (fun _ => Wp.ret f5) (fun h2 => Wp.bind tX6_holds (fun y D6 q6 => ?_))
    obtain ⟨rfl, -⟩ := q6
    exact Wp.ite (fun _ => Wp.lets (k (by omega))) (fun _ => Wp.bindE (eX_deedOf _ _ _) (Wp.ret f5))
  · rw [if_neg hU]
    exact Wp.pos rfl (Wp.ret (FX.refl D))
theorem oX_set {a b c : Int32} (h : QX D) : Wp (fX10_set a b c D) (fun _ D1 => FX D D1) := by
  unfold fX10_set
  refine Wp.lets (Wp.ite (fun _ => Wp.ret (FX.refl D)) (fun _ => Wp.ite (fun _ => Wp.ret (FX.refl D)) (fun _ => Wp.bindE (eX_isUnit _ _) (Wp.ite (fun _ => Wp.ret (FX.refl D)) (fun _ => Wp.bind (tX4_ga h) (fun x D1 q => ?_))))))
  obtain ⟨-, f, m0, m1⟩ := q
  exact Wp.tab4 (fun _ => Wp.ret f) (fun _ => Wp.bind (tX4_doublesBy m1) (fun y D2 q2 => by subst q2; exact Wp.ret f)) (fun _ => Wp.bind (tX4_lacksBy m1) (fun y D2 q2 => by subst q2; exact Wp.ret f)) (fun _ => Wp.bind (tX4_greatest m1) (fun y D2 q2 => by subst q2; exact Wp.ret f)) (fun _ => Wp.ret f)
theorem oX_rate {a b c d e : Int32} (h : QX D) : Wp (fX10_rate a b c d e D) (fun _ D1 => FX D D1) := by
  unfold fX10_rate
  refine Wp.bindE (eX_isTown _ _) (Wp.lets (Wp.ite (fun _ => Wp.ret (FX.refl D)) (fun _ => Wp.bindE (eX_isTown _ _) (Wp.ite (fun _ => Wp.ret (FX.refl D)) (fun _ => Wp.ite (fun _ => Wp.ret (FX.refl D)) (fun _ => Wp.ite (fun _ => Wp.ret (FX.refl D)) (fun _ => Wp.ite (fun _ => Wp.ret (FX.refl D)) (fun _ => Wp.bindE (eX_isRange _ _ _ _) ?_))))))))
  by_cases hU : UR c d (300 : Int32).toInt
  · rw [if_pos hU]
    refine Wp.neg (by decide) (Wp.bind (oX_bestAmong h hU) (fun y D2 q2 => Wp.bind (oX_bestAmong (h.fx q2) hU) (fun z D3 q3 => ?_)))
    have f := q2.trans q3
    refine Wp.lets (Wp.lets (Wp.ite (fun _ => Wp.ret f) (fun _ => Wp.ite (fun _ => Wp.ret f) (fun _ => Wp.bind tX10_simplest (fun w D4 q4 => ?_)))))
    subst q4
    exact Wp.ret f
  · rw [if_neg hU]
    exact Wp.pos rfl (Wp.ret (FX.refl D))
theorem oX_drift {a b c : Int32} (h : QX D) : Wp (fX10_drift a b c D) (fun _ D1 => FX D D1) := by
  unfold fX10_drift
  refine Wp.bindE (eX_isRange _ _ _ _) ?_
  by_cases hU : UR b c (300 : Int32).toInt
  · rw [if_pos hU]
    refine Wp.neg (by decide) (Wp.bind (oX_bestAmong h hU) (fun y D2 q2 => Wp.bind (oX_bestAmong (h.fx q2) hU) (fun z D3 q3 => ?_)))
    have f := q2.trans q3
    exact Wp.lets (Wp.lets (Wp.ite (fun _ => Wp.ret f) (fun _ => Wp.ite (fun _ => Wp.ret f) (fun _ => Wp.ret f))))
  · rw [if_neg hU]
    exact Wp.pos rfl (Wp.ret (FX.refl D))
theorem oX_owner {a b c : Int32} (h : QX D) : Wp (fX10_owner a b c D) (fun _ D1 => FX D D1) := by
  unfold fX10_owner
  refine Wp.lets (Wp.ite (fun _ => Wp.ret (FX.refl D)) (fun _ => Wp.ite (fun _ => Wp.ret (FX.refl D)) (fun _ => Wp.bindE (eX_isUnit _ _) ?_)))
  by_cases hb : 10 ≤ b.toInt ∧ b.toInt ≤ 2000
  · rw [if_pos hb]
    refine Wp.neg (by decide) (Wp.bind (tX4_ga h) (fun x D1 q => ?_))
    obtain ⟨-, f, m0, m1⟩ := q
    exact Wp.tab3 (fun _ => Wp.ret f) (fun _ => Wp.bindE (eX_shortsBy _ (by omega) m1) (Wp.ret f)) (fun _ => Wp.bindE (eX_shortsBy _ (by omega) m1) (Wp.bind tX3_ofShort (fun y D2 q2 => Wp.ret (fun c hc => by rw [q2]; exact f c hc)))) (fun _ => Wp.ret f)
  · rw [if_neg hb]
    exact Wp.pos rfl (Wp.ret (FX.refl D))
theorem oX_heap {a b : Int32} (h : QX D) : Wp (fX10_heap a b D) (fun _ D1 => FX D D1) := by
  unfold fX10_heap
  refine Wp.lets (Wp.ite (fun _ => Wp.ret (FX.refl D)) (fun _ => Wp.ite (fun _ => Wp.bind (tX4_ga h) (fun x D1 q => ?_)) (fun _ => Wp.ret (FX.refl D))))
  obtain ⟨-, f, m0, m1⟩ := q
  refine Wp.bind (tX4_indexOf m1) (fun y D2 q2 => ?_)
  obtain ⟨rfl, -⟩ := q2
  exact Wp.lets (Wp.ite (fun _ => Wp.ret f) (fun _ => Wp.bind (tX4_heap m1) (fun z D3 q3 => by subst q3; exact Wp.ret f)))
theorem oX_anew {a b : Int32} (h : QX D) : Wp (fX10_anew a b D) (fun _ D1 => FX D D1) := by
  unfold fX10_anew
  refine Wp.bindE (eX_isRange _ _ _ _) (Wp.lets ?_)
  by_cases hU : UR a b (300 : Int32).toInt
  · rw [if_pos hU]
    refine Wp.neg (by decide) (Wp.bind (tX4_ga h) (fun x D1 q => ?_))
    obtain ⟨-, f, m0, m1⟩ := q
    refine Wp.ite (fun _ => Wp.ret f) (fun _ => Wp.bind (tX7_su m1 hU) (fun _ D2 q2 => Wp.lets (Wp.lets ?_)))
    obtain ⟨g1, g2, g3⟩ := q2
    refine Wp.fix3 (fun n a b x D' => (0 ≤ x.toInt ∧ x.toInt ≤ 33 ∧ 33 - x.toInt < (n : Int)) ∧ FX D D' ∧ (D'.1 43 0).toInt ≤ 32 ∧ SR D') ?_ ?_ aFuel 1000000 _ _ _ _ (Nat.le_refl _) ⟨⟨by decide, by decide, by decide⟩, f.trans g1, by rw [g2]; exact m1, g3⟩
    · intro n g hg a b x D' hI
      obtain ⟨⟨i0, i1, i2⟩, i3, i4, i5⟩ := hI
      unfold lX10_anew_50
      refine Wp.ile (fun _ => Wp.ret i3) (fun h2 => Wp.bind (tX7_worthOf i5) (fun y D3 q3 => ?_))
      have c2 : (x + 1).toInt = x.toInt + 1 := ti_add rfl ti_1 (by omega) (by omega)
      have go : ∀ a b, Wp (g a b (x + 1) D3) (fun _ D1 => FX D D1) := fun a b => hg _ _ _ _ ⟨⟨by omega, by omega, by omega⟩, i3.trans (fun c hc => q3.1 c (by omega)), by rw [q3.1 43 (by decide)]; exact i4, i5.fr (by rw [q3.1 50 (by decide)]) (by rw [q3.1 50 (by decide)])⟩
      exact Wp.lets (Wp.ite (fun _ => Wp.lets (go _ _)) (fun _ => Wp.bindE (eX_numberOf _ _) (Wp.lets (go _ _))))
    · intro a b x D' hI
      obtain ⟨⟨i0, i1, i2⟩, -⟩ := hI
      omega
  · rw [if_neg hU]
    exact Wp.pos rfl (Wp.ret (FX.refl D))
theorem oX_worth {a b c : Int32} (h : QX D) : Wp (fX10_worth a b c D) (fun _ D1 => FX D D1) := by
  unfold fX10_worth
  refine Wp.bindE (eX_isRange _ _ _ _) ?_
  by_cases hU : UR b c (300 : Int32).toInt
  · rw [if_pos hU]
    refine Wp.neg (by decide) (Wp.bind (tX4_ga h) (fun x D1 q => ?_))
    obtain ⟨-, f, m0, m1⟩ := q
    refine Wp.bind (tX4_indexOf m1) (fun y D2 q2 => ?_)
    obtain ⟨rfl, -⟩ := q2
    exact Wp.ite (fun _ => Wp.ret f) (fun _ => Wp.bind (tX7_su m1 hU) (fun _ D3 q3 => Wp.bind (tX7_worthOf q3.2.2) (fun z D4 q4 => Wp.ret ((f.trans q3.1).trans (fun c hc => q4.1 c (by omega))))))
  · rw [if_neg hU]
    exact Wp.pos rfl (Wp.ret (FX.refl D))
theorem oX_count {a : Int32} (h : QX D) : Wp (fX10_count a D) (fun _ D1 => FX D D1) := by
  unfold fX10_count
  have r := FX.refl D
  exact Wp.tab7 (fun _ => Wp.ret r) (fun _ => Wp.bind (tX4_ga h) (fun x D1 q => Wp.ret q.2.1)) (fun _ => Wp.ret r) (fun _ => Wp.ret r) (fun _ => Wp.ret r) (fun _ => Wp.ret r) (fun _ => Wp.ret r) (fun _ => Wp.lets (Wp.lets (Wp.ite (fun _ => Wp.ret r) (fun _ => Wp.ite (fun _ => Wp.ret r) (fun _ => Wp.bind (tX4_ga h) (fun x D1 q => Wp.ret q.2.1))))))
theorem oX_fact {a b : Int32} : fX10_fact a b D = some (knX D a b, D) := by
  unfold fX10_fact
  rw [eX_known]
  rfl
theorem oX_entry {a b : Int32} : Pu (fX10_entry a b D) D := by
  unfold fX10_entry
  refine Wp.bind (P := fun _ D1 => D1 = D) ?_ (fun x D1 q => Wp.ret q)
  unfold fX0_written
  have e4 : (400 : Int32).toInt = 400 := by decide
  refine Wp.lets (Wp.ilt (fun _ => Wp.ret rfl) (fun h => Wp.ite (fun _ => Wp.ret rfl) (fun _ => Wp.ilt (fun h2 => ?_) (fun _ => Wp.ret rfl))))
  rw [ti_0] at h
  have ii : vp_in a 400 := i_in h (by omega)
  exact Wp.tab4 (fun _ => Wp.idx ii (Wp.ret rfl)) (fun _ => Wp.idx ii (Wp.ret rfl)) (fun _ => Wp.idx ii (Wp.ret rfl)) (fun _ => Wp.idx ii (Wp.ret rfl)) (fun _ => Wp.ret rfl)
theorem oX_fault {a : Int32} : Pu (fX10_fault a D) D := by
  unfold fX10_fault
  exact Wp.ite (fun _ => Wp.ret rfl) (fun _ => Wp.ite (fun _ => Wp.ret rfl) (fun _ => Wp.ret rfl))
end XO
