/-! the class: over the pile -/
section TT
variable {ρ σ τ : Type} {Q : ρ → ADD → Prop}
theorem Wp.up1 {D : ADD} (B : Int) (hB : B ≤ 100000) {F : (Int32 → ADD → Option (ρ × ADD)) → Int32 → ADD → Option (ρ × ADD)} {z : Int32 → ADD → Option (ρ × ADD)}
    (hF : ∀ (g : Int32 → ADD → Option (ρ × ADD)) (x : Int32), 0 ≤ x.toInt → (x.toInt < B → Wp (g (x + 1) D) Q) → Wp (F g x D) Q) {x0 : Int32} (h0 : 0 ≤ x0.toInt) (h1 : x0.toInt ≤ 100000) : Wp (aFix aFuel F z x0 D) Q := by
  refine Wp.fix1 (fun n x D' => (0 ≤ x.toInt ∧ x.toInt ≤ 100001 ∧ 100001 - x.toInt < (n : Int)) ∧ D' = D) ?_ ?_ aFuel 1000000 _ _ (Nat.le_refl _) ⟨⟨h0, by omega, by omega⟩, rfl⟩
  · intro n g hg x D' hI
    obtain ⟨⟨i0, i1, i2⟩, i3⟩ := hI
    subst i3
    refine hF g x i0 (fun hx => hg _ _ ⟨?_, rfl⟩)
    have c2 : (x + 1).toInt = x.toInt + 1 := ti_add rfl ti_1 (by omega) (by omega)
    omega
  · intro x D' hI
    obtain ⟨⟨i0, i1, i2⟩, -⟩ := hI
    omega
theorem Wp.up2 {D : ADD} (B : Int) (hB : B ≤ 100000) {F : (σ → Int32 → ADD → Option (ρ × ADD)) → σ → Int32 → ADD → Option (ρ × ADD)} {z : σ → Int32 → ADD → Option (ρ × ADD)}
    (hF : ∀ (g : σ → Int32 → ADD → Option (ρ × ADD)) (a : σ) (x : Int32), 0 ≤ x.toInt → (x.toInt < B → ∀ b, Wp (g b (x + 1) D) Q) → Wp (F g a x D) Q) {a : σ} {x0 : Int32} (h0 : 0 ≤ x0.toInt) (h1 : x0.toInt ≤ 100000) : Wp (aFix aFuel F z a x0 D) Q := by
  refine Wp.fix2 (fun n a x D' => (0 ≤ x.toInt ∧ x.toInt ≤ 100001 ∧ 100001 - x.toInt < (n : Int)) ∧ D' = D) ?_ ?_ aFuel 1000000 _ _ _ (Nat.le_refl _) ⟨⟨h0, by omega, by omega⟩, rfl⟩
  · intro n g hg a x D' hI
    obtain ⟨⟨i0, i1, i2⟩, i3⟩ := hI
    subst i3
    refine hF g a x i0 (fun hx b => hg _ _ _ ⟨?_, rfl⟩)
    have c2 : (x + 1).toInt = x.toInt + 1 := ti_add rfl ti_1 (by omega) (by omega)
    omega
  · intro a x D' hI
    obtain ⟨⟨i0, i1, i2⟩, -⟩ := hI
    omega
theorem Wp.up3 {D : ADD} (B : Int) (hB : B ≤ 100000) {F : (σ → τ → Int32 → ADD → Option (ρ × ADD)) → σ → τ → Int32 → ADD → Option (ρ × ADD)} {z : σ → τ → Int32 → ADD → Option (ρ × ADD)}
    (hF : ∀ (g : σ → τ → Int32 → ADD → Option (ρ × ADD)) (a : σ) (b : τ) (x : Int32), 0 ≤ x.toInt → (x.toInt < B → ∀ c d, Wp (g c d (x + 1) D) Q) → Wp (F g a b x D) Q) {a : σ} {b : τ} {x0 : Int32} (h0 : 0 ≤ x0.toInt) (h1 : x0.toInt ≤ 100000) : Wp (aFix aFuel F z a b x0 D) Q := by
  refine Wp.fix3 (fun n a b x D' => (0 ≤ x.toInt ∧ x.toInt ≤ 100001 ∧ 100001 - x.toInt < (n : Int)) ∧ D' = D) ?_ ?_ aFuel 1000000 _ _ _ _ (Nat.le_refl _) ⟨⟨h0, by omega, by omega⟩, rfl⟩
  · intro n g hg a b x D' hI
    obtain ⟨⟨i0, i1, i2⟩, i3⟩ := hI
    subst i3
    refine hF g a b x i0 (fun hx c d => hg _ _ _ _ ⟨?_, rfl⟩)
    have c2 : (x + 1).toInt = x.toInt + 1 := ti_add rfl ti_1 (by omega) (by omega)
    omega
  · intro a b x D' hI
    obtain ⟨⟨i0, i1, i2⟩, -⟩ := hI
    omega
end TT
section XS
variable {D : ADD} (hm : (D.1 43 0).toInt ≤ 32)
theorem eq_Pu {ρ : Type} {f : Option (ρ × ADD)} {D : ADD} {v : ρ} (h : Wp f (fun x D1 => D1 = D ∧ x = v)) : f = some (v, D) := by
  obtain ⟨x, D1, e, rfl, rfl⟩ := h
  exact e
theorem eX_scoreBy (u : Int32) (hm : (D.1 43 0).toInt ≤ 32) : fX4_scoreBy u D = some (u * D.1 43 0 - 4 * sI (fun i => offX D (nI i) u) 0 0 (mnX D), D) := by
  refine eq_Pu ?_
  unfold fX4_scoreBy
  refine Wp.lets (Wp.lets (eX_sum D (f := fun i => offX D (nI i) u) (by omega) (fun g acc x h0 h1 k => ?_) (fun g x h => ?_)))
  · unfold lX4_scoreBy_4
    refine Wp.neg (fun q => by have := Int32.le_iff_toInt_le.mp q; omega) (Wp.bindE (eX_offOf _ _ _) (Wp.lets (Wp.lets ?_)))
    rw [← nI_val h0] at k
    exact k
  · unfold lX4_scoreBy_4
    exact Wp.pos (Int32.le_iff_toInt_le.mpr h) (Wp.ret ⟨rfl, rfl⟩)
abbrev neaX (D : ADD) (i u : Int32) : Prop := (8 * offX D i u) ≤ u
theorem eX_nearBy (u : Int32) (hm : (D.1 43 0).toInt ≤ 32) : fX4_nearBy u D = some (sI (fun i => if neaX D (nI i) u then 1 else 0) 0 0 (mnX D), D) := by
  refine eq_Pu ?_
  unfold fX4_nearBy
  refine Wp.lets (Wp.lets (eX_sum D (f := fun i => if neaX D (nI i) u then 1 else 0) (by omega) (fun g acc x h0 h1 k => ?_) (fun g x h => ?_)))
  · unfold lX4_nearBy_4
    rw [← nI_val h0] at k
    refine Wp.neg (fun q => by have := Int32.le_iff_toInt_le.mp q; omega) (Wp.bindE (eX_isNear _ _ _) (Wp.lets ?_))
    by_cases hn : neaX D x u
    · rw [if_pos hn] at k ⊢
      exact Wp.neg (by decide) (Wp.lets (Wp.lets k))
    · rw [if_neg hn] at k ⊢
      exact Wp.pos rfl (Wp.lets (Wp.lets k))
  · unfold lX4_nearBy_4
    exact Wp.pos (Int32.le_iff_toInt_le.mpr h) (Wp.ret ⟨rfl, rfl⟩)
theorem eX_marksNear (u : Int32) (hm : (D.1 43 0).toInt ≤ 32) : fX4_marksNear u D = some (sI (fun i => if 0 < mrkX D (nI i) ∧ neaX D (nI i) u then 1 else 0) 0 0 (mnX D), D) := by
  refine eq_Pu ?_
  unfold fX4_marksNear
  refine Wp.lets (Wp.lets (eX_sum D (f := fun i => if 0 < mrkX D (nI i) ∧ neaX D (nI i) u then 1 else 0) (by omega) (fun g acc x h0 h1 k => ?_) (fun g x h => ?_)))
  · unfold lX4_marksNear_4
    rw [← nI_val h0] at k
    refine Wp.neg (fun q => by have := Int32.le_iff_toInt_le.mp q; omega) (Wp.bindE (eX_markOf _ _) (Wp.lets (Wp.lets (Wp.ite (fun h2 => ?_) (fun h2 => Wp.bindE (eX_isNear _ _ _) ?_)))))
    · rw [if_neg (fun q => absurd q.1 (Int32.not_lt.mpr h2))] at k
      exact Wp.lets (Wp.lets k)
    · by_cases hn : neaX D x u
      · rw [if_pos ⟨Int32.not_le.mp h2, hn⟩] at k
        rw [if_pos hn]
        exact Wp.neg (by decide) (Wp.lets (Wp.lets k))
      · rw [if_neg (fun q => hn q.2)] at k
        rw [if_neg hn]
        exact Wp.pos rfl (Wp.lets (Wp.lets k))
  · unfold lX4_marksNear_4
    exact Wp.pos (Int32.le_iff_toInt_le.mpr h) (Wp.ret ⟨rfl, rfl⟩)
theorem eX_shortsBy (u : Int32) (hu : u.toInt ≤ 100000) (hm : (D.1 43 0).toInt ≤ 32) : fX4_shortsBy u D = some (sI (fun i => if u < 100 * shoX D (nI i) u then 1 else 0) 0 0 (mnX D), D) := by
  refine eq_Pu ?_
  unfold fX4_shortsBy
  refine Wp.lets (Wp.lets (eX_sum D (f := fun i => if u < 100 * shoX D (nI i) u then 1 else 0) (by omega) (fun g acc x h0 h1 k => ?_) (fun g x h => ?_)))
  · unfold lX4_shortsBy_4
    rw [← nI_val h0] at k
    refine Wp.neg (fun q => by have := Int32.le_iff_toInt_le.mp q; omega) (Wp.bindE (eX_shortOf _ _ _ hu) (Wp.lets (Wp.ite (fun h2 => ?_) (fun h2 => ?_))))
    · rw [if_neg (Int32.not_lt.mpr h2)] at k
      exact Wp.lets (Wp.lets k)
    · rw [if_pos (Int32.not_le.mp h2)] at k
      exact Wp.lets (Wp.lets k)
  · unfold lX4_shortsBy_4
    exact Wp.pos (Int32.le_iff_toInt_le.mpr h) (Wp.ret ⟨rfl, rfl⟩)
theorem lt_of_nle {a b : Int32} (h : ¬ a ≤ b) : b.toInt < a.toInt := Int32.lt_iff_toInt_lt.mp (Int32.not_le.mp h)
theorem tX4_townsNear {u : Int32} (hm : (D.1 43 0).toInt ≤ 32) : Pu (fX4_townsNear u D) D := by
  unfold fX4_townsNear
  refine Wp.lets (Wp.lets (Wp.up2 (D := D) 32 (by decide) (fun g a x h0 k => ?_) (by decide) (by decide)))
  unfold lX4_townsNear_4
  refine Wp.ite (fun _ => Wp.bind tJ_bits (fun _ D1 q => Wp.ret q)) (fun h => Wp.bindE (eX_isNear _ _ _) (Wp.lets ?_))
  have h := lt_of_nle h
  refine Wp.ite (fun _ => Wp.lets (Wp.lets (k (by omega) _))) (fun _ => Wp.bindE (eX_townOf _ _) (Wp.lets (Wp.lets (k (by omega) _))))
theorem tX4_first {t u : Int32} (hm : (D.1 43 0).toInt ≤ 32) : Pu (fX4_firstWithTimes t u D) D := by
  unfold fX4_firstWithTimes
  refine Wp.lets (Wp.lets (Wp.up1 (D := D) 32 (by decide) (fun g x h0 k => ?_) (by decide) (by decide)))
  unfold lX4_firstWithTimes_2
  refine Wp.ite (fun _ => Wp.ret rfl) (fun h => Wp.bindE (eX_timesOf _ _ _) (Wp.ite (fun _ => Wp.ret rfl) (fun _ => Wp.lets (k ?_))))
  have h := lt_of_nle h
  omega
theorem tX4_doublesBy {u : Int32} (hm : (D.1 43 0).toInt ≤ 32) : Pu (fX4_doublesBy u D) D := by
  unfold fX4_doublesBy
  refine Wp.lets (Wp.lets (Wp.up2 (D := D) 32 (by decide) (fun g a x h0 k => ?_) (by decide) (by decide)))
  unfold lX4_doublesBy_4
  refine Wp.ite (fun _ => Wp.ret rfl) (fun h => Wp.bindE (eX_timesOf _ _ _) (Wp.bind (tX4_first hm) (fun y D1 q => ?_)))
  subst q
  have h := lt_of_nle h
  exact Wp.lets (Wp.ite (fun _ => Wp.lets (Wp.lets (k (by omega) _))) (fun _ => Wp.lets (Wp.lets (k (by omega) _))))
theorem tX4_greatest {u : Int32} (hm : (D.1 43 0).toInt ≤ 32) : Pu (fX4_greatestTimes u D) D := by
  unfold fX4_greatestTimes
  refine Wp.lets (Wp.lets (Wp.up2 (D := D) 32 (by decide) (fun g a x h0 k => ?_) (by decide) (by decide)))
  unfold lX4_greatestTimes_4
  refine Wp.ite (fun _ => Wp.ret rfl) (fun h => Wp.bindE (eX_timesOf _ _ _) (Wp.lets (Wp.lets (k ?_ _))))
  have h := lt_of_nle h
  omega
theorem tX4_lacksBy {u : Int32} (hm : (D.1 43 0).toInt ≤ 32) : Pu (fX4_lacksBy u D) D := by
  unfold fX4_lacksBy
  refine Wp.bind (tX4_greatest hm) (fun y D1 q => ?_)
  subst q
  refine Wp.lets (Wp.lets (Wp.up2 (D := D1) 6 (by decide) (fun g a x h0 k => ?_) (by decide) (by decide)))
  unfold lX4_lacksBy_11
  have e5 : (5 : Int32).toInt = 5 := by decide
  refine Wp.ilt (fun _ => Wp.ret rfl) (fun h => Wp.ite (fun _ => Wp.ret rfl) (fun _ => Wp.bind (tX4_first hm) (fun y D2 q => ?_)))
  subst q
  exact Wp.lets (Wp.ite (fun _ => Wp.lets (Wp.lets (k (by omega) _))) (fun _ => Wp.lets (Wp.lets (k (by omega) _))))
theorem tX4_indexOf {s : Int32} (hm : (D.1 43 0).toInt ≤ 32) : Wp (fX4_indexOf s D) (fun x D1 => D1 = D ∧ (x = -1 ∨ (0 ≤ x.toInt ∧ x.toInt < (D.1 43 0).toInt))) := by
  unfold fX4_indexOf
  refine Wp.lets (Wp.lets (Wp.up1 (D := D) 32 (by decide) (fun g x h0 k => ?_) (by decide) (by decide)))
  unfold lX4_indexOf_2
  refine Wp.ite (fun _ => Wp.ret ⟨rfl, Or.inl rfl⟩) (fun h => Wp.bindE (eX_numberOf _ _) ?_)
  have h := lt_of_nle h
  exact Wp.ite (fun _ => Wp.ret ⟨rfl, Or.inr ⟨h0, h⟩⟩) (fun _ => Wp.lets (k (by omega)))
theorem tX4_firstIn {b : Int64} : Pu (fX4_firstIn b D) D := by
  unfold fX4_firstIn
  refine Wp.lets (Wp.lets (Wp.up1 (D := D) 32 (by decide) (fun g x h0 k => ?_) (by decide) (by decide)))
  unfold lX4_firstIn_2
  have e32 : (32 : Int32).toInt = 32 := by decide
  exact Wp.ile (fun _ => Wp.ret rfl) (fun h => Wp.ite (fun _ => Wp.ret rfl) (fun _ => Wp.lets (k (by omega))))
theorem tX4_areTwins {i j d : Int32} : Pu (fX4_areTwins i j d D) D := by
  unfold fX4_areTwins
  refine Wp.bindE (eX_numberOf _ _) (Wp.bindE (eX_numberOf _ _) (Wp.bindE (eX_known _ _ _) (Wp.bindE (eX_known _ _ _) (Wp.lets (Wp.lets (Wp.ite (fun _ => Wp.bindE (eX_known _ _ _) (Wp.bindE (eX_known _ _ _) (Wp.ite (fun _ => Wp.bindE (eX_known _ _ _) (Wp.bindE (eX_known _ _ _) (Wp.ite (fun _ => Wp.bindE (eX_known _ _ _) (Wp.bindE (eX_known _ _ _) (Wp.ite (fun _ => ?_) (fun _ => ?_)))) (fun _ => ?_)))) (fun _ => ?_)))) (fun _ => ?_))))))) <;>
    first | exact Wp.z (Or.inl rfl) (Wp.ret rfl) | exact Wp.z (Or.inr rfl) (Wp.ret rfl)
theorem tX4_heap {i d : Int32} (hm : (D.1 43 0).toInt ≤ 32) : Pu (fX4_leastOfHeap i d D) D := by
  unfold fX4_leastOfHeap
  refine Wp.lets (Wp.letQ (fun Q j => ∀ x, Wp (j x D) Q) (fun x => ?_) (fun j K => Wp.lets ?_))
  · refine Wp.bind tX4_firstIn (fun y D1 q => ?_)
    subst q
    exact Wp.bindE (eX_numberOf _ _) (Wp.ret rfl)
  · refine Wp.up3 (D := D) 32 (by decide) (fun g a b x h0 k => ?_) (by decide) (by decide)
    unfold lX4_leastOfHeap_11
    refine Wp.ite (fun _ => K _) (fun h => Wp.bind tX4_firstIn (fun y D1 q => ?_))
    subst q
    have h := lt_of_nle h
    refine Wp.ite (fun _ => K _) (fun _ => Wp.lets (Wp.letQ (fun Q j => ∀ x, Wp (j x D1) Q) (fun y => Wp.lets (k (by omega) _ _)) (fun j2 K2 => Wp.lets ?_)))
    refine Wp.up2 (D := D1) 32 (by decide) (fun g a x h0 k => ?_) (by decide) (by decide)
    unfold lX4_leastOfHeap_55
    refine Wp.ite (fun _ => K2 _) (fun h => Wp.bind tX4_areTwins (fun y D2 q => ?_))
    subst q
    have h := lt_of_nle h
    exact Wp.lets (Wp.ite (fun _ => Wp.lets (Wp.lets (k (by omega) _))) (fun _ => Wp.lets (Wp.lets (k (by omega) _))))
theorem tX7_sumOfTwo {u v : Int32} (hm : (D.1 43 0).toInt ≤ 32) : Pu (fX7_sumOfTwo u v D) D := by
  unfold fX7_sumOfTwo
  refine Wp.lets (Wp.lets (Wp.up2 (D := D) 32 (by decide) (fun g a x h0 k => ?_) (by decide) (by decide)))
  unfold lX7_sumOfTwo_6
  refine Wp.ite (fun _ => Wp.ret rfl) (fun h => Wp.bindE (eX_offOf _ _ _) (Wp.bindE (eX_offOf _ _ _) (Wp.lets (Wp.lets (k ?_ _)))))
  have h := lt_of_nle h
  omega
end XS
