/-! the search: no answer is none -/
theorem Wp.pure {ρ : Type} {f : Option (ρ × ADD)} {D : ADD} {P : ρ → Prop} (h : Wp f (fun x D1 => D1 = D ∧ P x)) : Wp f (fun _ D1 => D1 = D) := h.mono (fun _ _ q => q.1)
theorem tJ_cmp {x y : Int64} {D : ADD} : Wp (fJ13_compare_74951 x y D) (fun _ D1 => D1 = D) := by
  unfold fJ13_compare_74951
  refine Wp.lets (Wp.ite (fun _ => Wp.ite (fun _ => ?_) (fun _ => ?_)) (fun _ => ?_)) <;> exact Wp.ret rfl
theorem tX7_inReach {a : Int32} {D : ADD} : Wp (fX7_inReach a D) (fun x D1 => D1 = D ∧ Bo x ((D.1 50 0).toInt ≤ a.toInt ∧ a.toInt ≤ (D.1 50 1).toInt ∧ (a - D.1 50 0).toInt ≤ 300)) := by
  unfold fX7_inReach
  have e : (300 : Int32).toInt = 300 := by decide
  refine Wp.lets (Wp.lets (Wp.ilt (fun h => ?_) (fun h => Wp.ilt (fun g => ?_) (fun g => Wp.ilt (fun k => ?_) (fun k => ?_))))) <;>
    first | exact Wp.z (Or.inl rfl) (Wp.ret ⟨rfl, Or.inr ⟨rfl, by omega⟩⟩) | exact Wp.z (Or.inr rfl) (Wp.ret ⟨rfl, Or.inl ⟨rfl, by omega⟩⟩)
theorem tX7_compare {a b : Int32} {D : ADD} (h0 : 0 ≤ (D.1 50 0).toInt) (h1 : (D.1 50 0).toInt ≤ 2000) : Wp (fX7_compare a b D) (fun _ D1 => D1 = D) := by
  unfold fX7_compare
  refine Wp.bind tX7_inReach (fun x D1 h => ?_)
  obtain ⟨rfl, h⟩ := h
  refine Wp.lets ?_
  rcases h with ⟨rfl, h⟩ | ⟨rfl, h⟩
  · rw [if_neg (by decide)]
    refine Wp.bind tX7_inReach (fun x D2 g => ?_)
    obtain ⟨rfl, g⟩ := g
    rcases g with ⟨rfl, g⟩ | ⟨rfl, g⟩
    · rw [if_neg (by decide)]
      have u1 := ti_hi a
      have u2 := ti_hi b
      have e1 : (a - D2.1 50 0).toInt = a.toInt - (D2.1 50 0).toInt := ti_sub rfl rfl (by omega) (by omega)
      have e2 : (b - D2.1 50 0).toInt = b.toInt - (D2.1 50 0).toInt := ti_sub rfl rfl (by omega) (by omega)
      refine Wp.idx (i_in (by omega) (by omega)) (Wp.idx (i_in (by omega) (by omega)) (Wp.bind tJ_cmp (fun x D3 k => ?_)))
      exact Wp.ret k
    · rw [if_pos rfl]
      exact Wp.ret rfl
  · rw [if_pos rfl]
    exact Wp.ret rfl
theorem tX7_isBetter {a b : Int32} {D : ADD} (h0 : 0 ≤ (D.1 50 0).toInt) (h1 : (D.1 50 0).toInt ≤ 2000) : Wp (fX7_isBetter a b D) (fun x D1 => D1 = D ∧ (x = 0 ∨ x = 1)) := by
  unfold fX7_isBetter
  refine Wp.bind (tX7_compare h0 h1) (fun x D1 h => ?_)
  subst h
  refine Wp.lets (Wp.lets (Wp.ite (fun _ => ?_) (fun _ => Wp.lets (Wp.ite (fun _ => Wp.ite (fun _ => ?_) (fun _ => ?_)) (fun _ => ?_))))) <;>
    first | exact Wp.z (Or.inl rfl) (Wp.ret ⟨rfl, Or.inl rfl⟩) | exact Wp.z (Or.inr rfl) (Wp.ret ⟨rfl, Or.inr rfl⟩)
theorem tX7_isPeak {a : Int32} {D : ADD} (h0 : 0 ≤ (D.1 50 0).toInt) (h1 : (D.1 50 0).toInt ≤ 2000) : Wp (fX7_isPeak a D) (fun x D1 => D1 = D ∧ (x = 0 ∨ x = 1)) := by
  have K : ∀ D2 : ADD, D2 = D → Wp (if a = (D2.1 50 1) then aZ 1 (some ((1 : Int32), D2)) else aBind (fX7_compare a (a + (1 : Int32)) D2) (fun x2 D5 => (if x2 < 0 then aZ 0 (some ((0 : Int32), D5)) else aZ 1 (some ((1 : Int32), D5))))) (fun x D1 => D1 = D ∧ (x = 0 ∨ x = 1)) := by
    intro D2 e
    subst e
    refine Wp.ite (fun _ => Wp.z (Or.inr rfl) (Wp.ret ⟨rfl, Or.inr rfl⟩)) (fun _ => Wp.bind (tX7_compare h0 h1) (fun x D1 h => ?_))
    subst h
    exact Wp.ite (fun _ => Wp.z (Or.inl rfl) (Wp.ret ⟨rfl, Or.inl rfl⟩)) (fun _ => Wp.z (Or.inr rfl) (Wp.ret ⟨rfl, Or.inr rfl⟩))
  unfold fX7_isPeak
  refine Wp.lets (Wp.lets (Wp.lets (Wp.ite (fun _ => K D rfl) (fun _ => Wp.bind (tX7_compare h0 h1) (fun x D1 h => ?_)))))
  subst h
  exact Wp.ite (fun _ => Wp.z (Or.inl rfl) (Wp.ret ⟨rfl, Or.inl rfl⟩)) (fun _ => K _ rfl)
/-- a unit's range in the search -/
abbrev SR (D : ADD) : Prop := 0 ≤ (D.1 50 0).toInt ∧ (D.1 50 0).toInt ≤ 2000 ∧ (D.1 50 0).toInt ≤ (D.1 50 1).toInt ∧ (D.1 50 1).toInt ≤ (D.1 50 0).toInt + 300
theorem tX7_listPeaks {D : ADD} (h : SR D) : Wp (fX7_listPeaks D) (fun _ D1 => (∀ a, a ≠ 50 → a ≠ 53 → D1.1 a = D.1 a) ∧ (∀ k, k ≠ 5 → D1.1 50 k = D.1 50 k) ∧ D1.2 = D.2) := by
  obtain ⟨h0, h1, h2, h3⟩ := h
  unfold fX7_listPeaks
  refine Wp.lets (Wp.lets (Wp.lets (Wp.lets ?_)))
  refine Wp.fix1 (fun n x D' => ((D.1 50 0).toInt ≤ x.toInt ∧ x.toInt ≤ (D.1 50 1).toInt + 1 ∧ (D.1 50 1).toInt + 1 - x.toInt < (n : Int)) ∧ (0 ≤ (D'.1 50 5).toInt ∧ (D'.1 50 5).toInt ≤ 301) ∧ (∀ a, a ≠ 50 → a ≠ 53 → D'.1 a = D.1 a) ∧ (∀ k, k ≠ 5 → D'.1 50 k = D.1 50 k) ∧ D'.2 = D.2) ?_ ?_ aFuel 1000000 _ _ (Nat.le_refl _) ?_
  · intro n g hg x D' hI
    obtain ⟨⟨i0, i1, i2⟩, ⟨i3, i4⟩, i5, i6, i7⟩ := hI
    have e0 := i6 0 (by decide)
    have e1 := i6 1 (by decide)
    have e : (301 : Int32).toInt = 301 := by decide
    have c2 : (x + 1).toInt = x.toInt + 1 := ti_add rfl ti_1 (by omega) (by omega)
    unfold lX7_listPeaks_10
    refine Wp.ilt (fun k => Wp.ret ⟨i5, i6, i7⟩) (fun k => Wp.bind (tX7_isPeak (by rw [e0]; exact h0) (by rw [e0]; exact h1)) (fun y D1 q => ?_))
    obtain ⟨rfl, q⟩ := q
    rw [e1] at k
    refine Wp.lets (Wp.ite (fun _ => ?_) (fun _ => Wp.ile (fun r => ?_) (fun r => ?_)))
    · exact Wp.lets (hg _ _ ⟨⟨by omega, by omega, by omega⟩, ⟨i3, i4⟩, i5, i6, i7⟩)
    · exact Wp.lets (hg _ _ ⟨⟨by omega, by omega, by omega⟩, ⟨i3, i4⟩, i5, i6, i7⟩)
    · have r2 : (D1.1 50 5).toInt < 301 := by
        have : (Int32.ofNat 301).toInt = 301 := by decide
        omega
      refine Wp.idx (i_in (by omega) (by omega)) (Wp.lets (Wp.lets (Wp.lets (hg _ _ ⟨⟨by omega, by omega, by omega⟩, ?_, fun a u v => ?_, fun k hk => ?_, i7⟩))))
      · have c3 : (D1.1 50 5 + 1).toInt = (D1.1 50 5).toInt + 1 := ti_add rfl ti_1 (by omega) (by omega)
        show 0 ≤ (D1.1 50 5 + 1).toInt ∧ (D1.1 50 5 + 1).toInt ≤ 301
        omega
      · funext k
        simp [aSI, u, v, i5 a u v]
      · simp [aSI, hk, i6 k hk]
  · intro x D' hI
    obtain ⟨⟨i0, i1, i2⟩, -⟩ := hI
    omega
  · refine ⟨⟨?_, ?_, ?_⟩, ⟨?_, ?_⟩, fun a u v => ?_, fun k hk => ?_, rfl⟩
    · show (D.1 50 0).toInt ≤ (D.1 50 0).toInt
      omega
    · show (D.1 50 0).toInt ≤ _
      omega
    · show (D.1 50 1).toInt + 1 - (D.1 50 0).toInt < _
      omega
    · show 0 ≤ (0 : Int32).toInt
      decide
    · show (0 : Int32).toInt ≤ 301
      decide
    · funext k
      simp [aSI, u]
    · simp [aSI, hk]
theorem tX7_betterPeaks {a : Int32} {D : ADD} (h0 : 0 ≤ (D.1 50 0).toInt) (h1 : (D.1 50 0).toInt ≤ 2000) : Wp (fX7_betterPeaks a D) (fun _ D1 => D1 = D) := by
  unfold fX7_betterPeaks
  refine Wp.lets (Wp.lets ?_)
  refine Wp.fix2 (fun n y x D' => (0 ≤ x.toInt ∧ x.toInt ≤ 301 ∧ 301 - x.toInt < (n : Int)) ∧ D' = D) ?_ ?_ aFuel 1000000 _ _ _ (Nat.le_refl _) ⟨⟨by decide, by decide, by decide⟩, rfl⟩
  · intro n g hg y x D' hI
    obtain ⟨⟨i0, i1, i2⟩, i3⟩ := hI
    subst i3
    have e : (Int32.ofNat 301).toInt = 301 := by decide
    have c2 : (x + 1).toInt = x.toInt + 1 := ti_add rfl ti_1 (by omega) (by omega)
    unfold lX7_betterPeaks_4
    refine Wp.ile (fun _ => Wp.ret rfl) (fun _ => Wp.ile (fun _ => Wp.ret rfl) (fun k => Wp.idx (i_in (by omega) (by omega)) (Wp.bind (tX7_isBetter h0 h1) (fun z D1 q => ?_))))
    obtain ⟨rfl, q⟩ := q
    refine Wp.lets (Wp.ite (fun _ => ?_) (fun _ => ?_)) <;> exact Wp.lets (Wp.lets (hg _ _ _ ⟨⟨by omega, by omega, by omega⟩, rfl⟩))
  · intro y x D' hI
    obtain ⟨⟨i0, i1, i2⟩, -⟩ := hI
    omega
theorem tX7_placeOf {a : Int32} {D : ADD} (h : SR D) : Wp (fX7_placeOf a D) (fun _ D1 => (∀ a, a ≠ 50 → a ≠ 53 → D1.1 a = D.1 a) ∧ (∀ k, k ≠ 5 → D1.1 50 k = D.1 50 k) ∧ D1.2 = D.2) := by
  unfold fX7_placeOf
  refine Wp.bind (tX7_isPeak h.1 h.2.1) (fun x D1 q => ?_)
  obtain ⟨rfl, q⟩ := q
  refine Wp.ite (fun _ => Wp.ret ⟨fun _ _ _ => rfl, fun _ _ => rfl, rfl⟩) (fun _ => Wp.bind (tX7_listPeaks h) (fun y D2 q2 => ?_))
  have e0 := q2.2.1 0 (by decide)
  refine Wp.bind (tX7_betterPeaks (by rw [e0]; exact h.1) (by rw [e0]; exact h.2.1)) (fun z D3 q3 => ?_)
  subst q3
  exact Wp.ret q2
/-- the scores, over any pile whose score is never none -/
theorem tX7_scoreUnits {a b : Int32} {D : ADD} (h : UR a b 300) (hS : ∀ (u : Int32) (D' : ADD), (∀ c, c ≠ 50 → c ≠ 51 → D'.1 c = D.1 c) → a.toInt ≤ u.toInt → u.toInt ≤ b.toInt → Wp (fX4_scoreBy u D') (fun _ D1 => D1 = D')) : Wp (fX7_scoreUnits a b D) (fun _ D1 => (∀ c, c ≠ 50 → c ≠ 51 → D1.1 c = D.1 c) ∧ D1.2 = D.2 ∧ D1.1 50 0 = a ∧ D1.1 50 1 = b) := by
  obtain ⟨h0, h1, h2, h3⟩ := h
  unfold fX7_scoreUnits
  have hm : aMin b (a + 300) = b := by
    apply ti_eq
    have e : (a + 300).toInt = a.toInt + 300 := ti_add rfl (by decide) (by omega) (by omega)
    rw [ti_min, e]
    omega
  rw [hm]
  refine Wp.lets (Wp.lets (Wp.lets (Wp.lets (Wp.lets ?_))))
  refine Wp.fix1 (fun n x D' => (a.toInt ≤ x.toInt ∧ x.toInt ≤ b.toInt + 1 ∧ b.toInt + 1 - x.toInt < (n : Int)) ∧ (∀ c, c ≠ 50 → c ≠ 51 → D'.1 c = D.1 c) ∧ D'.2 = D.2 ∧ D'.1 50 0 = a ∧ D'.1 50 1 = b) ?_ ?_ aFuel 1000000 _ _ (Nat.le_refl _) ?_
  · intro n g hg x D' hI
    obtain ⟨⟨i0, i1, i2⟩, i3, i4, i5, i6⟩ := hI
    have c2 : (x + 1).toInt = x.toInt + 1 := ti_add rfl ti_1 (by omega) (by omega)
    have c3 : (x - a).toInt = x.toInt - a.toInt := ti_sub rfl rfl (by omega) (by omega)
    unfold lX7_scoreUnits_24
    rw [i5, i6]
    refine Wp.ilt (fun _ => Wp.ret ⟨i3, i4, i5, i6⟩) (fun k => Wp.bind (hS x D' i3 i0 k) (fun z D1 q => ?_))
    subst q
    refine Wp.idx (i_in (by omega) (by omega)) (Wp.lets (Wp.lets (hg _ _ ⟨⟨by omega, by omega, by omega⟩, fun c u v => ?_, i4, ?_, ?_⟩)))
    · funext k
      simp [aSI, v, i3 c u v]
    · simp [aSI, i5]
    · simp [aSI, i6]
  · intro x D' hI
    obtain ⟨⟨i0, i1, i2⟩, -⟩ := hI
    omega
  · refine ⟨⟨?_, ?_, ?_⟩, fun c u v => ?_, rfl, rfl, rfl⟩
    · show a.toInt ≤ a.toInt
      omega
    · show a.toInt ≤ _
      omega
    · show b.toInt + 1 - a.toInt < _
      omega
    · funext k
      simp [aSI, u]
