section RT
variable {D0 D : ADD}
theorem tX5_readTest {l : Int32} (h : RdI D0 D) : Wp (fX5_readTest l D) (fun x D1 => (x = 0 ∨ x = 1) ∧ RdI D0 D1) := by
  unfold fX5_readTest
  refine Wp.bind (tX5_wordIn (by decide)) (fun y D1 q => ?_)
  subst q
  refine Wp.letQ (fun Q j => ∀ x, Wp (j x D1) Q) (fun x2 => ?_) (fun j K => Wp.ite (fun _ => K _) (fun _ => K _))
  refine Wp.letQ (fun Q j => ∀ D2, RdI D0 D2 → Wp (j D2) Q) (fun D2 r2 => ?_) (fun j K => Wp.ite (fun _ => K _ h) (fun _ => Wp.bind (tX5_advance h) (fun _ D3 q3 => K _ q3)))
  refine Wp.ite (fun _ => Wp.bind (tX5_wordIn (by decide)) (fun z D3 q3 => ?_)) (fun _ => Wp.bind (tX5_wordIn (by decide)) (fun z D3 q3 => ?_)) <;>
  · subst q3
    refine Wp.ite (fun _ => tX5_ref (K := none) r2) (fun _ => Wp.bind (tX5_advance r2) (fun _ D4 r4 => Wp.bind tX5_isSign (fun w D5 q5 => ?_)))
    subst q5
    refine Wp.letQ (fun Q j => Wp (j D5) Q) ?_ (fun j K => ?_)
    · refine Wp.bind tX9_byteAt (fun v D6 q6 => ?_)
      obtain ⟨rfl, -⟩ := q6
      refine Wp.bind (tX5_advance r4) (fun _ D7 r7 => Wp.ite (fun _ => Wp.bind (tX5_number r7) (fun u D8 q8 => ?_)) (fun _ => tX5_ref (K := none) r7))
      subst q8
      exact Wp.bind (tX6_addTest r7) (fun _ D9 r9 => Wp.bind (tX5_advance r9) (fun _ D10 r10 => Wp.ret ⟨Or.inr rfl, r10⟩))
    · refine Wp.ite (fun _ => Wp.bind tX5_isSign (fun v D6 q6 => ?_)) (fun _ => K)
      subst q6
      refine Wp.ite (fun _ => Wp.bind tX5_isSign (fun v D6 q6 => ?_)) (fun _ => K)
      subst q6
      exact Wp.ite (fun _ => tX5_ref (K := none) r4) (fun _ => K)
theorem tX5_readAmounts {l a : Int32} (h : RdI D0 D) : Wp (fX5_readAmounts l a D) (fun x D1 => (x = 0 ∨ x = 1) ∧ RdI D0 D1) := by
  unfold fX5_readAmounts
  refine Wp.ite (fun _ => Wp.bind (tX5_number h) (fun y D1 q => ?_)) (fun _ => tX5_ref (K := none) h)
  subst q
  refine Wp.bind (tX5_advance h) (fun _ D2 r2 => Wp.bind (tX5_wordIn (by decide)) (fun z D3 q3 => ?_))
  subst q3
  refine Wp.letQ (fun Q j => ∀ x D4, RdI D0 D4 → Wp (j x D4) Q) (fun x D4 r4 => Wp.bind (tX6_setDeed r4) (fun _ D5 r5 => Wp.ret ⟨Or.inr rfl, r5⟩)) (fun j K => Wp.ite (fun _ => Wp.bind (tX5_advance r2) (fun _ D6 r6 => Wp.ite (fun _ => Wp.bind (tX5_number r6) (fun w D7 q7 => ?_)) (fun _ => tX5_ref (K := none) r6))) (fun _ => K _ _ r2))
  subst q7
  exact Wp.letQ (fun Q j => ∀ D8, RdI D0 D8 → Wp (j D8) Q) (fun D8 r8 => Wp.bind (tX5_advance r8) (fun _ D9 r9 => K _ _ r9)) (fun j2 K2 => Wp.ite (fun _ => K2 _ r6) (fun _ => Wp.bind (tX5_remark r6) (fun _ D10 r10 => K2 _ r10)))
theorem tX5_readDeed {l : Int32} (h : RdI D0 D) : Wp (fX5_readDeed l D) (fun x D1 => (x = 0 ∨ x = 1) ∧ RdI D0 D1) := by
  unfold fX5_readDeed
  refine Wp.ite (fun _ => Wp.bind (tX5_wordIn (by decide)) (fun z D3 q3 => ?_)) (fun _ => Wp.bind (tX5_wordIn (by decide)) (fun z D3 q3 => ?_)) <;>
  · subst q3
    refine Wp.ite (fun _ => tX5_ref (K := none) h) (fun _ => Wp.bind (tX5_advance h) (fun _ D4 r4 => ?_))
    refine Wp.letQ (fun Q j => Wp (j D4) Q) (Wp.bind (tX6_setDeed r4) (fun _ D5 r5 => Wp.ret ⟨Or.inr rfl, r5⟩)) (fun j K => Wp.ite (fun _ => Wp.ite (fun _ => K) (fun _ => Wp.bind (tX5_readAmounts r4) (fun x D5 q5 => Wp.z q5.1 (Wp.ret q5)))) (fun _ => K))
theorem tX5_readTests {l : Int32} (h : RdI D0 D) : Wp (fX5_readTests l D) (fun x D1 => (x = 0 ∨ x = 1) ∧ RdI D0 D1) := by
  unfold fX5_readTests
  have e5 : (500 : Int32).toInt = 500 := by decide
  refine Wp.letQ (fun Q j => ∀ D1, RdI D0 D1 → Wp (j D1) Q) (fun D1 r1 => Wp.bind (tX5_pass r1) (fun x D2 q2 => Wp.z q2.1 (Wp.ret q2))) (fun j K => Wp.lets ?_)
  refine Wp.fix1 (fun n x D' => (0 ≤ x.toInt ∧ x.toInt ≤ 500 ∧ 500 - x.toInt < (n : Int)) ∧ RdI D0 D') ?_ ?_ aFuel 1000000 _ _ (Nat.le_refl _) ⟨⟨by decide, by decide, by decide⟩, h⟩
  · intro n g hg x D' hI
    obtain ⟨⟨i0, i1, i2⟩, i3⟩ := hI
    unfold lX5_readTests_2
    have c2 : (x + 1).toInt = x.toInt + 1 := ti_add rfl ti_1 (by omega) (by omega)
    refine Wp.bind (tX5_advance i3) (fun _ D4 r4 => Wp.letQ (fun Q j => ∀ D1, RdI D0 D1 → Wp (j D1) Q) (fun D5 r5 => ?_) (fun j2 K2 => Wp.ite (fun _ => Wp.bind (tX5_remark r4) (fun _ D8 r8 => K2 _ r8)) (fun _ => K2 _ r4)))
    refine Wp.bind (tX5_readTest r5) (fun y D6 q6 => Wp.ite (fun _ => Wp.ret ⟨Or.inl rfl, q6.2⟩) (fun _ => Wp.lets (Wp.bind (tX5_wordIn (by decide)) (fun z D7 q7 => ?_))))
    subst q7
    exact Wp.ite (fun _ => Wp.ilt (fun h2 => hg _ _ ⟨⟨by omega, by omega, by omega⟩, q6.2⟩) (fun _ => K _ q6.2)) (fun _ => K _ q6.2)
  · intro x D' hI
    obtain ⟨⟨i0, i1, i2⟩, -⟩ := hI
    omega
theorem tX5_readLine {l : Int32} (h : RdI D0 D) : Wp (fX5_readLine l D) (fun x D1 => (x = 0 ∨ x = 1) ∧ RdI D0 D1) := by
  unfold fX5_readLine
  refine Wp.bind (tX6_clear h) (fun _ D1 r1 => Wp.bind (tX5_wordIn (by decide)) (fun y D2 q2 => ?_))
  subst q2
  refine Wp.letQ (fun Q j => ∀ D3, RdI D0 D3 → Wp (j D3) Q) (fun D3 r3 => ?_) (fun j K => Wp.ite (fun _ => Wp.bind (tX5_readTests r1) (fun x D8 q8 => Wp.ite (fun _ => Wp.ret ⟨Or.inl rfl, q8.2⟩) (fun _ => K _ q8.2))) (fun _ => K _ r1))
  refine Wp.bind (tX5_readDeed r3) (fun x D4 q4 => Wp.lets (Wp.lets (Wp.ite (fun _ => Wp.z (Or.inl rfl) (Wp.ret ⟨Or.inl rfl, q4.2⟩)) (fun _ => Wp.bind (tX5_pass q4.2) (fun z D7 q7 => Wp.ite (fun _ => Wp.z (Or.inl rfl) (Wp.ret ⟨Or.inl rfl, q7.2⟩)) (fun _ => Wp.z (Or.inr rfl) (Wp.ret ⟨Or.inr rfl, q7.2⟩)))))))
/-- no line of the reader has less than no test -/
abbrev TN (D : ADD) : Prop := ∀ l, l < 16 → 0 ≤ (D.1 38 l).toInt
theorem tX5_read {a : Int32} (ha : a = 0 ∨ a = 1) (h : TN D) : Wp (fX5_read a D) (fun x D1 => (x = 0 ∨ x = 1) ∧ (∀ c, (c < 33 ∨ 43 ≤ c) → D1.1 c = D.1 c) ∧ TN D1 ∧ (x = 1 → 0 ≤ (D1.1 34 0).toInt ∧ (D1.1 34 0).toInt ≤ 16)) := by
  unfold fX5_read
  have e5 : (500 : Int32).toInt = 500 := by decide
  have e16 : (16 : Int32).toInt = 16 := by decide
  refine Wp.z ha (Wp.lets (Wp.lets (Wp.lets (Wp.lets (Wp.leti (fun D5 e5' => ?_))))))
  -- the reader begins
  refine Wp.bind (P := fun _ D6 => RdI D D6) ?_ (fun _ D6 r6 => ?_)
  · have r0 : RdI D (aSI D5 33 6 0) := by
      refine ⟨fun c hc => ?_, ⟨by show 0 ≤ (0 : Int32).toInt; decide, by show (0 : Int32).toInt ≤ 501; decide⟩, ?_, fun l hl => ?_⟩
      · rw [e5']
        funext z
        have h33 : c ≠ 33 := by omega
        have h34 : c ≠ 34 := by omega
        simp [aSI, h33, h34]
      · rw [e5']
        exact ⟨by show 0 ≤ (0 : Int32).toInt; decide, by show (0 : Int32).toInt ≤ 501; decide⟩
      · rw [e5']
        exact h l hl
    have e : fX5_advance (aSI D5 33 6 0) = fX5_advance D5 := by
      have e2 : aSI (aSI D5 33 6 0) 33 6 ((aSI D5 33 6 0).1 33 7) = aSI D5 33 6 (D5.1 33 7) := by
        unfold aSI
        refine Prod.ext ?_ rfl
        funext c z
        by_cases hc : c = 33 ∧ z = 6
        · simp [hc]
        · simp [hc]
      unfold fX5_advance
      rw [e2]
    rw [← e]
    exact tX5_advance r0
  · refine Wp.letQ (fun Q j => ∀ x D7, 0 ≤ x.toInt → RdI D D7 → Wp (j x D7) Q) (fun x D7 hx r7 => ?_) (fun j K => Wp.lets ?_)
    · have m : 0 ≤ (aMin x 16).toInt ∧ (aMin x 16).toInt ≤ 16 := by rw [ti_min, e16]; omega
      have r8 : RdI D (aSI D7 34 0 (aMin x 16)) := r7.w2 (by omega) (by omega)
      exact Wp.lets (Wp.lets (Wp.ite (fun _ => Wp.z (Or.inr rfl) (Wp.ret ⟨Or.inr rfl, r8.1, r8.2.2.2, fun _ => m⟩)) (fun _ => Wp.z (Or.inl rfl) (Wp.ret ⟨Or.inl rfl, r8.1, r8.2.2.2, fun q => absurd q (by decide)⟩))))
    · refine Wp.fix1 (fun n x D' => (0 ≤ x.toInt ∧ x.toInt ≤ 500 ∧ 500 - x.toInt < (n : Int)) ∧ RdI D D') ?_ ?_ aFuel 1000000 _ _ (Nat.le_refl _) ⟨⟨by decide, by decide, by decide⟩, r6⟩
      · intro n g hg x D' hI
        obtain ⟨⟨i0, i1, i2⟩, i3⟩ := hI
        unfold lX5_read_34
        refine Wp.ite (fun _ => K _ _ i0 i3) (fun _ => Wp.ile (fun _ => K _ _ i0 i3) (fun h2 => Wp.letQ (fun Q j => ∀ D1, RdI D D1 → Wp (j D1) Q) (fun D8 r8 => ?_) (fun j2 K2 => Wp.ite (fun _ => Wp.bind (tX5_remark i3) (fun _ D9 r9 => K2 _ r9)) (fun _ => K2 _ i3))))
        have c2 : (x + 1).toInt = x.toInt + 1 := ti_add rfl ti_1 (by omega) (by omega)
        exact Wp.bind (tX5_readLine r8) (fun y D9 q9 => Wp.ite (fun _ => Wp.ret ⟨Or.inl rfl, q9.2.1, q9.2.2.2.2, fun q => absurd q (by decide)⟩) (fun _ => Wp.lets (hg _ _ ⟨⟨by omega, by omega, by omega⟩, q9.2⟩)))
      · intro x D' hI
        obtain ⟨⟨i0, i1, i2⟩, -⟩ := hI
        omega
end RT
