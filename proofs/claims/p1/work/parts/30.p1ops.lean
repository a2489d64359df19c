/-! one call on fresh objects -/
def XFr (D : ADD) : Prop := D.1 2 8 = 0 ∧ D.1 2 9 = 0 ∧ D.1 2 10 = 0 ∧ D.1 2 11 = 0 ∧ D.1 2 12 = -1 ∧ D.1 11 1 = 0 ∧ D.1 13 0 = 0 ∧ D.1 22 0 = 0 ∧ D.1 1 5 = 0 ∧ D.1 1 6 = -1
def MFr (D : ADD) : Prop := D.1 2 0 = 0 ∧ D.1 3 0 = 0 ∧ D.1 4 0 = -1 ∧ D.1 5 0 = 0 ∧ D.1 6 0 = 0 ∧ D.1 7 0 = -1 ∧ D.1 8 0 = 0 ∧ D.1 15 0 = 0 ∧ D.1 15 1 = 0 ∧ ∀ k, k < 3 → D.1 39 k = 0
abbrev Bth {ρ : Type} (f g : Option (ρ × ADD)) : Prop := ∃ (r1 : ρ) (D1 : ADD) (r2 : ρ) (D2 : ADD), f = some (r1, D1) ∧ g = some (r2, D2) ∧ r1 = r2
theorem both {ρ : Type} {f g : Option (ρ × ADD)} (v : ρ) (h1 : Wp f (fun r _ => r = v)) (h2 : Wp g (fun r _ => r = v)) : Bth f g := by
  obtain ⟨r1, D1, e1, q1⟩ := h1
  obtain ⟨r2, D2, e2, q2⟩ := h2
  exact ⟨r1, D1, r2, D2, e1, e2, q1.trans q2.symm⟩
section P1
variable {D E : ADD} (hX : XFr D) (hM : MFr E)
theorem p1_0 (a b c : Int32) (hX : XFr D) (hM : MFr E) : Bth (fX10_stone a b c D) (fX11_stone a b c E) := by
  obtain ⟨h8, h9, h10, -⟩ := hX
  obtain ⟨-, -, -, m5, -, -, m8, -⟩ := hM
  refine both (if LsOK a b c then 0 else -1) ((tX10_stone (by rw [h8]; decide) (by rw [h10]; decide)).mono (fun r D1 q => ?_)) ((tM_stone (by rw [m5]; decide) (by rw [m8]; decide)).mono (fun r D1 q => ?_))
  · rw [h8, h10] at q
    by_cases h : LsOK a b c
    · rw [if_pos ⟨by decide, by decide, h⟩] at q
      rw [if_pos h]
      exact q.1
    · rw [if_neg (fun k => h k.2.2)] at q
      rw [if_neg h]
      exact q.1
  · rw [m5, m8] at q
    by_cases h : LsOK a b c
    · rw [if_pos ⟨by decide, by decide, h⟩] at q
      rw [if_pos h]
      exact q.1
    · rw [if_neg (fun k => h k.2.2)] at q
      rw [if_neg h]
      exact q.1
theorem zM_is {a l u : Int32} {D : ADD} (h : u.toInt < l.toInt) : fX11_is a l u D = some (0, D) := by
  rw [eM_is, if_neg (by omega)]
theorem p1_1 (a b c : Int32) (hX : XFr D) (hM : MFr E) : Bth (fX10_tell a b c D) (fX11_tell a b c E) := by
  obtain ⟨h8, -⟩ := hX
  obtain ⟨-, -, -, m5, -⟩ := hM
  refine both 0 ?_ ?_
  · unfold fX10_tell
    refine Wp.bind (P := fun r _ => r = 0) ?_ (fun x D1 q => by subst q; exact Wp.z (Or.inl rfl) (Wp.ret rfl))
    unfold fX0_retell
    refine Wp.lets (Wp.ilt (fun _ => Wp.ret rfl) (fun h => Wp.pos ?_ (Wp.ret rfl)))
    rw [h8]
    exact Int32.le_iff_toInt_le.mpr h
  · unfold fX11_tell
    simp only [cl_0]
    refine Wp.lets (Wp.idd (by decide) (Wp.bindE (zM_is ?_) (Wp.lets (Wp.pos rfl (Wp.ret rfl)))))
    show (E.1 5 0 - 1).toInt < _
    rw [m5]
    decide
theorem p1_2 (a : Int32) (hX : XFr D) (hM : MFr E) : Bth (fX10_day a D) (fX11_day a E) := by
  obtain ⟨-, -, -, h11, -⟩ := hX
  obtain ⟨-, -, -, -, m6, -⟩ := hM
  have e9 : (9999 : Int32).toInt = 9999 := by decide
  refine both (if 0 ≤ a.toInt ∧ a.toInt ≤ 9999 then 1 else 0) ?_ ?_
  · unfold fX10_day
    refine Wp.bind (P := fun r _ => r = if 0 ≤ a.toInt ∧ a.toInt ≤ 9999 then 1 else 0) ?_ (fun x D1 q => Wp.z ?_ (Wp.ret q))
    · unfold fX0_turnTo
      rw [h11]
      refine Wp.lets (Wp.ilt (fun h => Wp.ret ?_) (fun h => Wp.ile (fun g => Wp.lets (Wp.ret ?_)) (fun g => Wp.ret ?_)))
      · rw [ti_0] at h
        rw [if_neg (by omega)]
      · rw [ti_0] at h
        rw [if_pos (by omega)]
      · rw [if_neg (by omega)]
    · rw [q]
      split
      · exact Or.inr rfl
      · exact Or.inl rfl
  · unfold fX11_day
    simp only [cl_0]
    refine Wp.lets (Wp.idd (by decide) (Wp.bindE (eM_is _ _ _ _) ?_))
    rw [show (aSI E 0 0 0).1 6 0 = 0 from m6, ti_0, e9]
    by_cases h : 0 ≤ a.toInt ∧ a.toInt ≤ 9999
    · rw [if_pos h]
      exact Wp.neg (by decide) (Wp.idd (by decide) (Wp.lets (Wp.ret rfl)))
    · rw [if_neg h]
      exact Wp.pos rfl (Wp.ret rfl)
theorem p1_3 (a : Int32) (hX : XFr D) (hM : MFr E) : Bth (fX10_view a D) (fX11_view a E) := by
  obtain ⟨-, -, h10, h11, -⟩ := hX
  obtain ⟨-, -, -, -, m6, -⟩ := hM
  refine both (if -1 ≤ a.toInt ∧ a.toInt ≤ 0 then 1 else 0) ?_ ?_
  · unfold fX10_view
    refine Wp.bind (P := fun r _ => r = if -1 ≤ a.toInt ∧ a.toInt ≤ 0 then 1 else 0) ?_ (fun x D1 q => Wp.z ?_ (Wp.ret q))
    · unfold fX0_lookFrom
      have K : ∀ r : Int32, r = 1 → Wp (aLet (aSI D 2 12 a) (fun D2 => aLet (aSI D2 2 9 (0 : Int32)) (fun D3 => aLet (fun (D4 : ADD) => some ((1 : Int32), D4)) (fun (j70 : ADD → Option (Int32 × ADD)) => aLet (aFix aFuel (lX0_lookFrom_31 j70) (fun _ _ => none)) (fun j31 => j31 (0 : Int32) D3))))) (fun x _ => x = r) := by
        intro r hr
        refine Wp.lets (Wp.lets (Wp.lets (Wp.lets ?_)))
        rw [aFix_go]
        unfold lX0_lookFrom_31
        exact Wp.pos (show D.1 2 10 ≤ 0 by rw [h10]; decide) (Wp.ret hr.symm)
      refine Wp.lets (Wp.ite (fun h => K _ ?_) (fun h => Wp.lets (Wp.ilt (fun g => Wp.ret ?_) (fun g => Wp.ile (fun g2 => K _ ?_) (fun g2 => Wp.ret ?_)))))
      · rw [h]; rfl
      · have := ti_ne h
        rw [tn_1] at this
        rw [ti_0] at g
        rw [if_neg (by omega)]
      · rw [h11, ti_0] at g2
        rw [ti_0] at g
        rw [if_pos (by omega)]
      · rw [h11, ti_0] at g2
        rw [if_neg (by omega)]
    · rw [q]
      split
      · exact Or.inr rfl
      · exact Or.inl rfl
  · unfold fX11_view
    simp only [cl_0]
    refine Wp.lets (Wp.idd (by decide) (Wp.bindE (eM_is _ _ _ _) ?_))
    rw [show (aSI E 0 0 0).1 6 0 = 0 from m6, ti_0, tn_1]
    by_cases h : -1 ≤ a.toInt ∧ a.toInt ≤ 0
    · rw [if_pos h]
      exact Wp.neg (by decide) (Wp.idd (by decide) (Wp.lets (Wp.ret rfl)))
    · rw [if_neg h]
      exact Wp.pos rfl (Wp.ret rfl)
theorem zM_isStone {a : Int32} (h : E.1 5 0 = 0) : fX11_isStone a E = some (0, E) := by
  unfold fX11_isStone
  simp only [cl_0, in04, h]
  rw [zM_is (by decide)]
  rfl
theorem zX_known {a b : Int32} (h : D.1 2 9 = 0) : fX0_known a b D = some (-100000, D) := by
  unfold fX0_known
  simp only [aLet, h]
  by_cases ha : a < 0
  · rw [if_pos ha]
  · rw [if_neg ha, if_pos (Int32.not_lt.mp ha)]
theorem p1_4 (a b : Int32) (hX : XFr D) (hM : MFr E) : Bth (fX10_fact a b D) (fX11_fact a b E) := by
  refine both (-100000) ?_ ?_
  · unfold fX10_fact
    exact Wp.bindE (zX_known hX.2.1) (Wp.ret rfl)
  · unfold fX11_fact
    exact Wp.lets (Wp.bindE (zM_isStone hM.2.2.2.1) (Wp.lets (Wp.lets (Wp.pos rfl (Wp.ret rfl)))))
theorem p1_5 (a b : Int32) (hX : XFr D) (hM : MFr E) : Bth (fX10_entry a b D) (fX11_entry a b E) := by
  obtain ⟨-, -, h10, -⟩ := hX
  obtain ⟨-, -, -, -, -, -, m8, -⟩ := hM
  refine both (-100000) ?_ ?_
  · unfold fX10_entry
    refine Wp.bind (P := fun r _ => r = -100000) ?_ (fun x D1 q => Wp.ret q)
    unfold fX0_written
    refine Wp.lets (Wp.ilt (fun _ => Wp.ret rfl) (fun h => Wp.pos ?_ (Wp.ret rfl)))
    rw [h10]
    exact Int32.le_iff_toInt_le.mpr h
  · unfold fX11_entry
    simp only [cl_0]
    refine Wp.lets (Wp.idd (by decide) (Wp.bindE (zM_is ?_) (Wp.lets (Wp.lets (Wp.pos rfl (Wp.ret rfl))))))
    show (E.1 8 0 - 1).toInt < _
    rw [m8]
    decide
theorem p1_6 (a b c d e : Int32) (hX : XFr D) (hM : MFr E) : Bth (fX10_feed a b c d e D) (fX11_feed a b c d e E) := by
  obtain ⟨-, -, -, -, -, h11, -⟩ := hX
  obtain ⟨m2, -⟩ := hM
  have z : (0 : Int32).toInt = 0 := by decide
  refine both 20 ?_ ?_
  · unfold fX10_feed
    refine Wp.bindE (x := 1) (D := D) ?_ (Wp.neg (by decide) ?_)
    · unfold fX9_hasRoom
      rw [h11]
      rfl
    · refine Wp.bind (tX9_add (by rw [h11, z]; decide) (by rw [h11, z]; decide)) (fun _ D2 q2 => ?_)
      have l2 := q2.2.2.2.1
      rw [h11, z] at l2
      refine Wp.bind (tX9_add (by omega) (by omega)) (fun _ D3 q3 => ?_)
      have l3 := q3.2.2.2.1
      refine Wp.bind (tX9_add (by omega) (by omega)) (fun _ D4 q4 => ?_)
      have l4 := q4.2.2.2.1
      refine Wp.bind (tX9_add (by omega) (by omega)) (fun _ D5 q5 => ?_)
      have l5 := q5.2.2.2.1
      refine Wp.bind (tX9_add (by omega) (by omega)) (fun _ D6 q6 => ?_)
      have l6 := q6.2.2.2.1
      refine Wp.ret (ti_eq ?_)
      rw [show (20 : Int32).toInt = 20 by decide]
      omega
  · unfold fX11_feed
    simp only [cl_0]
    refine Wp.lets (Wp.idd (by decide) (Wp.pos (by rw [show (aSI E 0 0 0).1 2 0 = 0 from m2]; decide) ?_))
    have m2' : (aSI E 0 0 0).1 2 0 = 0 := m2
    generalize aSI E 0 0 0 = F at m2' ⊢
    refine Wp.bind (tM_four (by rw [m2', z]; decide) (by rw [m2', z]; decide)) (fun _ D2 q2 => ?_)
    have l2 := q2.2.2.2.1
    rw [m2', z] at l2
    refine Wp.bind (tM_four (by omega) (by omega)) (fun _ D3 q3 => ?_)
    have l3 := q3.2.2.2.1
    refine Wp.bind (tM_four (by omega) (by omega)) (fun _ D4 q4 => ?_)
    have l4 := q4.2.2.2.1
    refine Wp.bind (tM_four (by omega) (by omega)) (fun _ D5 q5 => ?_)
    have l5 := q5.2.2.2.1
    refine Wp.bind (tM_four (by omega) (by omega)) (fun _ D6 q6 => ?_)
    have l6 := q6.2.2.2.1
    refine Wp.idd (by decide) (Wp.ret (ti_eq ?_))
    rw [show (20 : Int32).toInt = 20 by decide]
    omega
theorem p1_7 (a : Int32) (hX : XFr D) (hM : MFr E) : Bth (fX10_end a D) (fX11_end a E) := by
  obtain ⟨-, -, -, -, -, h11, -⟩ := hX
  obtain ⟨m2, -⟩ := hM
  refine both (if 0 ≤ a.toInt ∧ a.toInt ≤ 0 then a else -1) ?_ ?_
  · unfold fX10_end
    refine Wp.bind (P := fun r _ => r = if 0 ≤ a.toInt ∧ a.toInt ≤ 0 then 1 else 0) ?_ (fun x D1 q => Wp.lets ?_)
    · unfold fX9_cut
      rw [h11]
      refine Wp.lets (Wp.ilt (fun h => Wp.ret ?_) (fun h => Wp.ile (fun g => Wp.lets (Wp.ret ?_)) (fun g => Wp.ret ?_)))
      · rw [ti_0] at h
        rw [if_neg (by omega)]
      · rw [ti_0] at h g
        rw [if_pos (by omega)]
      · rw [ti_0] at g
        rw [if_neg (by omega)]
    · by_cases h : 0 ≤ a.toInt ∧ a.toInt ≤ 0
      · rw [if_pos h] at q ⊢
        rw [q]
        exact Wp.neg (by decide) (Wp.ret rfl)
      · rw [if_neg h] at q ⊢
        rw [q]
        exact Wp.pos rfl (Wp.ret rfl)
  · unfold fX11_end
    simp only [cl_0]
    refine Wp.lets (Wp.idd (by decide) (Wp.bindE (eM_is _ _ _ _) ?_))
    rw [show (aSI E 0 0 0).1 2 0 = 0 from m2, ti_0]
    by_cases h : 0 ≤ a.toInt ∧ a.toInt ≤ 0
    · rw [if_pos h, if_pos h]
      exact Wp.neg (by decide) (Wp.idd (by decide) (Wp.lets (Wp.ret rfl)))
    · rw [if_neg h, if_neg h]
      exact Wp.pos rfl (Wp.ret rfl)
theorem p1_8 (a : Int32) (ha : a = 0 ∨ a = 1) (hX : XFr D) (hM : MFr E) : Bth (fX10_text a D) (fX11_text a E) := both 0 (zX_text ha hX.2.2.2.2.2.1) (zM_text ha hM.1)
theorem p1_9 (a : Int32) (hX : XFr D) (hM : MFr E) : Bth (fX10_fault a D) (fX11_fault a E) := by
  obtain ⟨-, -, -, -, -, -, -, -, h5, h6⟩ := hX
  obtain ⟨-, m3, m4, -⟩ := hM
  refine both (if a = 0 then 0 else -1) ?_ ?_
  · unfold fX10_fault
    refine Wp.ite (fun h => Wp.ret ?_) (fun h => Wp.ite (fun _ => Wp.ret ?_) (fun _ => Wp.ret ?_))
    · rw [if_pos h]; exact h5
    · rw [if_neg h]; exact h6
    · rw [if_neg h]
  · unfold fX11_fault
    simp only [cl_0]
    refine Wp.lets (Wp.lets (Wp.ite (fun h => Wp.idd (by decide) (Wp.ret ?_)) (fun h => Wp.ite (fun _ => Wp.idd (by decide) (Wp.ret ?_)) (fun _ => Wp.ret ?_))))
    · rw [if_pos h]; exact m3
    · rw [if_neg h]; exact m4
    · rw [if_neg h]
/-- what a choice asks -/
abbrev ChOK (y z m : Int32) : Prop := (-3000 ≤ y.toInt ∧ y.toInt ≤ z.toInt ∧ z.toInt ≤ 1900) ∧ 0 ≤ m.toInt ∧ m.toInt ≤ 2
theorem tX10_choose {a b y z m : Int32} : Wp (fX10_choose a b y z m D) (fun r D1 => if ChOK y z m then r = 1 ∧ (∀ c, c ≠ 31 → D1.1 c = D.1 c) ∧ D1.2 = D.2 ∧ D1.1 31 0 = a &&& 63 ∧ D1.1 31 1 = b &&& 31 ∧ D1.1 31 2 = y ∧ D1.1 31 3 = z ∧ D1.1 31 4 = m else r = 0 ∧ D1 = D) := by
  unfold fX10_choose
  refine Wp.bind (P := fun r D1 => if ChOK y z m then r = 1 ∧ (∀ c, c ≠ 31 → D1.1 c = D.1 c) ∧ D1.2 = D.2 ∧ D1.1 31 0 = a &&& 63 ∧ D1.1 31 1 = b &&& 31 ∧ D1.1 31 2 = y ∧ D1.1 31 3 = z ∧ D1.1 31 4 = m else r = 0 ∧ D1 = D) ?_ (fun x D1 q => Wp.z ?_ (Wp.ret q))
  · unfold fX1_change
    have e1 : (1900 : Int32).toInt = 1900 := by decide
    have e2 : (2 : Int32).toInt = 2 := by decide
    refine Wp.lets (Wp.ilt (fun h => Wp.ret ?_) (fun h => Wp.ilt (fun h2 => Wp.ret ?_) (fun h2 => Wp.ilt (fun h3 => Wp.ret ?_) (fun h3 => Wp.ilt (fun h4 => Wp.ret ?_) (fun h4 => Wp.ile (fun h5 => ?_) (fun h5 => Wp.ret ?_))))))
    · rw [tn_3000] at h
      rw [if_neg (by omega)]; exact ⟨rfl, rfl⟩
    · rw [if_neg (by omega)]; exact ⟨rfl, rfl⟩
    · rw [if_neg (by omega)]; exact ⟨rfl, rfl⟩
    · rw [ti_0] at h4
      rw [if_neg (by omega)]; exact ⟨rfl, rfl⟩
    · rw [tn_3000] at h
      rw [ti_0] at h4
      refine Wp.lets (Wp.lets (Wp.lets (Wp.lets (Wp.lets (Wp.ret ?_)))))
      rw [if_pos (by omega)]
      refine ⟨rfl, fun c hc => ?_, rfl, rfl, rfl, rfl, rfl, rfl⟩
      funext k
      simp [aSI, hc]
    · rw [if_neg (by omega)]; exact ⟨rfl, rfl⟩
  · by_cases h : ChOK y z m
    · rw [if_pos h] at q; exact Or.inr q.1
    · rw [if_neg h] at q; exact Or.inl q.1
theorem tM_choose {a b y z m : Int32} : Wp (fX11_choose a b y z m E) (fun r D1 => if ChOK y z m then r = 1 ∧ (∀ c, c ≠ 0 → c ≠ 11 → c ≠ 12 → c ≠ 13 → c ≠ 14 → D1.1 c = E.1 c) ∧ D1.2 = E.2 ∧ (∀ i, D1.1 11 i = if i = 0 then a else E.1 11 i) ∧ (∀ i, D1.1 12 i = if i = 0 then b else E.1 12 i) ∧ (∀ i, D1.1 13 i = if i = 1 then z else if i = 0 then y else E.1 13 i) ∧ (∀ i, D1.1 14 i = if i = 0 then m else E.1 14 i) else r = 0 ∧ SmM E D1) := by
  unfold fX11_choose
  have L1 : (1900 : Int32).toInt = 1900 := by decide
  have L2 : (2 : Int32).toInt = 2 := by decide
  have L0 : (0 : Int32).toInt = 0 := by decide
  refine Wp.lets (Wp.bindE (eM_is _ _ _ _) (Wp.lets ?_))
  rw [tn_3000]
  by_cases h1 : -3000 ≤ y.toInt ∧ y.toInt ≤ (1900 : Int32).toInt
  · rw [if_pos h1]
    refine Wp.neg (by decide) (Wp.bindE (eM_is _ _ _ _) ?_)
    by_cases h2 : y.toInt ≤ z.toInt ∧ z.toInt ≤ (1900 : Int32).toInt
    · rw [if_pos h2]
      refine Wp.neg (by decide) (Wp.bindE (eM_is _ _ _ _) ?_)
      by_cases h3 : (0 : Int32).toInt ≤ m.toInt ∧ m.toInt ≤ (2 : Int32).toInt
      · rw [if_pos h3]
        refine Wp.neg (by decide) (Wp.idd (by decide) (Wp.lets (Wp.idd (by decide) (Wp.lets (Wp.idd (by decide) (Wp.lets (Wp.idd (by decide) (Wp.lets (Wp.idd (by decide) (Wp.lets (Wp.ret ?_)))))))))))
        rw [if_pos (by omega)]
        have c1 : (1 : Int32).toNatClampNeg = 1 := by decide
        simp only [cl_0, c1]
        refine ⟨trivial, fun c c0 c11 c12 c13 c14 => ?_, rfl, fun i => ?_, fun i => ?_, fun i => ?_, fun i => ?_⟩
        · funext k
          simp [aSI, c0, c11, c12, c13, c14]
        · simp [aSI]
        · simp [aSI]
        · simp [aSI]
        · simp [aSI]
      · rw [if_neg h3]
        refine Wp.pos rfl (Wp.ret ?_)
        rw [if_neg (by omega)]; exact ⟨rfl, SmM.code⟩
    · rw [if_neg h2]
      refine Wp.pos rfl (Wp.ret ?_)
      rw [if_neg (by omega)]; exact ⟨rfl, SmM.code⟩
  · rw [if_neg h1]
    refine Wp.pos rfl (Wp.ret ?_)
    rw [if_neg (by omega)]; exact ⟨rfl, SmM.code⟩
theorem p1_10 (a b y z m : Int32) (hX : XFr D) (hM : MFr E) : Bth (fX10_choose a b y z m D) (fX11_choose a b y z m E) := by
  refine both (if ChOK y z m then 1 else 0) (tX10_choose.mono (fun r D1 q => ?_)) (tM_choose.mono (fun r D1 q => ?_)) <;>
  · by_cases h : ChOK y z m
    · rw [if_pos h] at q ⊢; exact q.1
    · rw [if_neg h] at q ⊢; exact q.1
end P1
