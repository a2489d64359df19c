/-! the class: gathering a pile, no answer is none -/
abbrev Pu {ρ : Type} (f : Option (ρ × ADD)) (D : ADD) : Prop := Wp f (fun _ D1 => D1 = D)
theorem eX_hasLine (a : Int32) (D : ADD) : fX6_hasLine a D = some (if 0 ≤ a.toInt ∧ a.toInt < 16 then 1 else 0, D) := by
  refine eq_Bo ?_
  unfold fX6_hasLine
  have e16 : (16 : Int32).toInt = 16 := by decide
  refine Wp.lets (Wp.lets (Wp.ilt (fun h => ?_) (fun h => Wp.ile (fun h2 => ?_) (fun h2 => ?_)))) <;> rw [ti_0] at h <;>
    first | exact Wp.z (Or.inl rfl) (Wp.ret ⟨rfl, Or.inr ⟨rfl, by omega⟩⟩) | exact Wp.z (Or.inr rfl) (Wp.ret ⟨rfl, Or.inl ⟨rfl, by omega⟩⟩)
/-- a test of the rules at o against the row v, at place a -/
def pasF (o v : Nat) (D : ADD) (a : Nat) : Prop := 0 ≤ (D.1 (o + 5) a).toInt ∧ (D.1 (o + 5) a).toInt < 8 ∧ (if D.1 (o + 6) a = 60 then D.1 v (D.1 (o + 5) a).toNatClampNeg < D.1 (o + 7) a else if D.1 (o + 6) a = 62 then D.1 (o + 7) a < D.1 v (D.1 (o + 5) a).toNatClampNeg else D.1 v (D.1 (o + 5) a).toNatClampNeg = D.1 (o + 7) a)
theorem tX6_passes {o v : Nat} {a : Int32} {D : ADD} (h0 : 0 ≤ a.toInt) (h1 : a.toInt < 64) : Wp (fX6_passes o v a D) (fun x D1 => D1 = D ∧ Bo x (pasF o v D a.toNatClampNeg)) := by
  unfold fX6_passes pasF
  have ia : vp_in a 64 := i_in h0 h1
  have e8 : (Int32.ofNat 8).toInt = 8 := by decide
  refine Wp.idx ia (Wp.lets (Wp.lets (Wp.ilt (fun h => ?_) (fun h => Wp.ilt (fun h2 => Wp.idx ia ?_) (fun h2 => ?_)))))
  · rw [ti_0] at h
    exact Wp.ret ⟨rfl, Or.inr ⟨rfl, fun q => by omega⟩⟩
  · rw [ti_0] at h
    have ix : vp_in (D.1 (o + 5) a.toNatClampNeg) 8 := i_in h (by omega)
    refine Wp.ite (fun k => Wp.idx ix (Wp.idx ia (Wp.lets ?_))) (fun k => Wp.ite (fun k2 => Wp.idx ix (Wp.idx ia (Wp.lets ?_))) (fun k2 => Wp.idx ix (Wp.idx ia (Wp.lets ?_))))
    · refine Wp.ite (fun q => Wp.z (Or.inl rfl) (Wp.ret ⟨rfl, Or.inr ⟨rfl, fun p => ?_⟩⟩)) (fun q => Wp.z (Or.inr rfl) (Wp.ret ⟨rfl, Or.inl ⟨rfl, h, by omega, ?_⟩⟩))
      · have p := p.2.2
        rw [if_pos k] at p
        exact absurd p (Int32.not_lt.mpr q)
      · rw [if_pos k]
        exact Int32.not_le.mp q
    · refine Wp.ite (fun q => Wp.z (Or.inl rfl) (Wp.ret ⟨rfl, Or.inr ⟨rfl, fun p => ?_⟩⟩)) (fun q => Wp.z (Or.inr rfl) (Wp.ret ⟨rfl, Or.inl ⟨rfl, h, by omega, ?_⟩⟩))
      · have p := p.2.2
        rw [if_neg k, if_pos k2] at p
        exact absurd p (Int32.not_lt.mpr q)
      · rw [if_neg k, if_pos k2]
        exact Int32.not_le.mp q
    · refine Wp.ite (fun q => Wp.z (Or.inr rfl) (Wp.ret ⟨rfl, Or.inl ⟨rfl, h, by omega, ?_⟩⟩)) (fun q => Wp.z (Or.inl rfl) (Wp.ret ⟨rfl, Or.inr ⟨rfl, fun p => ?_⟩⟩))
      · rw [if_neg k, if_neg k2]
        exact q
      · have p := p.2.2
        rw [if_neg k, if_neg k2] at p
        exact q p
  · exact Wp.ret ⟨rfl, Or.inr ⟨rfl, fun q => by omega⟩⟩
/-- a line holds: each of its tests is as its 'not' asks -/
def hldF (o v : Nat) (D : ADD) (l : Nat) : Prop := l < 16 ∧ ∀ i : Nat, (i : Int) < (D.1 (o + 4) l).toInt → i < 4 → (pasF o v D (4 * l + i) ↔ aBz (D.1 (o + 8) (4 * l + i)) = 0)
theorem bz01 (x : Int32) : aBz x = 0 ∨ aBz x = 1 := by
  obtain ⟨j, hj, ej⟩ := pk_andE x (m := 1) 1 (by decide)
  have e : aBz x = x &&& 1 := rfl
  rw [e, ej]
  have hj : j < 2 := hj
  rcases (show j = 0 ∨ j = 1 by omega) with rfl | rfl
  · exact Or.inl rfl
  · exact Or.inr rfl
theorem tX6_holds {o v : Nat} {a : Int32} {D : ADD} : Wp (fX6_holds o v a D) (fun x D1 => D1 = D ∧ Bo x (0 ≤ a.toInt ∧ hldF o v D a.toNatClampNeg)) := by
  unfold fX6_holds
  refine Wp.bindE (eX_hasLine a D) ?_
  by_cases h : 0 ≤ a.toInt ∧ a.toInt < 16
  · rw [if_pos h]
    have ea := cl_i h.1
    refine Wp.neg (by decide) (Wp.lets (Wp.lets ?_))
    have ia : vp_in a 16 := i_in h.1 h.2
    refine Wp.fix1 (fun n x D' => (0 ≤ x.toInt ∧ x.toInt ≤ 4 ∧ 4 - x.toInt < (n : Int)) ∧ D' = D ∧ ∀ i : Nat, (i : Int) < x.toInt → (pasF o v D (4 * a.toNatClampNeg + i) ↔ aBz (D.1 (o + 8) (4 * a.toNatClampNeg + i)) = 0)) ?_ ?_ aFuel 1000000 _ _ (Nat.le_refl _) ⟨⟨by decide, by decide, by decide⟩, rfl, fun i hi => by rw [ti_0] at hi; omega⟩
    · intro n g hg x D' hI
      obtain ⟨⟨i0, i1, i2⟩, i3, i4⟩ := hI
      subst i3
      unfold lX6_holds_11
      have e4 : (4 : Int32).toInt = 4 := by decide
      have ex := cl_i i0
      refine Wp.idx ia (Wp.ile (fun k => Wp.ret ⟨rfl, Or.inl ⟨rfl, h.1, by omega, fun i hi _ => i4 i (by omega)⟩⟩) (fun k => Wp.ile (fun k2 => Wp.ret ⟨rfl, Or.inl ⟨rfl, h.1, by omega, fun i _ hi => i4 i (by omega)⟩⟩) (fun k2 => ?_)))
      have e1 : (a * 4).toInt = a.toInt * 4 := ti_mul rfl e4 (by omega) (by omega)
      have e2 : (a * 4 + x).toInt = a.toInt * 4 + x.toInt := ti_add e1 rfl (by omega) (by omega)
      have w : (a * 4 + x).toNatClampNeg = 4 * a.toNatClampNeg + x.toNatClampNeg := cl_of (by omega)
      refine Wp.bind (tX6_passes (by omega) (by omega)) (fun y D1 q => ?_)
      obtain ⟨rfl, q⟩ := q
      rw [w] at q
      refine Wp.idx (i_in (by omega) (by omega)) ?_
      rw [w]
      refine Wp.ite (fun hy => Wp.ret ⟨rfl, Or.inr ⟨rfl, fun p => ?_⟩⟩) (fun hy => Wp.lets (hg _ _ ⟨?_, rfl, fun i hi => ?_⟩))
      · have p := p.2.2 x.toNatClampNeg (by omega) (by omega)
        rcases q with ⟨rfl, q⟩ | ⟨rfl, q⟩
        · have := p.mp q
          rw [this] at hy
          exact absurd hy (by decide)
        · exact q (p.mpr hy.symm)
      · have c2 : (x + 1).toInt = x.toInt + 1 := ti_add rfl ti_1 (by omega) (by omega)
        omega
      · have c2 : (x + 1).toInt = x.toInt + 1 := ti_add rfl ti_1 (by omega) (by omega)
        by_cases hi2 : (i : Int) < x.toInt
        · exact i4 i hi2
        · have hix : i = x.toNatClampNeg := by omega
          subst hix
          rcases q with ⟨rfl, q⟩ | ⟨rfl, q⟩
          · refine ⟨fun _ => ?_, fun _ => q⟩
            rcases bz01 (D1.1 (o + 8) (4 * a.toNatClampNeg + x.toNatClampNeg)) with b | b
            · exact b
            · exact absurd b.symm hy
          · exact ⟨fun p => absurd p q, fun p => absurd p.symm hy⟩
    · intro x D' hI
      obtain ⟨⟨i0, i1, i2⟩, -⟩ := hI
      omega
  · rw [if_neg h]
    refine Wp.pos rfl (Wp.ret ⟨rfl, Or.inr ⟨rfl, fun q => h ⟨q.1, ?_⟩⟩⟩)
    have := q.2.1
    have := cl_i q.1
    omega
def lnF (D : ADD) (c : Nat) (d a : Int32) : Int32 := if 0 ≤ a.toInt ∧ a.toInt < 16 then D.1 c a.toNatClampNeg else d
theorem eX_deedOf (o : Nat) (a : Int32) (D : ADD) : fX6_deedOf o a D = some (lnF D (o + 1) (-1) a, D) := by
  unfold fX6_deedOf lnF
  rw [eX_hasLine]
  by_cases h : 0 ≤ a.toInt ∧ a.toInt < 16
  · simp only [aBind, aLet, if_pos h, if_neg b01, aIn_ok (i_in (n := 16) h.1 h.2)]
  · simp only [aBind, aLet, if_neg h, if_true]
theorem eX_leastOf (o : Nat) (a : Int32) (D : ADD) : fX6_leastOf o a D = some (lnF D (o + 2) 0 a, D) := by
  unfold fX6_leastOf lnF
  rw [eX_hasLine]
  by_cases h : 0 ≤ a.toInt ∧ a.toInt < 16
  · simp only [aBind, aLet, if_pos h, if_neg b01, aIn_ok (i_in (n := 16) h.1 h.2)]
  · simp only [aBind, aLet, if_neg h, if_true]
theorem eX_mostOf (o : Nat) (a : Int32) (D : ADD) : fX6_mostOf o a D = some (lnF D (o + 3) 0 a, D) := by
  unfold fX6_mostOf lnF
  rw [eX_hasLine]
  by_cases h : 0 ≤ a.toInt ∧ a.toInt < 16
  · simp only [aBind, aLet, if_pos h, if_neg b01, aIn_ok (i_in (n := 16) h.1 h.2)]
  · simp only [aBind, aLet, if_neg h, if_true]
theorem knX_fr {D D1 : ADD} (h2 : D1.1 2 = D.1 2) (h4 : D1.1 4 = D.1 4) (a b : Int32) : knX D1 a b = knX D a b := by
  unfold knX
  rw [h2, h4]
/-- the traits of a stone -/
def trF (D : ADD) (s : Int32) (i : Nat) : Int32 := if i = 0 then knX D s 1 else if i = 1 then knX D s 2 else if i = 2 then knX D s 3 else if i = 3 then knX D s 4 else if i = 4 then knX D s 7 else if i = 5 then knX D s 8 else if i = 6 then 2000 - knX D s 6 else D.1 49 i
theorem tX4_traits {s : Int32} {D : ADD} : Wp (fX4_listTraits s D) (fun _ D1 => (∀ c, c ≠ 49 → D1.1 c = D.1 c) ∧ D1.2 = D.2 ∧ ∀ i, D1.1 49 i = trF D s i) := by
  unfold fX4_listTraits
  have c1 : (1 : Int32).toNatClampNeg = 1 := by decide
  have c2 : (2 : Int32).toNatClampNeg = 2 := by decide
  have c3 : (3 : Int32).toNatClampNeg = 3 := by decide
  have c4 : (4 : Int32).toNatClampNeg = 4 := by decide
  have c5 : (5 : Int32).toNatClampNeg = 5 := by decide
  have c6 : (6 : Int32).toNatClampNeg = 6 := by decide
  simp only [cl_0, c1, c2, c3, c4, c5, c6]
  refine Wp.bindE (eX_known _ _ _) (Wp.idd (by decide) (Wp.leti (fun D2 e2 => Wp.bindE (eX_known _ _ _) (Wp.idd (by decide) (Wp.leti (fun D4 e4 => Wp.bindE (eX_known _ _ _) (Wp.idd (by decide) (Wp.leti (fun D6 e6 => Wp.bindE (eX_known _ _ _) (Wp.idd (by decide) (Wp.leti (fun D8 e8 => Wp.bindE (eX_known _ _ _) (Wp.idd (by decide) (Wp.leti (fun D10 e10 => Wp.bindE (eX_known _ _ _) (Wp.idd (by decide) (Wp.leti (fun D12 e12 => Wp.bindE (eX_known _ _ _) (Wp.idd (by decide) (Wp.leti (fun D14 e14 => Wp.ret ⟨fun c hc => ?_, ?_, fun i => ?_⟩)))))))))))))))))))))
  · funext z
    rw [e14, e12, e10, e8, e6, e4, e2]
    simp [aSI, hc]
  · rw [e14, e12, e10, e8, e6, e4, e2]
    rfl
  · have k2 : ∀ a b, knX D2 a b = knX D a b := knX_fr (by rw [e2]; rfl) (by rw [e2]; rfl)
    have k4 : ∀ a b, knX D4 a b = knX D a b := knX_fr (by rw [e4, e2]; rfl) (by rw [e4, e2]; rfl)
    have k6 : ∀ a b, knX D6 a b = knX D a b := knX_fr (by rw [e6, e4, e2]; rfl) (by rw [e6, e4, e2]; rfl)
    have k8 : ∀ a b, knX D8 a b = knX D a b := knX_fr (by rw [e8, e6, e4, e2]; rfl) (by rw [e8, e6, e4, e2]; rfl)
    have k10 : ∀ a b, knX D10 a b = knX D a b := knX_fr (by rw [e10, e8, e6, e4, e2]; rfl) (by rw [e10, e8, e6, e4, e2]; rfl)
    have k12 : ∀ a b, knX D12 a b = knX D a b := knX_fr (by rw [e12, e10, e8, e6, e4, e2]; rfl) (by rw [e12, e10, e8, e6, e4, e2]; rfl)
    rw [k2] at e4
    rw [k4] at e6
    rw [k6] at e8
    rw [k8] at e10
    rw [k10] at e12
    rw [k12] at e14
    rw [e14, e12, e10, e8, e6, e4, e2]
    unfold trF
    simp only [aSI, true_and]
    match i with
    | 0 => rfl
    | 1 => rfl
    | 2 => rfl
    | 3 => rfl
    | 4 => rfl
    | 5 => rfl
    | 6 => rfl
    | i + 7 => rfl
