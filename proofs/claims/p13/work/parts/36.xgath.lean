/-! the class: the pile, exactly -/
theorem nI_val {x : Int32} (h : 0 ≤ x.toInt) : x = nI x.toNatClampNeg := by
  apply ti_eq
  have := cl_i h
  have h2 := ti_hi x
  rw [ti_nI (by omega)]
  omega
/-- all but the pile's own cells is the same -/
def FrP (D0 D : ADD) : Prop := (∀ c, (c < 43 ∨ 50 ≤ c) → D.1 c = D0.1 c) ∧ D.2 = D0.2 ∧ ∀ i, 7 ≤ i → D.1 49 i = D0.1 49 i
theorem FrP.refl (D : ADD) : FrP D D := ⟨fun _ _ => rfl, rfl, fun _ _ => rfl⟩
theorem FrP.kn {D0 D : ADD} (h : FrP D0 D) (a b : Int32) : knX D a b = knX D0 a b := knX_fr (h.1 2 (by omega)) (h.1 4 (by omega)) a b
theorem FrP.tr {D0 D : ADD} (h : FrP D0 D) (s : Int32) : trF D s = trF D0 s := by
  funext i
  unfold trF
  simp only [h.kn]
  match i with
  | 0 => rfl
  | 1 => rfl
  | 2 => rfl
  | 3 => rfl
  | 4 => rfl
  | 5 => rfl
  | 6 => rfl
  | i + 7 => exact h.2.2 _ (by omega)
theorem FrP.sm {D0 D : ADD} (h : FrP D0 D) : smR D0 D 13 := ⟨by rw [h.1 13 (by omega)], fun c h1 h2 => h.1 c (by omega)⟩
theorem FrP.wr {D0 D : ADD} (h : FrP D0 D) (s : Int32) : wrX D s = wrX D0 s := by
  unfold wrX
  rw [h.tr, wrF_sm h.sm, h.sm.1]
theorem FrP.lo {D0 D : ADD} (h : FrP D0 D) (s : Int32) : loX D s = loX D0 s := by
  unfold loX
  rw [h.wr, h.kn, h.kn]
theorem FrP.hi {D0 D : ADD} (h : FrP D0 D) (s : Int32) : hiX D s = hiX D0 s := by
  unfold hiX
  rw [h.wr, h.kn, h.kn]
theorem FrP.ch {D0 D : ADD} (h : FrP D0 D) (s : Int32) : chX D s ↔ chX D0 s := by
  unfold chX
  simp only [h.kn, h.1 31 (by omega)]
theorem FrP.bl {D0 D : ADD} (h : FrP D0 D) (k v s : Int32) : blX D k v s ↔ blX D0 k v s := by
  unfold blX
  simp only [h.kn, h.ch]
/-- the pile has the stones of L -/
def PilX (D0 D : ADD) (L : List Nat) : Prop := (D.1 43 0).toInt = (L.length : Int) ∧ L.length ≤ 32 ∧ ∀ i s, L[i]? = some s → D.1 46 i = nI s ∧ D.1 47 i = knX D0 (nI s) 7 ∧ D.1 48 i = knX D0 (nI s) 4 ∧ D.1 44 i = loX D0 (nI s) ∧ D.1 45 i = hiX D0 (nI s)
theorem tX4_lay {s : Nat} {D0 D : ADD} {L : List Nat} (hF : FrP D0 D) (hP : PilX D0 D L) (hl : (D0.1 13 0).toInt ≤ 16) (hL : L.length < 32) : Wp (fX4_lay (nI s) D) (fun _ D1 => FrP D0 D1 ∧ PilX D0 D1 (L ++ [s])) := by
  obtain ⟨p1, p2, p3⟩ := hP
  unfold fX4_lay
  have e32 : (32 : Int32).toInt = 32 := by decide
  have em : (D.1 43 0).toNatClampNeg = L.length := cl_of p1
  have im : vp_in (D.1 43 0) 32 := i_in (by omega) (by omega)
  refine Wp.lets (Wp.lets (Wp.ilt (fun h => absurd h (by rw [ti_0]; omega)) (fun _ => Wp.ilt (fun _ => ?_) (fun h => absurd h (by omega)))))
  rw [em]
  refine Wp.idx im (Wp.leti (fun D2 e2 => Wp.bindE (eX_known _ _ _) (Wp.idx im (Wp.leti (fun D4 e4 => Wp.bindE (eX_known _ _ _) (Wp.idx im (Wp.lets (Wp.leti (fun D7 e7 => ?_)))))))))
  have f2 : FrP D0 D2 := by
    refine ⟨fun c hc => ?_, by rw [e2]; exact hF.2.1, fun i hi => ?_⟩
    · rw [e2, ← hF.1 c hc]; funext z; have : c ≠ 46 := by omega
      simp [aSI, this]
    · rw [e2]; exact hF.2.2 i hi
  have f4 : FrP D0 D4 := by
    refine ⟨fun c hc => ?_, by rw [e4]; exact f2.2.1, fun i hi => ?_⟩
    · rw [e4, ← f2.1 c hc]; funext z; have : c ≠ 47 := by omega
      simp [aSI, this]
    · rw [e4]; exact f2.2.2 i hi
  rw [f2.kn] at e4
  rw [f4.kn] at e7
  have f7 : FrP D0 D7 := by
    refine ⟨fun c hc => ?_, by rw [e7]; exact f4.2.1, fun i hi => ?_⟩
    · rw [e7, ← f4.1 c hc]; funext z; have : c ≠ 48 := by omega
      have h43 : c ≠ 43 := by omega
      simp [aSI, this, h43]
    · rw [e7]; exact f4.2.2 i hi
  have w43 : (D7.1 43 0).toInt = (L.length : Int) + 1 := by
    have e : D7.1 43 0 = D.1 43 0 + 1 := by rw [e7, e4, e2]; rfl
    rw [e, ti_add p1 ti_1 (by omega) (by omega)]
  have w46 : ∀ j, D7.1 46 j = if j = L.length then nI s else D.1 46 j := by intro j; rw [e7, e4, e2]; simp [aSI]
  have w47 : ∀ j, D7.1 47 j = if j = L.length then knX D0 (nI s) 7 else D.1 47 j := by intro j; rw [e7, e4, e2]; simp [aSI]
  have w48 : ∀ j, D7.1 48 j = if j = L.length then knX D0 (nI s) 4 else D.1 48 j := by intro j; rw [e7, e4, e2]; simp [aSI]
  have w44 : D7.1 44 = D.1 44 := by funext j; rw [e7, e4, e2]; simp [aSI]
  have w45 : D7.1 45 = D.1 45 := by funext j; rw [e7, e4, e2]; simp [aSI]
  refine Wp.bind (tX4_measure (by omega) (by omega) (by rw [f7.1 13 (by omega)]; exact hl)) (fun _ D8 q => Wp.ret ?_)
  obtain ⟨q1, q2, q3, q4, q5⟩ := q
  rw [em] at q4 q5
  refine ⟨⟨fun c hc => by rw [q1 c (by omega) (by omega) (by omega), f7.1 c hc], by rw [q2, f7.2.1], fun i hi => by rw [q3 i hi, f7.2.2 i hi]⟩, ?_, by simp; omega, fun i t ht => ?_⟩
  · rw [q1 43 (by decide) (by decide) (by decide), w43]
    simp
  · rw [q1 46 (by decide) (by decide) (by decide), q1 47 (by decide) (by decide) (by decide), q1 48 (by decide) (by decide) (by decide), w46, w47, w48, q4, q5, w46, if_pos rfl, f7.lo, f7.hi, w44, w45]
    by_cases hi : i = L.length
    · subst hi
      rw [List.getElem?_append_right (Nat.le_refl _)] at ht
      simp at ht
      subst ht
      simp
    · have hi2 : i < L.length := by
        have := (List.getElem?_eq_some_iff.mp ht).1
        simp at this
        omega
      rw [List.getElem?_append_left hi2] at ht
      simp only [if_neg hi]
      exact p3 i t ht
noncomputable def gaL (D : ADD) (k v : Int32) (n : Nat) : List Nat := (List.range n).filter (fun s => @decide (blX D k v (nI s)) (Classical.propDecidable _))
theorem gaL_len (D : ADD) (k v : Int32) (n : Nat) : (gaL D k v n).length ≤ n := by
  have := List.length_filter_le (fun s => @decide (blX D k v (nI s)) (Classical.propDecidable _)) (List.range n)
  rw [List.length_range] at this
  exact this
theorem gaL_t {D : ADD} {k v : Int32} {n : Nat} (h : blX D k v (nI n)) : gaL D k v (n + 1) = gaL D k v n ++ [n] := by
  unfold gaL
  rw [List.range_succ, List.filter_append]
  simp [h]
theorem gaL_f {D : ADD} {k v : Int32} {n : Nat} (h : ¬ blX D k v (nI n)) : gaL D k v (n + 1) = gaL D k v n := by
  unfold gaL
  rw [List.range_succ, List.filter_append]
  simp [h]
theorem FrP.go {D0 D : ADD} {x : Int32} (h : FrP D0 D) : FrP D0 (aSI D 43 0 x) := by
  refine ⟨fun c hc => ?_, h.2.1, fun i hi => h.2.2 i hi⟩
  rw [← h.1 c hc]
  funext z
  have : c ≠ 43 := by omega
  simp [aSI, this]
theorem tX4_gather {k v : Int32} {D0 D : ADD} (hF : FrP D0 D) (h9 : 0 ≤ (D0.1 2 9).toInt ∧ (D0.1 2 9).toInt ≤ 32) (hl : (D0.1 13 0).toInt ≤ 16) : Wp (fX4_gather k v D) (fun r D1 => r = D1.1 43 0 ∧ FrP D0 D1 ∧ PilX D0 D1 (gaL D0 k v (D0.1 2 9).toNatClampNeg)) := by
  unfold fX4_gather
  have e9 := cl_i h9.1
  refine Wp.lets (Wp.lets (Wp.lets ?_))
  refine Wp.fix1 (fun n x D' => (0 ≤ x.toInt ∧ x.toInt ≤ (D0.1 2 9).toInt ∧ (D0.1 2 9).toInt - x.toInt < (n : Int)) ∧ FrP D0 D' ∧ PilX D0 D' (gaL D0 k v x.toNatClampNeg)) ?_ ?_ aFuel 1000000 _ _ (Nat.le_refl _) ⟨⟨by decide, by rw [ti_0]; omega, by rw [ti_0]; omega⟩, hF.go, ?_⟩
  · intro n g hg x D' hI
    obtain ⟨⟨i0, i1, i2⟩, i3, i4⟩ := hI
    have ex := cl_i i0
    unfold lX4_gather_8
    rw [i3.1 2 (by omega)]
    refine Wp.ile (fun h => Wp.ret ⟨rfl, i3, ?_⟩) (fun h => Wp.bind tX4_belongs (fun b D1 q => ?_))
    · rw [show (D0.1 2 9).toNatClampNeg = x.toNatClampNeg by omega]
      exact i4
    · obtain ⟨rfl, q⟩ := q
      obtain ⟨c1, c2⟩ := cl_add1 (x := x) (by omega) (by omega)
      have hx : x = nI x.toNatClampNeg := nI_val i0
      refine Wp.lets ?_
      rcases q with ⟨rfl, q⟩ | ⟨rfl, q⟩
      · refine Wp.neg (by decide) ?_
        have q := (i3.bl _ _ _).mp q
        have hlen := gaL_len D0 k v x.toNatClampNeg
        have tl := tX4_lay (s := x.toNatClampNeg) i3 i4 hl (by omega)
        rw [← hx] at tl
        refine Wp.bind tl (fun _ D6 q6 => Wp.lets (hg _ _ ⟨⟨by omega, by omega, by omega⟩, q6.1, ?_⟩))
        rw [hx] at q
        rw [c1, gaL_t q]
        exact q6.2
      · have q := fun p => q ((i3.bl _ _ _).mpr p)
        refine Wp.pos rfl (Wp.lets (hg _ _ ⟨⟨by omega, by omega, by omega⟩, i3, ?_⟩))
        rw [hx] at q
        rw [c1, gaL_f q]
        exact i4
  · intro x D' hI
    obtain ⟨⟨i0, i1, i2⟩, -⟩ := hI
    omega
  · refine ⟨by rfl, by show 0 ≤ 32; decide, fun i s hs => ?_⟩
    have : gaL D0 k v (0 : Int32).toNatClampNeg = [] := rfl
    rw [this] at hs
    cases hs
theorem tX4_takeAlone {s : Int32} {D : ADD} (h9 : 0 ≤ (D.1 2 9).toInt ∧ (D.1 2 9).toInt ≤ 32) (hl : (D.1 13 0).toInt ≤ 16) : Wp (fX4_takeAlone s D) (fun x D1 => FrP D D1 ∧ if 0 ≤ s.toInt ∧ s.toInt < (D.1 2 9).toInt then x = 1 ∧ PilX D D1 [s.toNatClampNeg] else x = 0) := by
  unfold fX4_takeAlone
  have f1 : FrP D (aSI D 43 0 0) := (FrP.refl D).go
  refine Wp.lets (Wp.lets (Wp.ilt (fun h => Wp.ret ⟨f1, ?_⟩) (fun h => ?_)))
  · rw [ti_0] at h
    rw [if_neg (by omega)]
  · rw [ti_0] at h
    refine Wp.ilt (fun h2 => ?_) (fun h2 => Wp.ret ⟨f1, ?_⟩)
    · have h2 : s.toInt < (D.1 2 9).toInt := h2
      have tl := tX4_lay (s := s.toNatClampNeg) (L := []) f1 ⟨by rfl, by decide, fun i s hs => by cases hs⟩ hl (by decide)
      rw [← nI_val h] at tl
      refine Wp.bind tl (fun _ D3 q => Wp.ret ⟨q.1, ?_⟩)
      rw [if_pos ⟨h, h2⟩]
      exact ⟨rfl, q.2⟩
    · have h2 : (D.1 2 9).toInt ≤ s.toInt := h2
      rw [if_neg (by omega)]
