/-! the class: what is told -/
section XM
variable {D : ADD}
/-- a value goes with the stone's other facts of now -/
abbrev AgX (D : ADD) (s : Nat) (f v : Int32) : Prop := if f.toInt = 0 then (D.1 3 (11 * s + 3)).toInt < v.toInt else if f.toInt = 3 then v.toInt < (D.1 3 (11 * s)).toInt else if f.toInt = 5 then v.toInt ≤ (D.1 3 (11 * s + 6)).toInt else if f.toInt = 6 then (D.1 3 (11 * s + 5)).toInt ≤ v.toInt else True
theorem tX0_agrees {s f v : Int32} (hs : 0 ≤ s.toInt ∧ s.toInt < 32) : Wp (fX0_agrees s f v D) (fun x D1 => D1 = D ∧ Bo x (AgX D s.toNatClampNeg f v)) := by
  unfold fX0_agrees
  have es := cl_i hs.1
  have e1 : (s * 11).toInt = s.toInt * 11 := ti_mul rfl (by decide) (by omega) (by omega)
  have cell : ∀ (i : Int32) (n : Nat), i.toInt = n → n < 11 → vp_in (s * 11 + i) 352 ∧ (s * 11 + i).toNatClampNeg = 11 * s.toNatClampNeg + n := by
    intro i n hi hn
    have e : (s * 11 + i).toInt = s.toInt * 11 + n := ti_add e1 hi (by omega) (by omega)
    exact ⟨i_in (by omega) (by omega), cl_of (by omega)⟩
  obtain ⟨v0, w0⟩ := cell 0 0 (by decide) (by decide)
  obtain ⟨v3, w3⟩ := cell 3 3 (by decide) (by decide)
  obtain ⟨v5, w5⟩ := cell 5 5 (by decide) (by decide)
  obtain ⟨v6, w6⟩ := cell 6 6 (by decide) (by decide)
  rw [Nat.add_zero] at w0
  refine Wp.lets (Wp.lets (Wp.tab7 (fun hf => ?_) (fun hf => Wp.ret ⟨rfl, Or.inl ⟨rfl, ?_⟩⟩) (fun hf => Wp.ret ⟨rfl, Or.inl ⟨rfl, ?_⟩⟩) (fun hf => ?_) (fun hf => Wp.ret ⟨rfl, Or.inl ⟨rfl, ?_⟩⟩) (fun hf => ?_) (fun hf => ?_) (fun hf => Wp.ret ⟨rfl, Or.inl ⟨rfl, ?_⟩⟩)))
  · refine Wp.idx v3 (Wp.lets ?_)
    rw [w3]
    have ag : AgX D s.toNatClampNeg f v = ((D.1 3 (11 * s.toNatClampNeg + 3)).toInt < v.toInt) := if_pos hf
    rw [ag]
    refine Wp.ile (fun h => Wp.z (Or.inl rfl) (Wp.ret ⟨rfl, Or.inr ⟨rfl, by omega⟩⟩)) (fun h => Wp.z (Or.inr rfl) (Wp.ret ⟨rfl, Or.inl ⟨rfl, h⟩⟩))
  · unfold AgX
    rw [if_neg (by omega), if_neg (by omega), if_neg (by omega), if_neg (by omega)]
    trivial
  · unfold AgX
    rw [if_neg (by omega), if_neg (by omega), if_neg (by omega), if_neg (by omega)]
    trivial
  · refine Wp.idx v0 (Wp.lets ?_)
    rw [w0]
    have ag : AgX D s.toNatClampNeg f v = (v.toInt < (D.1 3 (11 * s.toNatClampNeg)).toInt) := (if_neg (by omega)).trans (if_pos hf)
    rw [ag]
    refine Wp.ile (fun h => Wp.z (Or.inl rfl) (Wp.ret ⟨rfl, Or.inr ⟨rfl, by omega⟩⟩)) (fun h => Wp.z (Or.inr rfl) (Wp.ret ⟨rfl, Or.inl ⟨rfl, h⟩⟩))
  · unfold AgX
    rw [if_neg (by omega), if_neg (by omega), if_neg (by omega), if_neg (by omega)]
    trivial
  · refine Wp.idx v6 (Wp.lets ?_)
    rw [w6]
    have ag : AgX D s.toNatClampNeg f v = (v.toInt ≤ (D.1 3 (11 * s.toNatClampNeg + 6)).toInt) := (if_neg (by omega)).trans ((if_neg (by omega)).trans (if_pos hf))
    rw [ag]
    refine Wp.ilt (fun h => Wp.z (Or.inl rfl) (Wp.ret ⟨rfl, Or.inr ⟨rfl, by omega⟩⟩)) (fun h => Wp.z (Or.inr rfl) (Wp.ret ⟨rfl, Or.inl ⟨rfl, h⟩⟩))
  · refine Wp.idx v5 (Wp.lets ?_)
    rw [w5]
    have ag : AgX D s.toNatClampNeg f v = ((D.1 3 (11 * s.toNatClampNeg + 5)).toInt ≤ v.toInt) := (if_neg (by omega)).trans ((if_neg (by omega)).trans ((if_neg (by omega)).trans (if_pos hf)))
    rw [ag]
    refine Wp.ilt (fun h => Wp.z (Or.inl rfl) (Wp.ret ⟨rfl, Or.inr ⟨rfl, by omega⟩⟩)) (fun h => Wp.z (Or.inr rfl) (Wp.ret ⟨rfl, Or.inl ⟨rfl, h⟩⟩))
  · unfold AgX
    rw [if_neg (by omega), if_neg (by omega), if_neg (by omega), if_neg (by omega)]
    trivial
/-- what telling asks -/
abbrev TlX (D : ADD) (s f v : Int32) : Prop := (0 ≤ s.toInt ∧ s.toInt < (D.1 2 8).toInt) ∧ (D.1 2 10).toInt < 400 ∧ InR f v ∧ AgX D s.toNatClampNeg f v
theorem oX_tell {s f v : Int32} (h8 : (D.1 2 8).toInt ≤ 32) (he : 0 ≤ (D.1 2 10).toInt) : Wp (fX10_tell s f v D) (fun r D1 => if TlX D s f v then r = 1 ∧ WrX D D1 s f v else r = 0 ∧ D1 = D) := by
  unfold fX10_tell
  refine Wp.bind (P := fun r D1 => if TlX D s f v then r = 1 ∧ WrX D D1 s f v else r = 0 ∧ D1 = D) ?_ (fun x D1 q => Wp.z ?_ (Wp.ret q))
  · unfold fX0_retell
    have e400 : (400 : Int32).toInt = 400 := by decide
    refine Wp.lets (Wp.ilt (fun k => Wp.ret ?_) (fun k => Wp.ile (fun k2 => Wp.ret ?_) (fun k2 => Wp.ile (fun k3 => Wp.ret ?_) (fun k3 => Wp.bindE (eX_inRange f v D) ?_))))
    · rw [ti_0] at k
      rw [if_neg (fun q => by have := q.1; omega)]; exact ⟨rfl, rfl⟩
    · rw [if_neg (fun q => by have := q.1; omega)]; exact ⟨rfl, rfl⟩
    · rw [if_neg (fun q => by have := q.2.1; omega)]; exact ⟨rfl, rfl⟩
    · rw [ti_0] at k
      by_cases c1 : InR f v
      · rw [if_pos c1]
        refine Wp.neg (by decide) (Wp.bind (tX0_agrees ⟨k, by omega⟩) (fun x D3 q => ?_))
        obtain ⟨rfl, q⟩ := q
        rcases q with ⟨rfl, q⟩ | ⟨rfl, q⟩
        · refine Wp.neg (by decide) (Wp.bind (tX0_write ⟨he, by omega⟩ ⟨k, by omega⟩) (fun _ D4 q4 => Wp.ret ?_))
          rw [if_pos ⟨⟨k, k2⟩, by omega, c1, q⟩]
          exact ⟨rfl, q4⟩
        · refine Wp.pos rfl (Wp.ret ?_)
          rw [if_neg (fun p => q p.2.2.2)]; exact ⟨rfl, rfl⟩
      · rw [if_neg c1]
        refine Wp.pos rfl (Wp.ret ?_)
        rw [if_neg (fun q => c1 q.2.2.1)]; exact ⟨rfl, rfl⟩
  · by_cases h : TlX D s f v
    · rw [if_pos h] at q; exact Or.inr q.1
    · rw [if_neg h] at q; exact Or.inl q.1
theorem oX_day {a : Int32} : Wp (fX10_day a D) (fun r D1 => if (D.1 2 11).toInt ≤ a.toInt ∧ a.toInt ≤ 9999 then r = 1 ∧ D1 = aSI D 2 11 a else r = 0 ∧ D1 = D) := by
  unfold fX10_day
  have e9 : (9999 : Int32).toInt = 9999 := by decide
  refine Wp.bind (P := fun r D1 => if (D.1 2 11).toInt ≤ a.toInt ∧ a.toInt ≤ 9999 then r = 1 ∧ D1 = aSI D 2 11 a else r = 0 ∧ D1 = D) ?_ (fun x D1 q => Wp.z ?_ (Wp.ret q))
  · unfold fX0_turnTo
    refine Wp.lets (Wp.ilt (fun h => Wp.ret ?_) (fun h => Wp.ile (fun g => Wp.lets (Wp.ret ?_)) (fun g => Wp.ret ?_)))
    · rw [if_neg (by omega)]; exact ⟨rfl, rfl⟩
    · rw [if_pos (by omega)]; exact ⟨rfl, rfl⟩
    · rw [if_neg (by omega)]; exact ⟨rfl, rfl⟩
  · by_cases h : (D.1 2 11).toInt ≤ a.toInt ∧ a.toInt ≤ 9999
    · rw [if_pos h] at q; exact Or.inr q.1
    · rw [if_neg h] at q; exact Or.inl q.1
/-- the seen rows and stones behind k entries, looked at from vw -/
def rpS (D : ADD) (vw : Int32) : Nat → (Nat → Int32) × Int32
  | 0 => (D.1 4, 0)
  | k + 1 => if vw = -1 ∨ (D.1 7 k).toInt ≤ vw.toInt then (apF (rpS D vw k).1 (D.1 8 k).toNatClampNeg (D.1 9 k) (D.1 10 k) (D.1 5 (D.1 8 k).toNatClampNeg) (D.1 6 (D.1 8 k).toNatClampNeg), if D.1 9 k = -1 then D.1 8 k + 1 else (rpS D vw k).2) else rpS D vw k
/-- the class behind a new view -/
def VwX (D D1 : ADD) (a : Int32) : Prop := (∀ c, c ≠ 2 → c ≠ 4 → D1.1 c = D.1 c) ∧ D1.2 = D.2 ∧ (∀ i, i ≠ 9 → i ≠ 12 → D1.1 2 i = D.1 2 i) ∧ D1.1 2 12 = a ∧ D1.1 2 9 = (rpS D a (D.1 2 10).toNatClampNeg).2 ∧ D1.1 4 = (rpS D a (D.1 2 10).toNatClampNeg).1
theorem oX_view {a : Int32} (he : 0 ≤ (D.1 2 10).toInt ∧ (D.1 2 10).toInt ≤ 400) (hs : ∀ k : Nat, (k : Int) < (D.1 2 10).toInt → 0 ≤ (D.1 8 k).toInt ∧ (D.1 8 k).toInt < 32) : Wp (fX10_view a D) (fun r D1 => if a = -1 ∨ (0 ≤ a.toInt ∧ a.toInt ≤ (D.1 2 11).toInt) then r = 1 ∧ VwX D D1 a else r = 0 ∧ D1 = D) := by
  unfold fX10_view
  refine Wp.bind (P := fun r D1 => if a = -1 ∨ (0 ≤ a.toInt ∧ a.toInt ≤ (D.1 2 11).toInt) then r = 1 ∧ VwX D D1 a else r = 0 ∧ D1 = D) ?_ (fun x D1 q => Wp.z ?_ (Wp.ret q))
  · unfold fX0_lookFrom
    have e400 : (400 : Int32).toInt = 400 := by decide
    refine Wp.letQ (fun Q j => (a = -1 ∨ (0 ≤ a.toInt ∧ a.toInt ≤ (D.1 2 11).toInt)) → Wp (j D) Q) (fun hv => ?_) (fun j K => Wp.ite (fun h => K (Or.inl h)) (fun h => Wp.lets (Wp.ilt (fun h2 => Wp.ret ?_) (fun h2 => Wp.ile (fun h3 => K (Or.inr ⟨by rw [ti_0] at h2; exact h2, h3⟩)) (fun h3 => Wp.ret ?_)))))
    · refine Wp.lets (Wp.leti (fun D3 e3 => Wp.lets (Wp.lets ?_)))
      have f3 : ∀ c, c ≠ 2 → D3.1 c = D.1 c := by
        intro c hc
        funext z
        rw [e3]
        simp [aSI, hc]
      have g3 : ∀ i, D3.1 2 i = if i = 9 then 0 else if i = 12 then a else D.1 2 i := by
        intro i
        rw [e3]
        simp [aSI]
      have l3 : D3.2 = D.2 := by rw [e3]; rfl
      have en := cl_i he.1
      refine Wp.fix1 (fun n x D' => (0 ≤ x.toInt ∧ x.toInt ≤ (D.1 2 10).toInt ∧ (D.1 2 10).toInt - x.toInt < (n : Int)) ∧ (∀ c, c ≠ 2 → c ≠ 4 → D'.1 c = D.1 c) ∧ D'.2 = D.2 ∧ (∀ i, i ≠ 9 → D'.1 2 i = if i = 12 then a else D.1 2 i) ∧ D'.1 2 9 = (rpS D a x.toNatClampNeg).2 ∧ D'.1 4 = (rpS D a x.toNatClampNeg).1) ?_ ?_ aFuel 1000000 _ _ (Nat.le_refl _) ⟨⟨by decide, by rw [ti_0]; omega, by rw [ti_0]; omega⟩, fun c c2 _ => f3 c c2, l3, fun i hi => by rw [g3, if_neg hi], by rw [g3]; rfl, by rw [f3 4 (by decide)]; rfl⟩
      · intro n g hg x D' hI
        obtain ⟨⟨i0, i1, i2⟩, i3, i4, i5, i6, i7⟩ := hI
        have ex := cl_i i0
        unfold lX0_lookFrom_31
        have i10 : D'.1 2 10 = D.1 2 10 := by rw [i5 10 (by decide), if_neg (by decide)]
        have i12 : D'.1 2 12 = a := by rw [i5 12 (by decide), if_pos rfl]
        rw [i10]
        have fin : (D.1 2 10).toInt ≤ x.toInt → Wp (some ((1 : Int32), D')) (fun r D1 => if a = -1 ∨ (0 ≤ a.toInt ∧ a.toInt ≤ (D.1 2 11).toInt) then r = 1 ∧ VwX D D1 a else r = 0 ∧ D1 = D) := by
          intro hx
          refine Wp.ret ?_
          rw [if_pos hv]
          rw [show x.toNatClampNeg = (D.1 2 10).toNatClampNeg by omega] at i6 i7
          exact ⟨rfl, i3, i4, fun i h9 h12 => by rw [i5 i h9, if_neg h12], by rw [i5 12 (by decide), if_pos rfl], i6, i7⟩
        refine Wp.ile (fun h => fin h) (fun h => Wp.ile (fun h2 => absurd h2 (by omega)) (fun h2 => ?_))
        have ii : vp_in x 400 := i_in i0 (by omega)
        obtain ⟨c1, c2⟩ := cl_add1 (x := x) (by omega) (by omega)
        refine Wp.idx ii (Wp.bindE (eX_isSeen _ D') (Wp.lets ?_))
        rw [i12, i3 7 (by decide) (by decide)]
        have hs0 := hs x.toNatClampNeg (by omega)
        by_cases hse : a = -1 ∨ (D.1 7 x.toNatClampNeg).toInt ≤ a.toInt
        · rw [if_pos hse]
          have rp : rpS D a (x.toNatClampNeg + 1) = _ := if_pos hse
          refine Wp.neg (by decide) (Wp.bind (tX0_see ⟨i0, by omega⟩ (by rw [i3 8 (by decide) (by decide)]; exact hs0)) (fun _ D8 q => Wp.lets (hg _ _ ⟨⟨by omega, by omega, by omega⟩, ?_⟩)))
          obtain ⟨q1, q2, q3, q4, q5⟩ := q
          rw [i3 8 (by decide) (by decide), i3 9 (by decide) (by decide), i3 10 (by decide) (by decide), i3 5 (by decide) (by decide), i3 6 (by decide) (by decide), i7] at q5
          rw [i3 8 (by decide) (by decide), i3 9 (by decide) (by decide), i6] at q4
          rw [c1, rp]
          exact ⟨fun c c2 c4 => by rw [q1 c c2 c4, i3 c c2 c4], by rw [q2, i4], fun i hi => by rw [q3 i hi, i5 i hi], q4, funext q5⟩
        · rw [if_neg hse]
          have rp : rpS D a (x.toNatClampNeg + 1) = rpS D a x.toNatClampNeg := if_neg hse
          refine Wp.pos rfl (Wp.lets (hg _ _ ⟨⟨by omega, by omega, by omega⟩, ?_⟩))
          rw [c1, rp]
          exact ⟨i3, i4, i5, i6, i7⟩
      · intro x D' hI
        obtain ⟨⟨i0, i1, i2⟩, -⟩ := hI
        omega
    · rw [ti_0] at h2
      rw [if_neg (fun q => by rcases q with q | q; exact h q; omega)]; exact ⟨rfl, rfl⟩
    · rw [if_neg (fun q => by rcases q with q | q; exact h q; omega)]; exact ⟨rfl, rfl⟩
  · by_cases h : a = -1 ∨ (0 ≤ a.toInt ∧ a.toInt ≤ (D.1 2 11).toInt)
    · rw [if_pos h] at q; exact Or.inr q.1
    · rw [if_neg h] at q; exact Or.inl q.1
/-- four bytes behind a tape -/
def fdF (row : Nat → Int32) (n : Nat) (a : Int32) (j : Nat) : Int32 := if n ≤ j ∧ j < n + 4 then byO a (j - n) else row j
theorem tX9_add2 {a : Int32} {n : Nat} (h0 : (D.1 11 1).toInt = n) (h1 : n + 4 ≤ 500) : Wp (fX9_add a D) (fun _ D1 => (∀ c, c ≠ 11 → c ≠ 12 → D1.1 c = D.1 c) ∧ D1.2 = D.2 ∧ (∀ i, i ≠ 1 → D1.1 11 i = D.1 11 i) ∧ (D1.1 11 1).toInt = ((n + 4 : Nat) : Int) ∧ D1.1 12 = fdF (D.1 12) n a) := by
  refine (tX9_add (by omega) (by omega)).mono (fun _ D1 q => ?_)
  obtain ⟨q1, q2, q3, q4, q5⟩ := q
  refine ⟨q1, q2, q3, by omega, funext (fun j => ?_)⟩
  rw [q5, cl_of h0]
  unfold fdF
  by_cases hj : n ≤ j ∧ j < n + 4
  · rw [if_pos hj, if_pos ⟨by omega, by omega⟩]
  · rw [if_neg hj, if_neg (by omega)]
def fd5 (row : Nat → Int32) (n : Nat) (a b c d e : Int32) : Nat → Int32 := fdF (fdF (fdF (fdF (fdF row n a) (n + 4) b) (n + 8) c) (n + 12) d) (n + 16) e
theorem oX_feed {a b c d e : Int32} {n : Nat} (h0 : (D.1 11 1).toInt = n) (h1 : n ≤ 500) : Wp (fX10_feed a b c d e D) (fun r D1 => if n + 20 ≤ 500 then r.toInt = ((n + 20 : Nat) : Int) ∧ r = D1.1 11 1 ∧ (∀ c, c ≠ 11 → c ≠ 12 → D1.1 c = D.1 c) ∧ D1.2 = D.2 ∧ (∀ i, i ≠ 1 → D1.1 11 i = D.1 11 i) ∧ D1.1 12 = fd5 (D.1 12) n a b c d e else r = -1 ∧ D1 = D) := by
  unfold fX10_feed
  have e20 : (D.1 11 1 + 20).toInt = (D.1 11 1).toInt + 20 := ti_add rfl (by decide) (by omega) (by omega)
  have e500 : (500 : Int32).toInt = 500 := by decide
  refine Wp.bind (P := fun x D1 => D1 = D ∧ Bo x (n + 20 ≤ 500)) ?_ (fun x D1 q => ?_)
  · unfold fX9_hasRoom
    refine Wp.lets (Wp.ilt (fun k => Wp.z (Or.inl rfl) (Wp.ret ⟨rfl, Or.inr ⟨rfl, by omega⟩⟩)) (fun k => Wp.z (Or.inr rfl) (Wp.ret ⟨rfl, Or.inl ⟨rfl, by omega⟩⟩)))
  · obtain ⟨rfl, q⟩ := q
    rcases q with ⟨rfl, q⟩ | ⟨rfl, q⟩
    · refine Wp.neg (by decide) (Wp.bind (tX9_add2 h0 (by omega)) (fun _ D2 q2 => Wp.bind (tX9_add2 q2.2.2.2.1 (by omega)) (fun _ D3 q3 => Wp.bind (tX9_add2 q3.2.2.2.1 (by omega)) (fun _ D4 q4 => Wp.bind (tX9_add2 q4.2.2.2.1 (by omega)) (fun _ D5 q5 => Wp.bind (tX9_add2 q5.2.2.2.1 (by omega)) (fun _ D6 q6 => Wp.ret ?_))))))
      obtain ⟨a1, a2, a3, a4, a5⟩ := q2
      obtain ⟨b1, b2, b3, b4, b5⟩ := q3
      obtain ⟨c1, c2, c3, c4, c5⟩ := q4
      obtain ⟨d1, d2, d3, d4, d5⟩ := q5
      obtain ⟨f1, f2, f3, f4, f5⟩ := q6
      rw [if_pos q]
      refine ⟨f4, rfl, fun c k1 k2 => by rw [f1 c k1 k2, d1 c k1 k2, c1 c k1 k2, b1 c k1 k2, a1 c k1 k2], by rw [f2, d2, c2, b2, a2], fun i hi => by rw [f3 i hi, d3 i hi, c3 i hi, b3 i hi, a3 i hi], ?_⟩
      rw [f5, d5, c5, b5, a5]
      rfl
    · refine Wp.pos rfl (Wp.ret ?_)
      rw [if_neg q]
      exact ⟨rfl, rfl⟩
theorem oX_end {a : Int32} : Wp (fX10_end a D) (fun r D1 => if 0 ≤ a.toInt ∧ a.toInt ≤ (D.1 11 1).toInt then r = a ∧ D1 = aSI D 11 1 a else r = -1 ∧ D1 = D) := by
  unfold fX10_end
  refine Wp.bind (P := fun r D1 => if 0 ≤ a.toInt ∧ a.toInt ≤ (D.1 11 1).toInt then r = 1 ∧ D1 = aSI D 11 1 a else r = 0 ∧ D1 = D) ?_ (fun x D1 q => Wp.lets ?_)
  · unfold fX9_cut
    refine Wp.lets (Wp.ilt (fun h => Wp.ret ?_) (fun h => Wp.ile (fun g => Wp.lets (Wp.ret ?_)) (fun g => Wp.ret ?_)))
    · rw [ti_0] at h
      rw [if_neg (by omega)]; exact ⟨rfl, rfl⟩
    · rw [ti_0] at h
      rw [if_pos (by omega)]; exact ⟨rfl, rfl⟩
    · rw [if_neg (by omega)]; exact ⟨rfl, rfl⟩
  · by_cases h : 0 ≤ a.toInt ∧ a.toInt ≤ (D.1 11 1).toInt
    · rw [if_pos h] at q
      obtain ⟨rfl, rfl⟩ := q
      refine Wp.neg (by decide) (Wp.ret ?_)
      rw [if_pos h]
      exact ⟨rfl, rfl⟩
    · rw [if_neg h] at q
      obtain ⟨rfl, rfl⟩ := q
      refine Wp.pos rfl (Wp.ret ?_)
      rw [if_neg h]
      exact ⟨rfl, rfl⟩
theorem tX6_copy {o p : Nat} (ho : p ≥ o + 9 ∨ o ≥ p + 9) : Wp (fX6_copyFrom o p D) (fun _ D1 => (∀ c, (c < o ∨ o + 9 ≤ c) → D1.1 c = D.1 c) ∧ D1.2 = D.2 ∧ D1.1 o 0 = D.1 p 0) := by
  unfold fX6_copyFrom
  refine Wp.lets (Wp.lets (Wp.lets (Wp.lets (Wp.lets (Wp.lets (Wp.lets (Wp.lets (Wp.lets (Wp.ret ⟨fun c hc => ?_, rfl, ?_⟩)))))))))
  · funext z
    have h0 : c ≠ o := by omega
    have h1 : c ≠ o + 1 := by omega
    have h2 : c ≠ o + 2 := by omega
    have h3 : c ≠ o + 3 := by omega
    have h4 : c ≠ o + 4 := by omega
    have h5 : c ≠ o + 5 := by omega
    have h6 : c ≠ o + 6 := by omega
    have h7 : c ≠ o + 7 := by omega
    have h8 : c ≠ o + 8 := by omega
    simp [aSI, aCp, h0, h1, h2, h3, h4, h5, h6, h7, h8]
  · simp [aSI, aCp]
/-- the class behind a text -/
theorem oX_text {a : Int32} (ha : a = 0 ∨ a = 1) (h : TN D) (hl : 0 ≤ (D.1 11 1).toInt) (hw : (0 ≤ (D.1 13 0).toInt ∧ (D.1 13 0).toInt ≤ 16) ∧ 0 ≤ (D.1 22 0).toInt ∧ (D.1 22 0).toInt ≤ 16) : Wp (fX10_text a D) (fun _ D1 => (∀ c, (c = 0 ∨ (2 ≤ c ∧ c ≤ 10) ∨ c = 12 ∨ c = 31 ∨ c = 32 ∨ 43 ≤ c) → D1.1 c = D.1 c) ∧ TN D1 ∧ D1.1 11 1 = 0 ∧ (0 ≤ (D1.1 13 0).toInt ∧ (D1.1 13 0).toInt ≤ 16) ∧ 0 ≤ (D1.1 22 0).toInt ∧ (D1.1 22 0).toInt ≤ 16) := by
  unfold fX10_text
  refine Wp.bind (tX5_read ha h) (fun x D1 q => Wp.lets (Wp.leti (fun D3 e3 => ?_)))
  obtain ⟨q0, q1, q2, q3⟩ := q
  have f3 : ∀ c, c ≠ 1 → D3.1 c = D1.1 c := by
    intro c hc
    funext z
    rw [e3]
    simp [aSI, hc]
  refine Wp.bind (P := fun _ D4 => D4 = aSI D3 11 1 0) ?_ (fun y D4 q4 => ?_)
  · unfold fX9_cut
    refine Wp.lets (Wp.neg (by decide) (Wp.pos ?_ (Wp.lets (Wp.ret rfl))))
    rw [f3 11 (by decide), q1 11 (by omega)]
    exact Int32.le_iff_toInt_le.mpr (by rw [ti_0]; exact hl)
  · have f4 : ∀ c, c ≠ 1 → c ≠ 11 → D4.1 c = D1.1 c := by
      intro c c1 c11
      rw [q4, ← f3 c c1]
      funext z
      simp [aSI, c11]
    have l4 : D4.1 11 1 = 0 := by rw [q4]; rfl
    have t4 : TN D4 := fun l hl => by rw [f4 38 (by decide) (by decide)]; exact q2 l hl
    have b4 : ∀ c, (c = 0 ∨ (2 ≤ c ∧ c ≤ 10) ∨ c = 12 ∨ c = 31 ∨ c = 32 ∨ 43 ≤ c) → D4.1 c = D.1 c := fun c hc => by rw [f4 c (by omega) (by omega), q1 c (by omega)]
    have w4 : D4.1 13 0 = D.1 13 0 := by rw [f4 13 (by decide) (by decide), q1 13 (by omega)]
    have p4 : D4.1 22 0 = D.1 22 0 := by rw [f4 22 (by decide) (by decide), q1 22 (by omega)]
    refine Wp.ite (fun _ => Wp.ret ⟨b4, t4, l4, by rw [w4]; exact hw.1, by rw [p4]; exact hw.2⟩) (fun hx => ?_)
    have hx1 := q3 (q0.resolve_left hx)
    have e34 : D4.1 34 0 = D1.1 34 0 := by rw [f4 34 (by decide) (by decide)]
    refine Wp.ite (fun _ => Wp.bind (tX6_copy (by omega)) (fun _ D5 q5 => Wp.ret ?_)) (fun _ => Wp.bind (tX6_copy (by omega)) (fun _ D5 q5 => Wp.ret ?_))
    · refine ⟨fun c hc => by rw [q5.1 c (by omega), b4 c hc], fun l hl => by rw [q5.1 38 (by omega)]; exact t4 l hl, by rw [q5.1 11 (by omega)]; exact l4, by rw [q5.2.2, e34]; exact hx1, by rw [q5.1 22 (by omega), p4]; exact hw.2⟩
    · refine ⟨fun c hc => by rw [q5.1 c (by omega), b4 c hc], fun l hl => by rw [q5.1 38 (by omega)]; exact t4 l hl, by rw [q5.1 11 (by omega)]; exact l4, by rw [q5.1 13 (by omega), w4]; exact hw.1, by rw [q5.2.2, e34]; exact hx1⟩
end XM
