/-! the book: listing and telling, exactly -/
theorem eX_isSeen (a : Int32) (D : ADD) : fX0_isSeen a D = some (if D.1 2 12 = -1 ∨ a.toInt ≤ (D.1 2 12).toInt then 1 else 0, D) := by
  refine eq_Bo ?_
  unfold fX0_isSeen
  refine Wp.lets (Wp.lets (Wp.ite (fun h => ?_) (fun h => Wp.ilt (fun g => ?_) (fun g => ?_))))
  · exact Wp.z (Or.inr rfl) (Wp.ret ⟨rfl, Or.inl ⟨rfl, Or.inl h⟩⟩)
  · refine Wp.z (Or.inl rfl) (Wp.ret ⟨rfl, Or.inr ⟨rfl, fun q => ?_⟩⟩)
    rcases q with q | q
    · exact h q
    · omega
  · exact Wp.z (Or.inr rfl) (Wp.ret ⟨rfl, Or.inl ⟨rfl, Or.inr g⟩⟩)
theorem tX0_see {a : Int32} {D : ADD} (ha : 0 ≤ a.toInt ∧ a.toInt < 400) (hs : 0 ≤ (D.1 8 a.toNatClampNeg).toInt ∧ (D.1 8 a.toNatClampNeg).toInt < 32) : Wp (fX0_see a D) (fun _ D1 => (∀ c, c ≠ 2 → c ≠ 4 → D1.1 c = D.1 c) ∧ D1.2 = D.2 ∧ (∀ i, i ≠ 9 → D1.1 2 i = D.1 2 i) ∧ D1.1 2 9 = (if D.1 9 a.toNatClampNeg = -1 then D.1 8 a.toNatClampNeg + 1 else D.1 2 9) ∧ ∀ j, D1.1 4 j = apF (D.1 4) (D.1 8 a.toNatClampNeg).toNatClampNeg (D.1 9 a.toNatClampNeg) (D.1 10 a.toNatClampNeg) (D.1 5 (D.1 8 a.toNatClampNeg).toNatClampNeg) (D.1 6 (D.1 8 a.toNatClampNeg).toNatClampNeg) j) := by
  unfold fX0_see
  have ia : vp_in a 400 := i_in ha.1 ha.2
  refine Wp.bind (tX0_apply (Or.inr rfl) ha hs) (fun _ D1 q => Wp.idx ia (Wp.lets ?_))
  obtain ⟨q1, q2, q3⟩ := q
  rw [q1 9 (by decide)]
  refine Wp.ite (fun h => Wp.idx ia (Wp.lets (Wp.ret ⟨fun c u v => ?_, q2, fun i hi => ?_, ?_, fun j => ?_⟩))) (fun h => Wp.ret ⟨fun c u v => q1 c v, q2, fun i _ => by rw [q1 2 (by decide)], ?_, q3⟩)
  · funext z
    simp [aSI, u, q1 c v]
  · simp [aSI, hi, q1 2 (by decide)]
  · rw [if_pos h]
    simp [aSI, q1 8 (by decide)]
  · rw [← q3 j]
    simp [aSI]
  · rw [if_neg h, q1 2 (by decide)]
/-- an entry was seen as it was written -/
abbrev seenX (D : ADD) : Prop := D.1 2 12 = -1 ∨ (D.1 2 11).toInt ≤ (D.1 2 12).toInt
def WrX (D D1 : ADD) (s f v : Int32) : Prop :=
  (∀ c, c ≠ 2 → c ≠ 3 → c ≠ 4 → c ≠ 7 → c ≠ 8 → c ≠ 9 → c ≠ 10 → D1.1 c = D.1 c) ∧ D1.2 = D.2 ∧ (∀ i, i ≠ 9 → i ≠ 10 → D1.1 2 i = D.1 2 i) ∧ D1.1 2 10 = D.1 2 10 + 1 ∧ D1.1 2 9 = (if seenX D ∧ f = -1 then s + 1 else D.1 2 9) ∧
  (∀ j, D1.1 7 j = if j = (D.1 2 10).toNatClampNeg then D.1 2 11 else D.1 7 j) ∧ (∀ j, D1.1 8 j = if j = (D.1 2 10).toNatClampNeg then s else D.1 8 j) ∧ (∀ j, D1.1 9 j = if j = (D.1 2 10).toNatClampNeg then f else D.1 9 j) ∧ (∀ j, D1.1 10 j = if j = (D.1 2 10).toNatClampNeg then v else D.1 10 j) ∧
  (∀ j, D1.1 3 j = apF (D.1 3) s.toNatClampNeg f v (D.1 5 s.toNatClampNeg) (D.1 6 s.toNatClampNeg) j) ∧ ∀ j, D1.1 4 j = if seenX D then apF (D.1 4) s.toNatClampNeg f v (D.1 5 s.toNatClampNeg) (D.1 6 s.toNatClampNeg) j else D.1 4 j
theorem tX0_write {s f v : Int32} {D : ADD} (he : 0 ≤ (D.1 2 10).toInt ∧ (D.1 2 10).toInt < 400) (hs : 0 ≤ s.toInt ∧ s.toInt < 32) : Wp (fX0_write s f v D) (fun _ D1 => WrX D D1 s f v) := by
  unfold fX0_write
  have ie : vp_in (D.1 2 10) 400 := i_in he.1 he.2
  refine Wp.leti (fun k hk => ?_)
  rw [← hk] at he ie
  refine Wp.lets (Wp.ilt (fun h => absurd h (by rw [ti_0]; omega)) (fun _ => Wp.ilt (fun _ => ?_) (fun h => absurd h (by rw [show (400 : Int32).toInt = 400 by decide]; omega))))
  refine Wp.idx ie (Wp.lets (Wp.idx ie (Wp.lets (Wp.idx ie (Wp.lets (Wp.idx ie (Wp.lets (Wp.leti (fun D6 e6 => ?_)))))))))
  have w2 : ∀ i, D6.1 2 i = if i = 10 then D.1 2 10 + 1 else D.1 2 i := by intro i; rw [e6]; simp [aSI]
  have w7 : ∀ j, D6.1 7 j = if j = k.toNatClampNeg then D.1 2 11 else D.1 7 j := by intro i; rw [e6]; simp [aSI]
  have w8 : ∀ j, D6.1 8 j = if j = k.toNatClampNeg then s else D.1 8 j := by intro i; rw [e6]; simp [aSI]
  have w9 : ∀ j, D6.1 9 j = if j = k.toNatClampNeg then f else D.1 9 j := by intro i; rw [e6]; simp [aSI]
  have w10 : ∀ j, D6.1 10 j = if j = k.toNatClampNeg then v else D.1 10 j := by intro i; rw [e6]; simp [aSI]
  have wo : ∀ c, c ≠ 2 → c ≠ 7 → c ≠ 8 → c ≠ 9 → c ≠ 10 → D6.1 c = D.1 c := by
    intro c c2 c7 c8 c9 c10
    funext z
    rw [e6]
    simp [aSI, c2, c7, c8, c9, c10]
  have wl : D6.2 = D.2 := by rw [e6]; rfl
  clear e6
  have a8 : D6.1 8 k.toNatClampNeg = s := by rw [w8, if_pos rfl]
  have a9 : D6.1 9 k.toNatClampNeg = f := by rw [w9, if_pos rfl]
  have a10 : D6.1 10 k.toNatClampNeg = v := by rw [w10, if_pos rfl]
  refine Wp.bind (tX0_apply (Or.inl rfl) he (by rw [a8]; exact hs)) (fun _ D7 q => ?_)
  obtain ⟨q1, q2, q3⟩ := q
  rw [a8, a9, a10, wo 3 (by decide) (by decide) (by decide) (by decide) (by decide), wo 5 (by decide) (by decide) (by decide) (by decide) (by decide), wo 6 (by decide) (by decide) (by decide) (by decide) (by decide)] at q3
  have b12 : D7.1 2 12 = D.1 2 12 := by rw [q1 2 (by decide), w2, if_neg (by decide)]
  have b11 : D7.1 2 11 = D.1 2 11 := by rw [q1 2 (by decide), w2, if_neg (by decide)]
  refine Wp.bindE (eX_isSeen _ D7) (Wp.lets ?_)
  rw [b12, b11]
  have done0 : ¬ seenX D → WrX D D7 s f v := by
    intro hn
    refine ⟨fun c c2 c3 c4 c7 c8 c9 c10 => by rw [q1 c c3, wo c c2 c7 c8 c9 c10], by rw [q2, wl], fun i i9 i10 => by rw [q1 2 (by decide), w2, if_neg i10], by rw [q1 2 (by decide), w2, if_pos rfl], ?_, ?_, ?_, ?_, ?_, q3, fun j => ?_⟩
    · rw [if_neg (fun q => hn q.1), q1 2 (by decide), w2, if_neg (by decide)]
    · intro j; rw [q1 7 (by decide), w7, hk]
    · intro j; rw [q1 8 (by decide), w8, hk]
    · intro j; rw [q1 9 (by decide), w9, hk]
    · intro j; rw [q1 10 (by decide), w10, hk]
    · rw [if_neg hn, q1 4 (by decide), wo 4 (by decide) (by decide) (by decide) (by decide) (by decide)]
  by_cases hse : seenX D
  · rw [if_pos hse]
    refine Wp.neg (by decide) (Wp.bind (tX0_see he (by rw [q1 8 (by decide), a8]; exact hs)) (fun _ D9 p => Wp.ret ?_))
    obtain ⟨p1, p2, p3, p4, p5⟩ := p
    rw [q1 8 (by decide), q1 9 (by decide), q1 10 (by decide), q1 5 (by decide), q1 6 (by decide), a8, a9, a10, q1 4 (by decide), wo 4 (by decide) (by decide) (by decide) (by decide) (by decide), wo 5 (by decide) (by decide) (by decide) (by decide) (by decide), wo 6 (by decide) (by decide) (by decide) (by decide) (by decide)] at p5
    have b9 : D7.1 2 9 = D.1 2 9 := by rw [q1 2 (by decide), w2, if_neg (by decide)]
    rw [q1 9 (by decide), q1 8 (by decide), a8, a9, b9] at p4
    refine ⟨fun c c2 c3 c4 c7 c8 c9 c10 => by rw [p1 c c2 c4, q1 c c3, wo c c2 c7 c8 c9 c10], by rw [p2, q2, wl], fun i i9 i10 => by rw [p3 i i9, q1 2 (by decide), w2, if_neg i10], by rw [p3 10 (by decide), q1 2 (by decide), w2, if_pos rfl], ?_, ?_, ?_, ?_, ?_, ?_, fun j => ?_⟩
    · rw [p4]
      by_cases hf : f = -1
      · rw [if_pos hf, if_pos ⟨hse, hf⟩]
      · rw [if_neg hf, if_neg (fun q => hf q.2)]
    · intro j; rw [p1 7 (by decide) (by decide), q1 7 (by decide), w7, hk]
    · intro j; rw [p1 8 (by decide) (by decide), q1 8 (by decide), w8, hk]
    · intro j; rw [p1 9 (by decide) (by decide), q1 9 (by decide), w9, hk]
    · intro j; rw [p1 10 (by decide) (by decide), q1 10 (by decide), w10, hk]
    · intro j; rw [p1 3 (by decide) (by decide)]; exact q3 j
    · rw [if_pos hse]; exact p5 j
  · rw [if_neg hse]
    exact Wp.pos rfl (Wp.ret (done0 hse))
/-- what a fact may be -/
def FL (f : Nat) : Int := ([1, 0, 0, 0, 0, -3000, -3000, 0, 0, 0, 0] : List Int).getD f 0
def FM (f : Nat) : Int := ([30000, 4, 3, 2000, 5, 1900, 1900, 60, 9, 1, 8] : List Int).getD f 0
abbrev InR (f v : Int32) : Prop := (0 ≤ f.toInt ∧ f.toInt < 11) ∧ FL f.toNatClampNeg ≤ v.toInt ∧ v.toInt ≤ FM f.toNatClampNeg
theorem FLi : ∀ f : Nat, f < 11 → (aLeast.getD f 0).toInt = FL f ∧ (aMost.getD f 0).toInt = FM f := by decide
theorem eX_inRange (f v : Int32) (D : ADD) : fX0_inRange f v D = some (if InR f v then 1 else 0, D) := by
  refine eq_Bo ?_
  unfold fX0_inRange
  have e : (11 : Int32).toInt = 11 := by decide
  refine Wp.lets (Wp.lets (Wp.ilt (fun h => ?_) (fun h => Wp.ile (fun g => ?_) (fun g => ?_))))
  · rw [ti_0] at h
    exact Wp.z (Or.inl rfl) (Wp.ret ⟨rfl, Or.inr ⟨rfl, fun q => by have := q.1; omega⟩⟩)
  · exact Wp.z (Or.inl rfl) (Wp.ret ⟨rfl, Or.inr ⟨rfl, fun q => by have := q.1; omega⟩⟩)
  · rw [ti_0] at h
    have ii : vp_in f 11 := i_in h (by omega)
    have ef := cl_i h
    obtain ⟨l1, l2⟩ := FLi f.toNatClampNeg (by omega)
    refine Wp.idx ii (Wp.ilt (fun k => ?_) (fun k => Wp.idx ii (Wp.ilt (fun k2 => ?_) (fun k2 => ?_))))
    · exact Wp.z (Or.inl rfl) (Wp.ret ⟨rfl, Or.inr ⟨rfl, fun q => by have := q.2.1; omega⟩⟩)
    · exact Wp.z (Or.inl rfl) (Wp.ret ⟨rfl, Or.inr ⟨rfl, fun q => by have := q.2.2; omega⟩⟩)
    · exact Wp.z (Or.inr rfl) (Wp.ret ⟨rfl, Or.inl ⟨rfl, ⟨h, by omega⟩, by omega, by omega⟩⟩)
theorem inR0 {v : Int32} : InR 0 v ↔ 1 ≤ v.toInt ∧ v.toInt ≤ 30000 := by
  have e : FL (0 : Int32).toNatClampNeg = 1 := by decide
  have e2 : FM (0 : Int32).toNatClampNeg = 30000 := by decide
  unfold InR
  rw [e, e2]
  exact ⟨fun q => q.2, fun q => ⟨⟨by decide, by decide⟩, q⟩⟩
theorem inR1 {v : Int32} : InR 1 v ↔ 0 ≤ v.toInt ∧ v.toInt ≤ 4 := by
  have e : FL (1 : Int32).toNatClampNeg = 0 := by decide
  have e2 : FM (1 : Int32).toNatClampNeg = 4 := by decide
  unfold InR
  rw [e, e2]
  exact ⟨fun q => q.2, fun q => ⟨⟨by decide, by decide⟩, q⟩⟩
theorem inR4 {v : Int32} : InR 4 v ↔ 0 ≤ v.toInt ∧ v.toInt ≤ 5 := by
  have e : FL (4 : Int32).toNatClampNeg = 0 := by decide
  have e2 : FM (4 : Int32).toNatClampNeg = 5 := by decide
  unfold InR
  rw [e, e2]
  exact ⟨fun q => q.2, fun q => ⟨⟨by decide, by decide⟩, q⟩⟩
/-- what a listing asks -/
abbrev LsOK (w st tw : Int32) : Prop := (1 ≤ w.toInt ∧ w.toInt ≤ 30000) ∧ (0 ≤ st.toInt ∧ st.toInt ≤ 4) ∧ 0 ≤ tw.toInt ∧ tw.toInt ≤ 5
/-- a book behind a listing -/
def LsX (D D1 : ADD) (w st tw : Int32) : Prop := ∃ D7 : ADD, (∀ c, c ≠ 2 → c ≠ 5 → c ≠ 6 → D7.1 c = D.1 c) ∧ D7.2 = D.2 ∧ (∀ i, D7.1 2 i = if i = 8 then D.1 2 8 + 1 else D.1 2 i) ∧ (∀ j, D7.1 5 j = if j = (D.1 2 8).toNatClampNeg then st else D.1 5 j) ∧ (∀ j, D7.1 6 j = if j = (D.1 2 8).toNatClampNeg then tw else D.1 6 j) ∧ WrX D7 D1 (D.1 2 8) (-1) w
theorem tX10_stone {w st tw : Int32} {D : ADD} (h8 : 0 ≤ (D.1 2 8).toInt ∧ (D.1 2 8).toInt ≤ 32) (he : 0 ≤ (D.1 2 10).toInt ∧ (D.1 2 10).toInt ≤ 400) : Wp (fX10_stone w st tw D) (fun r D1 => if (D.1 2 8).toInt < 32 ∧ (D.1 2 10).toInt < 400 ∧ LsOK w st tw then r = D.1 2 8 ∧ LsX D D1 w st tw else r = -1 ∧ D1 = D) := by
  unfold fX10_stone
  refine Wp.bind (P := fun r D1 => if (D.1 2 8).toInt < 32 ∧ (D.1 2 10).toInt < 400 ∧ LsOK w st tw then r = D.1 2 8 ∧ LsX D D1 w st tw else r = -1 ∧ D1 = D) ?_ (fun x D1 q => Wp.ret q)
  unfold fX0_list
  have e32 : (32 : Int32).toInt = 32 := by decide
  have e400 : (400 : Int32).toInt = 400 := by decide
  refine Wp.lets (Wp.ile (fun k => Wp.ret ?_) (fun k => Wp.ile (fun k2 => Wp.ret ?_) (fun k2 => Wp.bindE (eX_inRange 0 w D) ?_)))
  · rw [if_neg (by omega)]; exact ⟨rfl, rfl⟩
  · rw [if_neg (by omega)]; exact ⟨rfl, rfl⟩
  · by_cases c1 : InR 0 w
    · rw [if_pos c1]
      have d1 := inR0.mp c1
      refine Wp.neg (by decide) (Wp.bindE (eX_inRange 1 st D) ?_)
      by_cases c2 : InR 1 st
      · rw [if_pos c2]
        have d2 := inR1.mp c2
        refine Wp.neg (by decide) (Wp.bindE (eX_inRange 4 tw D) ?_)
        by_cases c3 : InR 4 tw
        · rw [if_pos c3]
          have d3 := inR4.mp c3
          refine Wp.neg (by decide) ?_
          have i8 : vp_in (D.1 2 8) 32 := i_in h8.1 (by omega)
          refine Wp.lets (Wp.lets (Wp.idx i8 (Wp.lets (Wp.idx i8 (Wp.leti (fun D7 e7 => ?_))))))
          have w2 : ∀ i, D7.1 2 i = if i = 8 then D.1 2 8 + 1 else D.1 2 i := by intro i; rw [e7]; simp [aSI]
          have w5 : ∀ j, D7.1 5 j = if j = (D.1 2 8).toNatClampNeg then st else D.1 5 j := by intro i; rw [e7]; simp [aSI]
          have w6 : ∀ j, D7.1 6 j = if j = (D.1 2 8).toNatClampNeg then tw else D.1 6 j := by intro i; rw [e7]; simp [aSI]
          have wo : ∀ c, c ≠ 2 → c ≠ 5 → c ≠ 6 → D7.1 c = D.1 c := by
            intro c c2 c5 c6
            funext z
            rw [e7]
            simp [aSI, c2, c5, c6]
          have wl : D7.2 = D.2 := by rw [e7]; rfl
          refine Wp.bind (tX0_write (by rw [w2, if_neg (by decide)]; omega) (by omega)) (fun _ D8 q => Wp.ret ?_)
          rw [if_pos ⟨by omega, by omega, d1, d2, d3⟩]
          exact ⟨rfl, D7, wo, wl, w2, w5, w6, q⟩
        · rw [if_neg c3]
          refine Wp.pos rfl (Wp.ret ?_)
          rw [if_neg (fun q => c3 (inR4.mpr q.2.2.2.2))]; exact ⟨rfl, rfl⟩
      · rw [if_neg c2]
        refine Wp.pos rfl (Wp.ret ?_)
        rw [if_neg (fun q => c2 (inR1.mpr q.2.2.2.1))]; exact ⟨rfl, rfl⟩
    · rw [if_neg c1]
      refine Wp.pos rfl (Wp.ret ?_)
      rw [if_neg (fun q => c1 (inR0.mpr q.2.2.1))]; exact ⟨rfl, rfl⟩
