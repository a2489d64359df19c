/-! the reference: small functions -/
section ML
variable {D : ADD}
theorem eM_f {k f : Int32} (hk : 0 ≤ k.toInt ∧ k.toInt < 32) (hf : 0 ≤ f.toInt ∧ f.toInt < 11) : fX11_f k f D = some (D.1 32 (11 * k.toNatClampNeg + f.toNatClampNeg), D) := by
  unfold fX11_f
  have e1 : ((11 : Int32) * k).toInt = 11 * k.toInt := ti_mul (by decide) rfl (by omega) (by omega)
  have e2 : ((11 : Int32) * k + f).toInt = 11 * k.toInt + f.toInt := ti_add e1 rfl (by omega) (by omega)
  have c1 := cl_i hk.1
  have c2 := cl_i hf.1
  rw [aIn_ok (i_in (n := 352) (by omega) (by omega)), cl_of (x := (11 : Int32) * k + f) (n := 11 * k.toNatClampNeg + f.toNatClampNeg) (by omega)]
def farF (lo hi p : Int32) : Int32 := if lo ≤ p then (if p ≤ hi then 0 else p - hi) else lo - p
theorem eM_far (lo hi p : Int32) : fX11_far lo hi p D = some (farF lo hi p, D) := by
  unfold fX11_far farF
  simp only [aLet]
  split
  · split <;> rfl
  · rfl
def heldF (v : Int32) : Int32 := if -500 ≤ v then (if v ≤ 1000 then v else 1000) else -500
theorem eM_held (v : Int32) : fX11_held v D = some (heldF v, D) := by
  unfold fX11_held heldF
  simp only [aLet]
  split
  · split <;> rfl
  · rfl
/-- a unit's times, by the reference -/
def tmF (lo hi mk u : Int32) : Int32 := if mk ≤ 0 then (if farF lo hi ((if 1 ≤ lo / u then lo / u else 1) * u) ≤ farF lo hi (((if 1 ≤ lo / u then lo / u else 1) + 1) * u) then (if 1 ≤ lo / u then lo / u else 1) else (if 1 ≤ lo / u then lo / u else 1) + 1) else mk
theorem eM_timesOf {k u : Int32} (hk : 0 ≤ k.toInt ∧ k.toInt < 32) (hu : u ≠ 0) : fX11_timesOf k u D = some (tmF (D.1 33 k.toNatClampNeg) (D.1 34 k.toNatClampNeg) (D.1 32 (11 * k.toNatClampNeg + 7)) u, D) := by
  have c7 : (7 : Int32).toNatClampNeg = 7 := by decide
  have f7 : fX11_f k 7 D = some (D.1 32 (11 * k.toNatClampNeg + 7), D) := by rw [eM_f hk ⟨by decide, by decide⟩, c7]
  have ik : ∀ {α : Type} {K : Option α}, aIn k 32 K = K := fun {α} {K} => aIn_ok (i_in hk.1 hk.2)
  unfold fX11_timesOf tmF
  rw [f7]
  simp only [aBind, f7]
  by_cases hm : D.1 32 (11 * k.toNatClampNeg + 7) ≤ 0
  · rw [if_pos hm, if_pos hm, ik]
    unfold aNZ
    rw [if_neg hu]
    have K : ∀ b : Int32, (aLet (fun (x6 : Int32) (D5 : ADD) => some (x6, D5)) (fun (j91 : Int32 → ADD → Option (Int32 × ADD)) => (if farF (D.1 33 k.toNatClampNeg) (D.1 34 k.toNatClampNeg) (b * u) ≤ farF (D.1 33 k.toNatClampNeg) (D.1 34 k.toNatClampNeg) ((b + 1) * u) then j91 b D else j91 (b + (1 : Int32)) D))) = some ((if farF (D.1 33 k.toNatClampNeg) (D.1 34 k.toNatClampNeg) (b * u) ≤ farF (D.1 33 k.toNatClampNeg) (D.1 34 k.toNatClampNeg) ((b + 1) * u) then b else b + 1), D) := by
      intro b
      simp only [aLet]
      split <;> rfl
    simp only [aLet, ik, eM_far] at K ⊢
    by_cases h1 : 1 ≤ D.1 33 k.toNatClampNeg / u
    · simp only [if_pos h1]
      exact K _
    · simp only [if_neg h1]
      exact K _
  · rw [if_neg hm, if_neg hm]
def ofF (lo hi mk u : Int32) : Int32 := if u ≤ farF lo hi (tmF lo hi mk u * u) then u else farF lo hi (tmF lo hi mk u * u)
theorem eM_off {k u : Int32} (hk : 0 ≤ k.toInt ∧ k.toInt < 32) (hu : u ≠ 0) : fX11_off k u D = some (ofF (D.1 33 k.toNatClampNeg) (D.1 34 k.toNatClampNeg) (D.1 32 (11 * k.toNatClampNeg + 7)) u, D) := by
  unfold fX11_off ofF
  rw [aIn_ok (i_in (n := 32) hk.1 hk.2), aIn_ok (i_in (n := 32) hk.1 hk.2), eM_timesOf hk hu]
  simp only [aBind, eM_far, aLet]
  split <;> rfl
theorem tM_shortOf {k u : Int32} (hk : 0 ≤ k.toInt ∧ k.toInt < 32) (hu : u ≠ 0) : Pu (fX11_shortOf k u D) D := by
  unfold fX11_shortOf
  refine Wp.idx (i_in hk.1 hk.2) (Wp.lets (Wp.bindE (eM_f hk ⟨by decide, by decide⟩) (Wp.letQ (fun Q j => ∀ x, Wp (j x D) Q) (fun x => Wp.lets (Wp.ite (fun _ => Wp.ret rfl) (fun _ => Wp.ret rfl))) (fun j K => Wp.ite (fun _ => Wp.nz hu (Wp.lets (Wp.lets (Wp.lets (Wp.ite (fun _ => K _) (fun _ => Wp.nz hu (Wp.ite (fun _ => K _) (fun _ => K _)))))))) (fun _ => K _)))))
theorem tM_likely {u w : Int32} (hu : u.toInt ≤ 100000) : Pu (fX11_likely u w D) D := by
  unfold fX11_likely
  refine Wp.lets (Wp.lets (Wp.up2 (D := D) 100000 (by decide) (fun g a x h0 k => ?_) (by decide) (by decide)))
  unfold lX11_likely_4
  refine Wp.ile (fun _ => Wp.ret rfl) (fun h => Wp.bindE (eM_far _ _ _) (Wp.bindE (eM_far _ _ _) (Wp.lets (Wp.ite (fun _ => Wp.lets (Wp.ite (fun _ => ?_) (fun _ => ?_))) (fun _ => Wp.lets (Wp.ite (fun _ => ?_) (fun _ => ?_))))))) <;> exact Wp.lets (Wp.lets (k (by omega) _))
theorem tM_draw {one of : Int32} (ho : 1 ≤ of.toInt) : Wp (fX11_draw one of D) (fun _ D1 => D1.1 = D.1 ∧ ∀ j, j ≤ 32 → D1.2 37 j = drF (D.2 37) one of j) := by
  unfold fX11_draw
  have ne := i64_ne (a := of) (by omega)
  refine Wp.lets (Wp.lets ?_)
  refine Wp.fix1 (fun n x D' => (-1 ≤ x.toInt ∧ x.toInt ≤ 32 ∧ x.toInt + 1 < (n : Int)) ∧ D'.1 = D.1 ∧ ∀ j : Nat, j ≤ 32 → D'.2 37 j = if x.toInt < (j : Int) then drF (D.2 37) one of j else D.2 37 j) ?_ ?_ aFuel 1000000 _ _ (Nat.le_refl _) ⟨⟨by decide, by decide, by decide⟩, rfl, fun j hj => by rw [show (32 : Int32).toInt = 32 by decide, if_neg (by omega)]⟩
  · intro n g hg x D' hI
    obtain ⟨⟨i0, i1, i2⟩, i3, i4⟩ := hI
    unfold lX11_draw_3
    refine Wp.ilt (fun h => Wp.ret ⟨i3, fun j hj => ?_⟩) (fun h => ?_)
    · rw [ti_0] at h
      rw [i4 j hj, if_pos (by omega)]
    · rw [ti_0] at h
      have ex := cl_i h
      have ii : vp_in x 33 := i_in h (by omega)
      have c1 : (x - 1).toInt = x.toInt - 1 := ti_sub rfl ti_1 (by omega) (by omega)
      have c2 : (x + -1).toInt = x.toInt + -1 := ti_add rfl ti_m1 (by omega) (by omega)
      have fin : ∀ (y : Int64), ((D'.2 37 x.toNatClampNeg * (of - one).toInt64 + y) / of.toInt64 = drF (D.2 37) one of x.toNatClampNeg) → ∀ j : Nat, j ≤ 32 → (aSL D' 37 x.toNatClampNeg ((D'.2 37 x.toNatClampNeg * (of - one).toInt64 + y) / of.toInt64)).2 37 j = if (x + -1).toInt < (j : Int) then drF (D.2 37) one of j else D.2 37 j := by
        intro y hy j hj
        show (if (37 : Nat) = 37 ∧ j = x.toNatClampNeg then (D'.2 37 x.toNatClampNeg * (of - one).toInt64 + y) / of.toInt64 else D'.2 37 j) = _
        by_cases hjx : j = x.toNatClampNeg
        · rw [if_pos ⟨rfl, hjx⟩, hy, if_pos (by omega), hjx]
        · rw [if_neg (fun q => hjx q.2), i4 j hj]
          by_cases hjl : x.toInt < (j : Int)
          · rw [if_pos hjl, if_pos (by omega)]
          · rw [if_neg hjl, if_neg (by omega)]
      have e0 : D'.2 37 x.toNatClampNeg = D.2 37 x.toNatClampNeg := by rw [i4 _ (by omega), if_neg (by omega)]
      refine Wp.idx ii (Wp.lets (Wp.ile (fun h0 => ?_) (fun h0 => ?_)))
      · rw [ti_0] at h0
        refine Wp.nzl ne (Wp.idx ii (Wp.lets (Wp.lets (hg _ _ ⟨⟨by omega, by omega, by omega⟩, i3, fin 0 ?_⟩))))
        rw [e0]
        unfold drF
        rw [if_pos (by omega), show x.toNatClampNeg = 0 by omega, Int64.add_zero]
      · rw [ti_0] at h0
        have w1 : (x - 1).toNatClampNeg = x.toNatClampNeg - 1 := cl_of (by omega)
        refine Wp.idx (i_in (by omega) (by omega)) (Wp.nzl ne (Wp.idx ii (Wp.lets (Wp.lets (hg _ _ ⟨⟨by omega, by omega, by omega⟩, i3, fin _ ?_⟩)))))
        rw [e0, w1, i4 (x.toNatClampNeg - 1) (by omega), if_neg (by omega)]
        unfold drF
        rw [if_neg (by omega)]
  · intro x D' hI
    obtain ⟨⟨i0, i1, i2⟩, -⟩ := hI
    omega
theorem tM_against {a u v : Int32} (hu : 0 ≤ u.toInt - a.toInt ∧ u.toInt - a.toInt ≤ 300) (hv : 0 ≤ v.toInt - a.toInt ∧ v.toInt - a.toInt ≤ 300) : Pu (fX11_against a u v D) D := by
  unfold fX11_against
  have e1 : (u - a).toInt = u.toInt - a.toInt := ti_sub rfl rfl (by omega) (by omega)
  have e2 : (v - a).toInt = v.toInt - a.toInt := ti_sub rfl rfl (by omega) (by omega)
  exact Wp.idx (i_in (by omega) (by omega)) (Wp.idx (i_in (by omega) (by omega)) (Wp.ret rfl))
theorem tM_isPeak {a b u : Int32} (hU : UR a b 300) (h0 : a.toInt ≤ u.toInt) (h1 : u.toInt ≤ b.toInt) : Wp (fX11_isPeak a b u D) (fun x D1 => D1 = D ∧ (x = 0 ∨ x = 1)) := by
  obtain ⟨u0, u1, u2, u3⟩ := hU
  unfold fX11_isPeak
  refine Wp.lets (Wp.lets (Wp.letQ (fun Q j => Wp (j D) Q) (Wp.lets (Wp.ite (fun _ => Wp.z (Or.inr rfl) (Wp.ret ⟨rfl, Or.inr rfl⟩)) (fun hne => ?_))) (fun j K => Wp.ite (fun _ => K) (fun hne => ?_))))
  · have hne := ti_ne hne
    have e : (u + 1).toInt = u.toInt + 1 := ti_add rfl ti_1 (by omega) (by omega)
    refine Wp.bind (tM_against (by omega) (by omega)) (fun x D1 q => ?_)
    subst q
    exact Wp.ite (fun _ => Wp.z (Or.inl rfl) (Wp.ret ⟨rfl, Or.inl rfl⟩)) (fun _ => Wp.z (Or.inr rfl) (Wp.ret ⟨rfl, Or.inr rfl⟩))
  · have hne := ti_ne hne
    have e : (u - 1).toInt = u.toInt - 1 := ti_sub rfl ti_1 (by omega) (by omega)
    refine Wp.bind (tM_against (by omega) (by omega)) (fun x D1 q => ?_)
    subst q
    exact Wp.ite (fun _ => Wp.z (Or.inl rfl) (Wp.ret ⟨rfl, Or.inl rfl⟩)) (fun _ => K)
theorem tM_placeOf {a b u : Int32} (hU : UR a b 300) (h0 : a.toInt ≤ u.toInt) (h1 : u.toInt ≤ b.toInt) : Pu (fX11_placeOf a b u D) D := by
  unfold fX11_placeOf
  have hU' := hU
  obtain ⟨u0, u1, u2, u3⟩ := hU'
  refine Wp.bind (tM_isPeak hU h0 h1) (fun x D1 q => ?_)
  obtain ⟨rfl, q⟩ := q
  refine Wp.ite (fun _ => Wp.ret rfl) (fun _ => Wp.lets (Wp.lets ?_))
  refine Wp.fix2 (fun n y x D' => (a.toInt ≤ x.toInt ∧ x.toInt ≤ b.toInt + 1 ∧ b.toInt + 1 - x.toInt < (n : Int)) ∧ D' = D1) ?_ ?_ aFuel 1000000 _ _ _ (Nat.le_refl _) ⟨⟨by omega, by omega, by omega⟩, rfl⟩
  · intro n g hg y x D' hI
    obtain ⟨⟨i0, i1, i2⟩, i3⟩ := hI
    subst i3
    have c2 : (x + 1).toInt = x.toInt + 1 := ti_add rfl ti_1 (by omega) (by omega)
    unfold lX11_placeOf_20
    refine Wp.ilt (fun _ => Wp.ret rfl) (fun k => Wp.bind (tM_against (by omega) (by omega)) (fun z D2 q2 => ?_))
    subst q2
    have go : ∀ y, Wp (g y (x + 1) D2) (fun _ D1 => D1 = D2) := fun y => hg _ _ _ ⟨⟨by omega, by omega, by omega⟩, rfl⟩
    refine Wp.lets (Wp.lets (Wp.ite (fun _ => Wp.lets (Wp.lets (go _))) (fun _ => Wp.bind (tM_isPeak hU i0 k) (fun w D3 q3 => ?_))))
    obtain ⟨rfl, -⟩ := q3
    exact Wp.ite (fun _ => Wp.lets (Wp.lets (go _))) (fun _ => Wp.lets (Wp.ite (fun _ => Wp.lets (Wp.lets (go _))) (fun _ => Wp.ite (fun _ => Wp.ite (fun _ => Wp.lets (Wp.lets (go _))) (fun _ => Wp.lets (Wp.lets (go _)))) (fun _ => Wp.lets (Wp.lets (go _))))))
  · intro y x D' hI
    obtain ⟨⟨i0, i1, i2⟩, -⟩ := hI
    omega
/-- how many stones the reference looks at -/
abbrev MN (D : ADD) : Prop := 0 ≤ (D.1 0 41).toInt ∧ (D.1 0 41).toInt ≤ 32
theorem u_ne {u : Int32} (h : 1 ≤ u.toInt) : u ≠ 0 := fun e => by rw [e, ti_0] at h; omega
theorem tM_scoreOf {u : Int32} (hm : MN D) (hu : 1 ≤ u.toInt) : Pu (fX11_scoreOf u D) D := by
  unfold fX11_scoreOf
  refine Wp.lets (Wp.lets (Wp.up2 (D := D) 32 (by decide) (fun g a x h0 k => ?_) (by decide) (by decide)))
  unfold lX11_scoreOf_4
  refine Wp.ile (fun _ => Wp.ret rfl) (fun h => Wp.idx (i_in h0 (by omega)) (Wp.lets (Wp.ite (fun _ => Wp.lets (Wp.lets (k (by omega) _))) (fun _ => Wp.bindE (eM_off ⟨h0, by omega⟩ (u_ne hu)) (Wp.lets (Wp.lets (k (by omega) _)))))))
theorem tM_sumOf {u v : Int32} (hm : MN D) (hu : 1 ≤ u.toInt) (hv : 1 ≤ v.toInt) : Pu (fX11_sumOf u v D) D := by
  unfold fX11_sumOf
  refine Wp.lets (Wp.lets (Wp.up2 (D := D) 32 (by decide) (fun g a x h0 k => ?_) (by decide) (by decide)))
  unfold lX11_sumOf_5
  refine Wp.ile (fun _ => Wp.ret rfl) (fun h => Wp.idx (i_in h0 (by omega)) (Wp.lets (Wp.ite (fun _ => Wp.lets (k (by omega) _)) (fun _ => Wp.bindE (eM_off ⟨h0, by omega⟩ (u_ne hu)) (Wp.bindE (eM_off ⟨h0, by omega⟩ (u_ne hv)) (Wp.lets (Wp.ite (fun _ => Wp.lets (Wp.lets (k (by omega) _))) (fun _ => Wp.lets (Wp.lets (k (by omega) _))))))))))
theorem tM_those (hm : MN D) : Pu (fX11_those D) D := by
  unfold fX11_those
  refine Wp.lets (Wp.lets (Wp.up2 (D := D) 32 (by decide) (fun g a x h0 k => ?_) (by decide) (by decide)))
  unfold lX11_those_4
  refine Wp.ile (fun _ => Wp.ret rfl) (fun h => Wp.idx (i_in h0 (by omega)) (Wp.lets (Wp.ite (fun _ => Wp.lets (Wp.lets (k (by omega) _))) (fun _ => Wp.lets (Wp.lets (k (by omega) _))))))
theorem tM_nearOf {u : Int32} (hm : MN D) (hu : 1 ≤ u.toInt) : Wp (fX11_nearOf u D) (fun x D1 => D1 = D ∧ 0 ≤ x.toInt ∧ x.toInt ≤ 32) := by
  unfold fX11_nearOf
  refine Wp.lets (Wp.lets ?_)
  refine Wp.fix2 (fun n y x D' => (0 ≤ x.toInt ∧ x.toInt ≤ 32 ∧ 32 - x.toInt < (n : Int)) ∧ D' = D ∧ 0 ≤ y.toInt ∧ y.toInt ≤ x.toInt) ?_ ?_ aFuel 1000000 _ _ _ (Nat.le_refl _) ⟨⟨by decide, by decide, by decide⟩, rfl, by decide, by decide⟩
  · intro n g hg y x D' hI
    obtain ⟨⟨i0, i1, i2⟩, i3, i4, i5⟩ := hI
    subst i3
    unfold lX11_nearOf_4
    refine Wp.ile (fun _ => Wp.ret ⟨rfl, i4, by omega⟩) (fun h => ?_)
    have c2 : (x + 1).toInt = x.toInt + 1 := ti_add rfl ti_1 (by omega) (by omega)
    have y1 : (y + 1).toInt = y.toInt + 1 := ti_add rfl ti_1 (by omega) (by omega)
    have y0 : (y + 0).toInt = y.toInt := by rw [Int32.add_zero]
    have g0 : Wp (g (y + 0) (x + 1) D') (fun x D1 => D1 = D' ∧ 0 ≤ x.toInt ∧ x.toInt ≤ 32) := hg _ _ _ ⟨⟨by omega, by omega, by omega⟩, rfl, by omega, by omega⟩
    have g1 : Wp (g (y + 1) (x + 1) D') (fun x D1 => D1 = D' ∧ 0 ≤ x.toInt ∧ x.toInt ≤ 32) := hg _ _ _ ⟨⟨by omega, by omega, by omega⟩, rfl, by omega, by omega⟩
    exact Wp.idx (i_in i0 (by omega)) (Wp.lets (Wp.lets (Wp.ite (fun _ => Wp.lets (Wp.lets g0)) (fun _ => Wp.bindE (eM_off ⟨i0, by omega⟩ (u_ne hu)) (Wp.ite (fun _ => Wp.lets (Wp.lets g0)) (fun _ => Wp.lets (Wp.lets g1)))))))
  · intro y x D' hI
    obtain ⟨⟨i0, i1, i2⟩, -⟩ := hI
    omega
theorem tM_bestOf {a b : Int32} (hm : MN D) (hU : UR a b 300) : Wp (fX11_bestOf a b D) (fun _ D1 => (∀ c, c ≠ 36 → D1.1 c = D.1 c) ∧ D1.2 = D.2) := by
  unfold fX11_bestOf
  have hU' := hU
  obtain ⟨u0, u1, u2, u3⟩ := hU'
  refine Wp.bind (tM_findScores hU (fun u D' e h1 h2 => ?_)) (fun _ D1 q => ?_)
  · exact tM_scoreOf (by unfold MN; rw [e 0 (by decide)]; exact hm) (by omega)
  · have e1 : (a + 1).toInt = a.toInt + 1 := ti_add rfl ti_1 (by omega) (by omega)
    refine Wp.lets (Wp.lets (Wp.lets ?_))
    refine Wp.fix2 (fun n y x D' => (a.toInt ≤ x.toInt ∧ x.toInt ≤ b.toInt + 1 ∧ b.toInt + 1 - x.toInt < (n : Int)) ∧ (a.toInt ≤ y.toInt ∧ y.toInt ≤ b.toInt) ∧ D' = D1) ?_ ?_ aFuel 1000000 _ _ _ (Nat.le_refl _) ⟨⟨by omega, by omega, by omega⟩, ⟨by omega, by omega⟩, rfl⟩
    · intro n g hg y x D' hI
      obtain ⟨⟨i0, i1, i2⟩, i4, i3⟩ := hI
      subst i3
      have c2 : (x + 1).toInt = x.toInt + 1 := ti_add rfl ti_1 (by omega) (by omega)
      unfold lX11_bestOf_13
      refine Wp.ilt (fun _ => Wp.ret q) (fun k => Wp.bind (tM_against (by omega) (by omega)) (fun z D2 q2 => ?_))
      subst q2
      exact Wp.lets (Wp.ite (fun _ => Wp.lets (hg _ _ _ ⟨⟨by omega, by omega, by omega⟩, i4, rfl⟩)) (fun _ => Wp.lets (hg _ _ _ ⟨⟨by omega, by omega, by omega⟩, ⟨i0, k⟩, rfl⟩)))
    · intro y x D' hI
      obtain ⟨⟨i0, i1, i2⟩, -⟩ := hI
      omega
theorem tM_worthOf {k a b : Int32} (hm : MN D) (hk : 0 ≤ k.toInt ∧ k.toInt < 32) (hU : UR a b 300) : Wp (fX11_worthOf k a b D) (fun _ D1 => ∀ c, c ≠ 33 → c ≠ 34 → c ≠ 36 → D1.1 c = D.1 c) := by
  unfold fX11_worthOf
  have ik : vp_in k 32 := i_in hk.1 hk.2
  refine Wp.idx ik (Wp.lets (Wp.idx ik (Wp.lets (Wp.idx ik (Wp.leti (fun D1 e1 => ?_))))))
  have f1 : ∀ c, c ≠ 34 → D1.1 c = D.1 c := by
    intro c hc
    funext z
    rw [e1]
    simp [aSI, hc]
  refine Wp.bind (tM_bestOf (by unfold MN; rw [f1 0 (by decide)]; exact hm) hU) (fun y D2 q2 => Wp.idx ik (Wp.lets (Wp.idx ik (Wp.leti (fun D4 e4 => ?_)))))
  have f4 : ∀ c, c ≠ 33 → c ≠ 34 → c ≠ 36 → D4.1 c = D.1 c := by
    intro c c33 c34 c36
    rw [← f1 c c34, ← q2.1 c c36]
    funext z
    rw [e4]
    simp [aSI, c33, c34]
  refine Wp.bind (tM_bestOf (by unfold MN; rw [f4 0 (by decide) (by decide) (by decide)]; exact hm) hU) (fun z D5 q5 => Wp.idx ik (Wp.leti (fun D6 e6 => ?_)))
  have f6 : ∀ c, c ≠ 33 → c ≠ 34 → c ≠ 36 → D6.1 c = D.1 c := by
    intro c c33 c34 c36
    rw [← f4 c c33 c34 c36, ← q5.1 c c36]
    funext z
    rw [e6]
    simp [aSI, c33]
  exact Wp.lets (Wp.ite (fun _ => Wp.ret f6) (fun _ => Wp.ret f6))
theorem tM_chanceOf {u : Int32} (hm : MN D) (hu : 1 ≤ u.toInt ∧ u.toInt ≤ 2000) : Wp (fX11_chanceOf u D) (fun _ D1 => D1.1 = D.1) := by
  unfold fX11_chanceOf
  refine Wp.bind tM_begin (fun _ D1 q => Wp.lets (Wp.lets ?_))
  refine Wp.fix1 (fun n x D' => (0 ≤ x.toInt ∧ x.toInt ≤ 32 ∧ 32 - x.toInt < (n : Int)) ∧ D'.1 = D.1) ?_ ?_ aFuel 1000000 _ _ (Nat.le_refl _) ⟨⟨by decide, by decide, by decide⟩, q.1⟩
  · intro n g hg x D' hI
    obtain ⟨⟨i0, i1, i2⟩, i3⟩ := hI
    unfold lX11_chanceOf_6
    have hm' : MN D' := by unfold MN; rw [i3]; exact hm
    refine Wp.ile (fun _ => Wp.bind (tM_nearOf hm' hu.1) (fun r D2 q2 => ?_)) (fun h => ?_)
    · obtain ⟨rfl, r0, r1⟩ := q2
      refine Wp.bind (tM_from r0 (by omega)) (fun s D3 q3 => ?_)
      obtain ⟨rfl, -⟩ := q3
      exact Wp.ret i3
    · have h : x.toInt < (D'.1 0 41).toInt := h
      have ii : vp_in x 32 := i_in i0 (by omega)
      have c2 : (x + 1).toInt = x.toInt + 1 := ti_add rfl ti_1 (by omega) (by omega)
      refine Wp.idx ii (Wp.lets (Wp.ite (fun _ => Wp.lets (hg _ _ ⟨⟨by omega, by omega, by omega⟩, i3⟩)) (fun _ => Wp.idx ii (Wp.idx ii (Wp.bind (tM_likely (by omega)) (fun r D2 q2 => ?_))))))
      subst q2
      exact Wp.bind (tM_draw hu.1) (fun _ D3 q3 => Wp.lets (hg _ _ ⟨⟨by omega, by omega, by omega⟩, by rw [q3.1, i3]⟩))
  · intro x D' hI
    obtain ⟨⟨i0, i1, i2⟩, -⟩ := hI
    omega
theorem tM_keep (hm : MN D) : Wp (fX11_keepChosen D) (fun _ D1 => ∀ c, c ≠ 38 → D1.1 c = D.1 c) := by
  unfold fX11_keepChosen
  refine Wp.lets (Wp.lets ?_)
  refine Wp.fix1 (fun n x D' => (0 ≤ x.toInt ∧ x.toInt ≤ 32 ∧ 32 - x.toInt < (n : Int)) ∧ ∀ c, c ≠ 38 → D'.1 c = D.1 c) ?_ ?_ aFuel 1000000 _ _ (Nat.le_refl _) ⟨⟨by decide, by decide, by decide⟩, fun _ _ => rfl⟩
  · intro n g hg x D' hI
    obtain ⟨⟨i0, i1, i2⟩, i3⟩ := hI
    unfold lX11_keepChosen_2
    rw [i3 0 (by decide)]
    refine Wp.ile (fun _ => Wp.ret i3) (fun h => ?_)
    have c2 : (x + 1).toInt = x.toInt + 1 := ti_add rfl ti_1 (by omega) (by omega)
    refine Wp.idx (i_in i0 (by omega)) (Wp.idx (i_in i0 (by omega)) (Wp.lets (Wp.lets (hg _ _ ⟨⟨by omega, by omega, by omega⟩, fun c hc => ?_⟩))))
    funext z
    simp [aSI, hc, i3 c hc]
  · intro x D' hI
    obtain ⟨⟨i0, i1, i2⟩, -⟩ := hI
    omega
end ML
