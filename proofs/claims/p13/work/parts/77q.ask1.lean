/-! score, span, by, count: both sides -/
theorem short_eq {hi mk u : Int32} (h : 1 ≤ hi.toInt ∧ hi.toInt ≤ 60000) (hm : 0 ≤ mk.toInt ∧ mk.toInt ≤ 60) (hu : 10 ≤ u.toInt ∧ u.toInt ≤ 2000) : ∀ t : Int32, (t = if mk = 0 then (if hi / u = 0 then hi / u + 1 else if 2 * (hi - hi / u * u) < u then hi / u else hi / u + 1) else mk) → (if t * u ≤ hi then 0 else t * u - hi) = shortF hi mk u := by
  intro t ht
  have un : ¬ u ≤ 0 := fun q => by have := Int32.le_iff_toInt_le.mp q; rw [ti_0] at this; omega
  have ed := ti_div (rfl : hi.toInt = _) (rfl : u.toInt = _) (by omega) (by omega)
  rw [Int.tdiv_eq_ediv_of_nonneg (by omega)] at ed
  have q1 := Int.mul_ediv_add_emod hi.toInt u.toInt
  have q2 := Int.emod_nonneg hi.toInt (show u.toInt ≠ 0 by omega)
  have q3 := Int.emod_lt_of_pos hi.toInt (show 0 < u.toInt by omega)
  have q0 : 0 ≤ hi.toInt / u.toInt := Int.ediv_nonneg (by omega) (by omega)
  generalize hi.toInt / u.toInt = dd at ed q1 q0
  generalize hi.toInt % u.toInt = rr at q1 q2 q3
  have pm : u.toInt * dd = dd * u.toInt := Int.mul_comm _ _
  have p0 : 0 ≤ dd * u.toInt := Int.mul_nonneg q0 (by omega)
  generalize hp : dd * u.toInt = pp at pm p0
  have d6 : dd ≤ 60000 := by
    have : dd * 1 ≤ dd * u.toInt := Int.mul_le_mul_of_nonneg_left (by omega) q0
    omega
  -- the class's times, as a number
  have tv : (if mk ≤ 0 then aMax 1 (if u ≤ 0 then 0 else (2 * hi + u) / (2 * u)) else mk) = t := by
    by_cases m : mk = 0
    · have m1 : mk ≤ 0 := by rw [m]; decide
      rw [if_pos m1, if_neg un]
      rw [if_pos m] at ht
      have a1 : (2 * hi).toInt = 2 * hi.toInt := ti_mul (by decide) rfl (by omega) (by omega)
      have a2 := ti_add a1 (rfl : u.toInt = _) (by omega) (by omega)
      have a3 : (2 * u).toInt = 2 * u.toInt := ti_mul (by decide) rfl (by omega) (by omega)
      have a4 := ti_div a2 a3 (by omega) (by omega)
      rw [Int.tdiv_eq_ediv_of_nonneg (by omega)] at a4
      have e1 := ti_mul ed (rfl : u.toInt = _) (by omega) (by omega)
      rw [hp] at e1
      have e2 := ti_sub (rfl : hi.toInt = _) e1 (by omega) (by omega)
      have e3 : (2 * (hi - hi / u * u)).toInt = 2 * (hi.toInt - pp) := ti_mul (by decide) e2 (by omega) (by omega)
      have e4 := ti_add ed ti_1 (by omega) (by omega)
      -- the rounded quotient
      have rq : (2 * hi.toInt + u.toInt) / (2 * u.toInt) = if 2 * rr < u.toInt then dd else dd + 1 := by
        have c1 : 2 * hi.toInt + u.toInt = (2 * rr + u.toInt) + dd * (2 * u.toInt) := by
          have : dd * (2 * u.toInt) = 2 * (dd * u.toInt) := by rw [Int.mul_left_comm]
          omega
        rw [c1, Int.add_mul_ediv_right _ _ (show 2 * u.toInt ≠ 0 by omega)]
        by_cases s : 2 * rr < u.toInt
        · rw [if_pos s, Int.ediv_eq_zero_of_lt (by omega) (by omega)]
          omega
        · rw [if_neg s]
          have : (2 * rr + u.toInt) / (2 * u.toInt) = 1 := by
            have c2 : 2 * rr + u.toInt = (2 * rr - u.toInt) + 1 * (2 * u.toInt) := by omega
            rw [c2, Int.add_mul_ediv_right _ _ (show 2 * u.toInt ≠ 0 by omega), Int.ediv_eq_zero_of_lt (by omega) (by omega)]
            omega
          omega
      rw [rq] at a4
      refine ti_eq ?_
      rw [ti_max, ti_1, a4, ht]
      by_cases z : hi / u = 0
      · have z1 : dd = 0 := by rw [← ed, z, ti_0]
        rw [if_pos z, e4, z1]
        split <;> omega
      · have z1 : dd ≠ 0 := fun q => z (ti_eq (by rw [ed, q, ti_0]))
        rw [if_neg z]
        by_cases y : 2 * (hi - hi / u * u) < u
        · have y1 := Int32.lt_iff_toInt_lt.mp y
          rw [e3] at y1
          rw [if_pos y, ed, if_pos (by omega)]
          omega
        · have y1 : ¬ 2 * (hi.toInt - pp) < u.toInt := fun q => y (Int32.lt_iff_toInt_lt.mpr (by rw [e3]; exact q))
          rw [if_neg y, e4, if_neg (by omega)]
          omega
    · have m2 : mk.toInt ≠ 0 := fun q => m (ti_eq (by rw [q, ti_0]))
      have m1 : ¬ mk ≤ 0 := fun q => by have := Int32.le_iff_toInt_le.mp q; rw [ti_0] at this; omega
      rw [if_neg m1]
      rw [if_neg m] at ht
      exact ht.symm
  unfold shortF
  rw [tv]
  -- no overflow
  have tb : 0 ≤ t.toInt * u.toInt ∧ t.toInt * u.toInt ≤ 200000 := by
    rw [ht]
    have e4 := ti_add ed ti_1 (by omega) (by omega)
    have pq : (dd + 1) * u.toInt = pp + u.toInt := by rw [Int.add_mul, hp, Int.one_mul]
    split
    · split
      · rw [e4, pq]
        omega
      · split
        · rw [ed, hp]
          omega
        · rw [e4, pq]
          omega
    · have : mk.toInt * u.toInt ≤ 60 * u.toInt := Int.mul_le_mul_of_nonneg_right hm.2 (by omega)
      have : 0 ≤ mk.toInt * u.toInt := Int.mul_nonneg hm.1 (by omega)
      omega
  have e1 := ti_mul (rfl : t.toInt = _) (rfl : u.toInt = _) (by omega) (by omega)
  have e2 := ti_sub e1 (rfl : hi.toInt = _) (by omega) (by omega)
  refine ti_eq ?_
  rw [ti_max, ti_0, e2]
  by_cases c : t * u ≤ hi
  · have c1 := Int32.le_iff_toInt_le.mp c
    rw [if_pos c, ti_0]
    omega
  · have c1 : ¬ t.toInt * u.toInt ≤ hi.toInt := fun q => c (Int32.le_iff_toInt_le.mpr (by rw [e1]; exact q))
    rw [if_neg c, e2]
    omega
section A1s
variable {D E E1 : ADD} {n0 : Nat} {P : APD}
theorem lk0 (q : QM E) (h : RBk (xc D) (mB E)) (w : RuS (xc D) (slM E 0) 12 0 0 True) (c : RCh (xc D) (slM E 0)) : Wp (fX11_look (aSI E 0 0 0)) (fun _ E1 => LkR D E E1 (nS (mB E)) ∧ CR D E1 (nS (mB E)) (fun k => thE E k ∧ chX D (nI k))) := by
  have f1 : FmM E (aSI E 0 0 0) := FmM.code
  have e0 : slM (aSI E 0 0 0) 0 = slM E 0 := slM_fm f1
  have em : mB (aSI E 0 0 0) = mB E := f1.mb
  refine (bM_look (D := D) (q.fr f1) (by rw [em]; exact h) (by rw [e0]; exact w) (by rw [e0]; exact c)).mono (fun _ E1 l => ?_)
  have l2 : LkR D E E1 (nS (mB E)) := by
    obtain ⟨l1, l2, l3, l4, l5⟩ := l
    have ht : ∀ k, thE (aSI E 0 0 0) k ↔ thE E k := fun k => by unfold thE; rw [em]
    have hn : nS (mB (aSI E 0 0 0)) = nS (mB E) := by rw [em]
    refine ⟨fun c hc => by rw [l1 c hc, si_o (by omega)], by rw [l2, si_o (by decide)], fun k hk => ?_, fun k hk t => l4 k (by rw [hn]; exact hk) ((ht k).mpr t), fun k hk => ?_⟩
    · rw [l3 k (by rw [hn]; exact hk)]
      by_cases t : thE E k
      · rw [if_pos t, if_pos ((ht k).mpr t)]
      · rw [if_neg t, if_neg (fun z => t ((ht k).mp z))]
    · obtain ⟨a, b⟩ := l5 k (by rw [hn]; exact hk)
      refine ⟨fun t => a ((ht k).mpr t), ?_⟩
      rcases b with ⟨x, y, z⟩ | ⟨x, y⟩
      · exact Or.inl ⟨x, (ht k).mp y, z⟩
      · exact Or.inr ⟨x, fun z => y ⟨(ht k).mpr z.1, z.2⟩⟩
  exact ⟨l2, l2.cr h w⟩
/-- the chosen stones -/
noncomputable def cL0 (D E : ADD) : List Nat := chL (fun k => thE E k ∧ chX D (nI k)) (nS (mB E))
theorem ga0 (q : QX D) (h : RBk (xc D) (mB E)) : Wp (fX4_gather 0 0 D) (fun r D1 => r = D1.1 43 0 ∧ FrP D D1 ∧ PilX D D1 (cL0 D E)) := by
  refine (tX4_gather (k := 0) (v := 0) (FrP.refl D) q.1 q.2.1).mono (fun r D1 k => ⟨k.1, k.2.1, ?_⟩)
  have := k.2.2
  rw [gaL_th h] at this
  unfold cL0
  rw [chL_cg (P2 := fun s => thE E s ∧ blX D 0 0 (nI s)) (fun s _ => by rw [bl_0])]
  exact this
theorem pil_m {D1 : ADD} {L : List Nat} (p : PilX D D1 L) : D1.1 43 0 = nI L.length ∧ mnX D1 = L.length ∧ (D1.1 43 0).toInt ≤ 32 := by
  obtain ⟨p1, p2, -⟩ := p
  have v : (nI L.length).toInt = (L.length : Int) := nI_toInt (by omega)
  have e : D1.1 43 0 = nI L.length := ti_eq (by rw [p1, v])
  refine ⟨e, ?_, by omega⟩
  show (D1.1 43 0).toNatClampNeg = _
  rw [e]
  exact nI_clamp (by omega)
theorem pil_score {D1 : ADD} {L : List Nat} (p : PilX D D1 L) (u : Int32) : fX4_scoreBy u D1 = some (u * nI L.length - 4 * sumL (ofS D u) L, D1) := by
  obtain ⟨m1, m2, m3⟩ := pil_m p
  rw [eX_scoreBy u m3, m1, m2, sI_sumL (g := ofS D u) (fun j s hs => p.off u hs)]
theorem jr_score {a : Int32} (h : IR RF n0 P E) : BR RF n0 P id (fX10_score a P.2) (fX11_score a E) := by
  obtain ⟨hb, ⟨tp, fl, w, pr⟩, hc⟩ := h.nowF
  have qx := h.1.2.1.2.qx
  have qm := h.1.2.2.1.qm
  refine h.askE (v := if 10 ≤ a.toInt ∧ a.toInt ≤ 2000 then a * nI (cL0 P.2 E).length - 4 * sumL (ofS P.2 a) (cL0 P.2 E) else -1000000000) (fun q => oX_score q) (fun q => oM_score q) ?_ ?_
  · unfold fX10_score
    refine Wp.bindE (eX_isUnit _ _) ?_
    by_cases hu : 10 ≤ a.toInt ∧ a.toInt ≤ 2000
    · rw [if_pos hu, if_pos hu]
      exact Wp.neg (by decide) (Wp.bind (ga0 qx hb) (fun r D1 k => Wp.bindE (pil_score k.2.2 a) (Wp.ret rfl)))
    · rw [if_neg hu, if_neg hu]
      exact Wp.pos rfl (Wp.ret rfl)
  · unfold fX11_score
    refine Wp.lets (Wp.bindE (eM_isUnit _ _) ?_)
    by_cases hu : 10 ≤ a.toInt ∧ a.toInt ≤ 2000
    · rw [if_pos hu, if_pos hu]
      refine Wp.neg (by decide) (Wp.bind (lk0 qm hb w hc) (fun _ E1 l => Wp.bindE (bM_scoreOf l.2 hu) (Wp.ret ?_)))
      rw [sum_lin]
      rfl
    · rw [if_neg hu, if_neg hu]
      exact Wp.pos rfl (Wp.ret rfl)
theorem st_nS (h : RBk (xc D) (mB E)) {a : Int32} (s : stM E a) : a = nI a.toNatClampNeg ∧ a.toNatClampNeg < nS (mB E) ∧ thE E a.toNatClampNeg ∧ a.toNatClampNeg < 32 := by
  have bw := h.2.2.2.1
  have n5 : ((nS (mB E) : Nat) : Int) = (mB E 5 0).toInt := cl_i bw.1.2.1.1
  have h32 := bw.1.2.1.2
  rw [mB5] at n5 h32
  obtain ⟨⟨s1, s2⟩, s3⟩ := s
  have ea := cl_i s1
  exact ⟨nI_val s1, by omega, s3, by omega⟩
theorem jr_span {a b : Int32} (h : IR RF n0 P E) : BR RF n0 P id (fX10_span a b P.2) (fX11_span a b E) := by
  obtain ⟨hb, ⟨tp, fl, w, pr⟩, hc⟩ := h.nowF
  have qx := h.1.2.1.2.qx
  have qm := h.1.2.2.1.qm
  have si := seen_iff hb (a := a)
  have z1 : (1 : Int32).toInt = 1 := by decide
  have z2 : (2 : Int32).toInt = 2 := by decide
  refine h.askE (v := if stM E a then (if b.toInt = 0 then loX P.2 a else if b.toInt = 1 then hiX P.2 a else if b.toInt = 2 then @ite _ (chX P.2 a) (Classical.propDecidable _) 1 0 else -1) else -1) (fun q => oX_span q) (fun q => oM_span q) ?_ ?_
  · unfold fX10_span
    refine Wp.bind (tX4_takeAlone qx.1 qx.2.1) (fun x D1 q => ?_)
    obtain ⟨f, q⟩ := q
    by_cases hs : stM E a
    · have s3 := si.mpr hs
      rw [if_pos ⟨s3.1, s3.2.1⟩] at q
      obtain ⟨rfl, pl⟩ := q
      have va : a = nI a.toNatClampNeg := nI_val s3.1
      obtain ⟨e1, e2, e3, e4, e5⟩ := pl.2.2 0 a.toNatClampNeg rfl
      rw [← va] at e4 e5
      rw [if_pos hs]
      refine Wp.neg (by decide) (Wp.tab3 (fun h0 => Wp.idd (by decide) (Wp.ret ?_)) (fun h1 => Wp.idd (by decide) (Wp.ret ?_)) (fun h2 => Wp.bind tX1_takes (fun y D2 q2 => ?_)) (fun hd => Wp.ret ?_))
      · rw [if_pos h0]; exact e4
      · rw [if_neg (by omega), if_pos h1]; exact e5
      · obtain ⟨rfl, q2⟩ := q2
        rw [if_neg (by omega), if_neg (by omega), if_pos h2]
        rcases q2 with ⟨y1, y2⟩ | ⟨y1, y2⟩
        · rw [y1, if_pos ((f.ch a).mp y2)]
          exact Wp.lets (Wp.neg (by decide) (Wp.ret rfl))
        · rw [y1, if_neg (fun z => y2 ((f.ch a).mpr z))]
          exact Wp.lets (Wp.pos rfl (Wp.ret rfl))
      · rw [if_neg (by omega), if_neg (by omega), if_neg (by omega)]
    · rw [if_neg (fun z => hs (si.mp ⟨z.1, z.2, by have := qx.1; omega⟩))] at q
      rw [q, if_neg hs]
      exact Wp.pos rfl (Wp.ret rfl)
  · unfold fX11_span
    have f1 : FmM E (aSI E 0 0 0) := FmM.code
    have eS : stM (aSI E 0 0 0) a ↔ stM E a := by
      unfold stM
      rw [f1.mb, f1 5 (by omega)]
    refine Wp.lets (Wp.bindE (eM_isStone (qm.fr f1)) ?_)
    by_cases hs : stM E a
    · rw [if_pos (eS.mpr hs), if_pos hs]
      obtain ⟨va, hn, ht, h32⟩ := st_nS hb hs
      refine Wp.neg (by decide) (Wp.bind (lk0 qm hb w hc) (fun _ E1 l => Wp.lets ?_))
      obtain ⟨⟨l1, l2, l3, l4, l5⟩, -⟩ := l
      obtain ⟨m1, m2⟩ := l5 _ hn
      obtain ⟨lo, hi⟩ := m1 ht
      rw [← va] at lo hi m2
      have ia : vp_in a 32 := by rw [va]; exact vp_in_nI h32 (by decide)
      refine Wp.ite (fun b0 => Wp.idx ia (Wp.ret ?_)) (fun b0 => Wp.ite (fun b1 => Wp.idx ia (Wp.ret ?_)) (fun b1 => Wp.ite (fun b2 => Wp.idx ia ?_) (fun b2 => Wp.ret ?_)))
      · rw [if_pos (by rw [b0, ti_0])]; exact lo
      · rw [if_neg (by rw [b1]; decide), if_pos (by rw [b1]; decide)]; exact hi
      · have y0 : ¬ b.toInt = 0 := by rw [b2]; decide
        have y1 : ¬ b.toInt = 1 := by rw [b2]; decide
        have y2 : b.toInt = 2 := by rw [b2]; decide
        rw [if_neg y0, if_neg y1, if_pos y2]
        have bz := bz_Bo m2
        refine Wp.ite (fun y => Wp.ret ?_) (fun y => Wp.ret ?_)
        · rw [if_neg (fun z => bz.mp y ⟨ht, z⟩)]
        · have := Classical.byContradiction (fun z => y (bz.mpr z))
          rw [if_pos this.2]
      · rw [if_neg (fun q => b0 (ti_eq (by rw [q, ti_0]))), if_neg (fun q => b1 (ti_eq (by rw [q, z1]))), if_neg (fun q => b2 (ti_eq (by rw [q, z2])))]
    · rw [if_neg (fun z => hs (eS.mp z)), if_neg hs]
      exact Wp.pos rfl (Wp.ret rfl)
end A1s
