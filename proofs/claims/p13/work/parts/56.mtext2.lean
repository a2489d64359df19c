/-! the reference: a line, a text -/
section MY
variable {D : ADD}
theorem mz_0 (r : RM D) : 0 ≤ mzF D ∧ mzF D ≤ 501 := by
  obtain ⟨⟨r0, r1⟩, r2⟩ := r
  unfold mzF
  split <;> omega
def CL (D D1 : ADD) : Prop := PT D D1 ∧ ((D.1 0 32).toInt = 16 → 0 ≤ (D.1 0 30).toInt → 0 < (D1.1 0 30).toInt)
theorem CL.pt {D1 D2 : ADD} (h : CL D D1) (k : PT D1 D2) : CL D D2 := ⟨h.1.trans k, fun a b => k.2.2.2.2.2 (h.2 a b)⟩
theorem CL.rt {D1 : ADD} (h : CL D D1) : RM D1 ∧ TM D1 := h.1.2.2.1
/-- a line was read, or not -/
def OL (D : ADD) (x : Int32) (D1 : ADD) : Prop := (∀ c, (1 ≤ c ∧ c ≤ 22) ∨ 30 ≤ c → D1.1 c = D.1 c) ∧ (RM D1 ∧ TM D1) ∧ (x ≠ 0 → D1.1 0 32 = D.1 0 32 + 1 ∧ mzF D1 < mzF D ∧ (0 ≤ (D.1 0 30).toInt → 0 ≤ (D1.1 0 30).toInt) ∧ (0 < (D.1 0 30).toInt → 0 < (D1.1 0 30).toInt) ∧ ((D.1 0 32).toInt = 16 → 0 ≤ (D.1 0 30).toInt → 0 < (D1.1 0 30).toInt))
theorem CL.no {D1 : ADD} (h : CL D D1) : OL D 0 D1 := ⟨h.1.1, h.rt, fun k => absurd rfl k⟩
theorem tM_oneLine {a : Int32} (r : RM D) (t : TM D) (hl : 0 ≤ (D.1 0 32).toInt) : Wp (fX11_oneLine a D) (fun x D1 => OL D x D1) := by
  unfold fX11_oneLine
  have e16 : (16 : Int32).toInt = 16 := by decide
  refine Wp.letQ (fun Q j => ∀ x : Int32, (0 ≤ x.toInt ∧ x.toInt < 17) → Wp (j x D) Q) (fun x1 hx1 => ?_) (fun j K => Wp.ile (fun _ => K _ (by decide)) (fun h => K _ ⟨hl, by omega⟩))
  have ix : vp_in x1 17 := i_in hx1.1 hx1.2
  refine Wp.letQ (fun Q j => ∀ D1, CL D D1 → Wp (j D1) Q) (fun D2 c2 => ?_) (fun j K => Wp.ite (fun _ => Wp.bind (tM_later r t (by decide)) (fun _ D3 q3 => K _ ⟨q3.1, fun _ => q3.2⟩)) (fun h => K _ ⟨PT.refl r t, fun q => absurd (Int32.toInt_inj.mp (by rw [q]; rfl)) h⟩))
  refine Wp.idx ix (Wp.leti (fun D3 e3 => ?_))
  have c3 : CL D D3 := by rw [e3]; exact c2.pt ((PT.refl c2.rt.1 c2.rt.2).s23 (by decide))
  refine Wp.bind tM_isWord (fun x2 D4 q4 => ?_)
  obtain ⟨rfl, q4⟩ := q4
  refine Wp.letQ (fun Q j => ∀ D1, CL D D1 → Wp (j D1) Q) (fun D5 c5 => ?_) (fun j105 K105 => Wp.ite (fun _ => K105 _ c3) (fun h2 => ?_))
  · refine Wp.bind tM_actWord (fun x3 D6 q6 => ?_)
    obtain ⟨rfl, q6⟩ := q6
    refine Wp.idx ix (Wp.leti (fun D7 e7 => Wp.idx ix ?_))
    have p7 : PT D6 D7 := by rw [e7]; exact (PT.refl c5.rt.1 c5.rt.2).sl (by decide)
    have c7 := c5.pt p7
    have v7 : D7.1 27 x1.toNatClampNeg = x3 := by rw [e7]; simp [aSI]
    rw [v7]
    refine Wp.ite (fun _ => Wp.wrong (D0 := D7) (c7.pt (PT.refl c7.rt.1 c7.rt.2).wrong).no) (fun h3 => Wp.bind (tM_next c7.rt.1) (fun _ D8 q8 => ?_))
    have t7 : D7.1 0 26 ≠ 0 := by
      have : D7.1 0 26 = D6.1 0 26 := by rw [e7]; simp [aSI]
      rw [this, q6 h3]
      decide
    have m8 := q8.mz.2 t7
    have c8 := c7.pt (q8.pt c7.rt.1 c7.rt.2)
    have m7 := c7.1.2.2.2.1
    refine Wp.letQ (fun Q j => ∀ D1, CL D D1 → mzF D1 < mzF D → Wp (j D1) Q) (fun D9 c9 m9 => Wp.leti (fun D10 e10 => ?_)) (fun j159 K159 => ?_)
    · have g : ∀ j, j ≠ 32 → D10.1 0 j = D9.1 0 j := fun j hj => by rw [e10]; simp [aSI, hj]
      have g0 : ∀ k, k ≠ 0 → D10.1 k = D9.1 k := fun k hk => by rw [e10]; funext z; simp [aSI, hk]
      have g32 : D10.1 0 32 = D9.1 0 32 + 1 := by rw [e10]; simp [aSI]
      have r10 : RM D10 := by unfold RM; rw [g 23 (by decide), g 24 (by decide)]; exact c9.rt.1
      have t10 : TM D10 := by unfold TM; rw [g0 23 (by decide)]; exact c9.rt.2
      have z10 : mzF D10 = mzF D9 := by unfold mzF; rw [g 23 (by decide), g 24 (by decide), g 26 (by decide)]
      refine Wp.bind (tM_need r10 t10) (fun x4 D11 q11 => Wp.z q11.2 (Wp.ret ?_))
      obtain ⟨⟨k1, k2, k3, k4, k5, k6⟩, -⟩ := q11
      obtain ⟨⟨l1, l2, l3, l4, l5, l6⟩, l7⟩ := c9
      rw [g 30 (by decide)] at k5 k6
      exact ⟨fun c hc => by rw [k1 c hc, g0 c (by omega), l1 c hc], k3, fun _ => ⟨by rw [k2, g32, l2], by omega, fun x => k5 (l5 x), fun x => k6 (l6 x), fun x y => k6 (l7 x y)⟩⟩
    · refine Wp.ite (fun _ => Wp.idx ix (Wp.ite (fun _ => K159 _ c8 (by omega)) (fun _ => Wp.bind (tM_numbers c8.rt.1 c8.rt.2 hx1) (fun x5 D12 q12 => ?_)))) (fun _ => K159 _ c8 (by omega))
      have := q12.2.2.2.1
      exact Wp.ite (fun _ => Wp.ret (c8.pt q12).no) (fun _ => K159 _ (c8.pt q12) (by omega))
  · refine Wp.letQ (fun Q j => ∀ D1, CL D D1 → Wp (j D1) Q) (fun D14 c14 => Wp.bind (tM_need c14.rt.1 c14.rt.2) (fun x7 D15 q15 => ?_)) (fun j94 K94 => Wp.lets ?_)
    · exact Wp.ite (fun _ => Wp.ret (c14.pt q15.1).no) (fun _ => K105 _ (c14.pt q15.1))
    · have t4 : D4.1 0 26 ≠ 0 := by rw [q4 h2]; decide
      have z4 := mz_0 c3.rt.1
      refine Wp.fix2 (fun n x y D' => CL D D' ∧ (x ≠ 0 → D'.1 0 26 ≠ 0) ∧ (mzF D' + 1 < (n : Int) ∧ 0 ≤ y.toInt ∧ y.toInt + mzF D' ≤ 600)) ?_ ?_ aFuel 1000000 _ _ _ (Nat.le_refl _) ⟨c3, fun _ => t4, by omega, by decide, by rw [ti_0]; omega⟩
      · intro n g hg x y D' hI
        obtain ⟨i0, i1, i2, i3, i4⟩ := hI
        unfold lX11_oneLine_59
        refine Wp.ite (fun _ => K94 _ i0) (fun hx => Wp.bind (tM_next i0.rt.1) (fun _ D17 q17 => ?_))
        have m17 := q17.mz.2 (i1 hx)
        have c17 := i0.pt (q17.pt i0.rt.1 i0.rt.2)
        refine Wp.bind (tM_test c17.rt.1 c17.rt.2 hx1 i3) (fun x10 D18 q18 => ?_)
        have c18 := c17.pt q18
        have m18 := q18.2.2.2.1
        refine Wp.ite (fun _ => Wp.ret c18.no) (fun _ => Wp.bind tM_isWord (fun x11 D19 q19 => ?_))
        obtain ⟨rfl, q19⟩ := q19
        have z18 := mz_0 c18.rt.1
        have y1 : (y + 1).toInt = y.toInt + 1 := ti_add rfl ti_1 (by omega) (by omega)
        exact Wp.lets (hg _ _ _ ⟨c18, (fun q => by rw [q19 q]; decide), by omega, by omega, by omega⟩)
      · intro x y D' hI
        obtain ⟨i0, i1, i2, i3, i4⟩ := hI
        have := mz_0 i0.rt.1
        omega
/-- what a text leaves -/
def TXM (D D1 : ADD) : Prop := (∀ c, (5 ≤ c ∧ c ≤ 14) ∨ c = 1 ∨ 30 ≤ c → D1.1 c = D.1 c) ∧ (∀ c, 2 ≤ c → c ≤ 4 → ∀ i, i ≠ 0 → D1.1 c i = D.1 c i) ∧ D1.1 2 0 = 0 ∧ (∀ i, 2 ≤ i → D1.1 15 i = D.1 15 i) ∧ (∀ i, 32 ≤ i → D1.1 16 i = D.1 16 i) ∧ ((D1.1 15 0).toInt ≤ 16 ∧ (D1.1 15 1).toInt ≤ 16) ∧ (∀ i, i < 32 → (D1.1 16 i).toInt ≤ 4) ∧ TM D1
theorem oM_text {a : Int32} (h : QM D) (t : TM D) (hl : 0 ≤ (D.1 2 0).toInt ∧ (D.1 2 0).toInt ≤ 500) : Wp (fX11_text a D) (fun _ D1 => TXM D D1) := by
  unfold fX11_text
  obtain ⟨h5, h8, h9, h15, h16⟩ := h
  have c0 : (0 : Int32).toNatClampNeg = 0 := rfl
  refine Wp.leti (fun D1 e1 => Wp.idd (by decide) (Wp.leti (fun D2 e2 => Wp.idd (by decide) (Wp.leti (fun D3 e3 => Wp.idd (by decide) (Wp.leti (fun D4 e4 => Wp.idd (by decide) (Wp.leti (fun D5 e5 => Wp.leti (fun D6 e6 => Wp.leti (fun D7 e7 => Wp.leti (fun D8 e8 => Wp.leti (fun D9 e9 => ?_)))))))))))))
  rw [c0] at e2 e3 e4 e5
  have w0 : ∀ c, c = 1 ∨ 5 ≤ c → D9.1 c = D.1 c := by
    intro c hc
    funext z
    have a0 : c ≠ 0 := by omega
    have a2 : c ≠ 2 := by omega
    have a3 : c ≠ 3 := by omega
    have a4 : c ≠ 4 := by omega
    rw [e9, e8, e7, e6, e5, e4, e3, e2, e1]
    simp [aSI, a0, a2, a3, a4]
  have w1 : ∀ c, 2 ≤ c → c ≤ 4 → ∀ i, i ≠ 0 → D9.1 c i = D.1 c i := by
    intro c c2 c4 i hi
    have a0 : c ≠ 0 := by omega
    rw [e9, e8, e7, e6, e5, e4, e3, e2, e1]
    simp [aSI, a0, hi]
  have w2 : D9.1 2 0 = 0 := by
    rw [e9, e8, e7, e6, e5, e4, e3, e2, e1]
    simp [aSI]
  have v24 : D9.1 0 24 = D.1 2 0 := by
    rw [e9, e8, e7, e6, e5, e4, e3, e2, e1]
    simp [aSI]
  have v23 : D9.1 0 23 = 0 := by
    rw [e9, e8, e7, e6, e5, e4, e3, e2, e1]
    simp [aSI]
  have v30 : D9.1 0 30 = 0 := by
    rw [e9, e8, e7, e6, e5, e4, e3, e2, e1]
    simp [aSI]
  have v32 : D9.1 0 32 = 0 := by
    rw [e9, e8, e7, e6, e5, e4, e3, e2, e1]
    simp [aSI]
  clear e1 e2 e3 e4 e5 e6 e7 e8 e9
  have r9 : RM D9 := by unfold RM; rw [v24, v23, ti_0]; omega
  have t9 : TM D9 := by unfold TM; rw [w0 23 (by omega)]; exact t
  refine Wp.bind (tM_next r9) (fun _ D10 q10 => ?_)
  have p10 := q10.pt r9 t9
  have v30' : D10.1 0 30 = 0 := by rw [q10.1.2.2.1.2, v30]
  have v32' : D10.1 0 32 = 0 := by rw [q10.1.2.2.1.1, v32]
  have z10 := mz_0 p10.2.2.1.1
  refine Wp.letQ (fun Q j => ∀ (x : Int32) D', (∀ c, (1 ≤ c ∧ c ≤ 22) ∨ 30 ≤ c → D'.1 c = D9.1 c) → TM D' → (x ≠ 0 → 0 ≤ (D'.1 0 32).toInt ∧ (16 < (D'.1 0 32).toInt → 0 < (D'.1 0 30).toInt)) → Wp (j x D') Q) (fun x1 D11 f11 t11 l11 => ?_) (fun j82 K82 => Wp.lets ?_)
  · have F : ∀ D', (∀ c, c ≠ 3 → c ≠ 4 → D'.1 c = D11.1 c) → (∀ c i, i ≠ 0 → D'.1 c i = D11.1 c i) → TXM D D' := by
      intro D' f g
      refine ⟨fun c hc => by rw [f c (by omega) (by omega), f11 c (by omega), w0 c (by omega)], fun c c2 c4 i hi => by rw [g c i hi, f11 c (by omega), w1 c c2 c4 i hi], by rw [f 2 (by decide) (by decide), f11 2 (by omega), w2], fun i _ => by rw [f 15 (by decide) (by decide), f11 15 (by omega), w0 15 (by omega)], fun i _ => by rw [f 16 (by decide) (by decide), f11 16 (by omega), w0 16 (by omega)], by rw [f 15 (by decide) (by decide), f11 15 (by omega), w0 15 (by omega)]; exact h15, fun i hi => by rw [f 16 (by decide) (by decide), f11 16 (by omega), w0 16 (by omega)]; exact h16 i hi, ?_⟩
      unfold TM
      rw [f 23 (by decide) (by decide)]
      exact t11
    refine Wp.letQ (fun Q j => Wp (j D11) Q) ?_ (fun j93 K93 => Wp.ite (fun _ => K93) (fun hx => Wp.ile (fun h30 => ?_) (fun _ => K93)))
    · refine Wp.letQ (fun Q j => ∀ x, Wp (j x D11) Q) (fun x2 => Wp.idd (by decide) (Wp.leti (fun D14 e14 => ?_))) (fun j K => Wp.ite (fun _ => K _) (fun _ => K _))
      refine Wp.letQ (fun Q j => ∀ x, Wp (j x D14) Q) (fun x3 => Wp.idd (by decide) (Wp.leti (fun D16 e16 => Wp.ret (F _ (fun c a b => ?_) (fun c i hi => ?_))))) (fun j K => Wp.ite (fun _ => K _) (fun _ => K _))
      · funext z
        rw [e16, e14]
        simp [aSI, a, b]
      · rw [c0] at e16 e14
        rw [e16, e14]
        simp [aSI, hi]
    · have l11 := l11 hx
      rw [ti_0] at h30
      have hL : (D11.1 0 32).toInt ≤ 16 := by
        false_or_by_contra
        have := l11.2 (by omega)
        omega
      refine Wp.letQ (fun Q j => ∀ x : Int32, (x.toInt = 0 ∨ x.toInt = 16) → Wp (j x D11) Q) (fun x4 hx4 => ?_) (fun j K => Wp.ite (fun _ => K _ (by decide)) (fun _ => K _ (by decide)))
      refine Wp.letQ (fun Q j => ∀ x : Int32, (0 ≤ x.toInt ∧ x.toInt < 2) → Wp (j x D11) Q) (fun x5 hx5 => ?_) (fun j K => Wp.ite (fun _ => K _ (by decide)) (fun _ => K _ (by decide)))
      have ex5 := cl_i hx5.1
      refine Wp.idx (i_in hx5.1 (by omega)) (Wp.leti (fun D19 e19 => Wp.lets (Wp.lets ?_)))
      have g19 : ∀ c, c ≠ 15 → D19.1 c = D11.1 c := fun c hc => by rw [e19]; funext z; simp [aSI, hc]
      have g15 : ∀ i, D19.1 15 i = if i = x5.toNatClampNeg then D11.1 0 32 else D11.1 15 i := fun i => by rw [e19]; simp [aSI]
      have m19 : ∀ i, i < 32 → (D19.1 16 i).toInt ≤ 4 := fun i hi => by rw [g19 16 (by decide), f11 16 (by omega), w0 16 (by omega)]; exact h16 i hi
      refine Wp.fix1 (fun n x D' => (0 ≤ x.toInt ∧ x.toInt ≤ 16 ∧ 16 - x.toInt < (n : Int)) ∧ (∀ c, c < 16 ∨ 23 ≤ c → D'.1 c = D19.1 c) ∧ (∀ i, 32 ≤ i → D'.1 16 i = D19.1 16 i) ∧ ∀ i, i < 32 → (D'.1 16 i).toInt ≤ 4) ?_ ?_ aFuel 1000000 _ _ (Nat.le_refl _) ⟨⟨by decide, by decide, by decide⟩, fun _ _ => rfl, fun _ _ => rfl, m19⟩
      · intro n g hg x D' hI
        obtain ⟨⟨i0, i1, i2⟩, i3, i4, i5⟩ := hI
        unfold lX11_text_166
        have e32 : D'.1 0 32 = D11.1 0 32 := by rw [i3 0 (by omega), g19 0 (by decide)]
        have t' : TM D' := by unfold TM; rw [i3 23 (by omega), g19 23 (by decide)]; exact t11
        rw [e32]
        refine Wp.ile (fun _ => Wp.ret ?_) (fun hl2 => ?_)
        · have k15 : D'.1 15 = D19.1 15 := i3 15 (by omega)
          refine ⟨fun c hc => by rw [i3 c (by omega), g19 c (by omega), f11 c (by omega), w0 c (by omega)], fun c c2 c4 i hi => by rw [i3 c (by omega), g19 c (by omega), f11 c (by omega), w1 c c2 c4 i hi], by rw [i3 2 (by omega), g19 2 (by decide), f11 2 (by omega), w2], fun i hi => ?_, fun i hi => by rw [i4 i hi, g19 16 (by decide), f11 16 (by omega), w0 16 (by omega)], ⟨?_, ?_⟩, i5, t'⟩
          · rw [k15, g15, if_neg (by omega), f11 15 (by omega), w0 15 (by omega)]
          · rw [k15, g15]
            split
            · exact hL
            · rw [f11 15 (by omega), w0 15 (by omega)]; exact h15.1
          · rw [k15, g15]
            split
            · exact hL
            · rw [f11 15 (by omega), w0 15 (by omega)]; exact h15.2
        · have ex := cl_i i0
          have c2 : (x + 1).toInt = x.toInt + 1 := ti_add rfl ti_1 (by omega) (by omega)
          have e4 : (x4 + x).toInt = x4.toInt + x.toInt := ti_add rfl rfl (by omega) (by omega)
          have ix : vp_in x 17 := i_in i0 (by omega)
          have iy : vp_in (x4 + x) 128 := i_in (by omega) (by omega)
          have ey := cl_i (x := x4 + x) (by omega)
          refine Wp.idx ix (Wp.idx iy (Wp.leti (fun D22 e22 => Wp.idx ix (Wp.idx iy (Wp.leti (fun D23 e23 => Wp.idx ix (Wp.idx iy (Wp.leti (fun D24 e24 => Wp.idx ix (Wp.idx iy (Wp.leti (fun D25 e25 => ?_))))))))))))
          have g25 : ∀ c, c < 16 ∨ 23 ≤ c → D25.1 c = D'.1 c := fun c hc => by
            funext z
            have a16 : c ≠ 16 := by omega
            have a20 : c ≠ 20 := by omega
            have a21 : c ≠ 21 := by omega
            have a22 : c ≠ 22 := by omega
            rw [e25, e24, e23, e22]
            simp [aSI, a16, a20, a21, a22]
          have s25 : ∀ i, D25.1 16 i = if i = (x4 + x).toNatClampNeg then D'.1 23 x.toNatClampNeg else D'.1 16 i := fun i => by
            rw [e25, e24, e23, e22]
            simp [aSI]
          have t23 : (D'.1 23 x.toNatClampNeg).toInt ≤ 4 := t' _ (by omega)
          refine Wp.letQ (fun Q j => ∀ D26, (∀ c, c < 17 ∨ 20 ≤ c → D26.1 c = D25.1 c) → Wp (j D26) Q) (fun D26 f26 => Wp.lets (hg _ _ ⟨⟨by omega, by omega, by omega⟩, fun c hc => by rw [f26 c (by omega), g25 c hc, i3 c hc], fun i hi => ?_, fun i hi => ?_⟩)) (fun j K => Wp.lets ?_)
          · rw [f26 16 (by omega), s25, if_neg (by omega), i4 i hi]
          · rw [f26 16 (by omega), s25]
            split
            · exact t23
            · exact i5 i hi
          · refine Wp.fix1 (fun n y D' => (0 ≤ y.toInt ∧ y.toInt ≤ 4 ∧ 4 - y.toInt < (n : Int)) ∧ (∀ c, c < 17 ∨ 20 ≤ c → D'.1 c = D25.1 c)) ?_ ?_ aFuel 1000000 _ _ (Nat.le_refl _) ⟨⟨by decide, by decide, by decide⟩, fun _ _ => rfl⟩
            · intro n g2 hg2 y D27 hI
              obtain ⟨⟨y0, y1, y2⟩, y3⟩ := hI
              unfold lX11_text_242
              have e23' : D27.1 23 = D'.1 23 := by rw [y3 23 (by omega), g25 23 (by omega)]
              rw [e23']
              refine Wp.idx ix (Wp.ile (fun _ => K _ y3) (fun hy => ?_))
              have y4 : (y + 1).toInt = y.toInt + 1 := ti_add rfl ti_1 (by omega) (by omega)
              have a1 : ((4 : Int32) * x).toInt = 4 * x.toInt := ti_mul (by decide) rfl (by omega) (by omega)
              have a2 : ((4 : Int32) * x + y).toInt = 4 * x.toInt + y.toInt := ti_add a1 rfl (by omega) (by omega)
              have a3 : ((4 : Int32) * (x4 + x)).toInt = 4 * (x4.toInt + x.toInt) := ti_mul (by decide) e4 (by omega) (by omega)
              have a4 : ((4 : Int32) * (x4 + x) + y).toInt = 4 * (x4.toInt + x.toInt) + y.toInt := ti_add a3 rfl (by omega) (by omega)
              have ip : vp_in ((4 : Int32) * x + y) 64 := i_in (by omega) (by omega)
              have iq : vp_in ((4 : Int32) * (x4 + x) + y) 512 := i_in (by omega) (by omega)
              refine Wp.idx ip (Wp.idx iq (Wp.leti (fun D28 e28 => Wp.idx ip (Wp.idx iq (Wp.leti (fun D29 e29 => Wp.idx ip (Wp.idx iq (Wp.leti (fun D30 e30 => Wp.lets (hg2 _ _ ⟨⟨by omega, by omega, by omega⟩, fun c hc => ?_⟩))))))))))
              rw [← y3 c hc]
              funext z
              have b17 : c ≠ 17 := by omega
              have b18 : c ≠ 18 := by omega
              have b19 : c ≠ 19 := by omega
              rw [e30, e29, e28]
              simp [aSI, b17, b18, b19]
            · intro y D' hI
              obtain ⟨⟨y0, y1, y2⟩, -⟩ := hI
              omega
      · intro x D' hI
        obtain ⟨⟨y0, y1, y2⟩, -⟩ := hI
        omega
  · refine Wp.fix1 (fun n x D' => 0 < n ∧ (∀ c, (1 ≤ c ∧ c ≤ 22) ∨ 30 ≤ c → D'.1 c = D9.1 c) ∧ (RM D' ∧ TM D') ∧ (x ≠ 0 → mzF D' + 1 < (n : Int) ∧ 0 ≤ (D'.1 0 32).toInt ∧ (D'.1 0 32).toInt + mzF D' ≤ 501 ∧ 0 ≤ (D'.1 0 30).toInt ∧ (16 < (D'.1 0 32).toInt → 0 < (D'.1 0 30).toInt))) ?_ ?_ aFuel 1000000 _ _ (Nat.le_refl _) ⟨by decide, p10.1, p10.2.2.1, fun _ => ⟨by omega, by rw [v32']; decide, by rw [v32', ti_0]; omega, by rw [v30']; decide, by rw [v32', ti_0]; omega⟩⟩
    · intro n g hg x D' hI
      obtain ⟨i0, i1, i2, i3⟩ := hI
      unfold lX11_text_62
      refine Wp.ite (fun hx => K82 _ _ i1 i2.2 (fun q => absurd hx q)) (fun hx => Wp.ite (fun _ => K82 _ _ i1 i2.2 (fun q => ⟨(i3 q).2.1, (i3 q).2.2.2.2⟩)) (fun _ => ?_))
      obtain ⟨j1, j2, j3, j4, j5⟩ := i3 hx
      have z' := mz_0 i2.1
      refine Wp.bind (tM_oneLine i2.1 i2.2 j2) (fun x11 D32 q => hg _ _ ?_)
      obtain ⟨q1, q2, q3⟩ := q
      have z2 := mz_0 q2.1
      refine ⟨by omega, fun c hc => by rw [q1 c hc, i1 c hc], q2, fun hy => ?_⟩
      obtain ⟨a1, a2, a3, a4, a5⟩ := q3 hy
      have e1 : (D32.1 0 32).toInt = (D'.1 0 32).toInt + 1 := by rw [a1]; exact ti_add rfl ti_1 (by omega) (by omega)
      refine ⟨by omega, by omega, by omega, a3 j4, fun q => ?_⟩
      by_cases e : (D'.1 0 32).toInt = 16
      · exact a5 e j4
      · exact a4 (j5 (by omega))
    · intro x D' hI
      have := hI.1
      omega
end MY
