/-! the class's book keeps step with the reference's -/
section B2s
variable {D D1 : ADD} {M M1 : Sl}
theorem dv_td (h : BW M) : (M 7 0 = -1 ∨ (M 6 0).toInt ≤ (M 7 0).toInt) ↔ (M 6 0).toInt ≤ (dvF M).toInt := by
  unfold dvF
  by_cases e : M 7 0 = -1
  · rw [if_pos e]
    exact ⟨fun _ => Int.le_refl _, fun _ => Or.inl e⟩
  · rw [if_neg e]
    exact ⟨fun q => q.resolve_left e, fun q => Or.inr q⟩
theorem dv_le (h : BW M) : (dvF M).toInt ≤ (M 6 0).toInt := by
  unfold dvF
  split
  · exact Int.le_refl _
  · rename_i e
    exact (h.1.2.2.2.resolve_left e).2
theorem RBk.tell {s f v : Int32} (h : RBk (xc D) M) (w : WrX D D1 s f v) (u : WrS M M1 s f v) (bw : BW M1) (he : (M 8 0).toInt < 400) (hs : 0 ≤ s.toInt ∧ s.toInt < (M 5 0).toInt) (hf : 0 ≤ f.toInt ∧ f.toInt < 11) : RBk (xc D1) M1 := by
  obtain ⟨⟨a1, a2, a3, a4⟩, b, c, w0, s0, t0, u0, v0⟩ := h
  have a1 : D.1 2 8 = M 5 0 := a1
  have a2 : D.1 2 10 = M 8 0 := a2
  have a3 : D.1 2 11 = M 6 0 := a3
  have a4 : D.1 2 12 = M 7 0 := a4
  have b : ∀ k, k < 400 → D.1 7 k = eD M k ∧ D.1 8 k = eS M k ∧ D.1 9 k = eF M k ∧ D.1 10 k = eV M k := b
  have s0 : 0 ≤ (D.1 2 9).toInt ∧ (D.1 2 9).toInt ≤ (M 5 0).toInt := s0
  have t0 : ∀ s : Nat, s < nS M → ((s : Int) < (D.1 2 9).toInt ↔ (lD M s).toInt ≤ (dvF M).toInt) := t0
  have u0 : ∀ s f : Nat, s < nS M → f < 11 → D.1 3 (11 * s + f) = fct M (M 6 0) s f := u0
  have v0 : ∀ s f : Nat, (s : Int) < (D.1 2 9).toInt → f < 11 → D.1 4 (11 * s + f) = fct M (dvF M) s f := v0
  obtain ⟨w1, w2, w3, w4, w5, w6, w7, w8, w9, w10, w11⟩ := w
  have m8 : 0 ≤ (M 8 0).toInt ∧ (M 8 0).toInt < 400 := ⟨w0.1.1.1, he⟩
  have fn : f ≠ -1 := fun e => by
    have := hf.1
    rw [e, ti_m1] at this
    omega
  have c5 : M1 5 = M 5 := u.1 5 (by decide) (by decide)
  have c6 : M1 6 = M 6 := u.1 6 (by decide) (by decide)
  have c7 : M1 7 = M 7 := u.1 7 (by decide) (by decide)
  have c10 : M1 10 = M 10 := u.1 10 (by decide) (by decide)
  have dv : dvF M1 = dvF M := by unfold dvF; rw [c6, c7]
  have ns : nS M1 = nS M := by show (M1 5 0).toNatClampNeg = _; rw [c5]
  have e9 : D1.1 2 9 = D.1 2 9 := by rw [w5, if_neg (fun q => fn q.2)]
  have sn : seenX D ↔ (M 6 0).toInt ≤ (dvF M).toInt := by
    unfold seenX
    rw [a3, a4]
    exact dv_td w0
  have es := cl_i hs.1
  have ef := cl_i hf.1
  have e5 : ((nS M : Nat) : Int) = (M 5 0).toInt := cl_i w0.1.2.1.1
  have vs : s = nI s.toNatClampNeg := nI_val hs.1
  have vf : f = nI f.toNatClampNeg := nI_val hf.1
  have h32 := w0.1.2.1.2
  -- one place
  have pl : ∀ i j : Nat, i < 1000 → j < 11 → (11 * i + j = 11 * s.toNatClampNeg + f.toNatClampNeg ↔ s = nI i ∧ (f = nI j ∨ (f = -1 ∧ j = 0))) := fun i j hi hj => by
    constructor
    · intro q
      have q1 : i = s.toNatClampNeg := by omega
      have q2 : j = f.toNatClampNeg := by omega
      rw [q1, q2]
      exact ⟨vs, Or.inl vf⟩
    · rintro ⟨q1, q2⟩
      have q2 := q2.resolve_right (fun q => fn q.1)
      rw [q1, nI_clamp (by omega), q2, nI_clamp (by omega)]
  refine ⟨⟨?_, ?_, ?_, ?_⟩, fun k hk => ?_, fun i hi => ?_, bw, ?_, fun i hi => ?_, fun i j hi hj => ?_, fun i j hi hj => ?_⟩
  · show D1.1 2 8 = _
    rw [w3 8 (by decide) (by decide), c5]
    exact a1
  · show D1.1 2 10 = _
    rw [w4, u.2.1, a2]
  · show D1.1 2 11 = _
    rw [w3 11 (by decide) (by decide), c6]
    exact a3
  · show D1.1 2 12 = _
    rw [w3 12 (by decide) (by decide), c7]
    exact a4
  · show D1.1 7 k = _ ∧ D1.1 8 k = _ ∧ D1.1 9 k = _ ∧ D1.1 10 k = _
    rw [w6, w7, w8, w9, a2, a3]
    by_cases e : k = nE M
    · obtain ⟨q1, q2, q3, q4⟩ := u.new
      rw [if_pos e, if_pos e, if_pos e, if_pos e, e, q1, q2, q3, q4]
      exact ⟨rfl, rfl, rfl, rfl⟩
    · obtain ⟨q1, q2, q3, q4⟩ := u.old e
      rw [if_neg e, if_neg e, if_neg e, if_neg e, q1, q2, q3, q4]
      exact b k hk
  · show D1.1 5 i = _ ∧ D1.1 6 i = _
    rw [w1 5 (by decide) (by decide) (by decide) (by decide) (by decide) (by decide) (by decide), w1 6 (by decide) (by decide) (by decide) (by decide) (by decide) (by decide) (by decide), c10]
    exact c i hi
  · show 0 ≤ (D1.1 2 9).toInt ∧ (D1.1 2 9).toInt ≤ (M1 5 0).toInt
    rw [e9, c5]
    exact s0
  · show (i : Int) < (D1.1 2 9).toInt ↔ (M1 10 (3 * i)).toInt ≤ _
    rw [e9, dv, c10]
    exact t0 i (by rw [← ns]; exact hi)
  · rw [ns] at hi
    show D1.1 3 (11 * i + j) = _
    rw [w10, apF_1 hf, u.fcN m8, c6]
    by_cases e : 11 * i + j = 11 * s.toNatClampNeg + f.toNatClampNeg
    · obtain ⟨q1, q2⟩ := (pl i j (by omega) hj).mp e
      rw [if_pos e, if_pos ⟨q1, Int.le_refl _, q2⟩]
    · rw [if_neg e, if_neg (fun q => e ((pl i j (by omega) hj).mpr ⟨q.1, q.2.2⟩))]
      exact u0 i j hi hj
  · have hi : (i : Int) < (D1.1 2 9).toInt := hi
    rw [e9] at hi
    show D1.1 4 (11 * i + j) = _
    rw [w11, dv, u.fcN m8]
    by_cases hsn : seenX D
    · rw [if_pos hsn, apF_1 hf]
      by_cases e : 11 * i + j = 11 * s.toNatClampNeg + f.toNatClampNeg
      · obtain ⟨q1, q2⟩ := (pl i j (by omega) hj).mp e
        rw [if_pos e, if_pos ⟨q1, sn.mp hsn, q2⟩]
      · rw [if_neg e, if_neg (fun q => e ((pl i j (by omega) hj).mpr ⟨q.1, q.2.2⟩))]
        exact v0 i j hi hj
    · rw [if_neg hsn, if_neg (fun q => hsn (sn.mpr q.2.1))]
      exact v0 i j hi hj
theorem RBk.stone {w st tw : Int32} (h : RBk (xc D) M) (l : LsX D D1 w st tw) (u : LsS M M1 w st tw) (bw : BW M1) (he : (M 8 0).toInt < 400) (hs : (M 5 0).toInt < 32) : RBk (xc D1) M1 := by
  obtain ⟨⟨a1, a2, a3, a4⟩, b, c, w0, s0, t0, u0, v0⟩ := h
  have a1 : D.1 2 8 = M 5 0 := a1
  have a2 : D.1 2 10 = M 8 0 := a2
  have a3 : D.1 2 11 = M 6 0 := a3
  have a4 : D.1 2 12 = M 7 0 := a4
  have b : ∀ k, k < 400 → D.1 7 k = eD M k ∧ D.1 8 k = eS M k ∧ D.1 9 k = eF M k ∧ D.1 10 k = eV M k := b
  have c : ∀ s, s < 32 → D.1 5 s = M 10 (3 * s + 1) ∧ D.1 6 s = M 10 (3 * s + 2) := c
  have s0 : 0 ≤ (D.1 2 9).toInt ∧ (D.1 2 9).toInt ≤ (M 5 0).toInt := s0
  have t0 : ∀ s : Nat, s < nS M → ((s : Int) < (D.1 2 9).toInt ↔ (lD M s).toInt ≤ (dvF M).toInt) := t0
  have u0 : ∀ s f : Nat, s < nS M → f < 11 → D.1 3 (11 * s + f) = fct M (M 6 0) s f := u0
  have v0 : ∀ s f : Nat, (s : Int) < (D.1 2 9).toInt → f < 11 → D.1 4 (11 * s + f) = fct M (dvF M) s f := v0
  obtain ⟨D7, k1, k2, k3, k4, k5, w1, w2, w3, w4, w5, w6, w7, w8, w9, w10, w11⟩ := l
  obtain ⟨p1, ⟨p2, p3, nv⟩, ⟨p4, p5, p6⟩, p7, p8, ⟨p9, p10, p11, p12⟩, p13, p14⟩ := u.all w0 he hs
  have d2 : ∀ i, i ≠ 8 → D7.1 2 i = D.1 2 i := fun i hi => by rw [k3 i, if_neg hi]
  have c6 : M1 6 = M 6 := p1 6 (by decide) (by decide) (by decide) (by decide)
  have c7 : M1 7 = M 7 := p1 7 (by decide) (by decide) (by decide) (by decide)
  have dv : dvF M1 = dvF M := by unfold dvF; rw [c6, c7]
  have h5 := w0.1.2.1
  have en : ((nS M : Nat) : Int) = (M 5 0).toInt := cl_i h5.1
  have e58 : (D.1 2 8).toNatClampNeg = nS M := by rw [a1]
  have sn : seenX D7 ↔ (M 6 0).toInt ≤ (dvF M).toInt := by
    unfold seenX
    rw [d2 12 (by decide), d2 11 (by decide), a3, a4]
    exact dv_td w0
  have s51 : (D.1 2 8 + 1).toInt = (M 5 0).toInt + 1 := by rw [a1]; exact ti_add rfl ti_1 (by omega) (by omega)
  have e9 : D1.1 2 9 = if (M 6 0).toInt ≤ (dvF M).toInt then D.1 2 8 + 1 else D.1 2 9 := by
    rw [w5, d2 9 (by decide)]
    by_cases q : seenX D7
    · rw [if_pos ⟨q, rfl⟩, if_pos (sn.mp q)]
    · rw [if_neg (fun z => q z.1), if_neg (fun z => q (sn.mpr z))]
  have st5 : D7.1 5 (D.1 2 8).toNatClampNeg = st := by rw [k4, if_pos rfl]
  have tw6 : D7.1 6 (D.1 2 8).toNatClampNeg = tw := by rw [k5, if_pos rfl]
  have lo : ∀ i, i < nS M → lD M1 i = lD M i := fun i hi => by
    show M1 10 _ = M 10 _
    rw [p7, if_neg (by omega), if_neg (by omega), if_neg (by omega)]
  have ln : lD M1 (nS M) = M 6 0 := by
    show M1 10 _ = _
    rw [p7, if_pos rfl]
  have w0' := w0
  obtain ⟨-, -, -, h7, -⟩ := w0'
  have dle := dv_le w0
  refine ⟨⟨?_, ?_, ?_, ?_⟩, fun k hk => ?_, fun i hi => ?_, bw, ?_, fun i hi => ?_, fun i j hi hj => ?_, fun i j hi hj => ?_⟩
  · show D1.1 2 8 = _
    refine ti_eq ?_
    rw [w3 8 (by decide) (by decide), k3 8, if_pos rfl, p3]
    exact s51
  · show D1.1 2 10 = _
    rw [w4, d2 10 (by decide), p5, a2]
  · show D1.1 2 11 = _
    rw [w3 11 (by decide) (by decide), d2 11 (by decide), c6]
    exact a3
  · show D1.1 2 12 = _
    rw [w3 12 (by decide) (by decide), d2 12 (by decide), c7]
    exact a4
  · show D1.1 7 k = _ ∧ D1.1 8 k = _ ∧ D1.1 9 k = _ ∧ D1.1 10 k = _
    rw [w6, w7, w8, w9, d2 10 (by decide), d2 11 (by decide), a2, a3]
    by_cases e : k = nE M
    · rw [if_pos e, if_pos e, if_pos e, if_pos e, e, p9, p10, p11, p12]
      exact ⟨rfl, a1, rfl, rfl⟩
    · obtain ⟨q1, q2, q3, q4⟩ := p8 k e
      rw [if_neg e, if_neg e, if_neg e, if_neg e, q1, q2, q3, q4, k1 7 (by decide) (by decide) (by decide), k1 8 (by decide) (by decide) (by decide), k1 9 (by decide) (by decide) (by decide), k1 10 (by decide) (by decide) (by decide)]
      exact b k hk
  · show D1.1 5 i = _ ∧ D1.1 6 i = _
    rw [w1 5 (by decide) (by decide) (by decide) (by decide) (by decide) (by decide) (by decide), w1 6 (by decide) (by decide) (by decide) (by decide) (by decide) (by decide) (by decide), k4, k5, e58, p7, p7]
    by_cases e : i = nS M
    · rw [if_pos e, if_pos e, if_neg (by omega), if_pos (by omega), if_neg (by omega), if_neg (by omega), if_pos (by omega)]
      exact ⟨rfl, rfl⟩
    · rw [if_neg e, if_neg e, if_neg (by omega), if_neg (by omega), if_neg (by omega), if_neg (by omega), if_neg (by omega), if_neg (by omega)]
      exact c i hi
  · show 0 ≤ (D1.1 2 9).toInt ∧ (D1.1 2 9).toInt ≤ (M1 5 0).toInt
    rw [e9]
    split <;> omega
  · show (i : Int) < (D1.1 2 9).toInt ↔ _
    rw [e9, dv]
    by_cases e : i = nS M
    · rw [e, ln]
      by_cases q : (M 6 0).toInt ≤ (dvF M).toInt
      · rw [if_pos q, s51]
        exact ⟨fun _ => q, fun _ => by omega⟩
      · rw [if_neg q]
        exact ⟨fun z => by omega, fun z => absurd z q⟩
    · have hi2 : i < nS M := by omega
      rw [lo i hi2]
      by_cases q : (M 6 0).toInt ≤ (dvF M).toInt
      · rw [if_pos q, s51]
        have := h7 i hi2
        exact ⟨fun _ => by omega, fun _ => by omega⟩
      · rw [if_neg q]
        exact t0 i hi2
  · show D1.1 3 (11 * i + j) = _
    rw [w10, apF_2 (Or.inl (by decide)), st5, tw6, e58, c6, k1 3 (by decide) (by decide) (by decide)]
    by_cases e : i = nS M
    · rw [if_pos (by omega), e, p14 _ j (Int.le_refl _) hj]
      congr 1
      omega
    · rw [if_neg (by omega), p13 _ i j (by omega)]
      exact u0 i j (by omega) hj
  · have hi : (i : Int) < (D1.1 2 9).toInt := hi
    rw [e9] at hi
    show D1.1 4 (11 * i + j) = _
    rw [w11, dv, k1 4 (by decide) (by decide) (by decide)]
    by_cases q : seenX D7
    · have q2 := sn.mp q
      rw [if_pos q2, s51] at hi
      rw [if_pos q, apF_2 (Or.inl (by decide)), st5, tw6, e58]
      by_cases e : i = nS M
      · rw [if_pos (by omega), e, p14 _ j q2 hj]
        congr 1
        omega
      · have hi2 : i < nS M := by omega
        rw [if_neg (by omega), p13 _ i j hi2]
        refine v0 i j ((t0 i hi2).mpr ?_) hj
        have := h7 i hi2
        omega
    · have q2 : ¬ (M 6 0).toInt ≤ (dvF M).toInt := fun z => q (sn.mpr z)
      rw [if_neg q2] at hi
      have hi2 : i < nS M := by omega
      rw [if_neg q, p13 _ i j hi2]
      exact v0 i j hi hj
end B2s
