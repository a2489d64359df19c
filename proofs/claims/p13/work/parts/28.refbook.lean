/-! the reference: entries, copies -/
def szM (c : Nat) : Nat := ([0, 500, 1, 1, 1, 1, 1, 1, 1, 1600, 96, 1, 1, 2, 1, 2, 32, 128, 128, 128, 32, 32, 32] : List Nat).getD c 0
theorem tM_move {r n N P T : Nat} {a1 a2 a3 : Int32} {D : ADD} (h1 : a1.toInt = N) (h2 : (a1 * a2).toInt = P) (h3 : (a1 * a3).toInt = T) (hP : P + N ≤ n) (hT : T + N ≤ n) (hn : n ≤ 100000) (hd : P + N ≤ T ∨ T + N ≤ P) : Wp (fX11_move r n a1 a2 a3 D) (fun _ D1 => (∀ c, c ≠ r → D1.1 c = D.1 c) ∧ D1.2 = D.2 ∧ ∀ j, D1.1 r j = if T ≤ j ∧ j < T + N then D.1 r (j - T + P) else D.1 r j) := by
  unfold fX11_move
  refine Wp.lets (Wp.lets ?_)
  refine Wp.fix1 (fun n x D' => (0 ≤ x.toInt ∧ x.toInt ≤ (N : Int) ∧ (N : Int) - x.toInt < (n : Int)) ∧ (∀ c, c ≠ r → D'.1 c = D.1 c) ∧ D'.2 = D.2 ∧ ∀ j : Nat, D'.1 r j = if T ≤ j ∧ (j : Int) < T + x.toInt then D.1 r (j - T + P) else D.1 r j) ?_ ?_ aFuel 1000000 _ _ (Nat.le_refl _) ⟨⟨by decide, by rw [ti_0]; omega, by rw [ti_0]; omega⟩, fun _ _ => rfl, rfl, fun j => by rw [ti_0, if_neg (by omega)]⟩
  · intro m g hg x D' hI
    obtain ⟨⟨i0, i1, i2⟩, i3, i4, i5⟩ := hI
    unfold lX11_move_3
    refine Wp.ile (fun h => ?_) (fun h => ?_)
    · refine Wp.ret ⟨i3, i4, fun j => ?_⟩
      rw [i5]
      have hx : x.toInt = N := by omega
      by_cases hj : T ≤ j ∧ j < T + N
      · rw [if_pos hj, if_pos ⟨hj.1, by omega⟩]
      · rw [if_neg hj, if_neg (by omega)]
    · obtain ⟨c1, c2⟩ := cl_add1 (x := x) (by omega) (by omega)
      have ex := cl_i i0
      have e2 : (a1 * a2 + x).toInt = P + x.toInt := ti_add h2 rfl (by omega) (by omega)
      have e3 : (a1 * a3 + x).toInt = T + x.toInt := ti_add h3 rfl (by omega) (by omega)
      have w2 : (a1 * a2 + x).toNatClampNeg = P + x.toNatClampNeg := cl_of (by omega)
      have w3 : (a1 * a3 + x).toNatClampNeg = T + x.toNatClampNeg := cl_of (by omega)
      refine Wp.idx (i_in (by omega) (by omega)) (Wp.idx (i_in (by omega) (by omega)) (Wp.lets (Wp.lets (hg _ _ ⟨⟨by omega, by omega, by omega⟩, fun c hc => ?_, i4, fun j => ?_⟩))))
      · funext z
        simp [aSI, hc, i3 c hc]
      · rw [w2, w3]
        simp only [aSI, true_and]
        by_cases hj : j = T + x.toNatClampNeg
        · rw [if_pos hj, if_pos ⟨by omega, by omega⟩, i5, if_neg (by omega), show P + x.toNatClampNeg = j - T + P by omega]
        · rw [if_neg hj, i5]
          by_cases hj2 : T ≤ j ∧ (j : Int) < T + x.toInt
          · rw [if_pos hj2, if_pos ⟨by omega, by omega⟩]
          · rw [if_neg hj2, if_neg (by omega)]
  · intro x D' hI
    obtain ⟨⟨i0, i1, i2⟩, -⟩ := hI
    omega
/-- cells 2 .. m - 1 are copied, tape too -/
def CpT (D D1 : ADD) (f t m : Nat) : Prop := (∀ c, (c = 0 ∨ m ≤ c) → D1.1 c = D.1 c) ∧ D1.2 = D.2 ∧ (∀ j, D1.1 1 j = if 500 * t ≤ j ∧ j < 500 * t + 500 then aB (D.1 1 (j - 500 * t + 500 * f)) else D.1 1 j) ∧ ∀ c, 2 ≤ c → c < m → ∀ j, D1.1 c j = if szM c * t ≤ j ∧ j < szM c * t + szM c then D.1 c (j - szM c * t + szM c * f) else D.1 c j
theorem CpT.step {D D1 D2 : ADD} {f t m : Nat} (h : CpT D D1 f t m) (hm : 2 ≤ m) (q : (∀ c, c ≠ m → D2.1 c = D1.1 c) ∧ D2.2 = D1.2 ∧ ∀ j, D2.1 m j = if szM m * t ≤ j ∧ j < szM m * t + szM m then D1.1 m (j - szM m * t + szM m * f) else D1.1 m j) : CpT D D2 f t (m + 1) := by
  obtain ⟨h1, h2, h3, h4⟩ := h
  obtain ⟨q1, q2, q3⟩ := q
  refine ⟨fun c hc => ?_, by rw [q2, h2], fun j => ?_, fun c c2 cm j => ?_⟩
  · rw [q1 c (by omega), h1 c (by omega)]
  · rw [q1 1 (by omega), h3]
  · by_cases hc : c = m
    · subst hc
      rw [q3, h1 c (Or.inr (Nat.le_refl _))]
    · rw [q1 c hc]
      exact h4 c c2 (by omega) j
set_option maxHeartbeats 2000000 in
theorem tM_copy {a1 a2 : Int32} {f t : Nat} {D : ADD} (h1 : a1.toInt = f) (h2 : a2.toInt = t) (hf : f < 4) (ht : t < 4) (hd : f ≠ t) : Wp (fX11_copy a1 a2 D) (fun _ D1 => CpT D D1 f t 23) := by
  unfold fX11_copy
  refine Wp.lets (Wp.lets ?_)
  have e5 : (500 : Int32).toInt = 500 := by decide
  have m1 : ((500 : Int32) * a1).toInt = 500 * f := ti_mul e5 h1 (by omega) (by omega)
  have m2 : ((500 : Int32) * a2).toInt = 500 * t := ti_mul e5 h2 (by omega) (by omega)
  refine Wp.fix1 (fun n x D' => (0 ≤ x.toInt ∧ x.toInt ≤ 500 ∧ 500 - x.toInt < (n : Int)) ∧ (∀ c, c ≠ 1 → D'.1 c = D.1 c) ∧ D'.2 = D.2 ∧ ∀ j : Nat, D'.1 1 j = if 500 * t ≤ j ∧ (j : Int) < 500 * t + x.toInt then aB (D.1 1 (j - 500 * t + 500 * f)) else D.1 1 j) ?_ ?_ aFuel 1000000 _ _ (Nat.le_refl _) ⟨⟨by decide, by decide, by decide⟩, fun _ _ => rfl, rfl, fun j => by rw [ti_0, if_neg (by omega)]⟩
  · intro m g hg x D' hI
    obtain ⟨⟨i0, i1, i2⟩, i3, i4, i5⟩ := hI
    unfold lX11_copy_2
    refine Wp.ile (fun h => ?_) (fun h => ?_)
    · have K2 : CpT D D' f t 2 := by
        refine ⟨fun c hc => i3 c (by omega), i4, fun j => ?_, fun c c2 cm => by omega⟩
        rw [i5]
        by_cases hj : 500 * t ≤ j ∧ j < 500 * t + 500
        · rw [if_pos hj, if_pos ⟨hj.1, by omega⟩]
        · rw [if_neg hj, if_neg (by omega)]
      clear hg i5

      refine Wp.bind (tM_move (N := 1) (P := 1 * f) (T := 1 * t) (show (1 : Int32).toInt = ((1 : Nat) : Int) by decide) (ti_mul (p := 1) (by decide) h1 (by omega) (by omega)) (ti_mul (p := 1) (by decide) h2 (by omega) (by omega)) (by omega) (by omega) (by omega) (by omega)) (fun _ E2 q => ?_)
      have K3 : CpT D E2 f t 3 := CpT.step K2 (by decide) q
      clear q K2
      refine Wp.bind (tM_move (N := 1) (P := 1 * f) (T := 1 * t) (show (1 : Int32).toInt = ((1 : Nat) : Int) by decide) (ti_mul (p := 1) (by decide) h1 (by omega) (by omega)) (ti_mul (p := 1) (by decide) h2 (by omega) (by omega)) (by omega) (by omega) (by omega) (by omega)) (fun _ E3 q => ?_)
      have K4 : CpT D E3 f t 4 := CpT.step K3 (by decide) q
      clear q K3
      refine Wp.bind (tM_move (N := 1) (P := 1 * f) (T := 1 * t) (show (1 : Int32).toInt = ((1 : Nat) : Int) by decide) (ti_mul (p := 1) (by decide) h1 (by omega) (by omega)) (ti_mul (p := 1) (by decide) h2 (by omega) (by omega)) (by omega) (by omega) (by omega) (by omega)) (fun _ E4 q => ?_)
      have K5 : CpT D E4 f t 5 := CpT.step K4 (by decide) q
      clear q K4
      refine Wp.bind (tM_move (N := 1) (P := 1 * f) (T := 1 * t) (show (1 : Int32).toInt = ((1 : Nat) : Int) by decide) (ti_mul (p := 1) (by decide) h1 (by omega) (by omega)) (ti_mul (p := 1) (by decide) h2 (by omega) (by omega)) (by omega) (by omega) (by omega) (by omega)) (fun _ E5 q => ?_)
      have K6 : CpT D E5 f t 6 := CpT.step K5 (by decide) q
      clear q K5
      refine Wp.bind (tM_move (N := 1) (P := 1 * f) (T := 1 * t) (show (1 : Int32).toInt = ((1 : Nat) : Int) by decide) (ti_mul (p := 1) (by decide) h1 (by omega) (by omega)) (ti_mul (p := 1) (by decide) h2 (by omega) (by omega)) (by omega) (by omega) (by omega) (by omega)) (fun _ E6 q => ?_)
      have K7 : CpT D E6 f t 7 := CpT.step K6 (by decide) q
      clear q K6
      refine Wp.bind (tM_move (N := 1) (P := 1 * f) (T := 1 * t) (show (1 : Int32).toInt = ((1 : Nat) : Int) by decide) (ti_mul (p := 1) (by decide) h1 (by omega) (by omega)) (ti_mul (p := 1) (by decide) h2 (by omega) (by omega)) (by omega) (by omega) (by omega) (by omega)) (fun _ E7 q => ?_)
      have K8 : CpT D E7 f t 8 := CpT.step K7 (by decide) q
      clear q K7
      refine Wp.bind (tM_move (N := 1) (P := 1 * f) (T := 1 * t) (show (1 : Int32).toInt = ((1 : Nat) : Int) by decide) (ti_mul (p := 1) (by decide) h1 (by omega) (by omega)) (ti_mul (p := 1) (by decide) h2 (by omega) (by omega)) (by omega) (by omega) (by omega) (by omega)) (fun _ E8 q => ?_)
      have K9 : CpT D E8 f t 9 := CpT.step K8 (by decide) q
      clear q K8
      refine Wp.bind (tM_move (N := 1600) (P := 1600 * f) (T := 1600 * t) (show (1600 : Int32).toInt = ((1600 : Nat) : Int) by decide) (ti_mul (p := 1600) (by decide) h1 (by omega) (by omega)) (ti_mul (p := 1600) (by decide) h2 (by omega) (by omega)) (by omega) (by omega) (by omega) (by omega)) (fun _ E9 q => ?_)
      have K10 : CpT D E9 f t 10 := CpT.step K9 (by decide) q
      clear q K9
      refine Wp.bind (tM_move (N := 96) (P := 96 * f) (T := 96 * t) (show (96 : Int32).toInt = ((96 : Nat) : Int) by decide) (ti_mul (p := 96) (by decide) h1 (by omega) (by omega)) (ti_mul (p := 96) (by decide) h2 (by omega) (by omega)) (by omega) (by omega) (by omega) (by omega)) (fun _ E10 q => ?_)
      have K11 : CpT D E10 f t 11 := CpT.step K10 (by decide) q
      clear q K10
      refine Wp.bind (tM_move (N := 1) (P := 1 * f) (T := 1 * t) (show (1 : Int32).toInt = ((1 : Nat) : Int) by decide) (ti_mul (p := 1) (by decide) h1 (by omega) (by omega)) (ti_mul (p := 1) (by decide) h2 (by omega) (by omega)) (by omega) (by omega) (by omega) (by omega)) (fun _ E11 q => ?_)
      have K12 : CpT D E11 f t 12 := CpT.step K11 (by decide) q
      clear q K11
      refine Wp.bind (tM_move (N := 1) (P := 1 * f) (T := 1 * t) (show (1 : Int32).toInt = ((1 : Nat) : Int) by decide) (ti_mul (p := 1) (by decide) h1 (by omega) (by omega)) (ti_mul (p := 1) (by decide) h2 (by omega) (by omega)) (by omega) (by omega) (by omega) (by omega)) (fun _ E12 q => ?_)
      have K13 : CpT D E12 f t 13 := CpT.step K12 (by decide) q
      clear q K12
      refine Wp.bind (tM_move (N := 2) (P := 2 * f) (T := 2 * t) (show (2 : Int32).toInt = ((2 : Nat) : Int) by decide) (ti_mul (p := 2) (by decide) h1 (by omega) (by omega)) (ti_mul (p := 2) (by decide) h2 (by omega) (by omega)) (by omega) (by omega) (by omega) (by omega)) (fun _ E13 q => ?_)
      have K14 : CpT D E13 f t 14 := CpT.step K13 (by decide) q
      clear q K13
      refine Wp.bind (tM_move (N := 1) (P := 1 * f) (T := 1 * t) (show (1 : Int32).toInt = ((1 : Nat) : Int) by decide) (ti_mul (p := 1) (by decide) h1 (by omega) (by omega)) (ti_mul (p := 1) (by decide) h2 (by omega) (by omega)) (by omega) (by omega) (by omega) (by omega)) (fun _ E14 q => ?_)
      have K15 : CpT D E14 f t 15 := CpT.step K14 (by decide) q
      clear q K14
      refine Wp.bind (tM_move (N := 2) (P := 2 * f) (T := 2 * t) (show (2 : Int32).toInt = ((2 : Nat) : Int) by decide) (ti_mul (p := 2) (by decide) h1 (by omega) (by omega)) (ti_mul (p := 2) (by decide) h2 (by omega) (by omega)) (by omega) (by omega) (by omega) (by omega)) (fun _ E15 q => ?_)
      have K16 : CpT D E15 f t 16 := CpT.step K15 (by decide) q
      clear q K15
      refine Wp.bind (tM_move (N := 32) (P := 32 * f) (T := 32 * t) (show (32 : Int32).toInt = ((32 : Nat) : Int) by decide) (ti_mul (p := 32) (by decide) h1 (by omega) (by omega)) (ti_mul (p := 32) (by decide) h2 (by omega) (by omega)) (by omega) (by omega) (by omega) (by omega)) (fun _ E16 q => ?_)
      have K17 : CpT D E16 f t 17 := CpT.step K16 (by decide) q
      clear q K16
      refine Wp.bind (tM_move (N := 128) (P := 128 * f) (T := 128 * t) (show (128 : Int32).toInt = ((128 : Nat) : Int) by decide) (ti_mul (p := 128) (by decide) h1 (by omega) (by omega)) (ti_mul (p := 128) (by decide) h2 (by omega) (by omega)) (by omega) (by omega) (by omega) (by omega)) (fun _ E17 q => ?_)
      have K18 : CpT D E17 f t 18 := CpT.step K17 (by decide) q
      clear q K17
      refine Wp.bind (tM_move (N := 128) (P := 128 * f) (T := 128 * t) (show (128 : Int32).toInt = ((128 : Nat) : Int) by decide) (ti_mul (p := 128) (by decide) h1 (by omega) (by omega)) (ti_mul (p := 128) (by decide) h2 (by omega) (by omega)) (by omega) (by omega) (by omega) (by omega)) (fun _ E18 q => ?_)
      have K19 : CpT D E18 f t 19 := CpT.step K18 (by decide) q
      clear q K18
      refine Wp.bind (tM_move (N := 128) (P := 128 * f) (T := 128 * t) (show (128 : Int32).toInt = ((128 : Nat) : Int) by decide) (ti_mul (p := 128) (by decide) h1 (by omega) (by omega)) (ti_mul (p := 128) (by decide) h2 (by omega) (by omega)) (by omega) (by omega) (by omega) (by omega)) (fun _ E19 q => ?_)
      have K20 : CpT D E19 f t 20 := CpT.step K19 (by decide) q
      clear q K19
      refine Wp.bind (tM_move (N := 32) (P := 32 * f) (T := 32 * t) (show (32 : Int32).toInt = ((32 : Nat) : Int) by decide) (ti_mul (p := 32) (by decide) h1 (by omega) (by omega)) (ti_mul (p := 32) (by decide) h2 (by omega) (by omega)) (by omega) (by omega) (by omega) (by omega)) (fun _ E20 q => ?_)
      have K21 : CpT D E20 f t 21 := CpT.step K20 (by decide) q
      clear q K20
      refine Wp.bind (tM_move (N := 32) (P := 32 * f) (T := 32 * t) (show (32 : Int32).toInt = ((32 : Nat) : Int) by decide) (ti_mul (p := 32) (by decide) h1 (by omega) (by omega)) (ti_mul (p := 32) (by decide) h2 (by omega) (by omega)) (by omega) (by omega) (by omega) (by omega)) (fun _ E21 q => ?_)
      have K22 : CpT D E21 f t 22 := CpT.step K21 (by decide) q
      clear q K21
      refine Wp.bind (tM_move (N := 32) (P := 32 * f) (T := 32 * t) (show (32 : Int32).toInt = ((32 : Nat) : Int) by decide) (ti_mul (p := 32) (by decide) h1 (by omega) (by omega)) (ti_mul (p := 32) (by decide) h2 (by omega) (by omega)) (by omega) (by omega) (by omega) (by omega)) (fun _ E22 q => ?_)
      have K23 : CpT D E22 f t 23 := CpT.step K22 (by decide) q
      clear q K22
      exact Wp.ret K23
    · obtain ⟨c1, c2⟩ := cl_add1 (x := x) (by omega) (by omega)
      have ex := cl_i i0
      have e2 : ((500 : Int32) * a1 + x).toInt = 500 * f + x.toInt := ti_add m1 rfl (by omega) (by omega)
      have e3 : ((500 : Int32) * a2 + x).toInt = 500 * t + x.toInt := ti_add m2 rfl (by omega) (by omega)
      have w2 : ((500 : Int32) * a1 + x).toNatClampNeg = 500 * f + x.toNatClampNeg := cl_of (by omega)
      have w3 : ((500 : Int32) * a2 + x).toNatClampNeg = 500 * t + x.toNatClampNeg := cl_of (by omega)
      refine Wp.idx (i_in (by omega) (by omega)) (Wp.idx (i_in (by omega) (by omega)) (Wp.lets (Wp.lets (hg _ _ ⟨⟨by omega, by omega, by omega⟩, fun c hc => ?_, i4, fun j => ?_⟩))))
      · funext z
        simp [aSI, hc, i3 c hc]
      · rw [w2, w3]
        simp only [aSI, true_and]
        by_cases hj : j = 500 * t + x.toNatClampNeg
        · rw [if_pos hj, if_pos ⟨by omega, by omega⟩, i5, if_neg (by omega)]
          rw [show 500 * f + x.toNatClampNeg = j - 500 * t + 500 * f by omega]
        · rw [if_neg hj, i5]
          by_cases hj2 : 500 * t ≤ j ∧ (j : Int) < 500 * t + x.toInt
          · rw [if_pos hj2, if_pos ⟨by omega, by omega⟩]
          · rw [if_neg hj2, if_neg (by omega)]
  · intro x D' hI
    obtain ⟨⟨i0, i1, i2⟩, -⟩ := hI
    omega
/-- the reference's entries behind one more -/
def WrM (D D1 : ADD) (s f v : Int32) : Prop := (∀ c, c ≠ 8 → c ≠ 9 → D1.1 c = D.1 c) ∧ D1.2 = D.2 ∧ (∀ i, D1.1 8 i = if i = 0 then D.1 8 0 + 1 else D.1 8 i) ∧ ∀ j, D1.1 9 j = if j = 4 * (D.1 8 0).toNatClampNeg then D.1 6 0 else if j = 4 * (D.1 8 0).toNatClampNeg + 1 then s else if j = 4 * (D.1 8 0).toNatClampNeg + 2 then f else if j = 4 * (D.1 8 0).toNatClampNeg + 3 then v else D.1 9 j
theorem tM_enter {s f v : Int32} {D : ADD} (he : 0 ≤ (D.1 8 0).toInt ∧ (D.1 8 0).toInt < 400) : Wp (fX11_enter s f v D) (fun _ D1 => WrM D D1 s f v) := by
  unfold fX11_enter
  simp only [cl_0]
  have e4 : ((4 : Int32) * D.1 8 0).toInt = 4 * (D.1 8 0).toInt := ti_mul (by decide) rfl (by omega) (by omega)
  have ek := cl_i he.1
  have cell : ∀ (i : Int32) (n : Nat), i.toInt = n → n < 4 → vp_in ((4 : Int32) * D.1 8 0 + i) 6400 ∧ ((4 : Int32) * D.1 8 0 + i).toNatClampNeg = 4 * (D.1 8 0).toNatClampNeg + n := by
    intro i n hi hn
    have e : ((4 : Int32) * D.1 8 0 + i).toInt = 4 * (D.1 8 0).toInt + n := ti_add e4 hi (by omega) (by omega)
    exact ⟨i_in (by omega) (by omega), cl_of (by omega)⟩
  have w0 : ((4 : Int32) * D.1 8 0).toNatClampNeg = 4 * (D.1 8 0).toNatClampNeg := cl_of (by omega)
  obtain ⟨v1, w1⟩ := cell 1 1 (by decide) (by decide)
  obtain ⟨v2, w2⟩ := cell 2 2 (by decide) (by decide)
  obtain ⟨v3, w3⟩ := cell 3 3 (by decide) (by decide)
  refine Wp.idd (by decide) (Wp.lets (Wp.idd (by decide) (Wp.idx (i_in (by omega) (by omega)) (Wp.lets (Wp.idx v1 (Wp.lets (Wp.idx v2 (Wp.lets (Wp.idx v3 (Wp.lets (Wp.idd (by decide) (Wp.idd (by decide) (Wp.lets (Wp.ret ⟨fun c u v => ?_, rfl, fun i => ?_, fun j => ?_⟩))))))))))))))
  · funext z
    simp [aSI, u, v]
  · simp [aSI]
  · rw [w0, w1, w2, w3]
    generalize (D.1 8 0).toNatClampNeg = k
    simp only [aSI, true_and, show ((9 : Nat) = 8) = False by simp, false_and, if_false]
    by_cases j0 : j = 4 * k
    · rw [if_neg (by omega), if_neg (by omega), if_neg (by omega), if_pos j0, if_pos j0]
    · by_cases j1 : j = 4 * k + 1
      · rw [if_neg (by omega), if_neg (by omega), if_pos j1, if_neg j0, if_pos j1]
      · by_cases j2 : j = 4 * k + 2
        · rw [if_neg (by omega), if_pos j2, if_neg j0, if_neg j1, if_pos j2]
        · by_cases j3 : j = 4 * k + 3
          · rw [if_pos j3, if_neg j0, if_neg j1, if_neg j2, if_pos j3]
          · rw [if_neg j3, if_neg j2, if_neg j1, if_neg j0, if_neg j0, if_neg j1, if_neg j2, if_neg j3]
/-- the reference behind a listing -/
def LsM (D D1 : ADD) (w st tw : Int32) : Prop := ∃ D7 : ADD, (∀ c, c ≠ 0 → c ≠ 5 → c ≠ 10 → D7.1 c = D.1 c) ∧ D7.2 = D.2 ∧ (∀ i, D7.1 5 i = if i = 0 then D.1 5 0 + 1 else D.1 5 i) ∧ (∀ j, D7.1 10 j = if j = 3 * (D.1 5 0).toNatClampNeg then D.1 6 0 else if j = 3 * (D.1 5 0).toNatClampNeg + 1 then st else if j = 3 * (D.1 5 0).toNatClampNeg + 2 then tw else D.1 10 j) ∧ WrM D7 D1 (D.1 5 0) (-1) w
/-- all but the object's own fields are as they were -/
def SmM (D D1 : ADD) : Prop := (∀ c, c ≠ 0 → D1.1 c = D.1 c) ∧ D1.2 = D.2
theorem SmM.code {D : ADD} {x : Int32} : SmM D (aSI D 0 0 x) := ⟨fun c hc => by funext z; simp [aSI, hc], rfl⟩
theorem tM_stone {w st tw : Int32} {D : ADD} (h8 : 0 ≤ (D.1 5 0).toInt ∧ (D.1 5 0).toInt ≤ 32) (he : 0 ≤ (D.1 8 0).toInt ∧ (D.1 8 0).toInt ≤ 400) : Wp (fX11_stone w st tw D) (fun r D1 => if (D.1 5 0).toInt < 32 ∧ (D.1 8 0).toInt < 400 ∧ LsOK w st tw then r = D.1 5 0 ∧ LsM D D1 w st tw else r = -1 ∧ SmM D D1) := by
  unfold fX11_stone
  simp only [cl_0]
  have e32 : (32 : Int32).toInt = 32 := by decide
  have e400 : (400 : Int32).toInt = 400 := by decide
  have es := cl_i h8.1
  refine Wp.lets (Wp.idd (by decide) (Wp.lets (Wp.ite (fun k => Wp.ret ?_) (fun k => Wp.idd (by decide) (Wp.ite (fun k2 => Wp.ret ?_) (fun k2 => Wp.bindE (eM_is w 1 30000 _) ?_))))))
  · have k : D.1 5 0 = 32 := k
    rw [if_neg (by rw [k]; omega)]; exact ⟨rfl, SmM.code⟩
  · have k2 : D.1 8 0 = 400 := k2
    rw [if_neg (by rw [k2]; omega)]; exact ⟨rfl, SmM.code⟩
  · have k : D.1 5 0 ≠ 32 := k
    have k2 : D.1 8 0 ≠ 400 := k2
    have k := ti_ne k
    have k2 := ti_ne k2
    have L1 : (1 : Int32).toInt = 1 := by decide
    have L2 : (30000 : Int32).toInt = 30000 := by decide
    have L3 : (0 : Int32).toInt = 0 := by decide
    have L4 : (4 : Int32).toInt = 4 := by decide
    have L5 : (5 : Int32).toInt = 5 := by decide
    by_cases c1 : (1 : Int32).toInt ≤ w.toInt ∧ w.toInt ≤ (30000 : Int32).toInt
    · rw [if_pos c1]
      refine Wp.neg (by decide) (Wp.bindE (eM_is st 0 4 _) ?_)
      by_cases c2 : (0 : Int32).toInt ≤ st.toInt ∧ st.toInt ≤ (4 : Int32).toInt
      · rw [if_pos c2]
        refine Wp.neg (by decide) (Wp.bindE (eM_is tw 0 5 _) ?_)
        by_cases c3 : (0 : Int32).toInt ≤ tw.toInt ∧ tw.toInt ≤ (5 : Int32).toInt
        · rw [if_pos c3]
          have e3 : ((3 : Int32) * D.1 5 0).toInt = 3 * (D.1 5 0).toInt := ti_mul (by decide) rfl (by omega) (by omega)
          have e31 : ((3 : Int32) * D.1 5 0 + 1).toInt = 3 * (D.1 5 0).toInt + 1 := ti_add e3 (by decide) (by omega) (by omega)
          have e32 : ((3 : Int32) * D.1 5 0 + 2).toInt = 3 * (D.1 5 0).toInt + 2 := ti_add e3 (by decide) (by omega) (by omega)
          have n0 : ((3 : Int32) * D.1 5 0).toNatClampNeg = 3 * (D.1 5 0).toNatClampNeg := cl_of (by omega)
          have n1 : ((3 : Int32) * D.1 5 0 + 1).toNatClampNeg = 3 * (D.1 5 0).toNatClampNeg + 1 := cl_of (by omega)
          have n2 : ((3 : Int32) * D.1 5 0 + 2).toNatClampNeg = 3 * (D.1 5 0).toNatClampNeg + 2 := cl_of (by omega)
          have i3 : vp_in ((3 : Int32) * D.1 5 0) 384 := i_in (by omega) (by omega)
          have i31 : vp_in ((3 : Int32) * D.1 5 0 + 1) 384 := i_in (by omega) (by omega)
          have i32 : vp_in ((3 : Int32) * D.1 5 0 + 2) 384 := i_in (by omega) (by omega)
          refine Wp.neg (by decide) (Wp.idd (by decide) (Wp.lets (Wp.idd (by decide) (Wp.idx i3 (Wp.lets (Wp.idx i31 (Wp.lets (Wp.idx i32 (Wp.lets (Wp.idd (by decide) (Wp.idd (by decide) (Wp.leti (fun D7 e7 => ?_)))))))))))))
          have w5 : ∀ i, D7.1 5 i = if i = 0 then D.1 5 0 + 1 else D.1 5 i := by intro i; rw [e7]; simp [aSI]
          have w8 : D7.1 8 = D.1 8 := by funext z; rw [e7]; simp [aSI]
          have w10 : ∀ j, D7.1 10 j = if j = 3 * (D.1 5 0).toNatClampNeg then D.1 6 0 else if j = 3 * (D.1 5 0).toNatClampNeg + 1 then st else if j = 3 * (D.1 5 0).toNatClampNeg + 2 then tw else D.1 10 j := by
            intro j
            rw [e7]
            simp only [aSI, true_and, show ((10 : Nat) = 5) = False by simp, show ((10 : Nat) = 0) = False by simp, show ((6 : Nat) = 0) = False by simp, show ((5 : Nat) = 0) = False by simp, false_and, if_false]
            rw [n0, n1, n2]
            generalize (D.1 5 0).toNatClampNeg = k
            by_cases j0 : j = 3 * k
            · rw [if_neg (by omega), if_neg (by omega), if_pos j0, if_pos j0]
            · by_cases j1 : j = 3 * k + 1
              · rw [if_neg (by omega), if_pos j1, if_neg j0, if_pos j1]
              · by_cases j2 : j = 3 * k + 2
                · rw [if_pos j2, if_neg j0, if_neg j1, if_pos j2]
                · rw [if_neg j2, if_neg j1, if_neg j0, if_neg j0, if_neg j1, if_neg j2]
          have wo : ∀ c, c ≠ 0 → c ≠ 5 → c ≠ 10 → D7.1 c = D.1 c := by
            intro c c0 c5 c10
            funext z
            rw [e7]
            simp [aSI, c0, c5, c10]
          have wl : D7.2 = D.2 := by rw [e7]; rfl
          refine Wp.bind (tM_enter (by rw [w8]; omega)) (fun _ D8 q => Wp.ret ?_)
          rw [if_pos ⟨by omega, by omega, by omega⟩]
          exact ⟨rfl, D7, wo, wl, w5, w10, q⟩
        · rw [if_neg c3]
          refine Wp.pos rfl (Wp.ret ?_)
          rw [if_neg (by omega)]; exact ⟨rfl, SmM.code⟩
      · rw [if_neg c2]
        refine Wp.pos rfl (Wp.ret ?_)
        rw [if_neg (by omega)]; exact ⟨rfl, SmM.code⟩
    · rw [if_neg c1]
      refine Wp.pos rfl (Wp.ret ?_)
      rw [if_neg (by omega)]; exact ⟨rfl, SmM.code⟩
