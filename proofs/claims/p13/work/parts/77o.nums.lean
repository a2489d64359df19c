/-! spans are spans; off, times, short of both sides -/
theorem ti_div {x y : Int32} {p q : Int} (hx : x.toInt = p) (hy : y.toInt = q) (h : -2147483648 < p) (hq : q ≠ 0) : (x / y).toInt = p.tdiv q := by
  rw [Int32.toInt_div, hx, hy]
  have hp : p ≤ 2147483647 := by rw [← hx]; exact ti_hi x
  have b : (p.tdiv q).natAbs ≤ p.natAbs := by
    rw [Int.natAbs_tdiv]
    exact Nat.div_le_self _ _
  apply Int.bmod_eq_of_le <;> omega
section NMs
variable {D E : ADD}
theorem wrF_rng {row : Nat → Int32} (w : RuS (xc D) (slM E 0) 12 0 0 True) : ∀ (n l : Nat) (a b : Int32), l + n ≤ (D.1 13 0).toNatClampNeg → l + n ≤ 16 → a.toInt ≤ b.toInt → -(9999 * (l : Int)) ≤ a.toInt → b.toInt ≤ 9999 * (l : Int) → (wrF D row a b l n).1.toInt ≤ (wrF D row a b l n).2.toInt ∧ -160000 ≤ (wrF D row a b l n).1.toInt ∧ (wrF D row a b l n).2.toInt ≤ 160000
  | 0, l, a, b, h1, h2, h3, h4, h5 => by
    show a.toInt ≤ b.toInt ∧ -160000 ≤ a.toInt ∧ b.toInt ≤ 160000
    omega
  | n + 1, l, a, b, h1, h2, h3, h4, h5 => by
    have w2 : 0 ≤ (D.1 13 0).toInt ∧ (D.1 13 0).toInt ≤ 16 := w.2.1
    have en := cl_i w2.1
    have rl := w.2.2 l (by show (l : Int) < (D.1 13 0).toInt; omega)
    obtain ⟨mm, -, -, -, d2, d3⟩ := rl
    obtain ⟨d3, d4⟩ := d3 trivial
    have d2 : 0 ≤ (D.1 14 l).toInt ∧ (D.1 14 l).toInt < 4 := d2
    have d3 : (D.1 14 l).toInt < 3 := d3
    have d4 : (D.1 14 l).toInt < 2 → _ ∧ (0 ≤ (D.1 15 l).toInt ∧ (D.1 15 l).toInt ≤ 9999) ∧ (0 ≤ (D.1 16 l).toInt ∧ (D.1 16 l).toInt ≤ 9999) ∧ (D.1 15 l).toInt ≤ (D.1 16 l).toInt := d4
    unfold wrF
    split
    · split
      · show a.toInt ≤ b.toInt ∧ -160000 ≤ a.toInt ∧ b.toInt ≤ 160000
        omega
      · rename_i e2
        have n2 : (D.1 14 l).toInt ≠ 2 := fun q => e2 (ti_eq (by rw [q]; rfl))
        obtain ⟨-, r1, r2, r3⟩ := d4 (by omega)
        by_cases e1 : D.1 14 l = 1
        · rw [if_pos e1, if_pos e1]
          have m1 : (-D.1 16 l).toInt = -(D.1 16 l).toInt := by
            rw [Int32.toInt_neg]
            apply Int.bmod_eq_of_le <;> omega
          have m2 : (-D.1 15 l).toInt = -(D.1 15 l).toInt := by
            rw [Int32.toInt_neg]
            apply Int.bmod_eq_of_le <;> omega
          have a1 := ti_add (rfl : a.toInt = _) m1 (by omega) (by omega)
          have a2 := ti_add (rfl : b.toInt = _) m2 (by omega) (by omega)
          exact wrF_rng w n (l + 1) _ _ (by omega) (by omega) (by omega) (by omega) (by omega)
        · rw [if_neg e1, if_neg e1]
          have a1 := ti_add (rfl : a.toInt = _) (rfl : (D.1 15 l).toInt = _) (by omega) (by omega)
          have a2 := ti_add (rfl : b.toInt = _) (rfl : (D.1 16 l).toInt = _) (by omega) (by omega)
          exact wrF_rng w n (l + 1) _ _ (by omega) (by omega) (by omega) (by omega) (by omega)
    · exact wrF_rng w n (l + 1) a b (by omega) (by omega) h3 (by omega) (by omega)
theorem newF_val {b t : Int32} (hb : 1 ≤ b.toInt ∧ b.toInt ≤ 30000) : (newF b t).toInt = max 1 (b.toInt + (b.toInt * max (-500) (min 1000 t.toInt)).tdiv 1000) ∧ (newF b t).toInt ≤ 60000 := by
  unfold newF
  have a : (-500 : Int32).toInt = -500 := by decide
  have c : (1000 : Int32).toInt = 1000 := by decide
  have e1 : (aMax (-500) (aMin 1000 t)).toInt = max (-500) (min 1000 t.toInt) := by rw [ti_max, ti_min, a, c]
  generalize hv : max (-500) (min 1000 t.toInt) = v at e1 ⊢
  have hv1 : -500 ≤ v ∧ v ≤ 1000 := by omega
  have lo : -15000000 ≤ b.toInt * v := by
    have : b.toInt * (-500) ≤ b.toInt * v := Int.mul_le_mul_of_nonneg_left hv1.1 (by omega)
    omega
  have hi : b.toInt * v ≤ 30000000 := by
    have : b.toInt * v ≤ b.toInt * 1000 := Int.mul_le_mul_of_nonneg_left hv1.2 (by omega)
    omega
  have e2 := ti_mul (rfl : b.toInt = _) e1 (by omega) (by omega)
  have e3 := ti_div e2 c (by omega) (by decide)
  have q1 : (-15000000 : Int).tdiv 1000 ≤ (b.toInt * v).tdiv 1000 := Int.tdiv_le_tdiv (by decide) lo
  have q2 : (b.toInt * v).tdiv 1000 ≤ (30000000 : Int).tdiv 1000 := Int.tdiv_le_tdiv (by decide) hi
  have q3 : (-15000000 : Int).tdiv 1000 = -15000 := by decide
  have q4 : (30000000 : Int).tdiv 1000 = 30000 := by decide
  have e4 := ti_add (rfl : b.toInt = _) e3 (by omega) (by omega)
  rw [ti_max, ti_1, e4]
  omega
theorem newF_mono {b t u : Int32} (hb : 1 ≤ b.toInt ∧ b.toInt ≤ 30000) (h : t.toInt ≤ u.toInt) : (newF b t).toInt ≤ (newF b u).toInt := by
  rw [(newF_val hb).1, (newF_val hb).1]
  have : (b.toInt * max (-500) (min 1000 t.toInt)).tdiv 1000 ≤ (b.toInt * max (-500) (min 1000 u.toInt)).tdiv 1000 := Int.tdiv_le_tdiv (by decide) (Int.mul_le_mul_of_nonneg_left (by omega) (by omega))
  omega
/-- a stone's span, mark and town -/
def SpK (lo hi mk : Int32) : Prop := (1 ≤ lo.toInt ∧ lo.toInt ≤ hi.toInt ∧ hi.toInt ≤ 60000) ∧ 0 ≤ mk.toInt ∧ mk.toInt ≤ 60
theorem kn_th (h : RBk (xc D) (mB E)) {k f : Nat} (hk : k < nS (mB E)) (ht : thE E k) (hf : f < 11) : knX D (nI k) (nI f) = fct (mB E) (dvF (mB E)) k f := by
  have bw := h.2.2.2.1
  have n5 : ((nS (mB E) : Nat) : Int) = (mB E 5 0).toInt := cl_i bw.1.2.1.1
  have h32 := bw.1.2.1.2
  have vf : (nI f).toInt = (f : Int) := nI_toInt (by omega)
  rw [kn_fct h, if_pos ⟨(th_st hk (by omega)).mp ht, by omega, by omega⟩, nI_clamp (by omega), nI_clamp (by omega)]
theorem gd_th (h : RBk (xc D) (mB E)) {k : Nat} (hk : k < nS (mB E)) (ht : thE E k) : Gd (fct (mB E) (dvF (mB E)) k) := h.2.2.2.1.2.2.2.2 _ k hk ht
theorem sp_th (h : RBk (xc D) (mB E)) (w : RuS (xc D) (slM E 0) 12 0 0 True) {k : Nat} (hk : k < nS (mB E)) (ht : thE E k) : SpK (loX D (nI k)) (hiX D (nI k)) (knX D (nI k) 7) := by
  have g := gd_th h hk ht
  have k0 : knX D (nI k) 0 = fct (mB E) (dvF (mB E)) k 0 := kn_th h hk ht (by decide)
  have k3 : knX D (nI k) 3 = fct (mB E) (dvF (mB E)) k 3 := kn_th h hk ht (by decide)
  have k7 : knX D (nI k) 7 = fct (mB E) (dvF (mB E)) k 7 := kn_th h hk ht (by decide)
  have g0 : 1 ≤ (fct (mB E) (dvF (mB E)) k 0).toInt ∧ (fct (mB E) (dvF (mB E)) k 0).toInt ≤ 30000 := g.1 0 (by decide)
  have g3 : 0 ≤ (fct (mB E) (dvF (mB E)) k 3).toInt ∧ (fct (mB E) (dvF (mB E)) k 3).toInt ≤ 2000 := g.1 3 (by decide)
  have g7 : 0 ≤ (fct (mB E) (dvF (mB E)) k 7).toInt ∧ (fct (mB E) (dvF (mB E)) k 7).toInt ≤ 60 := g.1 7 (by decide)
  have gl := g.2.1
  rw [← k0] at g0 gl
  rw [← k3] at g3 gl
  have eb := ti_sub (rfl : (knX D (nI k) 0).toInt = _) (rfl : (knX D (nI k) 3).toInt = _) (by omega) (by omega)
  have hb : 1 ≤ (knX D (nI k) 0 - knX D (nI k) 3).toInt ∧ (knX D (nI k) 0 - knX D (nI k) 3).toInt ≤ 30000 := by omega
  have w2 : 0 ≤ (D.1 13 0).toInt ∧ (D.1 13 0).toInt ≤ 16 := w.2.1
  have en := cl_i w2.1
  have wr := wrF_rng (row := trF D (nI k)) w (D.1 13 0).toNatClampNeg 0 0 0 (by omega) (by omega) (Int.le_refl _) (by decide) (by decide)
  refine ⟨⟨?_, newF_mono hb wr.1, (newF_val hb).2⟩, by rw [k7]; exact g7⟩
  show 1 ≤ (newF _ _).toInt
  rw [(newF_val hb).1]
  omega
/-! one stone by a unit -/
theorem far_val {lo hi p : Int32} (h1 : 1 ≤ lo.toInt) (h2 : lo.toInt ≤ hi.toInt) (h3 : hi.toInt ≤ 60000) (h4 : 0 ≤ p.toInt) (h5 : p.toInt ≤ 200000) : (farF lo hi p).toInt = if p.toInt < lo.toInt then lo.toInt - p.toInt else if hi.toInt < p.toInt then p.toInt - hi.toInt else 0 := by
  unfold farF
  by_cases a : lo ≤ p
  · have a1 := Int32.le_iff_toInt_le.mp a
    rw [if_pos a, if_neg (show ¬ p.toInt < lo.toInt by omega)]
    by_cases b : p ≤ hi
    · have b1 := Int32.le_iff_toInt_le.mp b
      rw [if_pos b, if_neg (show ¬ hi.toInt < p.toInt by omega), ti_0]
    · have b1 : ¬ p.toInt ≤ hi.toInt := fun q => b (Int32.le_iff_toInt_le.mpr q)
      rw [if_neg b, if_pos (show hi.toInt < p.toInt by omega)]
      exact ti_sub rfl rfl (by omega) (by omega)
  · have a1 : ¬ lo.toInt ≤ p.toInt := fun q => a (Int32.le_iff_toInt_le.mpr q)
    rw [if_neg a, if_pos (show p.toInt < lo.toInt by omega)]
    exact ti_sub rfl rfl (by omega) (by omega)
theorem times_eq {lo hi mk u : Int32} (h : SpK lo hi mk) (hu : 10 ≤ u.toInt ∧ u.toInt ≤ 2000) : tmF lo hi mk u = timesF lo hi mk u ∧ 1 ≤ (timesF lo hi mk u).toInt ∧ (timesF lo hi mk u).toInt * u.toInt ≤ 200000 := by
  obtain ⟨⟨h1, h2, h3⟩, h4, h5⟩ := h
  unfold tmF timesF
  by_cases m : mk ≤ 0
  rotate_left
  · have m1 : ¬ mk.toInt ≤ 0 := fun q => m (Int32.le_iff_toInt_le.mpr (by rw [ti_0]; exact q))
    rw [if_neg m, if_neg m]
    refine ⟨rfl, by omega, ?_⟩
    have : mk.toInt * u.toInt ≤ 60 * u.toInt := Int.mul_le_mul_of_nonneg_right h5 (by omega)
    omega
  rw [if_pos m, if_pos m]
  have un : ¬ u ≤ 0 := fun q => by have := Int32.le_iff_toInt_le.mp q; rw [ti_0] at this; omega
  rw [if_neg un]
  have ed := ti_div (rfl : lo.toInt = _) (rfl : u.toInt = _) (by omega) (by omega)
  have dp : lo.toInt.tdiv u.toInt = lo.toInt / u.toInt := Int.tdiv_eq_ediv_of_nonneg (by omega)
  rw [dp] at ed
  have q1 := Int.mul_ediv_add_emod lo.toInt u.toInt
  have q2 := Int.emod_nonneg lo.toInt (show u.toInt ≠ 0 by omega)
  have q3 := Int.emod_lt_of_pos lo.toInt (show 0 < u.toInt by omega)
  have q0 : 0 ≤ lo.toInt / u.toInt := Int.ediv_nonneg (by omega) (by omega)
  generalize hd : lo.toInt / u.toInt = dd at ed q1 q0
  generalize lo.toInt % u.toInt = rr at q1 q2 q3
  have pm : u.toInt * dd = dd * u.toInt := Int.mul_comm _ _
  have p0 : 0 ≤ dd * u.toInt := Int.mul_nonneg q0 (by omega)
  generalize hp : dd * u.toInt = pp at pm p0
  have d6 : dd ≤ 60000 := by
    have : dd * 1 ≤ dd * u.toInt := Int.mul_le_mul_of_nonneg_left (by omega) q0
    omega
  by_cases c : 1 ≤ lo / u
  · have c1 := Int32.le_iff_toInt_le.mp c
    rw [ti_1, ed] at c1
    rw [if_pos c, if_pos c]
    -- the multiple below and the one above
    have e1 := ti_mul ed (rfl : u.toInt = _) (by omega) (by omega)
    rw [hp] at e1
    have e2 := ti_add ed ti_1 (by omega) (by omega)
    have pq : (dd + 1) * u.toInt = pp + u.toInt := by rw [Int.add_mul, hp, Int.one_mul]
    have e3 := ti_mul e2 (rfl : u.toInt = _) (by omega) (by omega)
    rw [pq] at e3
    have f1 := far_val (p := lo / u * u) h1 h2 h3 (by omega) (by omega)
    have f2 := far_val (p := (lo / u + 1) * u) h1 h2 h3 (by omega) (by omega)
    rw [e1] at f1
    rw [e3] at f2
    have g1 := ti_sub (rfl : lo.toInt = _) e1 (by omega) (by omega)
    have g2 := ti_sub e3 (rfl : hi.toInt = _) (by omega) (by omega)
    have eq : (farF lo hi (lo / u * u) ≤ farF lo hi ((lo / u + 1) * u)) ↔ (lo - lo / u * u ≤ (lo / u + 1) * u - hi ∨ lo - lo / u * u = 0) := by
      have z : lo - lo / u * u = 0 ↔ lo.toInt - pp = 0 := ⟨fun q => by rw [← g1, q, ti_0], fun q => ti_eq (by rw [g1, ti_0]; exact q)⟩
      rw [Int32.le_iff_toInt_le, Int32.le_iff_toInt_le, z, f1, f2, g1, g2]
      split <;> split <;> (try split) <;> omega
    by_cases y : farF lo hi (lo / u * u) ≤ farF lo hi ((lo / u + 1) * u)
    · rw [if_pos y, if_pos (eq.mp y)]
      exact ⟨rfl, by omega, by rw [ed, hp]; omega⟩
    · rw [if_neg y, if_neg (fun q => y (eq.mpr q))]
      exact ⟨rfl, by omega, by rw [e2, pq]; omega⟩
  · have c1 : ¬ 1 ≤ dd := fun q => c (Int32.le_iff_toInt_le.mpr (by rw [ti_1, ed]; exact q))
    have d0 : dd = 0 := by omega
    rw [d0, Int.zero_mul] at hp
    rw [if_neg c, if_neg c]
    have e1 : ((1 : Int32) * u).toInt = u.toInt := by rw [Int32.one_mul]
    have e3 : (((1 : Int32) + 1) * u).toInt = 2 * u.toInt := ti_mul (by decide) rfl (by omega) (by omega)
    have f1 := far_val (p := (1 : Int32) * u) h1 h2 h3 (by omega) (by omega)
    have f2 := far_val (p := ((1 : Int32) + 1) * u) h1 h2 h3 (by omega) (by omega)
    rw [e1] at f1
    rw [e3] at f2
    have y : farF lo hi ((1 : Int32) * u) ≤ farF lo hi (((1 : Int32) + 1) * u) := by
      rw [Int32.le_iff_toInt_le, f1, f2]
      split <;> split <;> (try split) <;> (try split) <;> omega
    rw [if_pos y]
    exact ⟨rfl, by decide, by rw [ti_1]; omega⟩
theorem off_eq {lo hi mk u : Int32} (h : SpK lo hi mk) (hu : 10 ≤ u.toInt ∧ u.toInt ≤ 2000) : ofF lo hi mk u = offF lo hi mk u ∧ 0 ≤ (offF lo hi mk u).toInt ∧ (offF lo hi mk u).toInt ≤ u.toInt := by
  obtain ⟨t1, t2, t3⟩ := times_eq h hu
  obtain ⟨⟨h1, h2, h3⟩, h4, h5⟩ := h
  have t0 : 0 ≤ (timesF lo hi mk u).toInt * u.toInt := Int.mul_nonneg (by omega) (by omega)
  have e1 := ti_mul (rfl : (timesF lo hi mk u).toInt = _) (rfl : u.toInt = _) (by omega) (by omega)
  have f := far_val (p := timesF lo hi mk u * u) h1 h2 h3 (by omega) (by omega)
  rw [e1] at f
  unfold ofF offF
  rw [t1]
  have ev : (aMin u (if lo ≤ timesF lo hi mk u * u then aMax 0 (timesF lo hi mk u * u - hi) else lo - timesF lo hi mk u * u)).toInt = min u.toInt (farF lo hi (timesF lo hi mk u * u)).toInt := by
    rw [ti_min, f]
    by_cases c : lo ≤ timesF lo hi mk u * u
    · have c1 := Int32.le_iff_toInt_le.mp c
      rw [e1] at c1
      have s := ti_sub e1 (rfl : hi.toInt = _) (by omega) (by omega)
      rw [if_pos c, ti_max, ti_0, s, if_neg (show ¬ (timesF lo hi mk u).toInt * u.toInt < lo.toInt by omega)]
      split <;> omega
    · have c1 : ¬ lo.toInt ≤ (timesF lo hi mk u).toInt * u.toInt := fun q => c (Int32.le_iff_toInt_le.mpr (by rw [e1]; exact q))
      have s := ti_sub (rfl : lo.toInt = _) e1 (by omega) (by omega)
      rw [if_neg c, s, if_pos (show (timesF lo hi mk u).toInt * u.toInt < lo.toInt by omega)]
  have fp : 0 ≤ (farF lo hi (timesF lo hi mk u * u)).toInt := by
    rw [f]
    split
    · omega
    · split <;> omega
  refine ⟨ti_eq ?_, by omega, by omega⟩
  rw [ev]
  by_cases c : u ≤ farF lo hi (timesF lo hi mk u * u)
  · have := Int32.le_iff_toInt_le.mp c
    rw [if_pos c]
    omega
  · have : ¬ u.toInt ≤ (farF lo hi (timesF lo hi mk u * u)).toInt := fun q => c (Int32.le_iff_toInt_le.mpr q)
    rw [if_neg c]
    omega
end NMs
