/-! the class: the rest of the search, odds -/
section F4
variable {ρ σ τ υ κ : Type} {Q : ρ → ADD → Prop}
theorem Wp.fix4 {F : (σ → τ → υ → κ → ADD → Option (ρ × ADD)) → σ → τ → υ → κ → ADD → Option (ρ × ADD)} {z : σ → τ → υ → κ → ADD → Option (ρ × ADD)} (I : Nat → σ → τ → υ → κ → ADD → Prop) (h : ∀ n g, (∀ x y w v D, I n x y w v D → Wp (g x y w v D) Q) → ∀ x y w v D, I (n + 1) x y w v D → Wp (F g x y w v D) Q) (h0 : ∀ x y w v D, ¬ I 0 x y w v D) : ∀ m n x y w v D, n ≤ m → I n x y w v D → Wp (aFix m F z x y w v D) Q
  | 0, n, x, y, w, v, D, hn, hI => by
    have e : n = 0 := by omega
    rw [e] at hI
    exact absurd hI (h0 x y w v D)
  | m + 1, 0, x, y, w, v, D, hn, hI => absurd hI (h0 x y w v D)
  | m + 1, n + 1, x, y, w, v, D, hn, hI => h n (aFix m F z) (fun x' y' w' v' D' hI' => Wp.fix4 I h h0 m n x' y' w' v' D' (by omega) hI') x y w v D hI
theorem Wp.up4 {D : ADD} (B : Int) (hB : B ≤ 100000) {F : (σ → τ → υ → Int32 → ADD → Option (ρ × ADD)) → σ → τ → υ → Int32 → ADD → Option (ρ × ADD)} {z : σ → τ → υ → Int32 → ADD → Option (ρ × ADD)} (A : Int) (hA : 0 ≤ A)
    (hF : ∀ (g : σ → τ → υ → Int32 → ADD → Option (ρ × ADD)) (a : σ) (b : τ) (c : υ) (x : Int32), A ≤ x.toInt → (x.toInt < B → ∀ a b c, Wp (g a b c (x + 1) D) Q) → Wp (F g a b c x D) Q) {a : σ} {b : τ} {c : υ} {x0 : Int32} (h0 : A ≤ x0.toInt) (h1 : x0.toInt ≤ 100000) : Wp (aFix aFuel F z a b c x0 D) Q := by
  refine Wp.fix4 (fun n a b c x D' => (A ≤ x.toInt ∧ x.toInt ≤ 100001 ∧ 100001 - x.toInt < (n : Int)) ∧ D' = D) ?_ ?_ aFuel 1000000 _ _ _ _ _ (Nat.le_refl _) ⟨⟨h0, by omega, by omega⟩, rfl⟩
  · intro n g hg a b c x D' hI
    obtain ⟨⟨i0, i1, i2⟩, i3⟩ := hI
    subst i3
    refine hF g a b c x i0 (fun hx a b c => hg _ _ _ _ _ ⟨?_, rfl⟩)
    have c2 : (x + 1).toInt = x.toInt + 1 := ti_add rfl ti_1 (by omega) (by omega)
    omega
  · intro a b c x D' hI
    obtain ⟨⟨i0, i1, i2⟩, -⟩ := hI
    omega
end F4
section XQ
variable {D : ADD}
theorem tX7_bestUnit (h : SR D) : Pu (fX7_bestUnit D) D := by
  obtain ⟨h0, h1, h2, h3⟩ := h
  unfold fX7_bestUnit
  have e : (D.1 50 0 + 1).toInt = (D.1 50 0).toInt + 1 := ti_add rfl ti_1 (by omega) (by omega)
  refine Wp.lets (Wp.lets (Wp.lets (Wp.lets (Wp.up2 (D := D) 3000 (by decide) (fun g a x i0 k => ?_) (by omega) (by omega)))))
  unfold lX7_bestUnit_12
  refine Wp.ilt (fun _ => Wp.ret rfl) (fun h => Wp.bind (tX7_compare h0 h1) (fun y D1 q => ?_))
  subst q
  exact Wp.lets (Wp.ite (fun _ => Wp.lets (k (by omega) _)) (fun _ => Wp.lets (k (by omega) _)))
theorem tX7_peakAt {a : Int32} (h : SR D) : Wp (fX7_peakAt a D) (fun _ D1 => (∀ c, c ≠ 50 → c ≠ 53 → D1.1 c = D.1 c) ∧ D1.2 = D.2) := by
  unfold fX7_peakAt
  refine Wp.bind (tX7_listPeaks h) (fun _ D1 q => Wp.lets (Wp.lets ?_))
  have e0 := q.2.1 0 (by decide)
  refine Wp.up1 (D := D1) 301 (by decide) (fun g x i0 k => ?_) (by decide) (by decide)
  unfold lX7_peakAt_6
  have e : (Int32.ofNat 301).toInt = 301 := by decide
  refine Wp.ile (fun _ => Wp.ret ⟨q.1, q.2.2⟩) (fun _ => Wp.ile (fun _ => Wp.ret ⟨q.1, q.2.2⟩) (fun h3 => Wp.idx (i_in i0 (by omega)) (Wp.bind (tX7_betterPeaks (by rw [e0]; exact h.1) (by rw [e0]; exact h.2.1)) (fun y D2 q2 => ?_))))
  subst q2
  exact Wp.ite (fun _ => Wp.idx (i_in i0 (by omega)) (Wp.ret ⟨q.1, q.2.2⟩)) (fun _ => Wp.lets (k (by omega)))
theorem tX7_setAside {i : Int32} (h : SR D) : Wp (fX7_setAside i D) (fun _ D1 => (∀ c, c ≠ 52 → D1.1 c = D.1 c) ∧ D1.2 = D.2) := by
  obtain ⟨h0, h1, h2, h3⟩ := h
  unfold fX7_setAside
  refine Wp.lets (Wp.lets (Wp.lets ?_))
  refine Wp.fix1 (fun n x D' => ((D.1 50 0).toInt ≤ x.toInt ∧ x.toInt ≤ (D.1 50 1).toInt + 1 ∧ (D.1 50 1).toInt + 1 - x.toInt < (n : Int)) ∧ (∀ c, c ≠ 52 → D'.1 c = D.1 c) ∧ D'.2 = D.2) ?_ ?_ aFuel 1000000 _ _ (Nat.le_refl _) ⟨⟨by omega, by omega, by omega⟩, fun _ _ => rfl, rfl⟩
  · intro n g hg x D' hI
    obtain ⟨⟨i0, i1, i2⟩, i3, i4⟩ := hI
    have c2 : (x + 1).toInt = x.toInt + 1 := ti_add rfl ti_1 (by omega) (by omega)
    have c3 : (x - D.1 50 0).toInt = x.toInt - (D.1 50 0).toInt := ti_sub rfl rfl (by omega) (by omega)
    unfold lX7_setAside_5
    rw [i3 50 (by decide)]
    refine Wp.ilt (fun _ => Wp.ret ⟨i3, i4⟩) (fun k => Wp.idx (i_in (by omega) (by omega)) (Wp.bindE (eX_offOf _ _ _) (Wp.idx (i_in (by omega) (by omega)) (Wp.lets (Wp.lets (hg _ _ ⟨⟨by omega, by omega, by omega⟩, fun c u => ?_, i4⟩))))))
    funext z
    simp [aSI, u, i3 c u]
  · intro x D' hI
    obtain ⟨⟨i0, i1, i2⟩, -⟩ := hI
    omega
theorem tX7_bestIf {i p : Int32} (h : SR D) : Pu (fX7_bestIf i p D) D := by
  obtain ⟨h0, h1, h2, h3⟩ := h
  unfold fX7_bestIf
  refine Wp.lets (Wp.lets (Wp.lets (Wp.lets ?_)))
  refine Wp.fix3 (fun n a b x D' => ((D.1 50 0).toInt ≤ x.toInt ∧ x.toInt ≤ (D.1 50 1).toInt + 1 ∧ (D.1 50 1).toInt + 1 - x.toInt < (n : Int)) ∧ D' = D) ?_ ?_ aFuel 1000000 _ _ _ _ (Nat.le_refl _) ⟨⟨by omega, by omega, by omega⟩, rfl⟩
  · intro n g hg a b x D' hI
    obtain ⟨⟨i0, i1, i2⟩, i3⟩ := hI
    subst i3
    have c2 : (x + 1).toInt = x.toInt + 1 := ti_add rfl ti_1 (by omega) (by omega)
    have c3 : (x - D'.1 50 0).toInt = x.toInt - (D'.1 50 0).toInt := ti_sub rfl rfl (by omega) (by omega)
    unfold lX7_bestIf_15
    have go : ∀ a b, x.toInt ≤ (D'.1 50 1).toInt → Wp (g a b (x + 1) D') (fun _ D1 => D1 = D') := fun a b k => hg _ _ _ _ ⟨⟨by omega, by omega, by omega⟩, rfl⟩
    refine Wp.ilt (fun _ => Wp.ret rfl) (fun k => Wp.idx (i_in (by omega) (by omega)) (Wp.bindE (eX_offIf _ _ _ _) (Wp.lets (Wp.lets (Wp.lets (Wp.ite (fun _ => Wp.lets (go _ _ k)) (fun _ => Wp.ite (fun _ => Wp.lets (go _ _ k)) (fun _ => Wp.lets (go _ _ k)))))))))
  · intro a b x D' hI
    obtain ⟨⟨i0, i1, i2⟩, -⟩ := hI
    omega
theorem SR.fr {D D1 : ADD} (h : SR D) (h0 : D1.1 50 0 = D.1 50 0) (h1 : D1.1 50 1 = D.1 50 1) : SR D1 := by
  unfold SR
  rw [h0, h1]
  exact h
theorem tX7_worthOf {i : Int32} (h : SR D) : Wp (fX7_worthOf i D) (fun _ D1 => (∀ c, c ≠ 52 → D1.1 c = D.1 c) ∧ D1.2 = D.2) := by
  unfold fX7_worthOf
  have e32 : (32 : Int32).toInt = 32 := by decide
  refine Wp.lets (Wp.ilt (fun _ => Wp.ret ⟨fun _ _ => rfl, rfl⟩) (fun h0 => Wp.ilt (fun h1 => ?_) (fun _ => Wp.ret ⟨fun _ _ => rfl, rfl⟩)))
  rw [ti_0] at h0
  refine Wp.idx (i_in h0 (by omega)) (Wp.lets (Wp.idx (i_in h0 (by omega)) (Wp.lets (Wp.ite (fun _ => Wp.ret ⟨fun _ _ => rfl, rfl⟩) (fun _ => Wp.bind (tX7_setAside h) (fun _ D2 q => ?_))))))
  have s2 : SR D2 := h.fr (by rw [q.1 50 (by decide)]) (by rw [q.1 50 (by decide)])
  refine Wp.bind (tX7_bestIf s2) (fun _ D3 q3 => ?_)
  subst q3
  refine Wp.bind (tX7_bestIf s2) (fun _ D4 q4 => ?_)
  subst q4
  exact Wp.ret q
theorem tX7_sumOfListed {m a u v : Int32} (ha : 0 ≤ a.toInt) : Pu (fX7_sumOfListed m a u v D) D := by
  unfold fX7_sumOfListed
  have e40 : (40 : Int32).toInt = 40 := by decide
  have e32 : (32 : Int32).toInt = 32 := by decide
  have tu := ti_hi u
  have tv := ti_hi v
  refine Wp.lets (Wp.ilt (fun _ => Wp.ret rfl) (fun h1 => Wp.ilt (fun _ => Wp.ret rfl) (fun h2 => Wp.ilt (fun _ => Wp.ret rfl) (fun h3 => Wp.ile (fun h4 => ?_) (fun _ => Wp.ret rfl)))))
  have eu : (u - a).toInt = u.toInt - a.toInt := ti_sub rfl rfl (by omega) (by omega)
  have ev : (v - a).toInt = v.toInt - a.toInt := ti_sub rfl rfl (by omega) (by omega)
  have eu2 : ((u - a) * 32).toInt = (u.toInt - a.toInt) * 32 := ti_mul eu e32 (by omega) (by omega)
  have ev2 : ((v - a) * 32).toInt = (v.toInt - a.toInt) * 32 := ti_mul ev e32 (by omega) (by omega)
  refine Wp.lets (Wp.lets (Wp.lets (Wp.lets (Wp.up2 (D := D) 32 (by decide) (fun g b x i0 k => ?_) (by decide) (by decide)))))
  unfold lX7_sumOfListed_53
  refine Wp.ite (fun _ => Wp.ret rfl) (fun _ => Wp.ile (fun _ => Wp.ret rfl) (fun h5 => ?_))
  have e1 : ((u - a) * 32 + x).toInt = (u.toInt - a.toInt) * 32 + x.toInt := ti_add eu2 rfl (by omega) (by omega)
  have e2 : ((v - a) * 32 + x).toInt = (v.toInt - a.toInt) * 32 + x.toInt := ti_add ev2 rfl (by omega) (by omega)
  exact Wp.idx (i_in (by omega) (by omega)) (Wp.idx (i_in (by omega) (by omega)) (Wp.lets (Wp.lets (k (by omega) _))))
theorem tX7_listOffs {a b : Int32} (ha : 0 ≤ a.toInt) (hb : b.toInt ≤ 5000) (hab : a.toInt ≤ b.toInt) : Wp (fX7_listOffs a b D) (fun _ D1 => (∀ c, c ≠ 54 → D1.1 c = D.1 c) ∧ D1.2 = D.2) := by
  unfold fX7_listOffs
  have e40 : (40 : Int32).toInt = 40 := by decide
  have e32 : (32 : Int32).toInt = 32 := by decide
  refine Wp.lets (Wp.lets ?_)
  refine Wp.fix1 (fun n x D' => (a.toInt ≤ x.toInt ∧ x.toInt ≤ b.toInt + 1 ∧ b.toInt + 1 - x.toInt < (n : Int)) ∧ (∀ c, c ≠ 54 → D'.1 c = D.1 c) ∧ D'.2 = D.2) ?_ ?_ aFuel 1000000 _ _ (Nat.le_refl _) ⟨⟨by omega, by omega, by omega⟩, fun _ _ => rfl, rfl⟩
  · intro n g hg x D' hI
    obtain ⟨⟨i0, i1, i2⟩, i3, i4⟩ := hI
    have c2 : (x + 1).toInt = x.toInt + 1 := ti_add rfl ti_1 (by omega) (by omega)
    have c3 : (x - a).toInt = x.toInt - a.toInt := ti_sub rfl rfl (by omega) (by omega)
    unfold lX7_listOffs_3
    refine Wp.ilt (fun _ => Wp.ret ⟨i3, i4⟩) (fun k => Wp.ilt (fun _ => Wp.ret ⟨i3, i4⟩) (fun k2 => ?_))
    have c4 : ((x - a) * 32).toInt = (x.toInt - a.toInt) * 32 := ti_mul c3 e32 (by omega) (by omega)
    refine Wp.letQ (fun Q j => ∀ D2 : ADD, (∀ c, c ≠ 54 → D2.1 c = D.1 c) → D2.2 = D.2 → Wp (j D2) Q) (fun D2 f1 f2 => Wp.lets (hg _ _ ⟨⟨by omega, by omega, by omega⟩, f1, f2⟩)) (fun j K => Wp.lets ?_)
    refine Wp.fix1 (fun n y D2 => (0 ≤ y.toInt ∧ y.toInt ≤ 32 ∧ 32 - y.toInt < (n : Int)) ∧ (∀ c, c ≠ 54 → D2.1 c = D.1 c) ∧ D2.2 = D.2) ?_ ?_ aFuel 1000000 _ _ (Nat.le_refl _) ⟨⟨by decide, by decide, by decide⟩, i3, i4⟩
    · intro n g2 hg2 y D2 hI2
      obtain ⟨⟨j0, j1, j2⟩, j3, j4⟩ := hI2
      unfold lX7_listOffs_21
      refine Wp.ite (fun _ => K D2 j3 j4) (fun _ => Wp.ile (fun _ => K D2 j3 j4) (fun k3 => Wp.bindE (eX_offOf _ _ _) ?_))
      have c5 : ((x - a) * 32 + y).toInt = (x.toInt - a.toInt) * 32 + y.toInt := ti_add c4 rfl (by omega) (by omega)
      have c6 : (y + 1).toInt = y.toInt + 1 := ti_add rfl ti_1 (by omega) (by omega)
      refine Wp.idx (i_in (by omega) (by omega)) (Wp.lets (Wp.lets (hg2 _ _ ⟨⟨by omega, by omega, by omega⟩, fun c u => ?_, j4⟩)))
      funext z
      simp [aSI, u, j3 c u]
    · intro y D2 hI2
      obtain ⟨⟨j0, j1, j2⟩, -⟩ := hI2
      omega
  · intro x D' hI
    obtain ⟨⟨i0, i1, i2⟩, -⟩ := hI
    omega
theorem tX7_bestPair {a b : Int32} (ha : 0 ≤ a.toInt) (hb : b.toInt ≤ 5000) (hab : a.toInt ≤ b.toInt) : Wp (fX7_bestPair a b D) (fun _ D1 => (∀ c, c ≠ 54 → D1.1 c = D.1 c) ∧ D1.2 = D.2) := by
  unfold fX7_bestPair
  refine Wp.bind (tX7_listOffs ha hb hab) (fun _ D1 q => Wp.lets (Wp.bind (tX7_sumOfListed ha) (fun y D2 q2 => ?_)))
  subst q2
  have e2 : (a + 2).toInt = a.toInt + 2 := ti_add rfl (by decide) (by omega) (by omega)
  refine Wp.lets (Wp.lets (Wp.lets (Wp.up4 (D := D2) 6000 (by decide) 0 (by decide) (fun g p r s x i0 k => ?_) (by omega) (by omega))))
  unfold lX7_bestPair_35
  refine Wp.ilt (fun _ => Wp.ret q) (fun h => Wp.letQ (fun Q j => ∀ p r s, Wp (j p r s D2) Q) (fun p r s => Wp.lets (k (by omega) _ _ _)) (fun j K => Wp.lets ?_))
  refine Wp.up4 (D := D2) 6000 (by decide) 0 (by decide) (fun g p r s y i0 k2 => ?_) ha (by omega)
  unfold lX7_bestPair_44
  refine Wp.ile (fun _ => K _ _ _) (fun h2 => Wp.bind (tX7_sumOfListed ha) (fun z D3 q3 => ?_))
  subst q3
  exact Wp.lets (Wp.ite (fun _ => Wp.lets (k2 (by omega) _ _ _)) (fun _ => Wp.lets (k2 (by omega) _ _ _)))
theorem tX10_simplest {u v e : Int32} : Pu (fX10_simplestRate u v e D) D := by
  unfold fX10_simplestRate
  have e24 : (24 : Int32).toInt = 24 := by decide
  have e12 : (12 : Int32).toInt = 12 := by decide
  refine Wp.lets (Wp.lets (Wp.up1 (D := D) 25 (by decide) (fun g x i0 k => ?_) (by decide) (by decide)))
  unfold lX10_simplestRate_2
  refine Wp.ilt (fun _ => Wp.ret rfl) (fun h => Wp.lets (Wp.lets (Wp.letQ (fun Q j => Wp (j D) Q) (Wp.lets (k (by omega))) (fun j K => Wp.lets ?_))))
  have c1 : (x - 12).toInt = x.toInt - 12 := ti_sub rfl e12 (by omega) (by omega)
  have m1 : (aMax 1 (x - 12)).toInt = max 1 (x.toInt - 12) := by rw [ti_max, ti_1, c1]
  have m2 : (aMin 12 (x - 1)).toInt ≤ 12 := by rw [ti_min, e12]; omega
  refine Wp.up1 (D := D) 13 (by decide) (fun g y j0 k2 => ?_) (by omega) (by omega)
  unfold lX10_simplestRate_32
  exact Wp.ilt (fun _ => K) (fun h2 => Wp.lets (Wp.ite (fun _ => Wp.lets (k2 (by omega))) (fun _ => Wp.ret rfl)))
theorem i64_ne {a : Int32} (h : a.toInt ≠ 0) : a.toInt64 ≠ 0 := by
  intro e
  have e2 : a.toInt64.toInt = a.toInt := Int32.toInt_toInt64 a
  rw [e] at e2
  exact h (by rw [← e2]; decide)
/-- chances behind one more stone -/
def drF (f : Nat → Int64) (one of : Int32) (j : Nat) : Int64 := if j = 0 then (f 0 * (of - one).toInt64) / of.toInt64 else (f j * (of - one).toInt64 + f (j - 1) * one.toInt64) / of.toInt64
theorem tX3_draw {one of : Int32} (ho : 1 ≤ of.toInt) : Wp (fX3_draw one of D) (fun _ D1 => D1.1 = D.1 ∧ ∀ j, j ≤ 32 → D1.2 56 j = drF (D.2 56) one of j) := by
  unfold fX3_draw
  have ne := i64_ne (a := of) (by omega)
  refine Wp.pos (Int32.le_iff_toInt_le.mpr (by rw [ti_1]; exact ho)) (Wp.lets (Wp.lets ?_))
  refine Wp.fix1 (fun n x D' => (0 ≤ x.toInt ∧ x.toInt ≤ 32 ∧ x.toInt < (n : Int)) ∧ D'.1 = D.1 ∧ ∀ j : Nat, j ≤ 32 → D'.2 56 j = if x.toInt < (j : Int) then drF (D.2 56) one of j else D.2 56 j) ?_ ?_ aFuel 1000000 _ _ (Nat.le_refl _) ⟨⟨by decide, by decide, by decide⟩, rfl, fun j hj => by rw [show (32 : Int32).toInt = 32 by decide, if_neg (by omega)]⟩
  · intro n g hg x D' hI
    obtain ⟨⟨i0, i1, i2⟩, i3, i4⟩ := hI
    have ex := cl_i i0
    unfold lX3_draw_9
    refine Wp.ile (fun h => ?_) (fun h => ?_)
    · rw [ti_0] at h
      have hx : x.toInt = 0 := by omega
      refine Wp.idd (by decide) (Wp.nzl ne (Wp.idd (by decide) (Wp.lets (Wp.ret ⟨i3, fun j hj => ?_⟩))))
      rw [cl_0]
      show (if (56 : Nat) = 56 ∧ j = 0 then (D'.2 56 0 * (of - one).toInt64) / of.toInt64 else D'.2 56 j) = _
      by_cases hj0 : j = 0
      · subst hj0
        rw [if_pos ⟨rfl, rfl⟩, i4 0 (by omega), if_neg (by omega)]
        rfl
      · rw [if_neg (fun q => hj0 q.2), i4 j hj, if_pos (by omega)]
    · rw [ti_0] at h
      have c1 : (x - 1).toInt = x.toInt - 1 := ti_sub rfl ti_1 (by omega) (by omega)
      have c2 : (x + -1).toInt = x.toInt + -1 := ti_add rfl ti_m1 (by omega) (by omega)
      have w1 : (x - 1).toNatClampNeg = x.toNatClampNeg - 1 := cl_of (by omega)
      refine Wp.idx (i_in (by omega) (by omega)) (Wp.idx (i_in (by omega) (by omega)) (Wp.nzl ne (Wp.idx (i_in (by omega) (by omega)) (Wp.lets (Wp.lets (hg _ _ ⟨⟨by omega, by omega, by omega⟩, i3, fun j hj => ?_⟩))))))
      rw [w1]
      show (if (56 : Nat) = 56 ∧ j = x.toNatClampNeg then (D'.2 56 x.toNatClampNeg * (of - one).toInt64 + D'.2 56 (x.toNatClampNeg - 1) * one.toInt64) / of.toInt64 else D'.2 56 j) = _
      by_cases hjx : j = x.toNatClampNeg
      · rw [if_pos ⟨rfl, hjx⟩, i4 x.toNatClampNeg (by omega), i4 (x.toNatClampNeg - 1) (by omega), if_neg (by omega), if_neg (by omega), if_pos (by omega), hjx]
        unfold drF
        rw [if_neg (by omega)]
      · rw [if_neg (fun q => hjx q.2), i4 j hj]
        by_cases hjl : x.toInt < (j : Int)
        · rw [if_pos hjl, if_pos (by omega)]
        · rw [if_neg hjl, if_neg (by omega)]
  · intro x D' hI
    obtain ⟨⟨i0, i1, i2⟩, -⟩ := hI
    omega
theorem tX3_fromT {a : Int32} : Pu (fX3_from a D) D := by
  unfold fX3_from
  have hm : 0 ≤ (aMax 0 a).toInt := by rw [ti_max, ti_0]; omega
  refine Wp.lets (Wp.lets (Wp.lets ?_))
  refine Wp.fix2 (fun n acc x D' => (0 ≤ x.toInt ∧ 34 - x.toInt < (n : Int) ∧ 0 < (n : Int)) ∧ D' = D) ?_ ?_ aFuel 1000000 _ _ _ (Nat.le_refl _) ⟨⟨hm, by omega, by decide⟩, rfl⟩
  · intro n g hg acc x D' hI
    obtain ⟨⟨h0, h1, h2⟩, h3⟩ := hI
    subst h3
    unfold lX3_from_9
    refine Wp.ilt (fun h => Wp.ret rfl) (fun h => ?_)
    simp only [Int32.reduceToInt] at h
    obtain ⟨c1, c2⟩ := cl_add1 (x := x) (by omega) (by omega)
    exact Wp.idx (i_in (by omega) (by omega)) (Wp.lets (Wp.lets (hg _ _ _ ⟨⟨by omega, by omega, by omega⟩, rfl⟩)))
  · intro acc x D' hI
    obtain ⟨⟨h0, h1, h2⟩, -⟩ := hI
    omega
theorem tX3_ofNear {u n : Int32} (hm : (D.1 43 0).toInt ≤ 32) (hu : 1 ≤ u.toInt) : Wp (fX3_ofNear u n D) (fun _ D1 => D1.1 = D.1) := by
  unfold fX3_ofNear
  refine Wp.bind tX3_begin (fun _ D1 q => Wp.lets (Wp.lets ?_))
  refine Wp.fix1 (fun n x D' => (0 ≤ x.toInt ∧ x.toInt ≤ 33 ∧ 33 - x.toInt < (n : Int)) ∧ D'.1 = D.1) ?_ ?_ aFuel 1000000 _ _ (Nat.le_refl _) ⟨⟨by decide, by decide, by decide⟩, q.1⟩
  · intro n g hg x D' hI
    obtain ⟨⟨i0, i1, i2⟩, i3⟩ := hI
    unfold lX3_ofNear_7
    rw [i3]
    refine Wp.ile (fun _ => Wp.bind tX3_fromT (fun r D2 q2 => ?_)) (fun h => Wp.bindE (eX_luckyOf _ _ _) (Wp.bind (tX3_draw hu) (fun _ D2 q2 => Wp.lets (hg _ _ ⟨?_, ?_⟩))))
    · subst q2
      exact Wp.ret i3
    · have c2 : (x + 1).toInt = x.toInt + 1 := ti_add rfl ti_1 (by omega) (by omega)
      omega
    · rw [q2.1, i3]
  · intro x D' hI
    obtain ⟨⟨i0, i1, i2⟩, -⟩ := hI
    omega
theorem tX3_ofShort {m n : Int32} : Wp (fX3_ofShort m n D) (fun _ D1 => D1.1 = D.1) := by
  unfold fX3_ofShort
  refine Wp.bind tX3_begin (fun _ D1 q => Wp.lets (Wp.lets ?_))
  have e32 : (32 : Int32).toInt = 32 := by decide
  refine Wp.fix1 (fun n x D' => (0 ≤ x.toInt ∧ x.toInt ≤ 33 ∧ 33 - x.toInt < (n : Int)) ∧ D'.1 = D.1) ?_ ?_ aFuel 1000000 _ _ (Nat.le_refl _) ⟨⟨by decide, by decide, by decide⟩, q.1⟩
  · intro n g hg x D' hI
    obtain ⟨⟨i0, i1, i2⟩, i3⟩ := hI
    unfold lX3_ofShort_6
    have go : ∀ t, Wp (aBind (fX3_from t D') (fun x1 D3 => some (x1, D3))) (fun _ D1 => D1.1 = D.1) := fun t => Wp.bind tX3_fromT (fun r D2 q2 => by subst q2; exact Wp.ret i3)
    refine Wp.ite (fun _ => go _) (fun _ => Wp.ile (fun _ => go _) (fun h => Wp.bind (tX3_draw (by decide)) (fun _ D2 q2 => Wp.lets (hg _ _ ⟨?_, ?_⟩))))
    · have c2 : (x + 1).toInt = x.toInt + 1 := ti_add rfl ti_1 (by omega) (by omega)
      omega
    · rw [q2.1, i3]
  · intro x D' hI
    obtain ⟨⟨i0, i1, i2⟩, -⟩ := hI
    omega
end XQ
