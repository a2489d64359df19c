/-- a boolean answer -/
def Bo (x : Int32) (C : Prop) : Prop := (x = 1 ∧ C) ∨ (x = 0 ∧ ¬ C)
theorem Bo.t {x : Int32} {C : Prop} (h : Bo x C) (c : C) : x = 1 := by
  rcases h with ⟨e, -⟩ | ⟨-, n⟩
  · exact e
  · exact absurd c n
theorem Bo.f {x : Int32} {C : Prop} (h : Bo x C) (c : ¬ C) : x = 0 := by
  rcases h with ⟨-, n⟩ | ⟨e, -⟩
  · exact absurd n c
  · exact e
theorem tn_1 : (-1 : Int32).toInt = -1 := by decide
theorem tn_3000 : (-3000 : Int32).toInt = -3000 := by decide
theorem cl_add1 {x : Int32} (h0 : 0 ≤ x.toInt) (h1 : x.toInt ≤ 1000000) : (x + 1).toNatClampNeg = x.toNatClampNeg + 1 ∧ (x + 1).toInt = x.toInt + 1 := by
  have e : (x + 1).toInt = x.toInt + 1 := ti_add rfl ti_1 (by omega) (by omega)
  refine ⟨?_, e⟩
  show (x + 1).toInt.toNat = x.toInt.toNat + 1
  omega
theorem cl_i {x : Int32} (h0 : 0 ≤ x.toInt) : (x.toNatClampNeg : Int) = x.toInt := by rw [ti_cl]; omega
/-! rows of longs -/
def sL (f : Nat → Int64) (acc : Int64) (i : Nat) : Nat → Int64
  | 0 => acc
  | n + 1 => sL f (acc + f i) (i + 1) n
theorem sL_congr {f g : Nat → Int64} : ∀ (n i : Nat) (acc : Int64), (∀ j, i ≤ j → j < i + n → f j = g j) → sL f acc i n = sL g acc i n
  | 0, i, acc, h => rfl
  | n + 1, i, acc, h => by
    show sL f (acc + f i) (i + 1) n = sL g (acc + g i) (i + 1) n
    rw [h i (by omega) (by omega)]
    exact sL_congr n (i + 1) _ (fun j h1 h2 => h j (by omega) (by omega))
theorem sL_at {f : Nat → Int64} {acc : Int64} {k : Nat} (h : k ≤ 32) : sL f acc k (33 - k) = sL f (acc + f k) (k + 1) (33 - (k + 1)) := by
  rw [show 33 - k = (33 - (k + 1)) + 1 by omega]
  rfl
def pB (j : Nat) : Int64 := if j = 0 then 1000000000 else 0
theorem tX3_begin {D : ADD} : Wp (fX3_begin D) (fun _ D1 => D1.1 = D.1 ∧ ∀ j, j ≤ 32 → D1.2 56 j = pB j) := by
  unfold fX3_begin
  refine Wp.idd (by decide) (Wp.lets (Wp.lets (Wp.lets ?_)))
  refine Wp.fix1 (fun n x D' => (0 < x.toInt ∧ x.toInt ≤ 33 ∧ 33 - x.toInt < (n : Int)) ∧ D'.1 = D.1 ∧ ∀ j : Nat, (j : Int) < x.toInt → D'.2 56 j = pB j) ?_ ?_ aFuel 1000000 _ _ (Nat.le_refl _) ?_
  · intro n g hg x D' hI
    obtain ⟨⟨h0, h1, h2⟩, h3, h4⟩ := hI
    unfold lX3_begin_11
    refine Wp.ilt (fun h => ?_) (fun h => ?_)
    · simp only [Int32.reduceToInt] at h
      exact Wp.ret ⟨h3, fun j hj => h4 j (by omega)⟩
    · simp only [Int32.reduceToInt] at h
      refine Wp.idx (i_in (by omega) (by omega)) (Wp.lets (Wp.lets ?_))
      obtain ⟨c1, c2⟩ := cl_add1 (x := x) (by omega) (by omega)
      refine hg _ _ ⟨⟨by omega, by omega, by omega⟩, h3, fun j hj => ?_⟩
      have e := cl_i (x := x) (by omega)
      show (if (56 : Nat) = 56 ∧ j = x.toNatClampNeg then (0 : Int64) else D'.2 56 j) = pB j
      by_cases hj2 : j = x.toNatClampNeg
      · rw [if_pos ⟨rfl, hj2⟩, pB, if_neg (by omega)]
      · rw [if_neg (fun q => hj2 q.2)]
        exact h4 j (by omega)
  · intro x D' hI
    obtain ⟨⟨h0, h1, h2⟩, -⟩ := hI
    omega
  · refine ⟨⟨by decide, by decide, by decide⟩, rfl, fun j hj => ?_⟩
    have e : (1 : Int32).toInt = 1 := by decide
    have hj0 : j = 0 := by omega
    subst hj0
    rfl
theorem tX3_from {a : Int32} {D : ADD} (h0 : 0 ≤ a.toInt) (h1 : a.toInt ≤ 33) : Wp (fX3_from a D) (fun r D1 => D1 = D ∧ r = (sL (D.2 56) 0 a.toNatClampNeg (33 - a.toNatClampNeg)).toInt32) := by
  unfold fX3_from
  have hm : aMax 0 a = a := by
    apply ti_eq
    rw [ti_max, ti_0]
    omega
  rw [hm]
  refine Wp.lets (Wp.lets (Wp.lets ?_))
  refine Wp.fix2 (fun n acc x D' => (0 ≤ x.toInt ∧ x.toInt ≤ 33 ∧ 33 - x.toInt < (n : Int)) ∧ D' = D ∧ sL (D.2 56) acc x.toNatClampNeg (33 - x.toNatClampNeg) = sL (D.2 56) 0 a.toNatClampNeg (33 - a.toNatClampNeg)) ?_ ?_ aFuel 1000000 _ _ _ (Nat.le_refl _) ⟨⟨h0, h1, by omega⟩, rfl, rfl⟩
  · intro n g hg acc x D' hI
    obtain ⟨⟨h0, h1, h2⟩, h3, h4⟩ := hI
    subst h3
    have e := cl_i (x := x) (by omega)
    unfold lX3_from_9
    refine Wp.ilt (fun h => ?_) (fun h => ?_)
    · simp only [Int32.reduceToInt] at h
      refine Wp.ret ⟨rfl, ?_⟩
      rw [← h4, show x.toNatClampNeg = 33 by omega]
      rfl
    · simp only [Int32.reduceToInt] at h
      obtain ⟨c1, c2⟩ := cl_add1 (x := x) (by omega) (by omega)
      refine Wp.idx (i_in (by omega) (by omega)) (Wp.lets (Wp.lets (hg _ _ _ ⟨⟨by omega, by omega, by omega⟩, rfl, ?_⟩)))
      rw [c1, ← h4, sL_at (k := x.toNatClampNeg) (by omega)]
  · intro acc x D' hI
    obtain ⟨⟨h0, h1, h2⟩, -⟩ := hI
    omega
theorem tM_begin {D : ADD} : Wp (fX11_beginChances D) (fun _ D1 => D1.1 = D.1 ∧ (∀ a, a ≠ 37 → D1.2 a = D.2 a) ∧ ∀ j, j ≤ 32 → D1.2 37 j = pB j) := by
  unfold fX11_beginChances
  refine Wp.lets (Wp.lets ?_)
  refine Wp.fix1 (fun n x D' => (0 ≤ x.toInt ∧ x.toInt ≤ 33 ∧ 33 - x.toInt < (n : Int)) ∧ D'.1 = D.1 ∧ (∀ a, a ≠ 37 → D'.2 a = D.2 a) ∧ ∀ j : Nat, (j : Int) < x.toInt → D'.2 37 j = pB j) ?_ ?_ aFuel 1000000 _ _ (Nat.le_refl _) ?_
  · intro n g hg x D' hI
    obtain ⟨⟨h0, h1, h2⟩, h3, h5, h4⟩ := hI
    unfold lX11_beginChances_2
    refine Wp.ilt (fun h => ?_) (fun h => ?_)
    · simp only [Int32.reduceToInt] at h
      exact Wp.ret ⟨h3, h5, fun j hj => h4 j (by omega)⟩
    · simp only [Int32.reduceToInt] at h
      have e := cl_i (x := x) (by omega)
      obtain ⟨c1, c2⟩ := cl_add1 (x := x) (by omega) (by omega)
      refine Wp.lets (Wp.ite (fun hx => ?_) (fun hx => ?_))
      · refine Wp.idx (i_in (by omega) (by omega)) (Wp.lets (Wp.lets ?_))
        refine hg _ _ ⟨⟨by omega, by omega, by omega⟩, h3, fun a ha => ?_, fun j hj => ?_⟩
        · funext k
          show (if a = 37 ∧ k = x.toNatClampNeg then _ else D'.2 a k) = D.2 a k
          rw [if_neg (fun q => ha q.1), h5 a ha]
        · show (if (37 : Nat) = 37 ∧ j = x.toNatClampNeg then (1000000000 : Int64) else D'.2 37 j) = pB j
          by_cases hj2 : j = x.toNatClampNeg
          · have hx0 : x.toInt = 0 := by rw [hx]; decide
            rw [if_pos ⟨rfl, hj2⟩, pB, if_pos (by omega)]
          · rw [if_neg (fun q => hj2 q.2)]
            exact h4 j (by omega)
      · refine Wp.idx (i_in (by omega) (by omega)) (Wp.lets (Wp.lets ?_))
        refine hg _ _ ⟨⟨by omega, by omega, by omega⟩, h3, fun a ha => ?_, fun j hj => ?_⟩
        · funext k
          show (if a = 37 ∧ k = x.toNatClampNeg then _ else D'.2 a k) = D.2 a k
          rw [if_neg (fun q => ha q.1), h5 a ha]
        · show (if (37 : Nat) = 37 ∧ j = x.toNatClampNeg then (0 : Int64) else D'.2 37 j) = pB j
          by_cases hj2 : j = x.toNatClampNeg
          · have hx0 := ti_ne hx
            rw [ti_0] at hx0
            rw [if_pos ⟨rfl, hj2⟩, pB, if_neg (by omega)]
          · rw [if_neg (fun q => hj2 q.2)]
            exact h4 j (by omega)
  · intro x D' hI
    obtain ⟨⟨h0, h1, h2⟩, -⟩ := hI
    omega
  · refine ⟨⟨by decide, by decide, by decide⟩, rfl, fun _ _ => rfl, fun j hj => ?_⟩
    rw [ti_0] at hj
    omega
theorem tM_from {a : Int32} {D : ADD} (h0 : 0 ≤ a.toInt) (h1 : a.toInt ≤ 33) : Wp (fX11_chancesFrom a D) (fun r D1 => D1 = D ∧ r = sL (D.2 37) 0 a.toNatClampNeg (33 - a.toNatClampNeg)) := by
  unfold fX11_chancesFrom
  refine Wp.lets (Wp.lets ?_)
  refine Wp.fix2 (fun n acc x D' => (0 ≤ x.toInt ∧ x.toInt ≤ 33 ∧ 33 - x.toInt < (n : Int)) ∧ D' = D ∧ sL (D.2 37) acc x.toNatClampNeg (33 - x.toNatClampNeg) = sL (D.2 37) 0 a.toNatClampNeg (33 - a.toNatClampNeg)) ?_ ?_ aFuel 1000000 _ _ _ (Nat.le_refl _) ⟨⟨h0, h1, by omega⟩, rfl, rfl⟩
  · intro n g hg acc x D' hI
    obtain ⟨⟨h0, h1, h2⟩, h3, h4⟩ := hI
    subst h3
    have e := cl_i (x := x) (by omega)
    unfold lX11_chancesFrom_5
    refine Wp.ilt (fun h => ?_) (fun h => ?_)
    · simp only [Int32.reduceToInt] at h
      refine Wp.ret ⟨rfl, ?_⟩
      rw [← h4, show x.toNatClampNeg = 33 by omega]
      rfl
    · simp only [Int32.reduceToInt] at h
      obtain ⟨c1, c2⟩ := cl_add1 (x := x) (by omega) (by omega)
      refine Wp.idx (i_in (by omega) (by omega)) (Wp.lets (Wp.lets (hg _ _ _ ⟨⟨by omega, by omega, by omega⟩, rfl, ?_⟩)))
      rw [c1, ← h4, sL_at (k := x.toNatClampNeg) (by omega)]
  · intro acc x D' hI
    obtain ⟨⟨h0, h1, h2⟩, -⟩ := hI
    omega
