/-! the book: an entry's deed, exactly -/
theorem cl_of {x : Int32} {n : Nat} (h : x.toInt = n) : x.toNatClampNeg = n := by
  show x.toInt.toNat = n
  omega
/-- a fact of a listing -/
def lsF (i : Nat) (v st tw : Int32) : Int32 := if i = 0 then v else if i = 1 then st else if i = 4 then tw else if i = 5 then -3000 else if i = 6 then 1900 else if i = 9 then 1 else 0
/-- rows of facts behind an entry -/
def apF (row : Nat → Int32) (s : Nat) (f v st tw : Int32) (j : Nat) : Int32 :=
  if 0 ≤ f.toInt ∧ f.toInt < 11 then (if j = 11 * s + f.toNatClampNeg then v else row j) else if 11 * s ≤ j ∧ j < 11 * s + 11 then lsF (j - 11 * s) v st tw else row j
theorem apF_1 {row : Nat → Int32} {s : Nat} {f v st tw : Int32} {j : Nat} (h : 0 ≤ f.toInt ∧ f.toInt < 11) : apF row s f v st tw j = if j = 11 * s + f.toNatClampNeg then v else row j := if_pos h
theorem apF_2 {row : Nat → Int32} {s : Nat} {f v st tw : Int32} {j : Nat} (h : f.toInt < 0 ∨ 11 ≤ f.toInt) : apF row s f v st tw j = if 11 * s ≤ j ∧ j < 11 * s + 11 then lsF (j - 11 * s) v st tw else row j := if_neg (by omega)
theorem tX0_apply {r : Nat} {a : Int32} {D : ADD} (hr : r = 3 ∨ r = 4) (ha : 0 ≤ a.toInt ∧ a.toInt < 400) (hs : 0 ≤ (D.1 8 a.toNatClampNeg).toInt ∧ (D.1 8 a.toNatClampNeg).toInt < 32) : Wp (fX0_apply r a D) (fun _ D1 => (∀ c, c ≠ r → D1.1 c = D.1 c) ∧ D1.2 = D.2 ∧ ∀ j, D1.1 r j = apF (D.1 r) (D.1 8 a.toNatClampNeg).toNatClampNeg (D.1 9 a.toNatClampNeg) (D.1 10 a.toNatClampNeg) (D.1 5 (D.1 8 a.toNatClampNeg).toNatClampNeg) (D.1 6 (D.1 8 a.toNatClampNeg).toNatClampNeg) j) := by
  unfold fX0_apply
  have ia : vp_in a 400 := i_in ha.1 ha.2
  refine Wp.idx ia ?_
  generalize hk : a.toNatClampNeg = k at hs ⊢
  refine Wp.leti (fun s hse => Wp.idx ia (Wp.leti (fun f hf => ?_)))
  rw [← hse] at hs
  rw [← hse, ← hf]
  have es := cl_i hs.1
  have e11 : (s * 11).toInt = s.toInt * 11 := ti_mul rfl (by decide) (by omega) (by omega)
  have cell : ∀ (i : Int32) (n : Nat), i.toInt = n → n < 11 → vp_in (s * 11 + i) 352 ∧ (s * 11 + i).toNatClampNeg = 11 * s.toNatClampNeg + n := by
    intro i n hi hn
    have e : (s * 11 + i).toInt = s.toInt * 11 + n := ti_add e11 hi (by omega) (by omega)
    exact ⟨i_in (by omega) (by omega), cl_of (by omega)⟩
  refine Wp.lets ?_
  refine Wp.letK (fun j => (f.toInt < 0 ∨ 11 ≤ f.toInt) → Wp (j D) _) (fun hfo => ?_) (fun j47 hj => Wp.ilt (fun h => hj (Or.inl h)) (fun h => Wp.ile (fun h2 => hj (Or.inr h2)) (fun h2 => ?_)))
  · refine Wp.lets (Wp.lets ?_)
    have is : vp_in s 32 := i_in hs.1 hs.2
    refine Wp.fix1 (fun n x D' => (0 ≤ x.toInt ∧ x.toInt ≤ 11 ∧ 11 - x.toInt < (n : Int)) ∧ (∀ c, c ≠ r → D'.1 c = D.1 c) ∧ D'.2 = D.2 ∧ ∀ j, D'.1 r j = if 11 * s.toNatClampNeg ≤ j ∧ (j : Int) < 11 * s.toInt + x.toInt then 0 else D.1 r j) ?_ ?_ aFuel 1000000 _ _ (Nat.le_refl _) ?_
    · intro n g hg x D' hI
      obtain ⟨⟨i0, i1, i2⟩, i3, i4, i5⟩ := hI
      unfold lX0_apply_50
      refine Wp.ile (fun h => ?_) (fun h => ?_)
      · have hx : x.toInt = 11 := by
          have : (11 : Int32).toInt = 11 := by decide
          omega
        have q8 := i3 8 (by omega)
        have q9 := i3 9 (by omega)
        have q10 := i3 10 (by omega)
        have q5 := i3 5 (by omega)
        have q6 := i3 6 (by omega)
        obtain ⟨v0, w0⟩ := cell 0 0 (by decide) (by decide)
        obtain ⟨v1, w1⟩ := cell 1 1 (by decide) (by decide)
        obtain ⟨v4, w4⟩ := cell 4 4 (by decide) (by decide)
        obtain ⟨v5, w5⟩ := cell 5 5 (by decide) (by decide)
        obtain ⟨v6, w6⟩ := cell 6 6 (by decide) (by decide)
        obtain ⟨v9, w9⟩ := cell 9 9 (by decide) (by decide)
        refine Wp.idx ia (Wp.idx v0 (Wp.lets (Wp.idx is (Wp.idx v1 (Wp.lets (Wp.idx is (Wp.idx v4 (Wp.lets (Wp.idx v5 (Wp.lets (Wp.idx v6 (Wp.lets (Wp.idx v9 (Wp.lets (Wp.ret ⟨fun c hc => ?_, i4, fun j => ?_⟩)))))))))))))))
        · funext z
          simp [aSI, hc, i3 c hc]
        · rw [w0, w1, w4, w5, w6, w9]
          have r10 : (10 : Nat) ≠ r := by omega
          have r5 : (5 : Nat) ≠ r := by omega
          have r6 : (6 : Nat) ≠ r := by omega
          simp only [aSI, r10, r5, r6, false_and, if_false, true_and, q10, q5, q6, i5]
          rw [apF_2 hfo]
          by_cases hj : 11 * s.toNatClampNeg ≤ j ∧ j < 11 * s.toNatClampNeg + 11
          · rw [if_pos hj]
            have hj2 : 11 * s.toNatClampNeg ≤ j ∧ (j : Int) < 11 * s.toInt + x.toInt := ⟨hj.1, by omega⟩
            rw [if_pos hj2]
            obtain ⟨t, ht, ht2⟩ : ∃ t, j = 11 * s.toNatClampNeg + t ∧ t < 11 := ⟨j - 11 * s.toNatClampNeg, by omega, by omega⟩
            subst ht
            simp only [Nat.add_sub_cancel_left, Nat.add_left_cancel_iff, lsF]
            have : t = 0 ∨ t = 1 ∨ t = 2 ∨ t = 3 ∨ t = 4 ∨ t = 5 ∨ t = 6 ∨ t = 7 ∨ t = 8 ∨ t = 9 ∨ t = 10 := by omega
            rcases this with rfl | rfl | rfl | rfl | rfl | rfl | rfl | rfl | rfl | rfl | rfl <;> simp
          · have hj2 : ¬ (11 * s.toNatClampNeg ≤ j ∧ (j : Int) < 11 * s.toInt + x.toInt) := by omega
            rw [if_neg hj, if_neg hj2, if_neg (by omega), if_neg (by omega), if_neg (by omega), if_neg (by omega), if_neg (by omega), if_neg (by omega)]
      · have hx : x.toInt < 11 := by
          have : (11 : Int32).toInt = 11 := by decide
          omega
        obtain ⟨c1, c2⟩ := cl_add1 (x := x) (by omega) (by omega)
        have ex := cl_i i0
        obtain ⟨v0, w0⟩ := cell x x.toNatClampNeg (by omega) (by omega)
        refine Wp.idx v0 (Wp.lets (Wp.lets (hg _ _ ⟨⟨by omega, by omega, by omega⟩, fun c hc => ?_, i4, fun j => ?_⟩)))
        · funext z
          simp [aSI, hc, i3 c hc]
        · rw [w0]
          simp only [aSI, true_and, i5]
          by_cases hj : j = 11 * s.toNatClampNeg + x.toNatClampNeg
          · rw [if_pos hj, if_pos ⟨by omega, by omega⟩]
          · rw [if_neg hj]
            by_cases hj2 : 11 * s.toNatClampNeg ≤ j ∧ (j : Int) < 11 * s.toInt + x.toInt
            · rw [if_pos hj2, if_pos ⟨by omega, by omega⟩]
            · rw [if_neg hj2, if_neg (by omega)]
    · intro x D' hI
      obtain ⟨⟨i0, i1, i2⟩, -⟩ := hI
      omega
    · refine ⟨⟨by decide, by decide, by decide⟩, fun _ _ => rfl, rfl, fun j => ?_⟩
      rw [ti_0, if_neg (by omega)]
  · have hx : f.toInt < 11 := by
      have : (11 : Int32).toInt = 11 := by decide
      omega
    have h : 0 ≤ f.toInt := by rw [ti_0] at h; exact h
    have ef := cl_i h
    obtain ⟨v0, w0⟩ := cell f f.toNatClampNeg (by omega) (by omega)
    refine Wp.idx ia (Wp.idx v0 (Wp.lets (Wp.ret ⟨fun c hc => ?_, rfl, fun j => ?_⟩)))
    · funext z
      simp [aSI, hc]
    · rw [w0]
      simp only [aSI, true_and]
      rw [apF_1 ⟨h, hx⟩]
