section
/-! LAYER 2: what the models answer -/
def Wp {ρ : Type} (f : Option (ρ × ADD)) (Q : ρ → ADD → Prop) : Prop := ∃ (x : ρ) (D : ADD), f = some (x, D) ∧ Q x D
section W2
variable {ρ σ τ υ α : Type} {Q : ρ → ADD → Prop} {K : Option (ρ × ADD)}
theorem Wp.ret {x : ρ} {D : ADD} (h : Q x D) : Wp (some (x, D)) Q := ⟨x, D, rfl, h⟩
theorem Wp.mono {P : ρ → ADD → Prop} {f : Option (ρ × ADD)} (h : Wp f P) (k : ∀ x D, P x D → Q x D) : Wp f Q := by
  obtain ⟨x, D, e, p⟩ := h
  exact ⟨x, D, e, k x D p⟩
theorem Wp.bind {P : α → ADD → Prop} {f : Option (α × ADD)} {G : α → ADD → Option (ρ × ADD)} (h : Wp f P) (k : ∀ x D, P x D → Wp (G x D) Q) : Wp (aBind f G) Q := by
  obtain ⟨x, D, e, p⟩ := h
  rw [e]
  exact k x D p
theorem Wp.bindE {x : α} {D : ADD} {f : Option (α × ADD)} {G : α → ADD → Option (ρ × ADD)} (h : f = some (x, D)) (k : Wp (G x D) Q) : Wp (aBind f G) Q := by
  rw [h]
  exact k
theorem Wp.lets {x : α} {G : α → Option (ρ × ADD)} (k : Wp (G x) Q) : Wp (aLet x G) Q := k
theorem Wp.leti {x : α} {G : α → Option (ρ × ADD)} (k : ∀ y, y = x → Wp (G y) Q) : Wp (aLet x G) Q := k x rfl
theorem Wp.letK {x : α} {G : α → Option (ρ × ADD)} (P : α → Prop) (h : P x) (k : ∀ j, P j → Wp (G j) Q) : Wp (aLet x G) Q := k x h
theorem Wp.idx {i : Int32} {n : Nat} (h : vp_in i n) (k : Wp K Q) : Wp (aIn i n K) Q := by
  unfold aIn
  rw [if_neg h]
  exact k
theorem Wp.idd {i : Int32} {n : Nat} (h : decide (i < 0 ∨ n ≤ i.toNatClampNeg) = false) (k : Wp K Q) : Wp (aIn i n K) Q := Wp.idx (of_decide_eq_false h) k
theorem Wp.nz {y : Int32} (h : y ≠ 0) (k : Wp K Q) : Wp (aNZ y K) Q := by
  unfold aNZ
  rw [if_neg h]
  exact k
theorem Wp.nzl {y : Int64} (h : y ≠ 0) (k : Wp K Q) : Wp (aNZl y K) Q := by
  unfold aNZl
  rw [if_neg h]
  exact k
theorem Wp.z {v : Int32} (h : v = 0 ∨ v = 1) (k : Wp K Q) : Wp (aZ v K) Q := by
  unfold aZ
  rw [if_pos h]
  exact k
theorem Wp.ite {c : Prop} [Decidable c] {A B : Option (ρ × ADD)} (a : c → Wp A Q) (b : ¬ c → Wp B Q) : Wp (if c then A else B) Q := by
  split
  · exact a ‹_›
  · exact b ‹_›
theorem Wp.pos {c : Prop} [Decidable c] {A B : Option (ρ × ADD)} (h : c) (k : Wp A Q) : Wp (if c then A else B) Q := by
  rw [if_pos h]
  exact k
theorem Wp.neg {c : Prop} [Decidable c] {A B : Option (ρ × ADD)} (h : ¬ c) (k : Wp B Q) : Wp (if c then A else B) Q := by
  rw [if_neg h]
  exact k
theorem Wp.ilt {a b : Int32} {A B : Option (ρ × ADD)} (t : a.toInt < b.toInt → Wp A Q) (e : b.toInt ≤ a.toInt → Wp B Q) : Wp (if a < b then A else B) Q := by
  refine Wp.ite (fun h => t (Int32.lt_iff_toInt_lt.mp h)) (fun h => e ?_)
  exact Int.not_lt.mp (fun g => h (Int32.lt_iff_toInt_lt.mpr g))
theorem Wp.ile {a b : Int32} {A B : Option (ρ × ADD)} (t : a.toInt ≤ b.toInt → Wp A Q) (e : b.toInt < a.toInt → Wp B Q) : Wp (if a ≤ b then A else B) Q := by
  refine Wp.ite (fun h => t (Int32.le_iff_toInt_le.mp h)) (fun h => e ?_)
  exact Int.not_le.mp (fun g => h (Int32.le_iff_toInt_le.mpr g))
theorem Wp.fix0 {F : (ADD → Option (ρ × ADD)) → ADD → Option (ρ × ADD)} {z : ADD → Option (ρ × ADD)} (I : Nat → ADD → Prop) (h : ∀ n g, (∀ D, I n D → Wp (g D) Q) → ∀ D, I (n + 1) D → Wp (F g D) Q) (h0 : ∀ D, ¬ I 0 D) : ∀ m n D, n ≤ m → I n D → Wp (aFix m F z D) Q
  | 0, n, D, hn, hI => by
    have e : n = 0 := by omega
    rw [e] at hI
    exact absurd hI (h0 D)
  | m + 1, 0, D, hn, hI => absurd hI (h0 D)
  | m + 1, n + 1, D, hn, hI => h n (aFix m F z) (fun D' hI' => Wp.fix0 I h h0 m n D' (by omega) hI') D hI
theorem Wp.fix1 {F : (σ → ADD → Option (ρ × ADD)) → σ → ADD → Option (ρ × ADD)} {z : σ → ADD → Option (ρ × ADD)} (I : Nat → σ → ADD → Prop) (h : ∀ n g, (∀ x D, I n x D → Wp (g x D) Q) → ∀ x D, I (n + 1) x D → Wp (F g x D) Q) (h0 : ∀ x D, ¬ I 0 x D) : ∀ m n x D, n ≤ m → I n x D → Wp (aFix m F z x D) Q
  | 0, n, x, D, hn, hI => by
    have e : n = 0 := by omega
    rw [e] at hI
    exact absurd hI (h0 x D)
  | m + 1, 0, x, D, hn, hI => absurd hI (h0 x D)
  | m + 1, n + 1, x, D, hn, hI => h n (aFix m F z) (fun x' D' hI' => Wp.fix1 I h h0 m n x' D' (by omega) hI') x D hI
theorem Wp.fix2 {F : (σ → τ → ADD → Option (ρ × ADD)) → σ → τ → ADD → Option (ρ × ADD)} {z : σ → τ → ADD → Option (ρ × ADD)} (I : Nat → σ → τ → ADD → Prop) (h : ∀ n g, (∀ x y D, I n x y D → Wp (g x y D) Q) → ∀ x y D, I (n + 1) x y D → Wp (F g x y D) Q) (h0 : ∀ x y D, ¬ I 0 x y D) : ∀ m n x y D, n ≤ m → I n x y D → Wp (aFix m F z x y D) Q
  | 0, n, x, y, D, hn, hI => by
    have e : n = 0 := by omega
    rw [e] at hI
    exact absurd hI (h0 x y D)
  | m + 1, 0, x, y, D, hn, hI => absurd hI (h0 x y D)
  | m + 1, n + 1, x, y, D, hn, hI => h n (aFix m F z) (fun x' y' D' hI' => Wp.fix2 I h h0 m n x' y' D' (by omega) hI') x y D hI
theorem Wp.fix3 {F : (σ → τ → υ → ADD → Option (ρ × ADD)) → σ → τ → υ → ADD → Option (ρ × ADD)} {z : σ → τ → υ → ADD → Option (ρ × ADD)} (I : Nat → σ → τ → υ → ADD → Prop) (h : ∀ n g, (∀ x y w D, I n x y w D → Wp (g x y w D) Q) → ∀ x y w D, I (n + 1) x y w D → Wp (F g x y w D) Q) (h0 : ∀ x y w D, ¬ I 0 x y w D) : ∀ m n x y w D, n ≤ m → I n x y w D → Wp (aFix m F z x y w D) Q
  | 0, n, x, y, w, D, hn, hI => by
    have e : n = 0 := by omega
    rw [e] at hI
    exact absurd hI (h0 x y w D)
  | m + 1, 0, x, y, w, D, hn, hI => absurd hI (h0 x y w D)
  | m + 1, n + 1, x, y, w, D, hn, hI => h n (aFix m F z) (fun x' y' w' D' hI' => Wp.fix3 I h h0 m n x' y' w' D' (by omega) hI') x y w D hI
theorem Wp.tab {x : Int32} {lo : Int} {Ks : List (Option (ρ × ADD))} {Kd : Option (ρ × ADD)} (k : ∀ (i : Nat) (K : Option (ρ × ADD)), Ks[i]? = some K → x.toInt = lo + i → Wp K Q) (d : x.toInt < lo ∨ lo + Ks.length ≤ x.toInt → Wp Kd Q) : Wp (aTab x lo Ks Kd) Q := by
  unfold aTab
  split
  · exact d (Or.inl ‹_›)
  · rename_i hlo
    split
    · rename_i K' hK
      exact k _ _ hK (by omega)
    · rename_i hK
      refine d (Or.inr ?_)
      have := List.getElem?_eq_none_iff.mp hK
      omega
theorem Wp.tab3 {x : Int32} {A0 A1 A2 Kd : Option (ρ × ADD)} (h0 : x.toInt = 0 → Wp A0 Q) (h1 : x.toInt = 1 → Wp A1 Q) (h2 : x.toInt = 2 → Wp A2 Q) (d : x.toInt < 0 ∨ 3 ≤ x.toInt → Wp Kd Q) : Wp (aTab x 0 [A0, A1, A2] Kd) Q := by
  refine Wp.tab (fun i K hK hc => ?_) (fun hc => d (by simp at hc; omega))
  match i, hK with
  | 0, hK => cases hK; exact h0 (by omega)
  | 1, hK => cases hK; exact h1 (by omega)
  | 2, hK => cases hK; exact h2 (by omega)
  | i + 3, hK => cases hK
theorem Wp.tab4 {x : Int32} {A0 A1 A2 A3 Kd : Option (ρ × ADD)} (h0 : x.toInt = 0 → Wp A0 Q) (h1 : x.toInt = 1 → Wp A1 Q) (h2 : x.toInt = 2 → Wp A2 Q) (h3 : x.toInt = 3 → Wp A3 Q) (d : x.toInt < 0 ∨ 4 ≤ x.toInt → Wp Kd Q) : Wp (aTab x 0 [A0, A1, A2, A3] Kd) Q := by
  refine Wp.tab (fun i K hK hc => ?_) (fun hc => d (by simp at hc; omega))
  match i, hK with
  | 0, hK => cases hK; exact h0 (by omega)
  | 1, hK => cases hK; exact h1 (by omega)
  | 2, hK => cases hK; exact h2 (by omega)
  | 3, hK => cases hK; exact h3 (by omega)
  | i + 4, hK => cases hK
theorem Wp.tab7 {x : Int32} {A0 A1 A2 A3 A4 A5 A6 Kd : Option (ρ × ADD)} (h0 : x.toInt = 0 → Wp A0 Q) (h1 : x.toInt = 1 → Wp A1 Q) (h2 : x.toInt = 2 → Wp A2 Q) (h3 : x.toInt = 3 → Wp A3 Q) (h4 : x.toInt = 4 → Wp A4 Q) (h5 : x.toInt = 5 → Wp A5 Q) (h6 : x.toInt = 6 → Wp A6 Q) (d : x.toInt < 0 ∨ 7 ≤ x.toInt → Wp Kd Q) : Wp (aTab x 0 [A0, A1, A2, A3, A4, A5, A6] Kd) Q := by
  refine Wp.tab (fun i K hK hc => ?_) (fun hc => d (by simp at hc; omega))
  match i, hK with
  | 0, hK => cases hK; exact h0 (by omega)
  | 1, hK => cases hK; exact h1 (by omega)
  | 2, hK => cases hK; exact h2 (by omega)
  | 3, hK => cases hK; exact h3 (by omega)
  | 4, hK => cases hK; exact h4 (by omega)
  | 5, hK => cases hK; exact h5 (by omega)
  | 6, hK => cases hK; exact h6 (by omega)
  | i + 7, hK => cases hK
end W2
theorem aFix_go {α : Type} {F : α → α} {z : α} : aFix aFuel F z = F (aFix 999999 F z) := rfl
theorem aF_le {n : Nat} (h : n ≤ 1000000) : n ≤ aFuel := h
/-! int32 by its value -/
theorem i_in {i : Int32} {n : Nat} (h0 : 0 ≤ i.toInt) (h1 : i.toInt < n) : vp_in i n := by
  intro h
  rcases h with h | h
  · have := Int32.lt_iff_toInt_lt.mp h
    have e : (0 : Int32).toInt = 0 := by decide
    omega
  · have h : n ≤ i.toInt.toNat := h
    omega
theorem ti_add {x y : Int32} {p q : Int} (hx : x.toInt = p) (hy : y.toInt = q) (h1 : -2147483648 ≤ p + q) (h2 : p + q ≤ 2147483647) : (x + y).toInt = p + q := by
  rw [Int32.toInt_add, hx, hy]
  apply Int.bmod_eq_of_le <;> omega
theorem ti_sub {x y : Int32} {p q : Int} (hx : x.toInt = p) (hy : y.toInt = q) (h1 : -2147483648 ≤ p - q) (h2 : p - q ≤ 2147483647) : (x - y).toInt = p - q := by
  rw [Int32.toInt_sub, hx, hy]
  apply Int.bmod_eq_of_le <;> omega
theorem ti_mul {x y : Int32} {p q : Int} (hx : x.toInt = p) (hy : y.toInt = q) (h1 : -2147483648 ≤ p * q) (h2 : p * q ≤ 2147483647) : (x * y).toInt = p * q := by
  rw [Int32.toInt_mul, hx, hy]
  apply Int.bmod_eq_of_le <;> omega
theorem ti_nI {n : Nat} (h : n < 2147483648) : (nI n).toInt = n := nI_toInt (by omega)
theorem ti_ne {x y : Int32} (h : x ≠ y) : x.toInt ≠ y.toInt := fun e => h (Int32.toInt_inj.mp e)
theorem ti_eq {x y : Int32} (h : x.toInt = y.toInt) : x = y := Int32.toInt_inj.mp h
theorem ti_cl {x : Int32} : (x.toNatClampNeg : Int) = max x.toInt 0 := by
  show ((x.toInt.toNat : Nat) : Int) = _
  omega
theorem ti_lo (x : Int32) : -2147483648 ≤ x.toInt := by have := x.le_toInt; simpa using this
theorem ti_hi (x : Int32) : x.toInt ≤ 2147483647 := by have := x.toInt_lt; simp at this; omega
theorem ti_0 : (0 : Int32).toInt = 0 := by decide
theorem ti_1 : (1 : Int32).toInt = 1 := by decide
theorem ti_m1 : (-1 : Int32).toInt = -1 := by decide
theorem ti_max {x y : Int32} : (aMax x y).toInt = max x.toInt y.toInt := by
  unfold aMax
  split
  · have := Int32.lt_iff_toInt_lt.mp ‹_›; omega
  · rename_i h
    have : ¬ x.toInt < y.toInt := fun g => h (Int32.lt_iff_toInt_lt.mpr g)
    omega
theorem ti_min {x y : Int32} : (aMin x y).toInt = min x.toInt y.toInt := by
  unfold aMin
  split
  · have := Int32.lt_iff_toInt_lt.mp ‹_›; omega
  · rename_i h
    have : ¬ y.toInt < x.toInt := fun g => h (Int32.lt_iff_toInt_lt.mpr g)
    omega
theorem cl_0 : (0 : Int32).toNatClampNeg = 0 := by decide
end
section
/-- a boolean answer -/
def Bo (x : Int32) (C : Prop) : Prop := (x = 1 ∧ C) ∨ (x = 0 ∧ ¬ C)
theorem Bo.t {x : Int32} {C : Prop} (h : Bo x C) (c : C) : x = 1 := by
  rcases h with ⟨e, -⟩ | ⟨-, n⟩
  · exact e
  · exact absurd c n
theorem Bo.f {x : Int32} {C : Prop} (h : Bo x C) (c : ¬ C) : x = 0 := by
  rcases h with ⟨-, n⟩ | ⟨e, -⟩
  · exact absurd n c
  · exact e
theorem tn_1 : (-1 : Int32).toInt = -1 := by decide
theorem tn_3000 : (-3000 : Int32).toInt = -3000 := by decide
theorem cl_add1 {x : Int32} (h0 : 0 ≤ x.toInt) (h1 : x.toInt ≤ 1000000) : (x + 1).toNatClampNeg = x.toNatClampNeg + 1 ∧ (x + 1).toInt = x.toInt + 1 := by
  have e : (x + 1).toInt = x.toInt + 1 := ti_add rfl ti_1 (by omega) (by omega)
  refine ⟨?_, e⟩
  show (x + 1).toInt.toNat = x.toInt.toNat + 1
  omega
theorem cl_i {x : Int32} (h0 : 0 ≤ x.toInt) : (x.toNatClampNeg : Int) = x.toInt := by rw [ti_cl]; omega
/-! rows of longs -/
def sL (f : Nat → Int64) (acc : Int64) (i : Nat) : Nat → Int64
  | 0 => acc
  | n + 1 => sL f (acc + f i) (i + 1) n
theorem sL_congr {f g : Nat → Int64} : ∀ (n i : Nat) (acc : Int64), (∀ j, i ≤ j → j < i + n → f j = g j) → sL f acc i n = sL g acc i n
  | 0, i, acc, h => rfl
  | n + 1, i, acc, h => by
    show sL f (acc + f i) (i + 1) n = sL g (acc + g i) (i + 1) n
    rw [h i (by omega) (by omega)]
    exact sL_congr n (i + 1) _ (fun j h1 h2 => h j (by omega) (by omega))
theorem sL_at {f : Nat → Int64} {acc : Int64} {k : Nat} (h : k ≤ 32) : sL f acc k (33 - k) = sL f (acc + f k) (k + 1) (33 - (k + 1)) := by
  rw [show 33 - k = (33 - (k + 1)) + 1 by omega]
  rfl
def pB (j : Nat) : Int64 := if j = 0 then 1000000000 else 0
theorem tX3_begin {D : ADD} : Wp (fX3_begin D) (fun _ D1 => D1.1 = D.1 ∧ ∀ j, j ≤ 32 → D1.2 56 j = pB j) := by
  unfold fX3_begin
  refine Wp.idd (by decide) (Wp.lets (Wp.lets (Wp.lets ?_)))
  refine Wp.fix1 (fun n x D' => (0 < x.toInt ∧ x.toInt ≤ 33 ∧ 33 - x.toInt < (n : Int)) ∧ D'.1 = D.1 ∧ ∀ j : Nat, (j : Int) < x.toInt → D'.2 56 j = pB j) ?_ ?_ aFuel 1000000 _ _ (Nat.le_refl _) ?_
  · intro n g hg x D' hI
    obtain ⟨⟨h0, h1, h2⟩, h3, h4⟩ := hI
    unfold lX3_begin_11
    refine Wp.ilt (fun h => ?_) (fun h => ?_)
    · simp only [Int32.reduceToInt] at h
      exact Wp.ret ⟨h3, fun j hj => h4 j (by omega)⟩
    · simp only [Int32.reduceToInt] at h
      refine Wp.idx (i_in (by omega) (by omega)) (Wp.lets (Wp.lets ?_))
      obtain ⟨c1, c2⟩ := cl_add1 (x := x) (by omega) (by omega)
      refine hg _ _ ⟨⟨by omega, by omega, by omega⟩, h3, fun j hj => ?_⟩
      have e := cl_i (x := x) (by omega)
      show (if (56 : Nat) = 56 ∧ j = x.toNatClampNeg then (0 : Int64) else D'.2 56 j) = pB j
      by_cases hj2 : j = x.toNatClampNeg
      · rw [if_pos ⟨rfl, hj2⟩, pB, if_neg (by omega)]
      · rw [if_neg (fun q => hj2 q.2)]
        exact h4 j (by omega)
  · intro x D' hI
    obtain ⟨⟨h0, h1, h2⟩, -⟩ := hI
    omega
  · refine ⟨⟨by decide, by decide, by decide⟩, rfl, fun j hj => ?_⟩
    have e : (1 : Int32).toInt = 1 := by decide
    have hj0 : j = 0 := by omega
    subst hj0
    rfl
theorem tX3_from {a : Int32} {D : ADD} (h0 : 0 ≤ a.toInt) (h1 : a.toInt ≤ 33) : Wp (fX3_from a D) (fun r D1 => D1 = D ∧ r = (sL (D.2 56) 0 a.toNatClampNeg (33 - a.toNatClampNeg)).toInt32) := by
  unfold fX3_from
  have hm : aMax 0 a = a := by
    apply ti_eq
    rw [ti_max, ti_0]
    omega
  rw [hm]
  refine Wp.lets (Wp.lets (Wp.lets ?_))
  refine Wp.fix2 (fun n acc x D' => (0 ≤ x.toInt ∧ x.toInt ≤ 33 ∧ 33 - x.toInt < (n : Int)) ∧ D' = D ∧ sL (D.2 56) acc x.toNatClampNeg (33 - x.toNatClampNeg) = sL (D.2 56) 0 a.toNatClampNeg (33 - a.toNatClampNeg)) ?_ ?_ aFuel 1000000 _ _ _ (Nat.le_refl _) ⟨⟨h0, h1, by omega⟩, rfl, rfl⟩
  · intro n g hg acc x D' hI
    obtain ⟨⟨h0, h1, h2⟩, h3, h4⟩ := hI
    subst h3
    have e := cl_i (x := x) (by omega)
    unfold lX3_from_9
    refine Wp.ilt (fun h => ?_) (fun h => ?_)
    · simp only [Int32.reduceToInt] at h
      refine Wp.ret ⟨rfl, ?_⟩
      rw [← h4, show x.toNatClampNeg = 33 by omega]
      rfl
    · simp only [Int32.reduceToInt] at h
      obtain ⟨c1, c2⟩ := cl_add1 (x := x) (by omega) (by omega)
      refine Wp.idx (i_in (by omega) (by omega)) (Wp.lets (Wp.lets (hg _ _ _ ⟨⟨by omega, by omega, by omega⟩, rfl, ?_⟩)))
      rw [c1, ← h4, sL_at (k := x.toNatClampNeg) (by omega)]
  · intro acc x D' hI
    obtain ⟨⟨h0, h1, h2⟩, -⟩ := hI
    omega
theorem tM_begin {D : ADD} : Wp (fX11_beginChances D) (fun _ D1 => D1.1 = D.1 ∧ (∀ a, a ≠ 37 → D1.2 a = D.2 a) ∧ ∀ j, j ≤ 32 → D1.2 37 j = pB j) := by
  unfold fX11_beginChances
  refine Wp.lets (Wp.lets ?_)
  refine Wp.fix1 (fun n x D' => (0 ≤ x.toInt ∧ x.toInt ≤ 33 ∧ 33 - x.toInt < (n : Int)) ∧ D'.1 = D.1 ∧ (∀ a, a ≠ 37 → D'.2 a = D.2 a) ∧ ∀ j : Nat, (j : Int) < x.toInt → D'.2 37 j = pB j) ?_ ?_ aFuel 1000000 _ _ (Nat.le_refl _) ?_
  · intro n g hg x D' hI
    obtain ⟨⟨h0, h1, h2⟩, h3, h5, h4⟩ := hI
    unfold lX11_beginChances_2
    refine Wp.ilt (fun h => ?_) (fun h => ?_)
    · simp only [Int32.reduceToInt] at h
      exact Wp.ret ⟨h3, h5, fun j hj => h4 j (by omega)⟩
    · simp only [Int32.reduceToInt] at h
      have e := cl_i (x := x) (by omega)
      obtain ⟨c1, c2⟩ := cl_add1 (x := x) (by omega) (by omega)
      refine Wp.lets (Wp.ite (fun hx => ?_) (fun hx => ?_))
      · refine Wp.idx (i_in (by omega) (by omega)) (Wp.lets (Wp.lets ?_))
        refine hg _ _ ⟨⟨by omega, by omega, by omega⟩, h3, fun a ha => ?_, fun j hj => ?_⟩
        · funext k
          show (if a = 37 ∧ k = x.toNatClampNeg then _ else D'.2 a k) = D.2 a k
          rw [if_neg (fun q => ha q.1), h5 a ha]
        · show (if (37 : Nat) = 37 ∧ j = x.toNatClampNeg then (1000000000 : Int64) else D'.2 37 j) = pB j
          by_cases hj2 : j = x.toNatClampNeg
          · have hx0 : x.toInt = 0 := by rw [hx]; decide
            rw [if_pos ⟨rfl, hj2⟩, pB, if_pos (by omega)]
          · rw [if_neg (fun q => hj2 q.2)]
            exact h4 j (by omega)
      · refine Wp.idx (i_in (by omega) (by omega)) (Wp.lets (Wp.lets ?_))
        refine hg _ _ ⟨⟨by omega, by omega, by omega⟩, h3, fun a ha => ?_, fun j hj => ?_⟩
        · funext k
          show (if a = 37 ∧ k = x.toNatClampNeg then _ else D'.2 a k) = D.2 a k
          rw [if_neg (fun q => ha q.1), h5 a ha]
        · show (if (37 : Nat) = 37 ∧ j = x.toNatClampNeg then (0 : Int64) else D'.2 37 j) = pB j
          by_cases hj2 : j = x.toNatClampNeg
          · have hx0 := ti_ne hx
            rw [ti_0] at hx0
            rw [if_pos ⟨rfl, hj2⟩, pB, if_neg (by omega)]
          · rw [if_neg (fun q => hj2 q.2)]
            exact h4 j (by omega)
  · intro x D' hI
    obtain ⟨⟨h0, h1, h2⟩, -⟩ := hI
    omega
  · refine ⟨⟨by decide, by decide, by decide⟩, rfl, fun _ _ => rfl, fun j hj => ?_⟩
    rw [ti_0] at hj
    omega
theorem tM_from {a : Int32} {D : ADD} (h0 : 0 ≤ a.toInt) (h1 : a.toInt ≤ 33) : Wp (fX11_chancesFrom a D) (fun r D1 => D1 = D ∧ r = sL (D.2 37) 0 a.toNatClampNeg (33 - a.toNatClampNeg)) := by
  unfold fX11_chancesFrom
  refine Wp.lets (Wp.lets ?_)
  refine Wp.fix2 (fun n acc x D' => (0 ≤ x.toInt ∧ x.toInt ≤ 33 ∧ 33 - x.toInt < (n : Int)) ∧ D' = D ∧ sL (D.2 37) acc x.toNatClampNeg (33 - x.toNatClampNeg) = sL (D.2 37) 0 a.toNatClampNeg (33 - a.toNatClampNeg)) ?_ ?_ aFuel 1000000 _ _ _ (Nat.le_refl _) ⟨⟨h0, h1, by omega⟩, rfl, rfl⟩
  · intro n g hg acc x D' hI
    obtain ⟨⟨h0, h1, h2⟩, h3, h4⟩ := hI
    subst h3
    have e := cl_i (x := x) (by omega)
    unfold lX11_chancesFrom_5
    refine Wp.ilt (fun h => ?_) (fun h => ?_)
    · simp only [Int32.reduceToInt] at h
      refine Wp.ret ⟨rfl, ?_⟩
      rw [← h4, show x.toNatClampNeg = 33 by omega]
      rfl
    · simp only [Int32.reduceToInt] at h
      obtain ⟨c1, c2⟩ := cl_add1 (x := x) (by omega) (by omega)
      refine Wp.idx (i_in (by omega) (by omega)) (Wp.lets (Wp.lets (hg _ _ _ ⟨⟨by omega, by omega, by omega⟩, rfl, ?_⟩)))
      rw [c1, ← h4, sL_at (k := x.toNatClampNeg) (by omega)]
  · intro acc x D' hI
    obtain ⟨⟨h0, h1, h2⟩, -⟩ := hI
    omega
end
section
/-! small exact answers -/
theorem eq_Bo {f : Option (Int32 × ADD)} {D : ADD} {C : Prop} [Decidable C] (h : Wp f (fun x D1 => D1 = D ∧ Bo x C)) : f = some (if C then 1 else 0, D) := by
  obtain ⟨x, D1, e, rfl, h⟩ := h
  rw [e]
  split
  · rw [h.t ‹_›]
  · rw [h.f ‹_›]
theorem eX_isUnit (a : Int32) (D : ADD) : fX10_isUnit a D = some (if 10 ≤ a.toInt ∧ a.toInt ≤ 2000 then 1 else 0, D) := by
  refine eq_Bo ?_
  unfold fX10_isUnit
  refine Wp.lets (Wp.lets (Wp.ilt (fun h => ?_) (fun h => Wp.ilt (fun g => ?_) (fun g => ?_)))) <;>
    first | exact Wp.z (Or.inl rfl) (Wp.ret ⟨rfl, Or.inr ⟨rfl, by simp only [Int32.reduceToInt, tn_1, tn_3000] at *; omega⟩⟩) | exact Wp.z (Or.inr rfl) (Wp.ret ⟨rfl, Or.inl ⟨rfl, by simp only [Int32.reduceToInt, tn_1, tn_3000] at *; omega⟩⟩)
theorem eM_is (a l u : Int32) (D : ADD) : fX11_is a l u D = some (if l.toInt ≤ a.toInt ∧ a.toInt ≤ u.toInt then 1 else 0, D) := by
  refine eq_Bo ?_
  unfold fX11_is
  refine Wp.lets (Wp.lets (Wp.ilt (fun h => ?_) (fun h => Wp.ilt (fun g => ?_) (fun g => ?_)))) <;>
    first | exact Wp.z (Or.inl rfl) (Wp.ret ⟨rfl, Or.inr ⟨rfl, by omega⟩⟩) | exact Wp.z (Or.inr rfl) (Wp.ret ⟨rfl, Or.inl ⟨rfl, by omega⟩⟩)
theorem eM_isUnit (a : Int32) (D : ADD) : fX11_isUnit a D = some (if 10 ≤ a.toInt ∧ a.toInt ≤ 2000 then 1 else 0, D) := by
  unfold fX11_isUnit
  rw [eM_is]
  simp only [Int32.reduceToInt, aBind, aZ]
  split <;> simp
theorem eX_isTown (a : Int32) (D : ADD) : fX10_isTown a D = some (if 0 ≤ a.toInt ∧ a.toInt ≤ 5 then 1 else 0, D) := by
  refine eq_Bo ?_
  unfold fX10_isTown
  refine Wp.lets (Wp.lets (Wp.ilt (fun h => ?_) (fun h => Wp.ile (fun g => ?_) (fun g => ?_)))) <;>
    first | exact Wp.z (Or.inl rfl) (Wp.ret ⟨rfl, Or.inr ⟨rfl, by simp only [Int32.reduceToInt, tn_1, tn_3000] at *; omega⟩⟩) | exact Wp.z (Or.inr rfl) (Wp.ret ⟨rfl, Or.inl ⟨rfl, by simp only [Int32.reduceToInt, tn_1, tn_3000] at *; omega⟩⟩)
/-- units a to b, at most r apart -/
abbrev UR (a b : Int32) (r : Int) : Prop := 10 ≤ a.toInt ∧ a.toInt ≤ b.toInt ∧ b.toInt ≤ 2000 ∧ b.toInt - a.toInt ≤ r
theorem eX_isRange (a b r : Int32) (D : ADD) : fX10_isRange a b r D = some (if UR a b r.toInt then 1 else 0, D) := by
  refine eq_Bo ?_
  unfold fX10_isRange UR
  refine Wp.bindE (eX_isUnit a D) (Wp.lets (Wp.lets ?_))
  by_cases h1 : 10 ≤ a.toInt ∧ a.toInt ≤ 2000
  · rw [if_pos h1, if_neg (by decide)]
    refine Wp.bindE (eX_isUnit b D) ?_
    by_cases h2 : 10 ≤ b.toInt ∧ b.toInt ≤ 2000
    · rw [if_pos h2, if_neg (by decide)]
      have e : (b - a).toInt = b.toInt - a.toInt := ti_sub rfl rfl (by omega) (by omega)
      refine Wp.ilt (fun h => ?_) (fun h => Wp.ilt (fun g => ?_) (fun g => ?_)) <;>
        first | exact Wp.z (Or.inl rfl) (Wp.ret ⟨rfl, Or.inr ⟨rfl, by omega⟩⟩) | exact Wp.z (Or.inr rfl) (Wp.ret ⟨rfl, Or.inl ⟨rfl, by omega⟩⟩)
    · rw [if_neg h2, if_pos rfl]
      exact Wp.z (Or.inl rfl) (Wp.ret ⟨rfl, Or.inr ⟨rfl, by omega⟩⟩)
  · rw [if_neg h1, if_pos rfl]
    exact Wp.z (Or.inl rfl) (Wp.ret ⟨rfl, Or.inr ⟨rfl, by omega⟩⟩)
theorem eM_areUnits (a b : Int32) (D : ADD) : fX11_areUnits a b D = some (if UR a b 300 then 1 else 0, D) := by
  refine eq_Bo ?_
  unfold fX11_areUnits UR
  refine Wp.bindE (eM_isUnit a D) (Wp.lets (Wp.lets ?_))
  by_cases h1 : 10 ≤ a.toInt ∧ a.toInt ≤ 2000
  · rw [if_pos h1, if_neg (by decide)]
    refine Wp.bindE (eM_is b a 2000 D) ?_
    have e2 : (2000 : Int32).toInt = 2000 := by decide
    have e3 : (300 : Int32).toInt = 300 := by decide
    by_cases h2 : a.toInt ≤ b.toInt ∧ b.toInt ≤ (2000 : Int32).toInt
    · rw [if_pos h2, if_neg (by decide)]
      have e : (b - a).toInt = b.toInt - a.toInt := ti_sub rfl rfl (by omega) (by omega)
      refine Wp.ilt (fun g => ?_) (fun g => ?_) <;>
        first | exact Wp.z (Or.inl rfl) (Wp.ret ⟨rfl, Or.inr ⟨rfl, by omega⟩⟩) | exact Wp.z (Or.inr rfl) (Wp.ret ⟨rfl, Or.inl ⟨rfl, by omega⟩⟩)
    · rw [if_neg h2, if_pos rfl]
      exact Wp.z (Or.inl rfl) (Wp.ret ⟨rfl, Or.inr ⟨rfl, by omega⟩⟩)
  · rw [if_neg h1, if_pos rfl]
    exact Wp.z (Or.inl rfl) (Wp.ret ⟨rfl, Or.inr ⟨rfl, by omega⟩⟩)
end
section
/-! the search: no answer is none -/
theorem Wp.pure {ρ : Type} {f : Option (ρ × ADD)} {D : ADD} {P : ρ → Prop} (h : Wp f (fun x D1 => D1 = D ∧ P x)) : Wp f (fun _ D1 => D1 = D) := h.mono (fun _ _ q => q.1)
theorem tJ_cmp {x y : Int64} {D : ADD} : Wp (fJ13_compare_74951 x y D) (fun _ D1 => D1 = D) := by
  unfold fJ13_compare_74951
  refine Wp.lets (Wp.ite (fun _ => Wp.ite (fun _ => ?_) (fun _ => ?_)) (fun _ => ?_)) <;> exact Wp.ret rfl
theorem tX7_inReach {a : Int32} {D : ADD} : Wp (fX7_inReach a D) (fun x D1 => D1 = D ∧ Bo x ((D.1 50 0).toInt ≤ a.toInt ∧ a.toInt ≤ (D.1 50 1).toInt ∧ (a - D.1 50 0).toInt ≤ 300)) := by
  unfold fX7_inReach
  have e : (300 : Int32).toInt = 300 := by decide
  refine Wp.lets (Wp.lets (Wp.ilt (fun h => ?_) (fun h => Wp.ilt (fun g => ?_) (fun g => Wp.ilt (fun k => ?_) (fun k => ?_))))) <;>
    first | exact Wp.z (Or.inl rfl) (Wp.ret ⟨rfl, Or.inr ⟨rfl, by omega⟩⟩) | exact Wp.z (Or.inr rfl) (Wp.ret ⟨rfl, Or.inl ⟨rfl, by omega⟩⟩)
theorem tX7_compare {a b : Int32} {D : ADD} (h0 : 0 ≤ (D.1 50 0).toInt) (h1 : (D.1 50 0).toInt ≤ 2000) : Wp (fX7_compare a b D) (fun _ D1 => D1 = D) := by
  unfold fX7_compare
  refine Wp.bind tX7_inReach (fun x D1 h => ?_)
  obtain ⟨rfl, h⟩ := h
  refine Wp.lets ?_
  rcases h with ⟨rfl, h⟩ | ⟨rfl, h⟩
  · rw [if_neg (by decide)]
    refine Wp.bind tX7_inReach (fun x D2 g => ?_)
    obtain ⟨rfl, g⟩ := g
    rcases g with ⟨rfl, g⟩ | ⟨rfl, g⟩
    · rw [if_neg (by decide)]
      have u1 := ti_hi a
      have u2 := ti_hi b
      have e1 : (a - D2.1 50 0).toInt = a.toInt - (D2.1 50 0).toInt := ti_sub rfl rfl (by omega) (by omega)
      have e2 : (b - D2.1 50 0).toInt = b.toInt - (D2.1 50 0).toInt := ti_sub rfl rfl (by omega) (by omega)
      refine Wp.idx (i_in (by omega) (by omega)) (Wp.idx (i_in (by omega) (by omega)) (Wp.bind tJ_cmp (fun x D3 k => ?_)))
      exact Wp.ret k
    · rw [if_pos rfl]
      exact Wp.ret rfl
  · rw [if_pos rfl]
    exact Wp.ret rfl
theorem tX7_isBetter {a b : Int32} {D : ADD} (h0 : 0 ≤ (D.1 50 0).toInt) (h1 : (D.1 50 0).toInt ≤ 2000) : Wp (fX7_isBetter a b D) (fun x D1 => D1 = D ∧ (x = 0 ∨ x = 1)) := by
  unfold fX7_isBetter
  refine Wp.bind (tX7_compare h0 h1) (fun x D1 h => ?_)
  subst h
  refine Wp.lets (Wp.lets (Wp.ite (fun _ => ?_) (fun _ => Wp.lets (Wp.ite (fun _ => Wp.ite (fun _ => ?_) (fun _ => ?_)) (fun _ => ?_))))) <;>
    first | exact Wp.z (Or.inl rfl) (Wp.ret ⟨rfl, Or.inl rfl⟩) | exact Wp.z (Or.inr rfl) (Wp.ret ⟨rfl, Or.inr rfl⟩)
theorem tX7_isPeak {a : Int32} {D : ADD} (h0 : 0 ≤ (D.1 50 0).toInt) (h1 : (D.1 50 0).toInt ≤ 2000) : Wp (fX7_isPeak a D) (fun x D1 => D1 = D ∧ (x = 0 ∨ x = 1)) := by
  have K : ∀ D2 : ADD, D2 = D → Wp (if a = (D2.1 50 1) then aZ 1 (some ((1 : Int32), D2)) else aBind (fX7_compare a (a + (1 : Int32)) D2) (fun x2 D5 => (if x2 < 0 then aZ 0 (some ((0 : Int32), D5)) else aZ 1 (some ((1 : Int32), D5))))) (fun x D1 => D1 = D ∧ (x = 0 ∨ x = 1)) := by
    intro D2 e
    subst e
    refine Wp.ite (fun _ => Wp.z (Or.inr rfl) (Wp.ret ⟨rfl, Or.inr rfl⟩)) (fun _ => Wp.bind (tX7_compare h0 h1) (fun x D1 h => ?_))
    subst h
    exact Wp.ite (fun _ => Wp.z (Or.inl rfl) (Wp.ret ⟨rfl, Or.inl rfl⟩)) (fun _ => Wp.z (Or.inr rfl) (Wp.ret ⟨rfl, Or.inr rfl⟩))
  unfold fX7_isPeak
  refine Wp.lets (Wp.lets (Wp.lets (Wp.ite (fun _ => K D rfl) (fun _ => Wp.bind (tX7_compare h0 h1) (fun x D1 h => ?_)))))
  subst h
  exact Wp.ite (fun _ => Wp.z (Or.inl rfl) (Wp.ret ⟨rfl, Or.inl rfl⟩)) (fun _ => K _ rfl)
/-- a unit's range in the search -/
abbrev SR (D : ADD) : Prop := 0 ≤ (D.1 50 0).toInt ∧ (D.1 50 0).toInt ≤ 2000 ∧ (D.1 50 0).toInt ≤ (D.1 50 1).toInt ∧ (D.1 50 1).toInt ≤ (D.1 50 0).toInt + 300
theorem tX7_listPeaks {D : ADD} (h : SR D) : Wp (fX7_listPeaks D) (fun _ D1 => (∀ a, a ≠ 50 → a ≠ 53 → D1.1 a = D.1 a) ∧ (∀ k, k ≠ 5 → D1.1 50 k = D.1 50 k) ∧ D1.2 = D.2) := by
  obtain ⟨h0, h1, h2, h3⟩ := h
  unfold fX7_listPeaks
  refine Wp.lets (Wp.lets (Wp.lets (Wp.lets ?_)))
  refine Wp.fix1 (fun n x D' => ((D.1 50 0).toInt ≤ x.toInt ∧ x.toInt ≤ (D.1 50 1).toInt + 1 ∧ (D.1 50 1).toInt + 1 - x.toInt < (n : Int)) ∧ (0 ≤ (D'.1 50 5).toInt ∧ (D'.1 50 5).toInt ≤ 301) ∧ (∀ a, a ≠ 50 → a ≠ 53 → D'.1 a = D.1 a) ∧ (∀ k, k ≠ 5 → D'.1 50 k = D.1 50 k) ∧ D'.2 = D.2) ?_ ?_ aFuel 1000000 _ _ (Nat.le_refl _) ?_
  · intro n g hg x D' hI
    obtain ⟨⟨i0, i1, i2⟩, ⟨i3, i4⟩, i5, i6, i7⟩ := hI
    have e0 := i6 0 (by decide)
    have e1 := i6 1 (by decide)
    have e : (301 : Int32).toInt = 301 := by decide
    have c2 : (x + 1).toInt = x.toInt + 1 := ti_add rfl ti_1 (by omega) (by omega)
    unfold lX7_listPeaks_10
    refine Wp.ilt (fun k => Wp.ret ⟨i5, i6, i7⟩) (fun k => Wp.bind (tX7_isPeak (by rw [e0]; exact h0) (by rw [e0]; exact h1)) (fun y D1 q => ?_))
    obtain ⟨rfl, q⟩ := q
    rw [e1] at k
    refine Wp.lets (Wp.ite (fun _ => ?_) (fun _ => Wp.ile (fun r => ?_) (fun r => ?_)))
    · exact Wp.lets (hg _ _ ⟨⟨by omega, by omega, by omega⟩, ⟨i3, i4⟩, i5, i6, i7⟩)
    · exact Wp.lets (hg _ _ ⟨⟨by omega, by omega, by omega⟩, ⟨i3, i4⟩, i5, i6, i7⟩)
    · have r2 : (D1.1 50 5).toInt < 301 := by
        have : (Int32.ofNat 301).toInt = 301 := by decide
        omega
      refine Wp.idx (i_in (by omega) (by omega)) (Wp.lets (Wp.lets (Wp.lets (hg _ _ ⟨⟨by omega, by omega, by omega⟩, ?_, fun a u v => ?_, fun k hk => ?_, i7⟩))))
      · have c3 : (D1.1 50 5 + 1).toInt = (D1.1 50 5).toInt + 1 := ti_add rfl ti_1 (by omega) (by omega)
        show 0 ≤ (D1.1 50 5 + 1).toInt ∧ (D1.1 50 5 + 1).toInt ≤ 301
        omega
      · funext k
        simp [aSI, u, v, i5 a u v]
      · simp [aSI, hk, i6 k hk]
  · intro x D' hI
    obtain ⟨⟨i0, i1, i2⟩, -⟩ := hI
    omega
  · refine ⟨⟨?_, ?_, ?_⟩, ⟨?_, ?_⟩, fun a u v => ?_, fun k hk => ?_, rfl⟩
    · show (D.1 50 0).toInt ≤ (D.1 50 0).toInt
      omega
    · show (D.1 50 0).toInt ≤ _
      omega
    · show (D.1 50 1).toInt + 1 - (D.1 50 0).toInt < _
      omega
    · show 0 ≤ (0 : Int32).toInt
      decide
    · show (0 : Int32).toInt ≤ 301
      decide
    · funext k
      simp [aSI, u]
    · simp [aSI, hk]
theorem tX7_betterPeaks {a : Int32} {D : ADD} (h0 : 0 ≤ (D.1 50 0).toInt) (h1 : (D.1 50 0).toInt ≤ 2000) : Wp (fX7_betterPeaks a D) (fun _ D1 => D1 = D) := by
  unfold fX7_betterPeaks
  refine Wp.lets (Wp.lets ?_)
  refine Wp.fix2 (fun n y x D' => (0 ≤ x.toInt ∧ x.toInt ≤ 301 ∧ 301 - x.toInt < (n : Int)) ∧ D' = D) ?_ ?_ aFuel 1000000 _ _ _ (Nat.le_refl _) ⟨⟨by decide, by decide, by decide⟩, rfl⟩
  · intro n g hg y x D' hI
    obtain ⟨⟨i0, i1, i2⟩, i3⟩ := hI
    subst i3
    have e : (Int32.ofNat 301).toInt = 301 := by decide
    have c2 : (x + 1).toInt = x.toInt + 1 := ti_add rfl ti_1 (by omega) (by omega)
    unfold lX7_betterPeaks_4
    refine Wp.ile (fun _ => Wp.ret rfl) (fun _ => Wp.ile (fun _ => Wp.ret rfl) (fun k => Wp.idx (i_in (by omega) (by omega)) (Wp.bind (tX7_isBetter h0 h1) (fun z D1 q => ?_))))
    obtain ⟨rfl, q⟩ := q
    refine Wp.lets (Wp.ite (fun _ => ?_) (fun _ => ?_)) <;> exact Wp.lets (Wp.lets (hg _ _ _ ⟨⟨by omega, by omega, by omega⟩, rfl⟩))
  · intro y x D' hI
    obtain ⟨⟨i0, i1, i2⟩, -⟩ := hI
    omega
theorem tX7_placeOf {a : Int32} {D : ADD} (h : SR D) : Wp (fX7_placeOf a D) (fun _ D1 => (∀ a, a ≠ 50 → a ≠ 53 → D1.1 a = D.1 a) ∧ (∀ k, k ≠ 5 → D1.1 50 k = D.1 50 k) ∧ D1.2 = D.2) := by
  unfold fX7_placeOf
  refine Wp.bind (tX7_isPeak h.1 h.2.1) (fun x D1 q => ?_)
  obtain ⟨rfl, q⟩ := q
  refine Wp.ite (fun _ => Wp.ret ⟨fun _ _ _ => rfl, fun _ _ => rfl, rfl⟩) (fun _ => Wp.bind (tX7_listPeaks h) (fun y D2 q2 => ?_))
  have e0 := q2.2.1 0 (by decide)
  refine Wp.bind (tX7_betterPeaks (by rw [e0]; exact h.1) (by rw [e0]; exact h.2.1)) (fun z D3 q3 => ?_)
  subst q3
  exact Wp.ret q2
/-- the scores, over any pile whose score is never none -/
theorem tX7_scoreUnits {a b : Int32} {D : ADD} (h : UR a b 300) (hS : ∀ (u : Int32) (D' : ADD), (∀ c, c ≠ 50 → c ≠ 51 → D'.1 c = D.1 c) → a.toInt ≤ u.toInt → u.toInt ≤ b.toInt → Wp (fX4_scoreBy u D') (fun _ D1 => D1 = D')) : Wp (fX7_scoreUnits a b D) (fun _ D1 => (∀ c, c ≠ 50 → c ≠ 51 → D1.1 c = D.1 c) ∧ D1.2 = D.2 ∧ D1.1 50 0 = a ∧ D1.1 50 1 = b) := by
  obtain ⟨h0, h1, h2, h3⟩ := h
  unfold fX7_scoreUnits
  have hm : aMin b (a + 300) = b := by
    apply ti_eq
    have e : (a + 300).toInt = a.toInt + 300 := ti_add rfl (by decide) (by omega) (by omega)
    rw [ti_min, e]
    omega
  rw [hm]
  refine Wp.lets (Wp.lets (Wp.lets (Wp.lets (Wp.lets ?_))))
  refine Wp.fix1 (fun n x D' => (a.toInt ≤ x.toInt ∧ x.toInt ≤ b.toInt + 1 ∧ b.toInt + 1 - x.toInt < (n : Int)) ∧ (∀ c, c ≠ 50 → c ≠ 51 → D'.1 c = D.1 c) ∧ D'.2 = D.2 ∧ D'.1 50 0 = a ∧ D'.1 50 1 = b) ?_ ?_ aFuel 1000000 _ _ (Nat.le_refl _) ?_
  · intro n g hg x D' hI
    obtain ⟨⟨i0, i1, i2⟩, i3, i4, i5, i6⟩ := hI
    have c2 : (x + 1).toInt = x.toInt + 1 := ti_add rfl ti_1 (by omega) (by omega)
    have c3 : (x - a).toInt = x.toInt - a.toInt := ti_sub rfl rfl (by omega) (by omega)
    unfold lX7_scoreUnits_24
    rw [i5, i6]
    refine Wp.ilt (fun _ => Wp.ret ⟨i3, i4, i5, i6⟩) (fun k => Wp.bind (hS x D' i3 i0 k) (fun z D1 q => ?_))
    subst q
    refine Wp.idx (i_in (by omega) (by omega)) (Wp.lets (Wp.lets (hg _ _ ⟨⟨by omega, by omega, by omega⟩, fun c u v => ?_, i4, ?_, ?_⟩)))
    · funext k
      simp [aSI, v, i3 c u v]
    · simp [aSI, i5]
    · simp [aSI, i6]
  · intro x D' hI
    obtain ⟨⟨i0, i1, i2⟩, -⟩ := hI
    omega
  · refine ⟨⟨?_, ?_, ?_⟩, fun c u v => ?_, rfl, rfl, rfl⟩
    · show a.toInt ≤ a.toInt
      omega
    · show a.toInt ≤ _
      omega
    · show b.toInt + 1 - a.toInt < _
      omega
    · funext k
      simp [aSI, u]
end
section
/-! the fresh state -/
section FR
variable {D : ADD}
theorem zX_gather {k v : Int32} (h : D.1 2 9 = 0) : fX4_gather k v D = some (0, aSI D 43 0 0) := by
  simp [fX4_gather, aLet, aFix_go, lX4_gather_8, aSI, h]
theorem zX_scoreBy {a : Int32} (h : D.1 43 0 = 0) : fX4_scoreBy a D = some (0, D) := by
  simp [fX4_scoreBy, aLet, aFix_go, lX4_scoreBy_4, h]
theorem zX_nearBy {a : Int32} (h : D.1 43 0 = 0) : fX4_nearBy a D = some (0, D) := by
  simp [fX4_nearBy, aLet, aFix_go, lX4_nearBy_4, h]
theorem zX_marksNear {a : Int32} (h : D.1 43 0 = 0) : fX4_marksNear a D = some (0, D) := by
  simp [fX4_marksNear, aLet, aFix_go, lX4_marksNear_4, h]
theorem tJ_bits {a : Int32} : Wp (fJ6_bitCount_0f7a4 a D) (fun _ D1 => D1 = D) := ⟨_, _, rfl, rfl⟩
theorem zX_townsNear {a : Int32} (h : D.1 43 0 = 0) : Wp (fX4_townsNear a D) (fun _ D1 => D1 = D) := by
  unfold fX4_townsNear
  refine Wp.lets (Wp.lets ?_)
  rw [aFix_go]
  unfold lX4_townsNear_4
  rw [h, if_pos (by decide)]
  refine Wp.bind tJ_bits (fun x D1 q => ?_)
  exact Wp.ret q
theorem zX_shortsBy {a : Int32} (h : D.1 43 0 = 0) : fX4_shortsBy a D = some (0, D) := by
  simp [fX4_shortsBy, aLet, aFix_go, lX4_shortsBy_4, h]
theorem zX_doublesBy {a : Int32} (h : D.1 43 0 = 0) : fX4_doublesBy a D = some (0, D) := by
  simp [fX4_doublesBy, aLet, aFix_go, lX4_doublesBy_4, h]
theorem zX_greatest {a : Int32} (h : D.1 43 0 = 0) : fX4_greatestTimes a D = some (0, D) := by
  simp [fX4_greatestTimes, aLet, aFix_go, lX4_greatestTimes_4, h]
theorem zX_lacksBy {a : Int32} (h : D.1 43 0 = 0) : fX4_lacksBy a D = some (0, D) := by
  unfold fX4_lacksBy
  rw [zX_greatest h]
  simp only [aBind, aLet, aFix_go]
  unfold lX4_lacksBy_11
  rw [if_neg (by decide), if_pos (by decide)]
theorem zX_sumOfTwo {a b : Int32} (h : D.1 43 0 = 0) : fX7_sumOfTwo a b D = some (0, D) := by
  simp [fX7_sumOfTwo, aLet, aFix_go, lX7_sumOfTwo_6, h]
theorem zX_indexOf {a : Int32} (h : D.1 43 0 = 0) : fX4_indexOf a D = some (-1, D) := by
  simp [fX4_indexOf, aLet, aFix_go, lX4_indexOf_2, h]
theorem zX_takeAlone {a : Int32} (h : D.1 2 9 = 0) : fX4_takeAlone a D = some (0, aSI D 43 0 0) := by
  unfold fX4_takeAlone
  simp only [aLet]
  by_cases ha : a < 0
  · rw [if_pos ha]
  · rw [if_neg ha, if_neg]
    show ¬ a < D.1 2 9
    rw [h]
    exact ha
theorem zX_bestAmong {k v a b : Int32} (h : D.1 2 9 = 0) : fX10_bestAmong k v a b D = some (-1, aSI D 43 0 0) := by
  unfold fX10_bestAmong
  rw [zX_gather h]
  rfl
/-- by chance, of none -/
theorem zX_ofNear {u : Int32} (h : D.1 43 0 = 0) : Wp (fX3_ofNear u 0 D) (fun r D1 => D1.1 = D.1 ∧ r = (sL pB 0 0 33).toInt32) := by
  unfold fX3_ofNear
  refine Wp.bind tX3_begin (fun x D1 q => Wp.lets (Wp.lets ?_))
  rw [aFix_go]
  unfold lX3_ofNear_7
  rw [q.1, h, if_pos (by decide)]
  refine Wp.bind (tX3_from (by decide) (by decide)) (fun r D2 q2 => ?_)
  obtain ⟨rfl, q2⟩ := q2
  refine Wp.ret ⟨q.1, ?_⟩
  rw [q2]
  exact congrArg _ (sL_congr 33 0 0 (fun j _ hj => q.2 j (by omega)))
theorem zX_ofShort : Wp (fX3_ofShort 0 0 D) (fun r D1 => D1.1 = D.1 ∧ r = (sL pB 0 0 33).toInt32) := by
  unfold fX3_ofShort
  refine Wp.bind tX3_begin (fun x D1 q => Wp.lets (Wp.lets ?_))
  rw [aFix_go]
  unfold lX3_ofShort_6
  rw [if_pos (by decide)]
  refine Wp.bind (tX3_from (by decide) (by decide)) (fun r D2 q2 => ?_)
  obtain ⟨rfl, q2⟩ := q2
  refine Wp.ret ⟨q.1, ?_⟩
  rw [q2]
  exact congrArg _ (sL_congr 33 0 0 (fun j _ hj => q.2 j (by omega)))
theorem zX_weigh {u n : Int32} (h : D.1 43 0 = 0) (hS : SR D) : Wp (fX10_weighEvidence u n D) (fun _ D1 => ∀ a, a < 50 → D1.1 a = D.1 a) := by
  unfold fX10_weighEvidence
  refine Wp.lets (Wp.lets (Wp.bindE (zX_nearBy h) (Wp.bind (zX_ofNear h) (fun r D2 q => ?_))))
  refine Wp.lets (Wp.lets (Wp.idd (by decide) (Wp.lets (Wp.idd (by decide) (Wp.lets (Wp.lets ?_))))))
  rw [h]
  rw [if_pos (by simp)]
  refine Wp.idd (by decide) (Wp.lets (Wp.nzl (by decide) (Wp.idd (by decide) (Wp.lets (Wp.nzl (by decide) (Wp.idd (by decide) (Wp.lets ?_)))))))
  refine Wp.bind (tX7_placeOf ?_) (fun x8 D9 q9 => ?_)
  · simp only [aSI, q.1]
    exact hS
  · have e9 : ∀ a, a < 50 → D9.1 a = D.1 a := by
      intro a ha
      rw [q9.1 a (by omega) (by omega)]
      funext k
      have h57 : a ≠ 57 := by omega
      simp [aSI, h57, q.1]
    refine Wp.idd (by decide) (Wp.lets (Wp.bind (zX_townsNear ?_) (fun x9 D11 q11 => ?_)))
    · show D9.1 43 0 = 0
      rw [e9 43 (by decide)]
      exact h
    · subst q11
      refine Wp.idd (by decide) (Wp.lets (Wp.bindE (zX_marksNear ?_) (Wp.idd (by decide) (Wp.lets (Wp.ret (fun a ha => ?_))))))
      · show D9.1 43 0 = 0
        rw [e9 43 (by decide)]
        exact h
      · rw [← e9 a ha]
        funext k
        have h57 : a ≠ 57 := by omega
        simp [aSI, h57]
theorem zX_verdict {u a b : Int32} (h : D.1 2 9 = 0) (h22 : D.1 22 0 = 0) (hU : UR a b 300) : Wp (fX10_verdict u a b D) (fun r _ => r = if a.toInt ≤ u.toInt ∧ u.toInt ≤ b.toInt then 2 else -1) := by
  unfold fX10_verdict
  have e3 : (300 : Int32).toInt = 300 := by decide
  refine Wp.bindE (eX_isRange a b 300 D) (Wp.lets ?_)
  rw [e3, if_pos hU, if_neg (by decide)]
  refine Wp.ilt (fun k => Wp.ret ?_) (fun k => Wp.ile (fun k2 => ?_) (fun k2 => Wp.ret ?_))
  · rw [if_neg (by omega)]
  · rw [if_pos ⟨k, k2⟩]
    refine Wp.bindE (zX_gather h) (Wp.bind (tX7_scoreUnits hU (fun u2 D' e _ _ => ?_)) (fun x D4 q => ?_))
    · exact ⟨0, D', zX_scoreBy (by rw [e 43 (by decide) (by decide)]; rfl), rfl⟩
    · obtain ⟨q1, q2, q3, q4⟩ := q
      obtain ⟨u0, u1, u2, u3⟩ := hU
      refine Wp.bind (zX_weigh (by rw [q1 43 (by decide) (by decide)]; rfl) ⟨by rw [q3]; omega, by rw [q3]; omega, by rw [q3, q4]; omega, by rw [q3, q4]; omega⟩) (fun y D5 q5 => Wp.lets (Wp.lets ?_))
      rw [aFix_go]
      unfold lX10_verdict_72
      have e22 : D5.1 22 0 = 0 := by
        rw [q5 22 (by decide), q1 22 (by decide) (by decide)]
        exact h22
      rw [e22, if_pos (by decide)]
      exact Wp.ret rfl
  · rw [if_neg (by omega)]
/-! the reference -/
theorem in04 {α : Type} {K : Option α} : aIn (0 : Int32) 4 K = K := rfl
theorem in08 {α : Type} {K : Option α} : aIn (0 : Int32) 8 K = K := rfl
theorem in18 {α : Type} {K : Option α} : aIn (1 : Int32) 8 K = K := rfl
theorem zM_day (h7 : D.1 7 0 = -1) (h6 : D.1 6 0 = 0) : fX11_dayOfView D = some (0, D) := by
  simp [fX11_dayOfView, aLet, in04, cl_0, h7, h6]
theorem zM_look (h7 : D.1 7 0 = -1) (h6 : D.1 6 0 = 0) (h5 : D.1 5 0 = 0) (h8 : D.1 8 0 = 0) : Wp (fX11_look D) (fun _ D1 => D1 = aSI D 0 41 0) := by
  unfold fX11_look
  refine Wp.bindE (zM_day h7 h6) (Wp.idd (by decide) ?_)
  rw [cl_0, h5]
  refine Wp.lets (Wp.lets (Wp.lets ?_))
  rw [aFix_go]
  unfold lX11_look_17
  refine Wp.pos (show (0 : Int32) ≤ 0 by decide) ?_
  refine Wp.lets (Wp.lets ?_)
  rw [aFix_go]
  unfold lX11_look_203
  refine Wp.idd (by decide) ?_
  refine Wp.pos (show D.1 8 0 ≤ 0 by rw [h8]; decide) ?_
  refine Wp.lets (Wp.lets ?_)
  rw [aFix_go]
  unfold lX11_look_288
  refine Wp.pos (show (0 : Int32) ≤ 0 by decide) ?_
  exact Wp.ret rfl
theorem zM_those (h : D.1 0 41 = 0) : fX11_those D = some (0, D) := by
  simp [fX11_those, aLet, aFix_go, lX11_those_4, h]
theorem zM_scoreOf {u : Int32} (h : D.1 0 41 = 0) : fX11_scoreOf u D = some (0, D) := by
  simp [fX11_scoreOf, aLet, aFix_go, lX11_scoreOf_4, h]
theorem zM_nearOf {u : Int32} (h : D.1 0 41 = 0) : fX11_nearOf u D = some (0, D) := by
  simp [fX11_nearOf, aLet, aFix_go, lX11_nearOf_4, h]
theorem zM_sumOf {u v : Int32} (h : D.1 0 41 = 0) : fX11_sumOf u v D = some (0, D) := by
  simp [fX11_sumOf, aLet, aFix_go, lX11_sumOf_5, h]
theorem zM_keep (h : D.1 0 41 = 0) : fX11_keepChosen D = some ((), D) := by
  simp [fX11_keepChosen, aLet, aFix_go, lX11_keepChosen_2, h]
theorem zM_bestOfTown {t a b : Int32} (h : D.1 0 41 = 0) : Wp (fX11_bestOfTown t a b D) (fun r D1 => r = -1 ∧ D1 = D) := by
  unfold fX11_bestOfTown
  refine Wp.lets (Wp.lets ?_)
  rw [aFix_go]
  unfold lX11_bestOfTown_3
  rw [h, if_pos (by decide)]
  refine Wp.bindE (zM_those h) (Wp.lets ?_)
  rw [if_pos rfl]
  exact Wp.ret ⟨rfl, rfl⟩
theorem zM_chanceOf {u : Int32} (h : D.1 0 41 = 0) : Wp (fX11_chanceOf u D) (fun r D1 => D1.1 = D.1 ∧ r = sL pB 0 0 33) := by
  unfold fX11_chanceOf
  refine Wp.bind tM_begin (fun x D1 q => Wp.lets (Wp.lets ?_))
  rw [aFix_go]
  unfold lX11_chanceOf_6
  rw [q.1, h, if_pos (by decide)]
  refine Wp.bindE (zM_nearOf (by rw [q.1]; exact h)) (Wp.bind (tM_from (by decide) (by decide)) (fun r D2 q2 => ?_))
  obtain ⟨rfl, q2⟩ := q2
  refine Wp.ret ⟨q.1, ?_⟩
  rw [q2]
  exact sL_congr 33 0 0 (fun j _ hj => q.2.2 j (by omega))
theorem tM_thousands {v : Int64} : Wp (fX11_thousands v D) (fun _ D1 => D1 = D) := by
  unfold fX11_thousands
  refine Wp.nzl (by decide) (Wp.lets (Wp.lets (Wp.ite (fun _ => ?_) (fun _ => ?_)))) <;> exact Wp.ret rfl
theorem tM_findScores {a b : Int32} (h : UR a b 300) (hS : ∀ (u : Int32) (D' : ADD), (∀ c, c ≠ 36 → D'.1 c = D.1 c) → a.toInt ≤ u.toInt → u.toInt ≤ b.toInt → Wp (fX11_scoreOf u D') (fun _ D1 => D1 = D')) : Wp (fX11_findScores a b D) (fun _ D1 => (∀ c, c ≠ 36 → D1.1 c = D.1 c) ∧ D1.2 = D.2) := by
  obtain ⟨h0, h1, h2, h3⟩ := h
  unfold fX11_findScores
  refine Wp.lets (Wp.lets ?_)
  refine Wp.fix1 (fun n x D' => (a.toInt ≤ x.toInt ∧ x.toInt ≤ b.toInt + 1 ∧ b.toInt + 1 - x.toInt < (n : Int)) ∧ (∀ c, c ≠ 36 → D'.1 c = D.1 c) ∧ D'.2 = D.2) ?_ ?_ aFuel 1000000 _ _ (Nat.le_refl _) ⟨⟨by omega, by omega, by omega⟩, fun _ _ => rfl, rfl⟩
  · intro n g hg x D' hI
    obtain ⟨⟨i0, i1, i2⟩, i3, i4⟩ := hI
    have c2 : (x + 1).toInt = x.toInt + 1 := ti_add rfl ti_1 (by omega) (by omega)
    have c3 : (x - a).toInt = x.toInt - a.toInt := ti_sub rfl rfl (by omega) (by omega)
    unfold lX11_findScores_2
    refine Wp.ilt (fun _ => Wp.ret ⟨i3, i4⟩) (fun k => Wp.bind (hS x D' i3 i0 k) (fun z D1 q => ?_))
    subst q
    refine Wp.idx (i_in (by omega) (by omega)) (Wp.lets (Wp.lets (hg _ _ ⟨⟨by omega, by omega, by omega⟩, fun c u => ?_, i4⟩)))
    funext k
    simp [aSI, u, i3 c u]
  · intro x D' hI
    obtain ⟨⟨i0, i1, i2⟩, -⟩ := hI
    omega
end FR
end
section
/-! the book: an entry's deed, exactly -/
theorem cl_of {x : Int32} {n : Nat} (h : x.toInt = n) : x.toNatClampNeg = n := by
  show x.toInt.toNat = n
  omega
/-- a fact of a listing -/
def lsF (i : Nat) (v st tw : Int32) : Int32 := if i = 0 then v else if i = 1 then st else if i = 4 then tw else if i = 5 then -3000 else if i = 6 then 1900 else if i = 9 then 1 else 0
/-- rows of facts behind an entry -/
def apF (row : Nat → Int32) (s : Nat) (f v st tw : Int32) (j : Nat) : Int32 :=
  if 0 ≤ f.toInt ∧ f.toInt < 11 then (if j = 11 * s + f.toNatClampNeg then v else row j) else if 11 * s ≤ j ∧ j < 11 * s + 11 then lsF (j - 11 * s) v st tw else row j
theorem apF_1 {row : Nat → Int32} {s : Nat} {f v st tw : Int32} {j : Nat} (h : 0 ≤ f.toInt ∧ f.toInt < 11) : apF row s f v st tw j = if j = 11 * s + f.toNatClampNeg then v else row j := if_pos h
theorem apF_2 {row : Nat → Int32} {s : Nat} {f v st tw : Int32} {j : Nat} (h : f.toInt < 0 ∨ 11 ≤ f.toInt) : apF row s f v st tw j = if 11 * s ≤ j ∧ j < 11 * s + 11 then lsF (j - 11 * s) v st tw else row j := if_neg (by omega)
theorem tX0_apply {r : Nat} {a : Int32} {D : ADD} (hr : r = 3 ∨ r = 4) (ha : 0 ≤ a.toInt ∧ a.toInt < 400) (hs : 0 ≤ (D.1 8 a.toNatClampNeg).toInt ∧ (D.1 8 a.toNatClampNeg).toInt < 32) : Wp (fX0_apply r a D) (fun _ D1 => (∀ c, c ≠ r → D1.1 c = D.1 c) ∧ D1.2 = D.2 ∧ ∀ j, D1.1 r j = apF (D.1 r) (D.1 8 a.toNatClampNeg).toNatClampNeg (D.1 9 a.toNatClampNeg) (D.1 10 a.toNatClampNeg) (D.1 5 (D.1 8 a.toNatClampNeg).toNatClampNeg) (D.1 6 (D.1 8 a.toNatClampNeg).toNatClampNeg) j) := by
  unfold fX0_apply
  have ia : vp_in a 400 := i_in ha.1 ha.2
  refine Wp.idx ia ?_
  generalize hk : a.toNatClampNeg = k at hs ⊢
  refine Wp.leti (fun s hse => Wp.idx ia (Wp.leti (fun f hf => ?_)))
  rw [← hse] at hs
  rw [← hse, ← hf]
  have es := cl_i hs.1
  have e11 : (s * 11).toInt = s.toInt * 11 := ti_mul rfl (by decide) (by omega) (by omega)
  have cell : ∀ (i : Int32) (n : Nat), i.toInt = n → n < 11 → vp_in (s * 11 + i) 352 ∧ (s * 11 + i).toNatClampNeg = 11 * s.toNatClampNeg + n := by
    intro i n hi hn
    have e : (s * 11 + i).toInt = s.toInt * 11 + n := ti_add e11 hi (by omega) (by omega)
    exact ⟨i_in (by omega) (by omega), cl_of (by omega)⟩
  refine Wp.lets ?_
  refine Wp.letK (fun j => (f.toInt < 0 ∨ 11 ≤ f.toInt) → Wp (j D) _) (fun hfo => ?_) (fun j47 hj => Wp.ilt (fun h => hj (Or.inl h)) (fun h => Wp.ile (fun h2 => hj (Or.inr h2)) (fun h2 => ?_)))
  · refine Wp.lets (Wp.lets ?_)
    have is : vp_in s 32 := i_in hs.1 hs.2
    refine Wp.fix1 (fun n x D' => (0 ≤ x.toInt ∧ x.toInt ≤ 11 ∧ 11 - x.toInt < (n : Int)) ∧ (∀ c, c ≠ r → D'.1 c = D.1 c) ∧ D'.2 = D.2 ∧ ∀ j, D'.1 r j = if 11 * s.toNatClampNeg ≤ j ∧ (j : Int) < 11 * s.toInt + x.toInt then 0 else D.1 r j) ?_ ?_ aFuel 1000000 _ _ (Nat.le_refl _) ?_
    · intro n g hg x D' hI
      obtain ⟨⟨i0, i1, i2⟩, i3, i4, i5⟩ := hI
      unfold lX0_apply_50
      refine Wp.ile (fun h => ?_) (fun h => ?_)
      · have hx : x.toInt = 11 := by
          have : (11 : Int32).toInt = 11 := by decide
          omega
        have q8 := i3 8 (by omega)
        have q9 := i3 9 (by omega)
        have q10 := i3 10 (by omega)
        have q5 := i3 5 (by omega)
        have q6 := i3 6 (by omega)
        obtain ⟨v0, w0⟩ := cell 0 0 (by decide) (by decide)
        obtain ⟨v1, w1⟩ := cell 1 1 (by decide) (by decide)
        obtain ⟨v4, w4⟩ := cell 4 4 (by decide) (by decide)
        obtain ⟨v5, w5⟩ := cell 5 5 (by decide) (by decide)
        obtain ⟨v6, w6⟩ := cell 6 6 (by decide) (by decide)
        obtain ⟨v9, w9⟩ := cell 9 9 (by decide) (by decide)
        refine Wp.idx ia (Wp.idx v0 (Wp.lets (Wp.idx is (Wp.idx v1 (Wp.lets (Wp.idx is (Wp.idx v4 (Wp.lets (Wp.idx v5 (Wp.lets (Wp.idx v6 (Wp.lets (Wp.idx v9 (Wp.lets (Wp.ret ⟨fun c hc => ?_, i4, fun j => ?_⟩)))))))))))))))
        · funext z
          simp [aSI, hc, i3 c hc]
        · rw [w0, w1, w4, w5, w6, w9]
          have r10 : (10 : Nat) ≠ r := by omega
          have r5 : (5 : Nat) ≠ r := by omega
          have r6 : (6 : Nat) ≠ r := by omega
          simp only [aSI, r10, r5, r6, false_and, if_false, true_and, q10, q5, q6, i5]
          rw [apF_2 hfo]
          by_cases hj : 11 * s.toNatClampNeg ≤ j ∧ j < 11 * s.toNatClampNeg + 11
          · rw [if_pos hj]
            have hj2 : 11 * s.toNatClampNeg ≤ j ∧ (j : Int) < 11 * s.toInt + x.toInt := ⟨hj.1, by omega⟩
            rw [if_pos hj2]
            obtain ⟨t, ht, ht2⟩ : ∃ t, j = 11 * s.toNatClampNeg + t ∧ t < 11 := ⟨j - 11 * s.toNatClampNeg, by omega, by omega⟩
            subst ht
            simp only [Nat.add_sub_cancel_left, Nat.add_left_cancel_iff, lsF]
            have : t = 0 ∨ t = 1 ∨ t = 2 ∨ t = 3 ∨ t = 4 ∨ t = 5 ∨ t = 6 ∨ t = 7 ∨ t = 8 ∨ t = 9 ∨ t = 10 := by omega
            rcases this with rfl | rfl | rfl | rfl | rfl | rfl | rfl | rfl | rfl | rfl | rfl <;> simp
          · have hj2 : ¬ (11 * s.toNatClampNeg ≤ j ∧ (j : Int) < 11 * s.toInt + x.toInt) := by omega
            rw [if_neg hj, if_neg hj2, if_neg (by omega), if_neg (by omega), if_neg (by omega), if_neg (by omega), if_neg (by omega), if_neg (by omega)]
      · have hx : x.toInt < 11 := by
          have : (11 : Int32).toInt = 11 := by decide
          omega
        obtain ⟨c1, c2⟩ := cl_add1 (x := x) (by omega) (by omega)
        have ex := cl_i i0
        obtain ⟨v0, w0⟩ := cell x x.toNatClampNeg (by omega) (by omega)
        refine Wp.idx v0 (Wp.lets (Wp.lets (hg _ _ ⟨⟨by omega, by omega, by omega⟩, fun c hc => ?_, i4, fun j => ?_⟩)))
        · funext z
          simp [aSI, hc, i3 c hc]
        · rw [w0]
          simp only [aSI, true_and, i5]
          by_cases hj : j = 11 * s.toNatClampNeg + x.toNatClampNeg
          · rw [if_pos hj, if_pos ⟨by omega, by omega⟩]
          · rw [if_neg hj]
            by_cases hj2 : 11 * s.toNatClampNeg ≤ j ∧ (j : Int) < 11 * s.toInt + x.toInt
            · rw [if_pos hj2, if_pos ⟨by omega, by omega⟩]
            · rw [if_neg hj2, if_neg (by omega)]
    · intro x D' hI
      obtain ⟨⟨i0, i1, i2⟩, -⟩ := hI
      omega
    · refine ⟨⟨by decide, by decide, by decide⟩, fun _ _ => rfl, rfl, fun j => ?_⟩
      rw [ti_0, if_neg (by omega)]
  · have hx : f.toInt < 11 := by
      have : (11 : Int32).toInt = 11 := by decide
      omega
    have h : 0 ≤ f.toInt := by rw [ti_0] at h; exact h
    have ef := cl_i h
    obtain ⟨v0, w0⟩ := cell f f.toNatClampNeg (by omega) (by omega)
    refine Wp.idx ia (Wp.idx v0 (Wp.lets (Wp.ret ⟨fun c hc => ?_, rfl, fun j => ?_⟩)))
    · funext z
      simp [aSI, hc]
    · rw [w0]
      simp only [aSI, true_and]
      rw [apF_1 ⟨h, hx⟩]
end
section
/-! the book: listing and telling, exactly -/
theorem eX_isSeen (a : Int32) (D : ADD) : fX0_isSeen a D = some (if D.1 2 12 = -1 ∨ a.toInt ≤ (D.1 2 12).toInt then 1 else 0, D) := by
  refine eq_Bo ?_
  unfold fX0_isSeen
  refine Wp.lets (Wp.lets (Wp.ite (fun h => ?_) (fun h => Wp.ilt (fun g => ?_) (fun g => ?_))))
  · exact Wp.z (Or.inr rfl) (Wp.ret ⟨rfl, Or.inl ⟨rfl, Or.inl h⟩⟩)
  · refine Wp.z (Or.inl rfl) (Wp.ret ⟨rfl, Or.inr ⟨rfl, fun q => ?_⟩⟩)
    rcases q with q | q
    · exact h q
    · omega
  · exact Wp.z (Or.inr rfl) (Wp.ret ⟨rfl, Or.inl ⟨rfl, Or.inr g⟩⟩)
theorem tX0_see {a : Int32} {D : ADD} (ha : 0 ≤ a.toInt ∧ a.toInt < 400) (hs : 0 ≤ (D.1 8 a.toNatClampNeg).toInt ∧ (D.1 8 a.toNatClampNeg).toInt < 32) : Wp (fX0_see a D) (fun _ D1 => (∀ c, c ≠ 2 → c ≠ 4 → D1.1 c = D.1 c) ∧ D1.2 = D.2 ∧ (∀ i, i ≠ 9 → D1.1 2 i = D.1 2 i) ∧ D1.1 2 9 = (if D.1 9 a.toNatClampNeg = -1 then D.1 8 a.toNatClampNeg + 1 else D.1 2 9) ∧ ∀ j, D1.1 4 j = apF (D.1 4) (D.1 8 a.toNatClampNeg).toNatClampNeg (D.1 9 a.toNatClampNeg) (D.1 10 a.toNatClampNeg) (D.1 5 (D.1 8 a.toNatClampNeg).toNatClampNeg) (D.1 6 (D.1 8 a.toNatClampNeg).toNatClampNeg) j) := by
  unfold fX0_see
  have ia : vp_in a 400 := i_in ha.1 ha.2
  refine Wp.bind (tX0_apply (Or.inr rfl) ha hs) (fun _ D1 q => Wp.idx ia (Wp.lets ?_))
  obtain ⟨q1, q2, q3⟩ := q
  rw [q1 9 (by decide)]
  refine Wp.ite (fun h => Wp.idx ia (Wp.lets (Wp.ret ⟨fun c u v => ?_, q2, fun i hi => ?_, ?_, fun j => ?_⟩))) (fun h => Wp.ret ⟨fun c u v => q1 c v, q2, fun i _ => by rw [q1 2 (by decide)], ?_, q3⟩)
  · funext z
    simp [aSI, u, q1 c v]
  · simp [aSI, hi, q1 2 (by decide)]
  · rw [if_pos h]
    simp [aSI, q1 8 (by decide)]
  · rw [← q3 j]
    simp [aSI]
  · rw [if_neg h, q1 2 (by decide)]
/-- an entry was seen as it was written -/
abbrev seenX (D : ADD) : Prop := D.1 2 12 = -1 ∨ (D.1 2 11).toInt ≤ (D.1 2 12).toInt
def WrX (D D1 : ADD) (s f v : Int32) : Prop :=
  (∀ c, c ≠ 2 → c ≠ 3 → c ≠ 4 → c ≠ 7 → c ≠ 8 → c ≠ 9 → c ≠ 10 → D1.1 c = D.1 c) ∧ D1.2 = D.2 ∧ (∀ i, i ≠ 9 → i ≠ 10 → D1.1 2 i = D.1 2 i) ∧ D1.1 2 10 = D.1 2 10 + 1 ∧ D1.1 2 9 = (if seenX D ∧ f = -1 then s + 1 else D.1 2 9) ∧
  (∀ j, D1.1 7 j = if j = (D.1 2 10).toNatClampNeg then D.1 2 11 else D.1 7 j) ∧ (∀ j, D1.1 8 j = if j = (D.1 2 10).toNatClampNeg then s else D.1 8 j) ∧ (∀ j, D1.1 9 j = if j = (D.1 2 10).toNatClampNeg then f else D.1 9 j) ∧ (∀ j, D1.1 10 j = if j = (D.1 2 10).toNatClampNeg then v else D.1 10 j) ∧
  (∀ j, D1.1 3 j = apF (D.1 3) s.toNatClampNeg f v (D.1 5 s.toNatClampNeg) (D.1 6 s.toNatClampNeg) j) ∧ ∀ j, D1.1 4 j = if seenX D then apF (D.1 4) s.toNatClampNeg f v (D.1 5 s.toNatClampNeg) (D.1 6 s.toNatClampNeg) j else D.1 4 j
theorem tX0_write {s f v : Int32} {D : ADD} (he : 0 ≤ (D.1 2 10).toInt ∧ (D.1 2 10).toInt < 400) (hs : 0 ≤ s.toInt ∧ s.toInt < 32) : Wp (fX0_write s f v D) (fun _ D1 => WrX D D1 s f v) := by
  unfold fX0_write
  have ie : vp_in (D.1 2 10) 400 := i_in he.1 he.2
  refine Wp.leti (fun k hk => ?_)
  rw [← hk] at he ie
  refine Wp.lets (Wp.ilt (fun h => absurd h (by rw [ti_0]; omega)) (fun _ => Wp.ilt (fun _ => ?_) (fun h => absurd h (by rw [show (400 : Int32).toInt = 400 by decide]; omega))))
  refine Wp.idx ie (Wp.lets (Wp.idx ie (Wp.lets (Wp.idx ie (Wp.lets (Wp.idx ie (Wp.lets (Wp.leti (fun D6 e6 => ?_)))))))))
  have w2 : ∀ i, D6.1 2 i = if i = 10 then D.1 2 10 + 1 else D.1 2 i := by intro i; rw [e6]; simp [aSI]
  have w7 : ∀ j, D6.1 7 j = if j = k.toNatClampNeg then D.1 2 11 else D.1 7 j := by intro i; rw [e6]; simp [aSI]
  have w8 : ∀ j, D6.1 8 j = if j = k.toNatClampNeg then s else D.1 8 j := by intro i; rw [e6]; simp [aSI]
  have w9 : ∀ j, D6.1 9 j = if j = k.toNatClampNeg then f else D.1 9 j := by intro i; rw [e6]; simp [aSI]
  have w10 : ∀ j, D6.1 10 j = if j = k.toNatClampNeg then v else D.1 10 j := by intro i; rw [e6]; simp [aSI]
  have wo : ∀ c, c ≠ 2 → c ≠ 7 → c ≠ 8 → c ≠ 9 → c ≠ 10 → D6.1 c = D.1 c := by
    intro c c2 c7 c8 c9 c10
    funext z
    rw [e6]
    simp [aSI, c2, c7, c8, c9, c10]
  have wl : D6.2 = D.2 := by rw [e6]; rfl
  clear e6
  have a8 : D6.1 8 k.toNatClampNeg = s := by rw [w8, if_pos rfl]
  have a9 : D6.1 9 k.toNatClampNeg = f := by rw [w9, if_pos rfl]
  have a10 : D6.1 10 k.toNatClampNeg = v := by rw [w10, if_pos rfl]
  refine Wp.bind (tX0_apply (Or.inl rfl) he (by rw [a8]; exact hs)) (fun _ D7 q => ?_)
  obtain ⟨q1, q2, q3⟩ := q
  rw [a8, a9, a10, wo 3 (by decide) (by decide) (by decide) (by decide) (by decide), wo 5 (by decide) (by decide) (by decide) (by decide) (by decide), wo 6 (by decide) (by decide) (by decide) (by decide) (by decide)] at q3
  have b12 : D7.1 2 12 = D.1 2 12 := by rw [q1 2 (by decide), w2, if_neg (by decide)]
  have b11 : D7.1 2 11 = D.1 2 11 := by rw [q1 2 (by decide), w2, if_neg (by decide)]
  refine Wp.bindE (eX_isSeen _ D7) (Wp.lets ?_)
  rw [b12, b11]
  have done0 : ¬ seenX D → WrX D D7 s f v := by
    intro hn
    refine ⟨fun c c2 c3 c4 c7 c8 c9 c10 => by rw [q1 c c3, wo c c2 c7 c8 c9 c10], by rw [q2, wl], fun i i9 i10 => by rw [q1 2 (by decide), w2, if_neg i10], by rw [q1 2 (by decide), w2, if_pos rfl], ?_, ?_, ?_, ?_, ?_, q3, fun j => ?_⟩
    · rw [if_neg (fun q => hn q.1), q1 2 (by decide), w2, if_neg (by decide)]
    · intro j; rw [q1 7 (by decide), w7, hk]
    · intro j; rw [q1 8 (by decide), w8, hk]
    · intro j; rw [q1 9 (by decide), w9, hk]
    · intro j; rw [q1 10 (by decide), w10, hk]
    · rw [if_neg hn, q1 4 (by decide), wo 4 (by decide) (by decide) (by decide) (by decide) (by decide)]
  by_cases hse : seenX D
  · rw [if_pos hse]
    refine Wp.neg (by decide) (Wp.bind (tX0_see he (by rw [q1 8 (by decide), a8]; exact hs)) (fun _ D9 p => Wp.ret ?_))
    obtain ⟨p1, p2, p3, p4, p5⟩ := p
    rw [q1 8 (by decide), q1 9 (by decide), q1 10 (by decide), q1 5 (by decide), q1 6 (by decide), a8, a9, a10, q1 4 (by decide), wo 4 (by decide) (by decide) (by decide) (by decide) (by decide), wo 5 (by decide) (by decide) (by decide) (by decide) (by decide), wo 6 (by decide) (by decide) (by decide) (by decide) (by decide)] at p5
    have b9 : D7.1 2 9 = D.1 2 9 := by rw [q1 2 (by decide), w2, if_neg (by decide)]
    rw [q1 9 (by decide), q1 8 (by decide), a8, a9, b9] at p4
    refine ⟨fun c c2 c3 c4 c7 c8 c9 c10 => by rw [p1 c c2 c4, q1 c c3, wo c c2 c7 c8 c9 c10], by rw [p2, q2, wl], fun i i9 i10 => by rw [p3 i i9, q1 2 (by decide), w2, if_neg i10], by rw [p3 10 (by decide), q1 2 (by decide), w2, if_pos rfl], ?_, ?_, ?_, ?_, ?_, ?_, fun j => ?_⟩
    · rw [p4]
      by_cases hf : f = -1
      · rw [if_pos hf, if_pos ⟨hse, hf⟩]
      · rw [if_neg hf, if_neg (fun q => hf q.2)]
    · intro j; rw [p1 7 (by decide) (by decide), q1 7 (by decide), w7, hk]
    · intro j; rw [p1 8 (by decide) (by decide), q1 8 (by decide), w8, hk]
    · intro j; rw [p1 9 (by decide) (by decide), q1 9 (by decide), w9, hk]
    · intro j; rw [p1 10 (by decide) (by decide), q1 10 (by decide), w10, hk]
    · intro j; rw [p1 3 (by decide) (by decide)]; exact q3 j
    · rw [if_pos hse]; exact p5 j
  · rw [if_neg hse]
    exact Wp.pos rfl (Wp.ret (done0 hse))
/-- what a fact may be -/
def FL (f : Nat) : Int := ([1, 0, 0, 0, 0, -3000, -3000, 0, 0, 0, 0] : List Int).getD f 0
def FM (f : Nat) : Int := ([30000, 4, 3, 2000, 5, 1900, 1900, 60, 9, 1, 8] : List Int).getD f 0
abbrev InR (f v : Int32) : Prop := (0 ≤ f.toInt ∧ f.toInt < 11) ∧ FL f.toNatClampNeg ≤ v.toInt ∧ v.toInt ≤ FM f.toNatClampNeg
theorem FLi : ∀ f : Nat, f < 11 → (aLeast.getD f 0).toInt = FL f ∧ (aMost.getD f 0).toInt = FM f := by decide
theorem eX_inRange (f v : Int32) (D : ADD) : fX0_inRange f v D = some (if InR f v then 1 else 0, D) := by
  refine eq_Bo ?_
  unfold fX0_inRange
  have e : (11 : Int32).toInt = 11 := by decide
  refine Wp.lets (Wp.lets (Wp.ilt (fun h => ?_) (fun h => Wp.ile (fun g => ?_) (fun g => ?_))))
  · rw [ti_0] at h
    exact Wp.z (Or.inl rfl) (Wp.ret ⟨rfl, Or.inr ⟨rfl, fun q => by have := q.1; omega⟩⟩)
  · exact Wp.z (Or.inl rfl) (Wp.ret ⟨rfl, Or.inr ⟨rfl, fun q => by have := q.1; omega⟩⟩)
  · rw [ti_0] at h
    have ii : vp_in f 11 := i_in h (by omega)
    have ef := cl_i h
    obtain ⟨l1, l2⟩ := FLi f.toNatClampNeg (by omega)
    refine Wp.idx ii (Wp.ilt (fun k => ?_) (fun k => Wp.idx ii (Wp.ilt (fun k2 => ?_) (fun k2 => ?_))))
    · exact Wp.z (Or.inl rfl) (Wp.ret ⟨rfl, Or.inr ⟨rfl, fun q => by have := q.2.1; omega⟩⟩)
    · exact Wp.z (Or.inl rfl) (Wp.ret ⟨rfl, Or.inr ⟨rfl, fun q => by have := q.2.2; omega⟩⟩)
    · exact Wp.z (Or.inr rfl) (Wp.ret ⟨rfl, Or.inl ⟨rfl, ⟨h, by omega⟩, by omega, by omega⟩⟩)
theorem inR0 {v : Int32} : InR 0 v ↔ 1 ≤ v.toInt ∧ v.toInt ≤ 30000 := by
  have e : FL (0 : Int32).toNatClampNeg = 1 := by decide
  have e2 : FM (0 : Int32).toNatClampNeg = 30000 := by decide
  unfold InR
  rw [e, e2]
  exact ⟨fun q => q.2, fun q => ⟨⟨by decide, by decide⟩, q⟩⟩
theorem inR1 {v : Int32} : InR 1 v ↔ 0 ≤ v.toInt ∧ v.toInt ≤ 4 := by
  have e : FL (1 : Int32).toNatClampNeg = 0 := by decide
  have e2 : FM (1 : Int32).toNatClampNeg = 4 := by decide
  unfold InR
  rw [e, e2]
  exact ⟨fun q => q.2, fun q => ⟨⟨by decide, by decide⟩, q⟩⟩
theorem inR4 {v : Int32} : InR 4 v ↔ 0 ≤ v.toInt ∧ v.toInt ≤ 5 := by
  have e : FL (4 : Int32).toNatClampNeg = 0 := by decide
  have e2 : FM (4 : Int32).toNatClampNeg = 5 := by decide
  unfold InR
  rw [e, e2]
  exact ⟨fun q => q.2, fun q => ⟨⟨by decide, by decide⟩, q⟩⟩
/-- what a listing asks -/
abbrev LsOK (w st tw : Int32) : Prop := (1 ≤ w.toInt ∧ w.toInt ≤ 30000) ∧ (0 ≤ st.toInt ∧ st.toInt ≤ 4) ∧ 0 ≤ tw.toInt ∧ tw.toInt ≤ 5
/-- a book behind a listing -/
def LsX (D D1 : ADD) (w st tw : Int32) : Prop := ∃ D7 : ADD, (∀ c, c ≠ 2 → c ≠ 5 → c ≠ 6 → D7.1 c = D.1 c) ∧ D7.2 = D.2 ∧ (∀ i, D7.1 2 i = if i = 8 then D.1 2 8 + 1 else D.1 2 i) ∧ (∀ j, D7.1 5 j = if j = (D.1 2 8).toNatClampNeg then st else D.1 5 j) ∧ (∀ j, D7.1 6 j = if j = (D.1 2 8).toNatClampNeg then tw else D.1 6 j) ∧ WrX D7 D1 (D.1 2 8) (-1) w
theorem tX10_stone {w st tw : Int32} {D : ADD} (h8 : 0 ≤ (D.1 2 8).toInt ∧ (D.1 2 8).toInt ≤ 32) (he : 0 ≤ (D.1 2 10).toInt ∧ (D.1 2 10).toInt ≤ 400) : Wp (fX10_stone w st tw D) (fun r D1 => if (D.1 2 8).toInt < 32 ∧ (D.1 2 10).toInt < 400 ∧ LsOK w st tw then r = D.1 2 8 ∧ LsX D D1 w st tw else r = -1 ∧ D1 = D) := by
  unfold fX10_stone
  refine Wp.bind (P := fun r D1 => if (D.1 2 8).toInt < 32 ∧ (D.1 2 10).toInt < 400 ∧ LsOK w st tw then r = D.1 2 8 ∧ LsX D D1 w st tw else r = -1 ∧ D1 = D) ?_ (fun x D1 q => Wp.ret q)
  unfold fX0_list
  have e32 : (32 : Int32).toInt = 32 := by decide
  have e400 : (400 : Int32).toInt = 400 := by decide
  refine Wp.lets (Wp.ile (fun k => Wp.ret ?_) (fun k => Wp.ile (fun k2 => Wp.ret ?_) (fun k2 => Wp.bindE (eX_inRange 0 w D) ?_)))
  · rw [if_neg (by omega)]; exact ⟨rfl, rfl⟩
  · rw [if_neg (by omega)]; exact ⟨rfl, rfl⟩
  · by_cases c1 : InR 0 w
    · rw [if_pos c1]
      have d1 := inR0.mp c1
      refine Wp.neg (by decide) (Wp.bindE (eX_inRange 1 st D) ?_)
      by_cases c2 : InR 1 st
      · rw [if_pos c2]
        have d2 := inR1.mp c2
        refine Wp.neg (by decide) (Wp.bindE (eX_inRange 4 tw D) ?_)
        by_cases c3 : InR 4 tw
        · rw [if_pos c3]
          have d3 := inR4.mp c3
          refine Wp.neg (by decide) ?_
          have i8 : vp_in (D.1 2 8) 32 := i_in h8.1 (by omega)
          refine Wp.lets (Wp.lets (Wp.idx i8 (Wp.lets (Wp.idx i8 (Wp.leti (fun D7 e7 => ?_))))))
          have w2 : ∀ i, D7.1 2 i = if i = 8 then D.1 2 8 + 1 else D.1 2 i := by intro i; rw [e7]; simp [aSI]
          have w5 : ∀ j, D7.1 5 j = if j = (D.1 2 8).toNatClampNeg then st else D.1 5 j := by intro i; rw [e7]; simp [aSI]
          have w6 : ∀ j, D7.1 6 j = if j = (D.1 2 8).toNatClampNeg then tw else D.1 6 j := by intro i; rw [e7]; simp [aSI]
          have wo : ∀ c, c ≠ 2 → c ≠ 5 → c ≠ 6 → D7.1 c = D.1 c := by
            intro c c2 c5 c6
            funext z
            rw [e7]
            simp [aSI, c2, c5, c6]
          have wl : D7.2 = D.2 := by rw [e7]; rfl
          refine Wp.bind (tX0_write (by rw [w2, if_neg (by decide)]; omega) (by omega)) (fun _ D8 q => Wp.ret ?_)
          rw [if_pos ⟨by omega, by omega, d1, d2, d3⟩]
          exact ⟨rfl, D7, wo, wl, w2, w5, w6, q⟩
        · rw [if_neg c3]
          refine Wp.pos rfl (Wp.ret ?_)
          rw [if_neg (fun q => c3 (inR4.mpr q.2.2.2.2))]; exact ⟨rfl, rfl⟩
      · rw [if_neg c2]
        refine Wp.pos rfl (Wp.ret ?_)
        rw [if_neg (fun q => c2 (inR1.mpr q.2.2.2.1))]; exact ⟨rfl, rfl⟩
    · rw [if_neg c1]
      refine Wp.pos rfl (Wp.ret ?_)
      rw [if_neg (fun q => c1 (inR0.mpr q.2.2.1))]; exact ⟨rfl, rfl⟩
end
section
/-! the tape -/
theorem tn_8 : (-8 : Int32).toInt = -8 := by decide
/-- a number's bytes, the highest first -/
def byO (a : Int32) (i : Nat) : Int32 := (a >>> ((24 - 8 * Int32.ofNat i) &&& 31)).toInt8.toInt32
theorem tX9_add {a : Int32} {D : ADD} (h0 : 0 ≤ (D.1 11 1).toInt) (h1 : (D.1 11 1).toInt + 4 ≤ 500) : Wp (fX9_add a D) (fun _ D1 => (∀ c, c ≠ 11 → c ≠ 12 → D1.1 c = D.1 c) ∧ D1.2 = D.2 ∧ (∀ i, i ≠ 1 → D1.1 11 i = D.1 11 i) ∧ (D1.1 11 1).toInt = (D.1 11 1).toInt + 4 ∧ ∀ j : Nat, D1.1 12 j = if (D.1 11 1).toInt ≤ j ∧ (j : Int) < (D.1 11 1).toInt + 4 then byO a (j - (D.1 11 1).toNatClampNeg) else D.1 12 j) := by
  unfold fX9_add
  refine Wp.lets (Wp.lets ?_)
  have el := cl_i h0
  have e500 : (500 : Int32).toInt = 500 := by decide
  refine Wp.fix1 (fun n x D' => ∃ t : Nat, x = 24 - 8 * Int32.ofNat t ∧ x.toInt = 24 - 8 * (t : Int) ∧ t ≤ 4 ∧ 4 - (t : Int) < (n : Int) ∧ (∀ c, c ≠ 11 → c ≠ 12 → D'.1 c = D.1 c) ∧ D'.2 = D.2 ∧ (∀ i, i ≠ 1 → D'.1 11 i = D.1 11 i) ∧ (D'.1 11 1).toInt = (D.1 11 1).toInt + t ∧ ∀ j : Nat, D'.1 12 j = if (D.1 11 1).toInt ≤ j ∧ (j : Int) < (D.1 11 1).toInt + t then byO a (j - (D.1 11 1).toNatClampNeg) else D.1 12 j) ?_ ?_ aFuel 1000000 _ _ (Nat.le_refl _) ⟨0, by decide, by decide, by decide, by decide, fun _ _ _ => rfl, rfl, fun _ _ => rfl, by omega, fun j => ?_⟩
  · intro n g hg x D' hI
    obtain ⟨t, hx0, hx, ht, hn, i1, i2, i3, i4, i5⟩ := hI
    unfold lX9_add_3
    refine Wp.ilt (fun h => ?_) (fun h => Wp.ile (fun h2 => absurd h2 (by rw [ti_0] at h; omega)) (fun h2 => ?_))
    · rw [ti_0] at h
      have ht4 : t = 4 := by omega
      subst ht4
      exact Wp.ret ⟨i1, i2, i3, by omega, i5⟩
    · rw [ti_0] at h
      have el2 := cl_i (x := D'.1 11 1) (by omega)
      have ea : (D'.1 11 1 + 1).toInt = (D'.1 11 1).toInt + 1 := ti_add rfl ti_1 (by omega) (by omega)
      have ex : (x + -8).toInt = x.toInt + -8 := ti_add rfl tn_8 (by omega) (by omega)
      refine Wp.idx (i_in (by omega) (by omega)) (Wp.lets (Wp.lets (Wp.lets (hg _ _ ⟨t + 1, ?_, by omega, by omega, by omega, fun c u v => ?_, i2, fun i hi => ?_, ?_, fun j => ?_⟩))))
      · apply ti_eq
        have e8 : (8 * Int32.ofNat (t + 1)).toInt = 8 * ((t : Int) + 1) := ti_mul (by decide) (by rw [show Int32.ofNat (t + 1) = nI (t + 1) from rfl, ti_nI (by omega)]; omega) (by omega) (by omega)
        rw [ti_sub (show (24 : Int32).toInt = 24 by decide) e8 (by omega) (by omega)]
        omega
      · funext z
        simp [aSI, u, v, i1 c u v]
      · simp [aSI, hi, i3 i hi]
      · show (D'.1 11 1 + 1).toInt = _
        omega
      · have hb : (a >>> (x &&& 31)).toInt8.toInt32 = byO a t := by rw [hx0]; rfl
        rw [hb]
        simp only [aSI, i5]
        by_cases hj : j = (D'.1 11 1).toNatClampNeg
        · have hjt : j - (D.1 11 1).toNatClampNeg = t := by omega
          simp only [show ((12 : Nat) = 11) = False by simp, false_and, if_false, true_and, if_pos hj]
          rw [if_pos ⟨by omega, by omega⟩, hjt]
        · simp only [show ((12 : Nat) = 11) = False by simp, false_and, if_false, true_and, if_neg hj]
          by_cases hj2 : (D.1 11 1).toInt ≤ j ∧ (j : Int) < (D.1 11 1).toInt + t
          · rw [if_pos hj2, if_pos ⟨by omega, by omega⟩]
          · rw [if_neg hj2, if_neg (by omega)]
  · intro x D' hI
    obtain ⟨t, hx0, hx, ht, hn, -⟩ := hI
    omega
  · rw [if_neg (by omega)]
theorem tM_four {a : Int32} {D : ADD} (h0 : 0 ≤ (D.1 2 0).toInt) (h1 : (D.1 2 0).toInt + 4 ≤ 500) : Wp (fX11_four a D) (fun _ D1 => (∀ c, c ≠ 1 → c ≠ 2 → D1.1 c = D.1 c) ∧ D1.2 = D.2 ∧ (∀ i, i ≠ 0 → D1.1 2 i = D.1 2 i) ∧ (D1.1 2 0).toInt = (D.1 2 0).toInt + 4 ∧ ∀ j : Nat, D1.1 1 j = if (D.1 2 0).toInt ≤ j ∧ (j : Int) < (D.1 2 0).toInt + 4 then byO a (j - (D.1 2 0).toNatClampNeg) else D.1 1 j) := by
  unfold fX11_four
  refine Wp.lets (Wp.lets ?_)
  have el := cl_i h0
  refine Wp.fix1 (fun n x D' => ∃ t : Nat, x = 24 - 8 * Int32.ofNat t ∧ x.toInt = 24 - 8 * (t : Int) ∧ t ≤ 4 ∧ 4 - (t : Int) < (n : Int) ∧ (∀ c, c ≠ 1 → c ≠ 2 → D'.1 c = D.1 c) ∧ D'.2 = D.2 ∧ (∀ i, i ≠ 0 → D'.1 2 i = D.1 2 i) ∧ (D'.1 2 0).toInt = (D.1 2 0).toInt + t ∧ ∀ j : Nat, D'.1 1 j = if (D.1 2 0).toInt ≤ j ∧ (j : Int) < (D.1 2 0).toInt + t then byO a (j - (D.1 2 0).toNatClampNeg) else D.1 1 j) ?_ ?_ aFuel 1000000 _ _ (Nat.le_refl _) ⟨0, by decide, by decide, by decide, by decide, fun _ _ _ => rfl, rfl, fun _ _ => rfl, by omega, fun j => ?_⟩
  · intro n g hg x D' hI
    obtain ⟨t, hx0, hx, ht, hn, i1, i2, i3, i4, i5⟩ := hI
    unfold lX11_four_3
    simp only [cl_0]
    refine Wp.ilt (fun h => ?_) (fun h => ?_)
    · rw [ti_0] at h
      have ht4 : t = 4 := by omega
      subst ht4
      exact Wp.ret ⟨i1, i2, i3, by omega, i5⟩
    · rw [ti_0] at h
      have el2 := cl_i (x := D'.1 2 0) (by omega)
      have ea : (D'.1 2 0 + 1).toInt = (D'.1 2 0).toInt + 1 := ti_add rfl ti_1 (by omega) (by omega)
      have ex : (x + -8).toInt = x.toInt + -8 := ti_add rfl tn_8 (by omega) (by omega)
      refine Wp.idd (by decide) (Wp.idx (i_in (by omega) (by omega)) (Wp.lets (Wp.idd (by decide) (Wp.idd (by decide) (Wp.lets (Wp.lets (hg _ _ ⟨t + 1, ?_, by omega, by omega, by omega, fun c u v => ?_, i2, fun i hi => ?_, ?_, fun j => ?_⟩)))))))
      · apply ti_eq
        have e8 : (8 * Int32.ofNat (t + 1)).toInt = 8 * ((t : Int) + 1) := ti_mul (by decide) (by rw [show Int32.ofNat (t + 1) = nI (t + 1) from rfl, ti_nI (by omega)]; omega) (by omega) (by omega)
        rw [ti_sub (show (24 : Int32).toInt = 24 by decide) e8 (by omega) (by omega)]
        omega
      · funext z
        simp [aSI, u, v, i1 c u v]
      · simp [aSI, hi, i3 i hi]
      · show (D'.1 2 0 + 1).toInt = _
        omega
      · have hb : (a >>> (x &&& 31)).toInt8.toInt32 = byO a t := by rw [hx0]; rfl
        rw [hb]
        simp only [aSI, i5]
        by_cases hj : j = (D'.1 2 0).toNatClampNeg
        · have hjt : j - (D.1 2 0).toNatClampNeg = t := by omega
          simp only [show ((1 : Nat) = 2) = False by simp, false_and, if_false, true_and, if_pos hj]
          rw [if_pos ⟨by omega, by omega⟩, hjt]
        · simp only [show ((1 : Nat) = 2) = False by simp, false_and, if_false, true_and, if_neg hj]
          by_cases hj2 : (D.1 2 0).toInt ≤ j ∧ (j : Int) < (D.1 2 0).toInt + t
          · rw [if_pos hj2, if_pos ⟨by omega, by omega⟩]
          · rw [if_neg hj2, if_neg (by omega)]
  · intro x D' hI
    obtain ⟨t, hx0, hx, ht, hn, -⟩ := hI
    omega
  · rw [if_neg (by omega)]
/-! an empty tape -/
theorem zX_byteAt {a : Int32} {D : ADD} (h : D.1 11 1 = 0) : fX9_byteAt a D = some (-1, D) := by
  unfold fX9_byteAt
  simp only [aLet, h]
  by_cases h1 : a < 0
  · rw [if_pos h1]
  · rw [if_neg h1, if_pos (Int32.not_lt.mp h1)]
theorem zX_advance {D : ADD} (h : D.1 11 1 = 0) (h7 : D.1 33 7 = 0) : Wp (fX5_advance D) (fun _ D1 => (∀ c, c ≠ 33 → D1.1 c = D.1 c) ∧ (∀ i, i ≠ 5 → i ≠ 6 → i ≠ 7 → D1.1 33 i = D.1 33 i) ∧ D1.1 33 5 = 0) := by
  unfold fX5_advance
  rw [h7]
  refine Wp.lets (Wp.lets (Wp.lets ?_))
  have e11 : (aSI D 33 6 0).1 11 1 = 0 := h
  rw [aFix_go]
  unfold lX5_advance_8
  refine Wp.neg (show ¬ (500 : Int32) ≤ 0 by decide) (Wp.bindE (zX_byteAt e11) (Wp.bindE (x := 0) rfl (Wp.pos rfl (Wp.bindE (zX_byteAt e11) (Wp.lets ?_)))))
  refine Wp.bindE (x := 0) rfl (Wp.lets (Wp.lets (Wp.lets (Wp.pos rfl (Wp.bindE (x := 0) rfl (Wp.lets (Wp.lets (Wp.pos rfl (Wp.pos rfl (Wp.lets (Wp.ret ⟨fun c hc => ?_, fun i h5 h6 h7 => ?_, rfl⟩)))))))))))
  · funext z
    simp [aSI, hc]
  · simp [aSI, h5, h6, h7]
theorem tX6_copyFrom {o p : Nat} {D : ADD} : Wp (fX6_copyFrom o p D) (fun _ D1 => D1.1 o 0 = D.1 p 0) := by
  unfold fX6_copyFrom
  refine Wp.lets (Wp.lets (Wp.lets (Wp.lets (Wp.lets (Wp.lets (Wp.lets (Wp.lets (Wp.lets (Wp.ret ?_)))))))))
  simp [aSI, aCp]
theorem zX_text {a : Int32} {D : ADD} (ha : a = 0 ∨ a = 1) (h : D.1 11 1 = 0) : Wp (fX10_text a D) (fun r _ => r = 0) := by
  unfold fX10_text
  refine Wp.bind (P := fun r D1 => r = 1 ∧ D1.1 34 0 = 0 ∧ D1.1 11 1 = 0) ?_ (fun x D1 q => ?_)
  · unfold fX5_read
    refine Wp.z ha (Wp.lets (Wp.lets (Wp.lets (Wp.lets (Wp.lets (Wp.bind (zX_advance h rfl) (fun _ D6 q => Wp.lets (Wp.lets ?_))))))))
    obtain ⟨q1, q2, q3⟩ := q
    rw [aFix_go]
    unfold lX5_read_34
    refine Wp.pos q3 (Wp.lets (Wp.lets (Wp.pos ?_ (Wp.z (Or.inr rfl) (Wp.ret ⟨rfl, rfl, ?_⟩)))))
    · show D6.1 33 1 = 0
      rw [q2 1 (by decide) (by decide) (by decide)]
      rfl
    · show D6.1 11 1 = 0
      rw [q1 11 (by decide)]
      exact h
  · obtain ⟨rfl, q1, q2⟩ := q
    refine Wp.lets (Wp.lets (Wp.bind (P := fun _ D4 => D4.1 34 0 = 0) ?_ (fun y D4 p => Wp.neg (by decide) (Wp.ite (fun _ => ?_) (fun _ => ?_)))))
    · unfold fX9_cut
      refine Wp.lets (Wp.neg (by decide) (Wp.pos (show (0 : Int32) ≤ D1.1 11 1 by rw [q2]; decide) (Wp.lets (Wp.ret q1))))
    · exact Wp.bind tX6_copyFrom (fun _ D5 k => Wp.ret (by rw [k, p]))
    · exact Wp.bind tX6_copyFrom (fun _ D5 k => Wp.ret (by rw [k, p]))
theorem zM_see {D : ADD} (h : D.1 0 24 = 0) (h2 : D.1 0 23 = 0) : fX11_see D = some (-1, D) := by
  unfold fX11_see
  simp only [aLet, h, h2]
  rw [if_pos (by decide)]
theorem zM_next {D : ADD} (h : D.1 0 24 = 0) (h2 : D.1 0 23 = 0) : Wp (fX11_next D) (fun _ D1 => (∀ c, c ≠ 0 → D1.1 c = D.1 c) ∧ (∀ i, i ≠ 25 → i ≠ 26 → i ≠ 27 → D1.1 0 i = D.1 0 i) ∧ D1.1 0 26 = 0) := by
  unfold fX11_next
  refine Wp.lets ?_
  rw [aFix_go]
  unfold lX11_next_0
  refine Wp.bindE (zM_see h h2) (Wp.lets (Wp.neg (by decide) (Wp.bindE (zM_see h h2) (Wp.neg (by decide) (Wp.lets (Wp.bindE (zM_see h h2) (Wp.lets (Wp.lets (Wp.lets (Wp.neg (by decide) (Wp.lets (Wp.ret ⟨fun c hc => ?_, fun i h5 h6 h7 => ?_, rfl⟩))))))))))))
  · funext z
    simp [aSI, aSL, hc]
  · simp [aSI, aSL, h5, h6, h7]
theorem zM_text {a : Int32} {D : ADD} (ha : a = 0 ∨ a = 1) (h : D.1 2 0 = 0) : Wp (fX11_text a D) (fun r _ => r = 0) := by
  unfold fX11_text
  simp only [cl_0]
  refine Wp.lets (Wp.idd (by decide) (Wp.lets (Wp.idd (by decide) (Wp.lets (Wp.idd (by decide) (Wp.lets (Wp.idd (by decide) (Wp.lets (Wp.lets (Wp.lets (Wp.lets (Wp.lets (Wp.bind (zM_next h rfl) (fun _ D1 q => Wp.lets (Wp.lets ?_)))))))))))))))
  obtain ⟨q1, q2, q3⟩ := q
  rw [aFix_go]
  unfold lX11_text_62
  have e30 : D1.1 0 30 = 0 := q2 30 (by decide) (by decide) (by decide)
  have e32 : D1.1 0 32 = 0 := q2 32 (by decide) (by decide) (by decide)
  refine Wp.neg (by decide) (Wp.pos q3 (Wp.lets (Wp.neg (by decide) (Wp.pos (by rw [e30]; decide) (Wp.lets ?_)))))
  rcases ha with rfl | rfl
  · refine Wp.pos rfl (Wp.lets (Wp.pos rfl (Wp.idd (by decide) (Wp.lets (Wp.lets (Wp.lets ?_))))))
    rw [aFix_go]
    unfold lX11_text_166
    exact Wp.pos (show D1.1 0 32 ≤ 0 by rw [e32]; decide) (Wp.ret e32)
  · refine Wp.neg (by decide) (Wp.lets (Wp.neg (by decide) (Wp.idd (by decide) (Wp.lets (Wp.lets (Wp.lets ?_))))))
    rw [aFix_go]
    unfold lX11_text_166
    exact Wp.pos (show D1.1 0 32 ≤ 0 by rw [e32]; decide) (Wp.ret e32)
end
section
/-! the reference: entries, copies -/
def szM (c : Nat) : Nat := ([0, 500, 1, 1, 1, 1, 1, 1, 1, 1600, 96, 1, 1, 2, 1, 2, 32, 128, 128, 128, 32, 32, 32] : List Nat).getD c 0
theorem tM_move {r n N P T : Nat} {a1 a2 a3 : Int32} {D : ADD} (h1 : a1.toInt = N) (h2 : (a1 * a2).toInt = P) (h3 : (a1 * a3).toInt = T) (hP : P + N ≤ n) (hT : T + N ≤ n) (hn : n ≤ 100000) (hd : P + N ≤ T ∨ T + N ≤ P) : Wp (fX11_move r n a1 a2 a3 D) (fun _ D1 => (∀ c, c ≠ r → D1.1 c = D.1 c) ∧ D1.2 = D.2 ∧ ∀ j, D1.1 r j = if T ≤ j ∧ j < T + N then D.1 r (j - T + P) else D.1 r j) := by
  unfold fX11_move
  refine Wp.lets (Wp.lets ?_)
  refine Wp.fix1 (fun n x D' => (0 ≤ x.toInt ∧ x.toInt ≤ (N : Int) ∧ (N : Int) - x.toInt < (n : Int)) ∧ (∀ c, c ≠ r → D'.1 c = D.1 c) ∧ D'.2 = D.2 ∧ ∀ j : Nat, D'.1 r j = if T ≤ j ∧ (j : Int) < T + x.toInt then D.1 r (j - T + P) else D.1 r j) ?_ ?_ aFuel 1000000 _ _ (Nat.le_refl _) ⟨⟨by decide, by rw [ti_0]; omega, by rw [ti_0]; omega⟩, fun _ _ => rfl, rfl, fun j => by rw [ti_0, if_neg (by omega)]⟩
  · intro m g hg x D' hI
    obtain ⟨⟨i0, i1, i2⟩, i3, i4, i5⟩ := hI
    unfold lX11_move_3
    refine Wp.ile (fun h => ?_) (fun h => ?_)
    · refine Wp.ret ⟨i3, i4, fun j => ?_⟩
      rw [i5]
      have hx : x.toInt = N := by omega
      by_cases hj : T ≤ j ∧ j < T + N
      · rw [if_pos hj, if_pos ⟨hj.1, by omega⟩]
      · rw [if_neg hj, if_neg (by omega)]
    · obtain ⟨c1, c2⟩ := cl_add1 (x := x) (by omega) (by omega)
      have ex := cl_i i0
      have e2 : (a1 * a2 + x).toInt = P + x.toInt := ti_add h2 rfl (by omega) (by omega)
      have e3 : (a1 * a3 + x).toInt = T + x.toInt := ti_add h3 rfl (by omega) (by omega)
      have w2 : (a1 * a2 + x).toNatClampNeg = P + x.toNatClampNeg := cl_of (by omega)
      have w3 : (a1 * a3 + x).toNatClampNeg = T + x.toNatClampNeg := cl_of (by omega)
      refine Wp.idx (i_in (by omega) (by omega)) (Wp.idx (i_in (by omega) (by omega)) (Wp.lets (Wp.lets (hg _ _ ⟨⟨by omega, by omega, by omega⟩, fun c hc => ?_, i4, fun j => ?_⟩))))
      · funext z
        simp [aSI, hc, i3 c hc]
      · rw [w2, w3]
        simp only [aSI, true_and]
        by_cases hj : j = T + x.toNatClampNeg
        · rw [if_pos hj, if_pos ⟨by omega, by omega⟩, i5, if_neg (by omega), show P + x.toNatClampNeg = j - T + P by omega]
        · rw [if_neg hj, i5]
          by_cases hj2 : T ≤ j ∧ (j : Int) < T + x.toInt
          · rw [if_pos hj2, if_pos ⟨by omega, by omega⟩]
          · rw [if_neg hj2, if_neg (by omega)]
  · intro x D' hI
    obtain ⟨⟨i0, i1, i2⟩, -⟩ := hI
    omega
/-- cells 2 .. m - 1 are copied, tape too -/
def CpT (D D1 : ADD) (f t m : Nat) : Prop := (∀ c, (c = 0 ∨ m ≤ c) → D1.1 c = D.1 c) ∧ D1.2 = D.2 ∧ (∀ j, D1.1 1 j = if 500 * t ≤ j ∧ j < 500 * t + 500 then aB (D.1 1 (j - 500 * t + 500 * f)) else D.1 1 j) ∧ ∀ c, 2 ≤ c → c < m → ∀ j, D1.1 c j = if szM c * t ≤ j ∧ j < szM c * t + szM c then D.1 c (j - szM c * t + szM c * f) else D.1 c j
theorem CpT.step {D D1 D2 : ADD} {f t m : Nat} (h : CpT D D1 f t m) (hm : 2 ≤ m) (q : (∀ c, c ≠ m → D2.1 c = D1.1 c) ∧ D2.2 = D1.2 ∧ ∀ j, D2.1 m j = if szM m * t ≤ j ∧ j < szM m * t + szM m then D1.1 m (j - szM m * t + szM m * f) else D1.1 m j) : CpT D D2 f t (m + 1) := by
  obtain ⟨h1, h2, h3, h4⟩ := h
  obtain ⟨q1, q2, q3⟩ := q
  refine ⟨fun c hc => ?_, by rw [q2, h2], fun j => ?_, fun c c2 cm j => ?_⟩
  · rw [q1 c (by omega), h1 c (by omega)]
  · rw [q1 1 (by omega), h3]
  · by_cases hc : c = m
    · subst hc
      rw [q3, h1 c (Or.inr (Nat.le_refl _))]
    · rw [q1 c hc]
      exact h4 c c2 (by omega) j
set_option maxHeartbeats 2000000 in
theorem tM_copy {a1 a2 : Int32} {f t : Nat} {D : ADD} (h1 : a1.toInt = f) (h2 : a2.toInt = t) (hf : f < 4) (ht : t < 4) (hd : f ≠ t) : Wp (fX11_copy a1 a2 D) (fun _ D1 => CpT D D1 f t 23) := by
  unfold fX11_copy
  refine Wp.lets (Wp.lets ?_)
  have e5 : (500 : Int32).toInt = 500 := by decide
  have m1 : ((500 : Int32) * a1).toInt = 500 * f := ti_mul e5 h1 (by omega) (by omega)
  have m2 : ((500 : Int32) * a2).toInt = 500 * t := ti_mul e5 h2 (by omega) (by omega)
  refine Wp.fix1 (fun n x D' => (0 ≤ x.toInt ∧ x.toInt ≤ 500 ∧ 500 - x.toInt < (n : Int)) ∧ (∀ c, c ≠ 1 → D'.1 c = D.1 c) ∧ D'.2 = D.2 ∧ ∀ j : Nat, D'.1 1 j = if 500 * t ≤ j ∧ (j : Int) < 500 * t + x.toInt then aB (D.1 1 (j - 500 * t + 500 * f)) else D.1 1 j) ?_ ?_ aFuel 1000000 _ _ (Nat.le_refl _) ⟨⟨by decide, by decide, by decide⟩, fun _ _ => rfl, rfl, fun j => by rw [ti_0, if_neg (by omega)]⟩
  · intro m g hg x D' hI
    obtain ⟨⟨i0, i1, i2⟩, i3, i4, i5⟩ := hI
    unfold lX11_copy_2
    refine Wp.ile (fun h => ?_) (fun h => ?_)
    · have K2 : CpT D D' f t 2 := by
        refine ⟨fun c hc => i3 c (by omega), i4, fun j => ?_, fun c c2 cm => by omega⟩
        rw [i5]
        by_cases hj : 500 * t ≤ j ∧ j < 500 * t + 500
        · rw [if_pos hj, if_pos ⟨hj.1, by omega⟩]
        · rw [if_neg hj, if_neg (by omega)]
      clear hg i5

      refine Wp.bind (tM_move (N := 1) (P := 1 * f) (T := 1 * t) (show (1 : Int32).toInt = ((1 : Nat) : Int) by decide) (ti_mul (p := 1) (by decide) h1 (by omega) (by omega)) (ti_mul (p := 1) (by decide) h2 (by omega) (by omega)) (by omega) (by omega) (by omega) (by omega)) (fun _ E2 q => ?_)
      have K3 : CpT D E2 f t 3 := CpT.step K2 (by decide) q
      clear q K2
      refine Wp.bind (tM_move (N := 1) (P := 1 * f) (T := 1 * t) (show (1 : Int32).toInt = ((1 : Nat) : Int) by decide) (ti_mul (p := 1) (by decide) h1 (by omega) (by omega)) (ti_mul (p := 1) (by decide) h2 (by omega) (by omega)) (by omega) (by omega) (by omega) (by omega)) (fun _ E3 q => ?_)
      have K4 : CpT D E3 f t 4 := CpT.step K3 (by decide) q
      clear q K3
      refine Wp.bind (tM_move (N := 1) (P := 1 * f) (T := 1 * t) (show (1 : Int32).toInt = ((1 : Nat) : Int) by decide) (ti_mul (p := 1) (by decide) h1 (by omega) (by omega)) (ti_mul (p := 1) (by decide) h2 (by omega) (by omega)) (by omega) (by omega) (by omega) (by omega)) (fun _ E4 q => ?_)
      have K5 : CpT D E4 f t 5 := CpT.step K4 (by decide) q
      clear q K4
      refine Wp.bind (tM_move (N := 1) (P := 1 * f) (T := 1 * t) (show (1 : Int32).toInt = ((1 : Nat) : Int) by decide) (ti_mul (p := 1) (by decide) h1 (by omega) (by omega)) (ti_mul (p := 1) (by decide) h2 (by omega) (by omega)) (by omega) (by omega) (by omega) (by omega)) (fun _ E5 q => ?_)
      have K6 : CpT D E5 f t 6 := CpT.step K5 (by decide) q
      clear q K5
      refine Wp.bind (tM_move (N := 1) (P := 1 * f) (T := 1 * t) (show (1 : Int32).toInt = ((1 : Nat) : Int) by decide) (ti_mul (p := 1) (by decide) h1 (by omega) (by omega)) (ti_mul (p := 1) (by decide) h2 (by omega) (by omega)) (by omega) (by omega) (by omega) (by omega)) (fun _ E6 q => ?_)
      have K7 : CpT D E6 f t 7 := CpT.step K6 (by decide) q
      clear q K6
      refine Wp.bind (tM_move (N := 1) (P := 1 * f) (T := 1 * t) (show (1 : Int32).toInt = ((1 : Nat) : Int) by decide) (ti_mul (p := 1) (by decide) h1 (by omega) (by omega)) (ti_mul (p := 1) (by decide) h2 (by omega) (by omega)) (by omega) (by omega) (by omega) (by omega)) (fun _ E7 q => ?_)
      have K8 : CpT D E7 f t 8 := CpT.step K7 (by decide) q
      clear q K7
      refine Wp.bind (tM_move (N := 1) (P := 1 * f) (T := 1 * t) (show (1 : Int32).toInt = ((1 : Nat) : Int) by decide) (ti_mul (p := 1) (by decide) h1 (by omega) (by omega)) (ti_mul (p := 1) (by decide) h2 (by omega) (by omega)) (by omega) (by omega) (by omega) (by omega)) (fun _ E8 q => ?_)
      have K9 : CpT D E8 f t 9 := CpT.step K8 (by decide) q
      clear q K8
      refine Wp.bind (tM_move (N := 1600) (P := 1600 * f) (T := 1600 * t) (show (1600 : Int32).toInt = ((1600 : Nat) : Int) by decide) (ti_mul (p := 1600) (by decide) h1 (by omega) (by omega)) (ti_mul (p := 1600) (by decide) h2 (by omega) (by omega)) (by omega) (by omega) (by omega) (by omega)) (fun _ E9 q => ?_)
      have K10 : CpT D E9 f t 10 := CpT.step K9 (by decide) q
      clear q K9
      refine Wp.bind (tM_move (N := 96) (P := 96 * f) (T := 96 * t) (show (96 : Int32).toInt = ((96 : Nat) : Int) by decide) (ti_mul (p := 96) (by decide) h1 (by omega) (by omega)) (ti_mul (p := 96) (by decide) h2 (by omega) (by omega)) (by omega) (by omega) (by omega) (by omega)) (fun _ E10 q => ?_)
      have K11 : CpT D E10 f t 11 := CpT.step K10 (by decide) q
      clear q K10
      refine Wp.bind (tM_move (N := 1) (P := 1 * f) (T := 1 * t) (show (1 : Int32).toInt = ((1 : Nat) : Int) by decide) (ti_mul (p := 1) (by decide) h1 (by omega) (by omega)) (ti_mul (p := 1) (by decide) h2 (by omega) (by omega)) (by omega) (by omega) (by omega) (by omega)) (fun _ E11 q => ?_)
      have K12 : CpT D E11 f t 12 := CpT.step K11 (by decide) q
      clear q K11
      refine Wp.bind (tM_move (N := 1) (P := 1 * f) (T := 1 * t) (show (1 : Int32).toInt = ((1 : Nat) : Int) by decide) (ti_mul (p := 1) (by decide) h1 (by omega) (by omega)) (ti_mul (p := 1) (by decide) h2 (by omega) (by omega)) (by omega) (by omega) (by omega) (by omega)) (fun _ E12 q => ?_)
      have K13 : CpT D E12 f t 13 := CpT.step K12 (by decide) q
      clear q K12
      refine Wp.bind (tM_move (N := 2) (P := 2 * f) (T := 2 * t) (show (2 : Int32).toInt = ((2 : Nat) : Int) by decide) (ti_mul (p := 2) (by decide) h1 (by omega) (by omega)) (ti_mul (p := 2) (by decide) h2 (by omega) (by omega)) (by omega) (by omega) (by omega) (by omega)) (fun _ E13 q => ?_)
      have K14 : CpT D E13 f t 14 := CpT.step K13 (by decide) q
      clear q K13
      refine Wp.bind (tM_move (N := 1) (P := 1 * f) (T := 1 * t) (show (1 : Int32).toInt = ((1 : Nat) : Int) by decide) (ti_mul (p := 1) (by decide) h1 (by omega) (by omega)) (ti_mul (p := 1) (by decide) h2 (by omega) (by omega)) (by omega) (by omega) (by omega) (by omega)) (fun _ E14 q => ?_)
      have K15 : CpT D E14 f t 15 := CpT.step K14 (by decide) q
      clear q K14
      refine Wp.bind (tM_move (N := 2) (P := 2 * f) (T := 2 * t) (show (2 : Int32).toInt = ((2 : Nat) : Int) by decide) (ti_mul (p := 2) (by decide) h1 (by omega) (by omega)) (ti_mul (p := 2) (by decide) h2 (by omega) (by omega)) (by omega) (by omega) (by omega) (by omega)) (fun _ E15 q => ?_)
      have K16 : CpT D E15 f t 16 := CpT.step K15 (by decide) q
      clear q K15
      refine Wp.bind (tM_move (N := 32) (P := 32 * f) (T := 32 * t) (show (32 : Int32).toInt = ((32 : Nat) : Int) by decide) (ti_mul (p := 32) (by decide) h1 (by omega) (by omega)) (ti_mul (p := 32) (by decide) h2 (by omega) (by omega)) (by omega) (by omega) (by omega) (by omega)) (fun _ E16 q => ?_)
      have K17 : CpT D E16 f t 17 := CpT.step K16 (by decide) q
      clear q K16
      refine Wp.bind (tM_move (N := 128) (P := 128 * f) (T := 128 * t) (show (128 : Int32).toInt = ((128 : Nat) : Int) by decide) (ti_mul (p := 128) (by decide) h1 (by omega) (by omega)) (ti_mul (p := 128) (by decide) h2 (by omega) (by omega)) (by omega) (by omega) (by omega) (by omega)) (fun _ E17 q => ?_)
      have K18 : CpT D E17 f t 18 := CpT.step K17 (by decide) q
      clear q K17
      refine Wp.bind (tM_move (N := 128) (P := 128 * f) (T := 128 * t) (show (128 : Int32).toInt = ((128 : Nat) : Int) by decide) (ti_mul (p := 128) (by decide) h1 (by omega) (by omega)) (ti_mul (p := 128) (by decide) h2 (by omega) (by omega)) (by omega) (by omega) (by omega) (by omega)) (fun _ E18 q => ?_)
      have K19 : CpT D E18 f t 19 := CpT.step K18 (by decide) q
      clear q K18
      refine Wp.bind (tM_move (N := 128) (P := 128 * f) (T := 128 * t) (show (128 : Int32).toInt = ((128 : Nat) : Int) by decide) (ti_mul (p := 128) (by decide) h1 (by omega) (by omega)) (ti_mul (p := 128) (by decide) h2 (by omega) (by omega)) (by omega) (by omega) (by omega) (by omega)) (fun _ E19 q => ?_)
      have K20 : CpT D E19 f t 20 := CpT.step K19 (by decide) q
      clear q K19
      refine Wp.bind (tM_move (N := 32) (P := 32 * f) (T := 32 * t) (show (32 : Int32).toInt = ((32 : Nat) : Int) by decide) (ti_mul (p := 32) (by decide) h1 (by omega) (by omega)) (ti_mul (p := 32) (by decide) h2 (by omega) (by omega)) (by omega) (by omega) (by omega) (by omega)) (fun _ E20 q => ?_)
      have K21 : CpT D E20 f t 21 := CpT.step K20 (by decide) q
      clear q K20
      refine Wp.bind (tM_move (N := 32) (P := 32 * f) (T := 32 * t) (show (32 : Int32).toInt = ((32 : Nat) : Int) by decide) (ti_mul (p := 32) (by decide) h1 (by omega) (by omega)) (ti_mul (p := 32) (by decide) h2 (by omega) (by omega)) (by omega) (by omega) (by omega) (by omega)) (fun _ E21 q => ?_)
      have K22 : CpT D E21 f t 22 := CpT.step K21 (by decide) q
      clear q K21
      refine Wp.bind (tM_move (N := 32) (P := 32 * f) (T := 32 * t) (show (32 : Int32).toInt = ((32 : Nat) : Int) by decide) (ti_mul (p := 32) (by decide) h1 (by omega) (by omega)) (ti_mul (p := 32) (by decide) h2 (by omega) (by omega)) (by omega) (by omega) (by omega) (by omega)) (fun _ E22 q => ?_)
      have K23 : CpT D E22 f t 23 := CpT.step K22 (by decide) q
      clear q K22
      exact Wp.ret K23
    · obtain ⟨c1, c2⟩ := cl_add1 (x := x) (by omega) (by omega)
      have ex := cl_i i0
      have e2 : ((500 : Int32) * a1 + x).toInt = 500 * f + x.toInt := ti_add m1 rfl (by omega) (by omega)
      have e3 : ((500 : Int32) * a2 + x).toInt = 500 * t + x.toInt := ti_add m2 rfl (by omega) (by omega)
      have w2 : ((500 : Int32) * a1 + x).toNatClampNeg = 500 * f + x.toNatClampNeg := cl_of (by omega)
      have w3 : ((500 : Int32) * a2 + x).toNatClampNeg = 500 * t + x.toNatClampNeg := cl_of (by omega)
      refine Wp.idx (i_in (by omega) (by omega)) (Wp.idx (i_in (by omega) (by omega)) (Wp.lets (Wp.lets (hg _ _ ⟨⟨by omega, by omega, by omega⟩, fun c hc => ?_, i4, fun j => ?_⟩))))
      · funext z
        simp [aSI, hc, i3 c hc]
      · rw [w2, w3]
        simp only [aSI, true_and]
        by_cases hj : j = 500 * t + x.toNatClampNeg
        · rw [if_pos hj, if_pos ⟨by omega, by omega⟩, i5, if_neg (by omega)]
          rw [show 500 * f + x.toNatClampNeg = j - 500 * t + 500 * f by omega]
        · rw [if_neg hj, i5]
          by_cases hj2 : 500 * t ≤ j ∧ (j : Int) < 500 * t + x.toInt
          · rw [if_pos hj2, if_pos ⟨by omega, by omega⟩]
          · rw [if_neg hj2, if_neg (by omega)]
  · intro x D' hI
    obtain ⟨⟨i0, i1, i2⟩, -⟩ := hI
    omega
/-- the reference's entries behind one more -/
def WrM (D D1 : ADD) (s f v : Int32) : Prop := (∀ c, c ≠ 8 → c ≠ 9 → D1.1 c = D.1 c) ∧ D1.2 = D.2 ∧ (∀ i, D1.1 8 i = if i = 0 then D.1 8 0 + 1 else D.1 8 i) ∧ ∀ j, D1.1 9 j = if j = 4 * (D.1 8 0).toNatClampNeg then D.1 6 0 else if j = 4 * (D.1 8 0).toNatClampNeg + 1 then s else if j = 4 * (D.1 8 0).toNatClampNeg + 2 then f else if j = 4 * (D.1 8 0).toNatClampNeg + 3 then v else D.1 9 j
theorem tM_enter {s f v : Int32} {D : ADD} (he : 0 ≤ (D.1 8 0).toInt ∧ (D.1 8 0).toInt < 400) : Wp (fX11_enter s f v D) (fun _ D1 => WrM D D1 s f v) := by
  unfold fX11_enter
  simp only [cl_0]
  have e4 : ((4 : Int32) * D.1 8 0).toInt = 4 * (D.1 8 0).toInt := ti_mul (by decide) rfl (by omega) (by omega)
  have ek := cl_i he.1
  have cell : ∀ (i : Int32) (n : Nat), i.toInt = n → n < 4 → vp_in ((4 : Int32) * D.1 8 0 + i) 6400 ∧ ((4 : Int32) * D.1 8 0 + i).toNatClampNeg = 4 * (D.1 8 0).toNatClampNeg + n := by
    intro i n hi hn
    have e : ((4 : Int32) * D.1 8 0 + i).toInt = 4 * (D.1 8 0).toInt + n := ti_add e4 hi (by omega) (by omega)
    exact ⟨i_in (by omega) (by omega), cl_of (by omega)⟩
  have w0 : ((4 : Int32) * D.1 8 0).toNatClampNeg = 4 * (D.1 8 0).toNatClampNeg := cl_of (by omega)
  obtain ⟨v1, w1⟩ := cell 1 1 (by decide) (by decide)
  obtain ⟨v2, w2⟩ := cell 2 2 (by decide) (by decide)
  obtain ⟨v3, w3⟩ := cell 3 3 (by decide) (by decide)
  refine Wp.idd (by decide) (Wp.lets (Wp.idd (by decide) (Wp.idx (i_in (by omega) (by omega)) (Wp.lets (Wp.idx v1 (Wp.lets (Wp.idx v2 (Wp.lets (Wp.idx v3 (Wp.lets (Wp.idd (by decide) (Wp.idd (by decide) (Wp.lets (Wp.ret ⟨fun c u v => ?_, rfl, fun i => ?_, fun j => ?_⟩))))))))))))))
  · funext z
    simp [aSI, u, v]
  · simp [aSI]
  · rw [w0, w1, w2, w3]
    generalize (D.1 8 0).toNatClampNeg = k
    simp only [aSI, true_and, show ((9 : Nat) = 8) = False by simp, false_and, if_false]
    by_cases j0 : j = 4 * k
    · rw [if_neg (by omega), if_neg (by omega), if_neg (by omega), if_pos j0, if_pos j0]
    · by_cases j1 : j = 4 * k + 1
      · rw [if_neg (by omega), if_neg (by omega), if_pos j1, if_neg j0, if_pos j1]
      · by_cases j2 : j = 4 * k + 2
        · rw [if_neg (by omega), if_pos j2, if_neg j0, if_neg j1, if_pos j2]
        · by_cases j3 : j = 4 * k + 3
          · rw [if_pos j3, if_neg j0, if_neg j1, if_neg j2, if_pos j3]
          · rw [if_neg j3, if_neg j2, if_neg j1, if_neg j0, if_neg j0, if_neg j1, if_neg j2, if_neg j3]
/-- the reference behind a listing -/
def LsM (D D1 : ADD) (w st tw : Int32) : Prop := ∃ D7 : ADD, (∀ c, c ≠ 0 → c ≠ 5 → c ≠ 10 → D7.1 c = D.1 c) ∧ D7.2 = D.2 ∧ (∀ i, D7.1 5 i = if i = 0 then D.1 5 0 + 1 else D.1 5 i) ∧ (∀ j, D7.1 10 j = if j = 3 * (D.1 5 0).toNatClampNeg then D.1 6 0 else if j = 3 * (D.1 5 0).toNatClampNeg + 1 then st else if j = 3 * (D.1 5 0).toNatClampNeg + 2 then tw else D.1 10 j) ∧ WrM D7 D1 (D.1 5 0) (-1) w
/-- all but the object's own fields are as they were -/
def SmM (D D1 : ADD) : Prop := (∀ c, c ≠ 0 → D1.1 c = D.1 c) ∧ D1.2 = D.2
theorem SmM.code {D : ADD} {x : Int32} : SmM D (aSI D 0 0 x) := ⟨fun c hc => by funext z; simp [aSI, hc], rfl⟩
theorem tM_stone {w st tw : Int32} {D : ADD} (h8 : 0 ≤ (D.1 5 0).toInt ∧ (D.1 5 0).toInt ≤ 32) (he : 0 ≤ (D.1 8 0).toInt ∧ (D.1 8 0).toInt ≤ 400) : Wp (fX11_stone w st tw D) (fun r D1 => if (D.1 5 0).toInt < 32 ∧ (D.1 8 0).toInt < 400 ∧ LsOK w st tw then r = D.1 5 0 ∧ LsM D D1 w st tw else r = -1 ∧ SmM D D1) := by
  unfold fX11_stone
  simp only [cl_0]
  have e32 : (32 : Int32).toInt = 32 := by decide
  have e400 : (400 : Int32).toInt = 400 := by decide
  have es := cl_i h8.1
  refine Wp.lets (Wp.idd (by decide) (Wp.lets (Wp.ite (fun k => Wp.ret ?_) (fun k => Wp.idd (by decide) (Wp.ite (fun k2 => Wp.ret ?_) (fun k2 => Wp.bindE (eM_is w 1 30000 _) ?_))))))
  · have k : D.1 5 0 = 32 := k
    rw [if_neg (by rw [k]; omega)]; exact ⟨rfl, SmM.code⟩
  · have k2 : D.1 8 0 = 400 := k2
    rw [if_neg (by rw [k2]; omega)]; exact ⟨rfl, SmM.code⟩
  · have k : D.1 5 0 ≠ 32 := k
    have k2 : D.1 8 0 ≠ 400 := k2
    have k := ti_ne k
    have k2 := ti_ne k2
    have L1 : (1 : Int32).toInt = 1 := by decide
    have L2 : (30000 : Int32).toInt = 30000 := by decide
    have L3 : (0 : Int32).toInt = 0 := by decide
    have L4 : (4 : Int32).toInt = 4 := by decide
    have L5 : (5 : Int32).toInt = 5 := by decide
    by_cases c1 : (1 : Int32).toInt ≤ w.toInt ∧ w.toInt ≤ (30000 : Int32).toInt
    · rw [if_pos c1]
      refine Wp.neg (by decide) (Wp.bindE (eM_is st 0 4 _) ?_)
      by_cases c2 : (0 : Int32).toInt ≤ st.toInt ∧ st.toInt ≤ (4 : Int32).toInt
      · rw [if_pos c2]
        refine Wp.neg (by decide) (Wp.bindE (eM_is tw 0 5 _) ?_)
        by_cases c3 : (0 : Int32).toInt ≤ tw.toInt ∧ tw.toInt ≤ (5 : Int32).toInt
        · rw [if_pos c3]
          have e3 : ((3 : Int32) * D.1 5 0).toInt = 3 * (D.1 5 0).toInt := ti_mul (by decide) rfl (by omega) (by omega)
          have e31 : ((3 : Int32) * D.1 5 0 + 1).toInt = 3 * (D.1 5 0).toInt + 1 := ti_add e3 (by decide) (by omega) (by omega)
          have e32 : ((3 : Int32) * D.1 5 0 + 2).toInt = 3 * (D.1 5 0).toInt + 2 := ti_add e3 (by decide) (by omega) (by omega)
          have n0 : ((3 : Int32) * D.1 5 0).toNatClampNeg = 3 * (D.1 5 0).toNatClampNeg := cl_of (by omega)
          have n1 : ((3 : Int32) * D.1 5 0 + 1).toNatClampNeg = 3 * (D.1 5 0).toNatClampNeg + 1 := cl_of (by omega)
          have n2 : ((3 : Int32) * D.1 5 0 + 2).toNatClampNeg = 3 * (D.1 5 0).toNatClampNeg + 2 := cl_of (by omega)
          have i3 : vp_in ((3 : Int32) * D.1 5 0) 384 := i_in (by omega) (by omega)
          have i31 : vp_in ((3 : Int32) * D.1 5 0 + 1) 384 := i_in (by omega) (by omega)
          have i32 : vp_in ((3 : Int32) * D.1 5 0 + 2) 384 := i_in (by omega) (by omega)
          refine Wp.neg (by decide) (Wp.idd (by decide) (Wp.lets (Wp.idd (by decide) (Wp.idx i3 (Wp.lets (Wp.idx i31 (Wp.lets (Wp.idx i32 (Wp.lets (Wp.idd (by decide) (Wp.idd (by decide) (Wp.leti (fun D7 e7 => ?_)))))))))))))
          have w5 : ∀ i, D7.1 5 i = if i = 0 then D.1 5 0 + 1 else D.1 5 i := by intro i; rw [e7]; simp [aSI]
          have w8 : D7.1 8 = D.1 8 := by funext z; rw [e7]; simp [aSI]
          have w10 : ∀ j, D7.1 10 j = if j = 3 * (D.1 5 0).toNatClampNeg then D.1 6 0 else if j = 3 * (D.1 5 0).toNatClampNeg + 1 then st else if j = 3 * (D.1 5 0).toNatClampNeg + 2 then tw else D.1 10 j := by
            intro j
            rw [e7]
            simp only [aSI, true_and, show ((10 : Nat) = 5) = False by simp, show ((10 : Nat) = 0) = False by simp, show ((6 : Nat) = 0) = False by simp, show ((5 : Nat) = 0) = False by simp, false_and, if_false]
            rw [n0, n1, n2]
            generalize (D.1 5 0).toNatClampNeg = k
            by_cases j0 : j = 3 * k
            · rw [if_neg (by omega), if_neg (by omega), if_pos j0, if_pos j0]
            · by_cases j1 : j = 3 * k + 1
              · rw [if_neg (by omega), if_pos j1, if_neg j0, if_pos j1]
              · by_cases j2 : j = 3 * k + 2
                · rw [if_pos j2, if_neg j0, if_neg j1, if_pos j2]
                · rw [if_neg j2, if_neg j1, if_neg j0, if_neg j0, if_neg j1, if_neg j2]
          have wo : ∀ c, c ≠ 0 → c ≠ 5 → c ≠ 10 → D7.1 c = D.1 c := by
            intro c c0 c5 c10
            funext z
            rw [e7]
            simp [aSI, c0, c5, c10]
          have wl : D7.2 = D.2 := by rw [e7]; rfl
          refine Wp.bind (tM_enter (by rw [w8]; omega)) (fun _ D8 q => Wp.ret ?_)
          rw [if_pos ⟨by omega, by omega, by omega⟩]
          exact ⟨rfl, D7, wo, wl, w5, w10, q⟩
        · rw [if_neg c3]
          refine Wp.pos rfl (Wp.ret ?_)
          rw [if_neg (by omega)]; exact ⟨rfl, SmM.code⟩
      · rw [if_neg c2]
        refine Wp.pos rfl (Wp.ret ?_)
        rw [if_neg (by omega)]; exact ⟨rfl, SmM.code⟩
    · rw [if_neg c1]
      refine Wp.pos rfl (Wp.ret ?_)
      rw [if_neg (by omega)]; exact ⟨rfl, SmM.code⟩
end
