/-! LAYER 2: what the models answer -/
def Wp {ρ : Type} (f : Option (ρ × ADD)) (Q : ρ → ADD → Prop) : Prop := ∃ (x : ρ) (D : ADD), f = some (x, D) ∧ Q x D
section W2
variable {ρ σ τ υ α : Type} {Q : ρ → ADD → Prop} {K : Option (ρ × ADD)}
theorem Wp.ret {x : ρ} {D : ADD} (h : Q x D) : Wp (some (x, D)) Q := ⟨x, D, rfl, h⟩
theorem Wp.mono {P : ρ → ADD → Prop} {f : Option (ρ × ADD)} (h : Wp f P) (k : ∀ x D, P x D → Q x D) : Wp f Q := by
  obtain ⟨x, D, e, p⟩ := h
  exact ⟨x, D, e, k x D p⟩
theorem Wp.bind {P : α → ADD → Prop} {f : Option (α × ADD)} {G : α → ADD → Option (ρ × ADD)} (h : Wp f P) (k : ∀ x D, P x D → Wp (G x D) Q) : Wp (aBind f G) Q := by
  obtain ⟨x, D, e, p⟩ := h
  rw [e]
  exact k x D p
theorem Wp.bindE {x : α} {D : ADD} {f : Option (α × ADD)} {G : α → ADD → Option (ρ × ADD)} (h : f = some (x, D)) (k : Wp (G x D) Q) : Wp (aBind f G) Q := by
  rw [h]
  exact k
theorem Wp.lets {x : α} {G : α → Option (ρ × ADD)} (k : Wp (G x) Q) : Wp (aLet x G) Q := k
theorem Wp.leti {x : α} {G : α → Option (ρ × ADD)} (k : ∀ y, y = x → Wp (G y) Q) : Wp (aLet x G) Q := k x rfl
theorem Wp.letK {x : α} {G : α → Option (ρ × ADD)} (P : α → Prop) (h : P x) (k : ∀ j, P j → Wp (G j) Q) : Wp (aLet x G) Q := k x h
theorem Wp.idx {i : Int32} {n : Nat} (h : vp_in i n) (k : Wp K Q) : Wp (aIn i n K) Q := by
  unfold aIn
  rw [if_neg h]
  exact k
theorem Wp.idd {i : Int32} {n : Nat} (h : decide (i < 0 ∨ n ≤ i.toNatClampNeg) = false) (k : Wp K Q) : Wp (aIn i n K) Q := Wp.idx (of_decide_eq_false h) k
theorem Wp.nz {y : Int32} (h : y ≠ 0) (k : Wp K Q) : Wp (aNZ y K) Q := by
  unfold aNZ
  rw [if_neg h]
  exact k
theorem Wp.nzl {y : Int64} (h : y ≠ 0) (k : Wp K Q) : Wp (aNZl y K) Q := by
  unfold aNZl
  rw [if_neg h]
  exact k
theorem Wp.z {v : Int32} (h : v = 0 ∨ v = 1) (k : Wp K Q) : Wp (aZ v K) Q := by
  unfold aZ
  rw [if_pos h]
  exact k
theorem Wp.ite {c : Prop} [Decidable c] {A B : Option (ρ × ADD)} (a : c → Wp A Q) (b : ¬ c → Wp B Q) : Wp (if c then A else B) Q := by
  split
  · exact a ‹_›
  · exact b ‹_›
theorem Wp.pos {c : Prop} [Decidable c] {A B : Option (ρ × ADD)} (h : c) (k : Wp A Q) : Wp (if c then A else B) Q := by
  rw [if_pos h]
  exact k
theorem Wp.neg {c : Prop} [Decidable c] {A B : Option (ρ × ADD)} (h : ¬ c) (k : Wp B Q) : Wp (if c then A else B) Q := by
  rw [if_neg h]
  exact k
theorem Wp.ilt {a b : Int32} {A B : Option (ρ × ADD)} (t : a.toInt < b.toInt → Wp A Q) (e : b.toInt ≤ a.toInt → Wp B Q) : Wp (if a < b then A else B) Q := by
  refine Wp.ite (fun h => t (Int32.lt_iff_toInt_lt.mp h)) (fun h => e ?_)
  exact Int.not_lt.mp (fun g => h (Int32.lt_iff_toInt_lt.mpr g))
theorem Wp.ile {a b : Int32} {A B : Option (ρ × ADD)} (t : a.toInt ≤ b.toInt → Wp A Q) (e : b.toInt < a.toInt → Wp B Q) : Wp (if a ≤ b then A else B) Q := by
  refine Wp.ite (fun h => t (Int32.le_iff_toInt_le.mp h)) (fun h => e ?_)
  exact Int.not_le.mp (fun g => h (Int32.le_iff_toInt_le.mpr g))
theorem Wp.fix0 {F : (ADD → Option (ρ × ADD)) → ADD → Option (ρ × ADD)} {z : ADD → Option (ρ × ADD)} (I : Nat → ADD → Prop) (h : ∀ n g, (∀ D, I n D → Wp (g D) Q) → ∀ D, I (n + 1) D → Wp (F g D) Q) (h0 : ∀ D, ¬ I 0 D) : ∀ m n D, n ≤ m → I n D → Wp (aFix m F z D) Q
  | 0, n, D, hn, hI => by
    have e : n = 0 := by omega
    rw [e] at hI
    exact absurd hI (h0 D)
  | m + 1, 0, D, hn, hI => absurd hI (h0 D)
  | m + 1, n + 1, D, hn, hI => h n (aFix m F z) (fun D' hI' => Wp.fix0 I h h0 m n D' (by omega) hI') D hI
theorem Wp.fix1 {F : (σ → ADD → Option (ρ × ADD)) → σ → ADD → Option (ρ × ADD)} {z : σ → ADD → Option (ρ × ADD)} (I : Nat → σ → ADD → Prop) (h : ∀ n g, (∀ x D, I n x D → Wp (g x D) Q) → ∀ x D, I (n + 1) x D → Wp (F g x D) Q) (h0 : ∀ x D, ¬ I 0 x D) : ∀ m n x D, n ≤ m → I n x D → Wp (aFix m F z x D) Q
  | 0, n, x, D, hn, hI => by
    have e : n = 0 := by omega
    rw [e] at hI
    exact absurd hI (h0 x D)
  | m + 1, 0, x, D, hn, hI => absurd hI (h0 x D)
  | m + 1, n + 1, x, D, hn, hI => h n (aFix m F z) (fun x' D' hI' => Wp.fix1 I h h0 m n x' D' (by omega) hI') x D hI
theorem Wp.fix2 {F : (σ → τ → ADD → Option (ρ × ADD)) → σ → τ → ADD → Option (ρ × ADD)} {z : σ → τ → ADD → Option (ρ × ADD)} (I : Nat → σ → τ → ADD → Prop) (h : ∀ n g, (∀ x y D, I n x y D → Wp (g x y D) Q) → ∀ x y D, I (n + 1) x y D → Wp (F g x y D) Q) (h0 : ∀ x y D, ¬ I 0 x y D) : ∀ m n x y D, n ≤ m → I n x y D → Wp (aFix m F z x y D) Q
  | 0, n, x, y, D, hn, hI => by
    have e : n = 0 := by omega
    rw [e] at hI
    exact absurd hI (h0 x y D)
  | m + 1, 0, x, y, D, hn, hI => absurd hI (h0 x y D)
  | m + 1, n + 1, x, y, D, hn, hI => h n (aFix m F z) (fun x' y' D' hI' => Wp.fix2 I h h0 m n x' y' D' (by omega) hI') x y D hI
theorem Wp.fix3 {F : (σ → τ → υ → ADD → Option (ρ × ADD)) → σ → τ → υ → ADD → Option (ρ × ADD)} {z : σ → τ → υ → ADD → Option (ρ × ADD)} (I : Nat → σ → τ → υ → ADD → Prop) (h : ∀ n g, (∀ x y w D, I n x y w D → Wp (g x y w D) Q) → ∀ x y w D, I (n + 1) x y w D → Wp (F g x y w D) Q) (h0 : ∀ x y w D, ¬ I 0 x y w D) : ∀ m n x y w D, n ≤ m → I n x y w D → Wp (aFix m F z x y w D) Q
  | 0, n, x, y, w, D, hn, hI => by
    have e : n = 0 := by omega
    rw [e] at hI
    exact absurd hI (h0 x y w D)
  | m + 1, 0, x, y, w, D, hn, hI => absurd hI (h0 x y w D)
  | m + 1, n + 1, x, y, w, D, hn, hI => h n (aFix m F z) (fun x' y' w' D' hI' => Wp.fix3 I h h0 m n x' y' w' D' (by omega) hI') x y w D hI
theorem Wp.tab {x : Int32} {lo : Int} {Ks : List (Option (ρ × ADD))} {Kd : Option (ρ × ADD)} (k : ∀ (i : Nat) (K : Option (ρ × ADD)), Ks[i]? = some K → x.toInt = lo + i → Wp K Q) (d : x.toInt < lo ∨ lo + Ks.length ≤ x.toInt → Wp Kd Q) : Wp (aTab x lo Ks Kd) Q := by
  unfold aTab
  split
  · exact d (Or.inl ‹_›)
  · rename_i hlo
    split
    · rename_i K' hK
      exact k _ _ hK (by omega)
    · rename_i hK
      refine d (Or.inr ?_)
      have := List.getElem?_eq_none_iff.mp hK
      omega
theorem Wp.tab3 {x : Int32} {A0 A1 A2 Kd : Option (ρ × ADD)} (h0 : x.toInt = 0 → Wp A0 Q) (h1 : x.toInt = 1 → Wp A1 Q) (h2 : x.toInt = 2 → Wp A2 Q) (d : x.toInt < 0 ∨ 3 ≤ x.toInt → Wp Kd Q) : Wp (aTab x 0 [A0, A1, A2] Kd) Q := by
  refine Wp.tab (fun i K hK hc => ?_) (fun hc => d (by simp at hc; omega))
  match i, hK with
  | 0, hK => cases hK; exact h0 (by omega)
  | 1, hK => cases hK; exact h1 (by omega)
  | 2, hK => cases hK; exact h2 (by omega)
  | i + 3, hK => cases hK
theorem Wp.tab4 {x : Int32} {A0 A1 A2 A3 Kd : Option (ρ × ADD)} (h0 : x.toInt = 0 → Wp A0 Q) (h1 : x.toInt = 1 → Wp A1 Q) (h2 : x.toInt = 2 → Wp A2 Q) (h3 : x.toInt = 3 → Wp A3 Q) (d : x.toInt < 0 ∨ 4 ≤ x.toInt → Wp Kd Q) : Wp (aTab x 0 [A0, A1, A2, A3] Kd) Q := by
  refine Wp.tab (fun i K hK hc => ?_) (fun hc => d (by simp at hc; omega))
  match i, hK with
  | 0, hK => cases hK; exact h0 (by omega)
  | 1, hK => cases hK; exact h1 (by omega)
  | 2, hK => cases hK; exact h2 (by omega)
  | 3, hK => cases hK; exact h3 (by omega)
  | i + 4, hK => cases hK
theorem Wp.tab7 {x : Int32} {A0 A1 A2 A3 A4 A5 A6 Kd : Option (ρ × ADD)} (h0 : x.toInt = 0 → Wp A0 Q) (h1 : x.toInt = 1 → Wp A1 Q) (h2 : x.toInt = 2 → Wp A2 Q) (h3 : x.toInt = 3 → Wp A3 Q) (h4 : x.toInt = 4 → Wp A4 Q) (h5 : x.toInt = 5 → Wp A5 Q) (h6 : x.toInt = 6 → Wp A6 Q) (d : x.toInt < 0 ∨ 7 ≤ x.toInt → Wp Kd Q) : Wp (aTab x 0 [A0, A1, A2, A3, A4, A5, A6] Kd) Q := by
  refine Wp.tab (fun i K hK hc => ?_) (fun hc => d (by simp at hc; omega))
  match i, hK with
  | 0, hK => cases hK; exact h0 (by omega)
  | 1, hK => cases hK; exact h1 (by omega)
  | 2, hK => cases hK; exact h2 (by omega)
  | 3, hK => cases hK; exact h3 (by omega)
  | 4, hK => cases hK; exact h4 (by omega)
  | 5, hK => cases hK; exact h5 (by omega)
  | 6, hK => cases hK; exact h6 (by omega)
  | i + 7, hK => cases hK
end W2
theorem aFix_go {α : Type} {F : α → α} {z : α} : aFix aFuel F z = F (aFix 999999 F z) := rfl
theorem aF_le {n : Nat} (h : n ≤ 1000000) : n ≤ aFuel := h
/-! int32 by its value -/
theorem i_in {i : Int32} {n : Nat} (h0 : 0 ≤ i.toInt) (h1 : i.toInt < n) : vp_in i n := by
  intro h
  rcases h with h | h
  · have := Int32.lt_iff_toInt_lt.mp h
    have e : (0 : Int32).toInt = 0 := by decide
    omega
  · have h : n ≤ i.toInt.toNat := h
    omega
theorem ti_add {x y : Int32} {p q : Int} (hx : x.toInt = p) (hy : y.toInt = q) (h1 : -2147483648 ≤ p + q) (h2 : p + q ≤ 2147483647) : (x + y).toInt = p + q := by
  rw [Int32.toInt_add, hx, hy]
  apply Int.bmod_eq_of_le <;> omega
theorem ti_sub {x y : Int32} {p q : Int} (hx : x.toInt = p) (hy : y.toInt = q) (h1 : -2147483648 ≤ p - q) (h2 : p - q ≤ 2147483647) : (x - y).toInt = p - q := by
  rw [Int32.toInt_sub, hx, hy]
  apply Int.bmod_eq_of_le <;> omega
theorem ti_mul {x y : Int32} {p q : Int} (hx : x.toInt = p) (hy : y.toInt = q) (h1 : -2147483648 ≤ p * q) (h2 : p * q ≤ 2147483647) : (x * y).toInt = p * q := by
  rw [Int32.toInt_mul, hx, hy]
  apply Int.bmod_eq_of_le <;> omega
theorem ti_nI {n : Nat} (h : n < 2147483648) : (nI n).toInt = n := nI_toInt (by omega)
theorem ti_ne {x y : Int32} (h : x ≠ y) : x.toInt ≠ y.toInt := fun e => h (Int32.toInt_inj.mp e)
theorem ti_eq {x y : Int32} (h : x.toInt = y.toInt) : x = y := Int32.toInt_inj.mp h
theorem ti_cl {x : Int32} : (x.toNatClampNeg : Int) = max x.toInt 0 := by
  show ((x.toInt.toNat : Nat) : Int) = _
  omega
theorem ti_lo (x : Int32) : -2147483648 ≤ x.toInt := by have := x.le_toInt; simpa using this
theorem ti_hi (x : Int32) : x.toInt ≤ 2147483647 := by have := x.toInt_lt; simp at this; omega
theorem ti_0 : (0 : Int32).toInt = 0 := by decide
theorem ti_1 : (1 : Int32).toInt = 1 := by decide
theorem ti_m1 : (-1 : Int32).toInt = -1 := by decide
theorem ti_max {x y : Int32} : (aMax x y).toInt = max x.toInt y.toInt := by
  unfold aMax
  split
  · have := Int32.lt_iff_toInt_lt.mp ‹_›; omega
  · rename_i h
    have : ¬ x.toInt < y.toInt := fun g => h (Int32.lt_iff_toInt_lt.mpr g)
    omega
theorem ti_min {x y : Int32} : (aMin x y).toInt = min x.toInt y.toInt := by
  unfold aMin
  split
  · have := Int32.lt_iff_toInt_lt.mp ‹_›; omega
  · rename_i h
    have : ¬ y.toInt < x.toInt := fun g => h (Int32.lt_iff_toInt_lt.mpr g)
    omega
theorem cl_0 : (0 : Int32).toNatClampNeg = 0 := by decide
