/-! the class's small functions, exactly -/
def knX (D : ADD) (a b : Int32) : Int32 := if (0 ≤ a.toInt ∧ a.toInt < (D.1 2 9).toInt ∧ a.toInt < 32) ∧ 0 ≤ b.toInt ∧ b.toInt < 11 then D.1 4 (11 * a.toNatClampNeg + b.toNatClampNeg) else -100000
theorem eX_known (a b : Int32) (D : ADD) : fX0_known a b D = some (knX D a b, D) := by
  have h : Wp (fX0_known a b D) (fun x D1 => D1 = D ∧ x = knX D a b) := by
    unfold fX0_known knX
    have e32 : (32 : Int32).toInt = 32 := by decide
    have e11 : (11 : Int32).toInt = 11 := by decide
    refine Wp.lets (Wp.ilt (fun h => Wp.ret ⟨rfl, ?_⟩) (fun h => Wp.ile (fun h2 => Wp.ret ⟨rfl, ?_⟩) (fun h2 => Wp.ile (fun h3 => Wp.ret ⟨rfl, ?_⟩) (fun h3 => Wp.ilt (fun h4 => Wp.ret ⟨rfl, ?_⟩) (fun h4 => Wp.ilt (fun h5 => ?_) (fun h5 => Wp.ret ⟨rfl, ?_⟩))))))
    · rw [ti_0] at h; rw [if_neg (by omega)]
    · rw [if_neg (by omega)]
    · rw [if_neg (by omega)]
    · rw [ti_0] at h4; rw [if_neg (by omega)]
    · rw [ti_0] at h h4
      have e1 : (a * 11).toInt = a.toInt * 11 := ti_mul rfl e11 (by omega) (by omega)
      have e2 : (a * 11 + b).toInt = a.toInt * 11 + b.toInt := ti_add e1 rfl (by omega) (by omega)
      have c1 := cl_i h
      have c2 := cl_i h4
      refine Wp.idx (i_in (by omega) (by omega)) (Wp.ret ⟨rfl, ?_⟩)
      rw [if_pos (by omega), cl_of (x := a * 11 + b) (n := 11 * a.toNatClampNeg + b.toNatClampNeg) (by omega)]
    · rw [if_neg (by omega)]
  obtain ⟨x, D1, e, rfl, q⟩ := h
  rw [e, q]
def timesF (lo hi mk u : Int32) : Int32 := if mk ≤ 0 then (if 1 ≤ (if u ≤ 0 then 0 else lo / u) then (if lo - (if u ≤ 0 then 0 else lo / u) * u ≤ ((if u ≤ 0 then 0 else lo / u) + 1) * u - hi ∨ lo - (if u ≤ 0 then 0 else lo / u) * u = 0 then (if u ≤ 0 then 0 else lo / u) else (if u ≤ 0 then 0 else lo / u) + 1) else 1) else mk
theorem ne0_of {u : Int32} (h : ¬ u ≤ 0) : u ≠ 0 := fun e => h (by rw [e]; decide)
theorem eX_times (lo hi mk u : Int32) (D : ADD) : fX2_times lo hi mk u D = some (timesF lo hi mk u, D) := by
  unfold fX2_times timesF
  by_cases h : mk ≤ 0
  · rw [if_pos h, if_pos h]
    have K : ∀ b : Int32, (if (1 : Int32) ≤ b then aLet (lo - (b * u)) (fun x2 => aLet (((b + (1 : Int32)) * u) - hi) (fun x3 => aLet (fun (x4 : Int32) (D2 : ADD) => some (x4, D2)) (fun (j66 : Int32 → ADD → Option (Int32 × ADD)) => aLet (fun (D3 : ADD) => j66 b D3) (fun (j57 : ADD → Option (Int32 × ADD)) => (if x2 ≤ x3 then j57 D else (if x2 = 0 then j57 D else j66 (b + (1 : Int32)) D)))))) else some ((1 : Int32), D)) = some ((if 1 ≤ b then (if lo - b * u ≤ (b + 1) * u - hi ∨ lo - b * u = 0 then b else b + 1) else 1), D) := by
      intro b
      simp only [aLet]
      by_cases h1 : 1 ≤ b
      · rw [if_pos h1, if_pos h1]
        by_cases h2 : lo - b * u ≤ (b + 1) * u - hi
        · rw [if_pos h2, if_pos (Or.inl h2)]
        · rw [if_neg h2]
          by_cases h3 : lo - b * u = 0
          · rw [if_pos h3, if_pos (Or.inr h3)]
          · rw [if_neg h3, if_neg (fun q => q.elim h2 h3)]
      · rw [if_neg h1, if_neg h1]
    by_cases hu : u ≤ 0
    · rw [if_pos hu]
      exact (if_pos hu).trans (K 0)
    · rw [if_neg hu]
      refine (if_neg hu).trans ?_
      unfold aNZ
      rw [if_neg (ne0_of hu)]
      exact K (lo / u)
  · rw [if_neg h, if_neg h]
def offF (lo hi mk u : Int32) : Int32 := aMin u (if lo ≤ timesF lo hi mk u * u then aMax 0 (timesF lo hi mk u * u - hi) else lo - timesF lo hi mk u * u)
theorem eX_off (lo hi mk u : Int32) (D : ADD) : fX2_off lo hi mk u D = some (offF lo hi mk u, D) := by
  unfold fX2_off offF
  rw [eX_times]
  simp only [aBind, aLet]
  split <;> rfl
def shortF (hi mk u : Int32) : Int32 := aMax 0 ((if mk ≤ 0 then aMax 1 (if u ≤ 0 then 0 else (2 * hi + u) / (2 * u)) else mk) * u - hi)
theorem eX_shortage (hi mk u : Int32) (D : ADD) (hu : u.toInt ≤ 100000) : fX2_shortage hi mk u D = some (shortF hi mk u, D) := by
  unfold fX2_shortage shortF
  simp only [aLet]
  by_cases h : u ≤ 0
  · rw [if_pos h, if_pos h]
    split <;> rfl
  · rw [if_neg h, if_neg h]
    have h' : 0 < u.toInt := by
      have : ¬ u.toInt ≤ (0 : Int32).toInt := fun g => h (Int32.le_iff_toInt_le.mpr g)
      rw [ti_0] at this
      omega
    have e : ((2 : Int32) * u).toInt = 2 * u.toInt := ti_mul (by decide) rfl (by omega) (by omega)
    have ne : (2 : Int32) * u ≠ 0 := fun q => by rw [q, ti_0] at e; omega
    unfold aNZ
    rw [if_neg ne]
    split <;> rfl
def luckyF (w u : Int32) : Int32 := aMin u (2 * (u / 8) + 1 + w)
theorem eX_lucky (w u : Int32) (D : ADD) : fX2_luckyPlaces w u D = some (luckyF w u, D) := by
  unfold fX2_luckyPlaces aNZ
  rw [if_neg (by decide)]
  rfl
def newF (b t : Int32) : Int32 := aMax 1 (b + b * aMax (-500) (aMin 1000 t) / 1000)
theorem eX_whenNew (b t : Int32) (D : ADD) : fX2_whenNew b t D = some (newF b t, D) := by
  unfold fX2_whenNew aNZ
  simp only [aLet]
  rw [if_neg (by decide)]
  rfl
/-- is i a place of the pile -/
abbrev hasX (D : ADD) (i : Int32) : Prop := 0 ≤ i.toInt ∧ i.toInt < (D.1 43 0).toInt ∧ i.toInt < 32
theorem eX_has (i : Int32) (D : ADD) : fX4_has i D = some (if hasX D i then 1 else 0, D) := by
  refine eq_Bo ?_
  unfold fX4_has
  have e32 : (32 : Int32).toInt = 32 := by decide
  refine Wp.lets (Wp.lets (Wp.ilt (fun h => ?_) (fun h => Wp.ile (fun h2 => ?_) (fun h2 => Wp.ile (fun h3 => ?_) (fun h3 => ?_))))) <;> rw [ti_0] at h <;>
    first | exact Wp.z (Or.inl rfl) (Wp.ret ⟨rfl, Or.inr ⟨rfl, by omega⟩⟩) | exact Wp.z (Or.inr rfl) (Wp.ret ⟨rfl, Or.inl ⟨rfl, by omega⟩⟩)
theorem hasX_in {D : ADD} {i : Int32} (h : hasX D i) : vp_in i 32 := i_in h.1 h.2.2
def numX (D : ADD) (i : Int32) : Int32 := if hasX D i then D.1 46 i.toNatClampNeg else -1
def mrkX (D : ADD) (i : Int32) : Int32 := if hasX D i then D.1 47 i.toNatClampNeg else 0
def twnX (D : ADD) (i : Int32) : Int32 := if hasX D i then D.1 48 i.toNatClampNeg else 0
def offX (D : ADD) (i u : Int32) : Int32 := if hasX D i then offF (D.1 44 i.toNatClampNeg) (D.1 45 i.toNatClampNeg) (D.1 47 i.toNatClampNeg) u else 0
def ofiX (D : ADD) (i p u : Int32) : Int32 := if hasX D i then offF p p (D.1 47 i.toNatClampNeg) u else 0
def timX (D : ADD) (i u : Int32) : Int32 := if hasX D i then timesF (D.1 44 i.toNatClampNeg) (D.1 45 i.toNatClampNeg) (D.1 47 i.toNatClampNeg) u else 0
def shoX (D : ADD) (i u : Int32) : Int32 := if hasX D i then shortF (D.1 45 i.toNatClampNeg) (D.1 47 i.toNatClampNeg) u else 0
def lucX (D : ADD) (i u : Int32) : Int32 := if hasX D i then luckyF (D.1 45 i.toNatClampNeg - D.1 44 i.toNatClampNeg) u else 0
theorem aIn_ok {α : Type} {i : Int32} {n : Nat} {K : Option α} (h : vp_in i n) : aIn i n K = K := by
  unfold aIn
  rw [if_neg h]
theorem b01 : ¬ ((1 : Int32) = 0) := by decide
theorem eX_numberOf (i : Int32) (D : ADD) : fX4_numberOf i D = some (numX D i, D) := by
  unfold fX4_numberOf numX
  rw [eX_has]
  by_cases h : hasX D i
  · simp only [aBind, aLet, if_pos h, if_neg b01, aIn_ok (hasX_in h)]
  · simp only [aBind, aLet, if_neg h, if_true]
theorem eX_markOf (i : Int32) (D : ADD) : fX4_markOf i D = some (mrkX D i, D) := by
  unfold fX4_markOf mrkX
  rw [eX_has]
  by_cases h : hasX D i
  · simp only [aBind, aLet, if_pos h, if_neg b01, aIn_ok (hasX_in h)]
  · simp only [aBind, aLet, if_neg h, if_true]
theorem eX_townOf (i : Int32) (D : ADD) : fX4_townOf i D = some (twnX D i, D) := by
  unfold fX4_townOf twnX
  rw [eX_has]
  by_cases h : hasX D i
  · simp only [aBind, aLet, if_pos h, if_neg b01, aIn_ok (hasX_in h)]
  · simp only [aBind, aLet, if_neg h, if_true]
theorem eX_offOf (i u : Int32) (D : ADD) : fX4_offOf i u D = some (offX D i u, D) := by
  unfold fX4_offOf offX
  rw [eX_has]
  by_cases h : hasX D i
  · simp only [aBind, aLet, if_pos h, if_neg b01, aIn_ok (hasX_in h), eX_off]
  · simp only [aBind, aLet, if_neg h, if_true]
theorem eX_offIf (i p u : Int32) (D : ADD) : fX4_offIf i p u D = some (ofiX D i p u, D) := by
  unfold fX4_offIf ofiX
  rw [eX_has]
  by_cases h : hasX D i
  · simp only [aBind, aLet, if_pos h, if_neg b01, aIn_ok (hasX_in h), eX_off]
  · simp only [aBind, aLet, if_neg h, if_true]
theorem eX_timesOf (i u : Int32) (D : ADD) : fX4_timesOf i u D = some (timX D i u, D) := by
  unfold fX4_timesOf timX
  rw [eX_has]
  by_cases h : hasX D i
  · simp only [aBind, aLet, if_pos h, if_neg b01, aIn_ok (hasX_in h), eX_times]
  · simp only [aBind, aLet, if_neg h, if_true]
theorem eX_shortOf (i u : Int32) (D : ADD) (hu : u.toInt ≤ 100000) : fX4_shortOf i u D = some (shoX D i u, D) := by
  unfold fX4_shortOf shoX
  rw [eX_has]
  by_cases h : hasX D i
  · simp only [aBind, aLet, if_pos h, if_neg b01, aIn_ok (hasX_in h), eX_shortage _ _ _ _ hu]
  · simp only [aBind, aLet, if_neg h, if_true]
theorem eX_luckyOf (i u : Int32) (D : ADD) : fX4_luckyOf i u D = some (lucX D i u, D) := by
  unfold fX4_luckyOf lucX
  rw [eX_has]
  by_cases h : hasX D i
  · simp only [aBind, aLet, if_pos h, if_neg b01, aIn_ok (hasX_in h), eX_lucky]
  · simp only [aBind, aLet, if_neg h, if_true]
theorem eX_isNear (i u : Int32) (D : ADD) : fX4_isNear i u D = some (if (8 * offX D i u) ≤ u then 1 else 0, D) := by
  unfold fX4_isNear
  rw [eX_offOf]
  simp only [aBind, aLet, aZ]
  by_cases h : u < 8 * offX D i u
  · rw [if_pos h, if_neg (Int32.not_le.mpr h)]; rfl
  · rw [if_neg h, if_pos (Int32.not_lt.mp h)]; rfl
/-! sums over the pile -/
def sI (f : Nat → Int32) (acc : Int32) (i : Nat) : Nat → Int32
  | 0 => acc
  | n + 1 => sI f (acc + f i) (i + 1) n
theorem sI_congr {f g : Nat → Int32} : ∀ (n i : Nat) (acc : Int32), (∀ j, i ≤ j → j < i + n → f j = g j) → sI f acc i n = sI g acc i n
  | 0, i, acc, h => rfl
  | n + 1, i, acc, h => by
    show sI f (acc + f i) (i + 1) n = sI g (acc + g i) (i + 1) n
    rw [h i (by omega) (by omega)]
    exact sI_congr n (i + 1) _ (fun j h1 h2 => h j (by omega) (by omega))
theorem sI_at {f : Nat → Int32} {acc : Int32} {k n : Nat} (h : k < n) : sI f acc k (n - k) = sI f (acc + f k) (k + 1) (n - (k + 1)) := by
  rw [show n - k = (n - (k + 1)) + 1 by omega]
  rfl
/-- how many -/
abbrev mnX (D : ADD) : Nat := (D.1 43 0).toNatClampNeg
theorem eX_sum (D : ADD) (hm : (D.1 43 0).toInt ≤ 1000) {F : (Int32 → Int32 → ADD → Option (Int32 × ADD)) → Int32 → Int32 → ADD → Option (Int32 × ADD)} {z : Int32 → Int32 → ADD → Option (Int32 × ADD)} {f : Nat → Int32} {Q : Int32 → ADD → Prop}
    (hF : ∀ (g : Int32 → Int32 → ADD → Option (Int32 × ADD)) (acc x : Int32), 0 ≤ x.toInt → x.toInt < (D.1 43 0).toInt → (Wp (g (acc + f x.toNatClampNeg) (x + 1) D) Q) → Wp (F g acc x D) Q)
    (hE : ∀ (g : Int32 → Int32 → ADD → Option (Int32 × ADD)) (x : Int32), (D.1 43 0).toInt ≤ x.toInt → Wp (F g (sI f 0 0 (mnX D)) x D) Q) : Wp (aFix aFuel F z 0 0 D) Q := by
  refine Wp.fix2 (fun n acc x D' => (0 ≤ x.toInt ∧ x.toInt ≤ (mnX D : Int) ∧ (mnX D : Int) - x.toInt < (n : Int)) ∧ D' = D ∧ sI f acc x.toNatClampNeg (mnX D - x.toNatClampNeg) = sI f 0 0 (mnX D)) ?_ ?_ aFuel 1000000 _ _ _ (Nat.le_refl _) ⟨⟨by decide, by rw [ti_0]; omega, ?_⟩, rfl, by rw [cl_0]; rfl⟩
  · intro n g hg acc x D' hI
    obtain ⟨⟨h0, h1, h2⟩, h3, h4⟩ := hI
    subst h3
    have e := cl_i h0
    by_cases hx : x.toInt < (D'.1 43 0).toInt
    · have em : (mnX D' : Int) = (D'.1 43 0).toInt := cl_i (x := D'.1 43 0) (by omega)
      obtain ⟨c1, c2⟩ := cl_add1 (x := x) (by omega) (by omega)
      refine hF g acc x h0 hx (hg _ _ _ ⟨⟨by omega, by omega, by omega⟩, rfl, ?_⟩)
      rw [c1, ← h4, sI_at (k := x.toNatClampNeg) (by omega)]
    · have hk : (mnX D' : Int) ≤ max (D'.1 43 0).toInt 0 := by rw [ti_cl]; exact Int.le_refl _
      have hacc : acc = sI f 0 0 (mnX D') := by
        rw [← h4, show mnX D' - x.toNatClampNeg = 0 by omega]
        rfl
      rw [hacc]
      exact hE g x (by omega)
  · intro acc x D' hI
    obtain ⟨⟨h0, h1, h2⟩, -⟩ := hI
    omega
  · rw [ti_0, ti_cl]
    omega
