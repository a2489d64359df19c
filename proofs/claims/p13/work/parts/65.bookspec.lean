/-! loops by a counted invariant -/
section LP
variable {ρ σ τ υ : Type} {Q : ρ → ADD → Prop}
theorem Wp.go1 (Inv : Nat → ADD → Prop) (B : Nat) (hB : B ≤ 100000) {F : (Int32 → ADD → Option (ρ × ADD)) → Int32 → ADD → Option (ρ × ADD)} {z : Int32 → ADD → Option (ρ × ADD)}
    (hF : ∀ (g : Int32 → ADD → Option (ρ × ADD)) (k : Nat) (D : ADD), k ≤ B → Inv k D → (k < B → ∀ D', Inv (k + 1) D' → Wp (g (nI k + 1) D') Q) → Wp (F g (nI k) D) Q) {k0 : Nat} {D : ADD} {x0 : Int32} (e0 : x0 = nI k0) (hk : k0 ≤ B) (h0 : Inv k0 D) : Wp (aFix aFuel F z x0 D) Q := by
  refine Wp.fix1 (fun n x D' => ∃ k, x = nI k ∧ k ≤ B ∧ B + 1 ≤ n + k ∧ Inv k D') ?_ ?_ aFuel 1000000 _ _ (Nat.le_refl _) ⟨k0, e0, hk, by omega, h0⟩
  · intro n g hg x D' hI
    obtain ⟨k, rfl, h1, h2, h3⟩ := hI
    exact hF g k D' h1 h3 (fun hk D2 hD2 => hg _ _ ⟨k + 1, (nI_succ k).symm, hk, by omega, hD2⟩)
  · intro x D' hI
    obtain ⟨k, -, h1, h2, -⟩ := hI
    omega
theorem Wp.go2 (Inv : Nat → σ → ADD → Prop) (B : Nat) (hB : B ≤ 100000) {F : (σ → Int32 → ADD → Option (ρ × ADD)) → σ → Int32 → ADD → Option (ρ × ADD)} {z : σ → Int32 → ADD → Option (ρ × ADD)}
    (hF : ∀ (g : σ → Int32 → ADD → Option (ρ × ADD)) (k : Nat) (y : σ) (D : ADD), k ≤ B → Inv k y D → (k < B → ∀ y' D', Inv (k + 1) y' D' → Wp (g y' (nI k + 1) D') Q) → Wp (F g y (nI k) D) Q) {k0 : Nat} {y : σ} {D : ADD} {x0 : Int32} (e0 : x0 = nI k0) (hk : k0 ≤ B) (h0 : Inv k0 y D) : Wp (aFix aFuel F z y x0 D) Q := by
  refine Wp.fix2 (fun n y x D' => ∃ k, x = nI k ∧ k ≤ B ∧ B + 1 ≤ n + k ∧ Inv k y D') ?_ ?_ aFuel 1000000 _ _ _ (Nat.le_refl _) ⟨k0, e0, hk, by omega, h0⟩
  · intro n g hg y x D' hI
    obtain ⟨k, rfl, h1, h2, h3⟩ := hI
    exact hF g k y D' h1 h3 (fun hk y2 D2 hD2 => hg _ _ _ ⟨k + 1, (nI_succ k).symm, hk, by omega, hD2⟩)
  · intro y x D' hI
    obtain ⟨k, -, h1, h2, -⟩ := hI
    omega
theorem Wp.go3 (Inv : Nat → σ → τ → ADD → Prop) (B : Nat) (hB : B ≤ 100000) {F : (σ → τ → Int32 → ADD → Option (ρ × ADD)) → σ → τ → Int32 → ADD → Option (ρ × ADD)} {z : σ → τ → Int32 → ADD → Option (ρ × ADD)}
    (hF : ∀ (g : σ → τ → Int32 → ADD → Option (ρ × ADD)) (k : Nat) (y : σ) (w : τ) (D : ADD), k ≤ B → Inv k y w D → (k < B → ∀ y' w' D', Inv (k + 1) y' w' D' → Wp (g y' w' (nI k + 1) D') Q) → Wp (F g y w (nI k) D) Q) {k0 : Nat} {y : σ} {w : τ} {D : ADD} {x0 : Int32} (e0 : x0 = nI k0) (hk : k0 ≤ B) (h0 : Inv k0 y w D) : Wp (aFix aFuel F z y w x0 D) Q := by
  refine Wp.fix3 (fun n y w x D' => ∃ k, x = nI k ∧ k ≤ B ∧ B + 1 ≤ n + k ∧ Inv k y w D') ?_ ?_ aFuel 1000000 _ _ _ _ (Nat.le_refl _) ⟨k0, e0, hk, by omega, h0⟩
  · intro n g hg y w x D' hI
    obtain ⟨k, rfl, h1, h2, h3⟩ := hI
    exact hF g k y w D' h1 h3 (fun hk y2 w2 D2 hD2 => hg _ _ _ _ ⟨k + 1, (nI_succ k).symm, hk, by omega, hD2⟩)
  · intro y w x D' hI
    obtain ⟨k, -, h1, h2, -⟩ := hI
    omega
end LP
/-! the book, by its entries -/
abbrev Sl : Type := Nat → Nat → Int32
abbrev eD (M : Sl) (k : Nat) : Int32 := M 9 (4 * k)
abbrev eS (M : Sl) (k : Nat) : Int32 := M 9 (4 * k + 1)
abbrev eF (M : Sl) (k : Nat) : Int32 := M 9 (4 * k + 2)
abbrev eV (M : Sl) (k : Nat) : Int32 := M 9 (4 * k + 3)
abbrev lD (M : Sl) (s : Nat) : Int32 := M 10 (3 * s)
abbrev nE (M : Sl) : Nat := (M 8 0).toNatClampNeg
abbrev nS (M : Sl) : Nat := (M 5 0).toNatClampNeg
abbrev hitF (M : Sl) (d : Int32) (s f k : Nat) : Prop := eS M k = nI s ∧ (eD M k).toInt ≤ d.toInt ∧ (eF M k = nI f ∨ (eF M k = -1 ∧ f = 0))
def fcF (M : Sl) (d : Int32) (s f : Nat) (z : Int32) : Nat → Int32
  | 0 => z
  | k + 1 => if hitF M d s f k then eV M k else fcF M d s f z k
def dfF (M : Sl) (s f : Nat) : Int32 := if f = 1 then M 10 (3 * s + 1) else if f = 4 then M 10 (3 * s + 2) else if f = 5 then -3000 else if f = 6 then 1900 else if f = 9 then 1 else 0
def fct (M : Sl) (d : Int32) (s f : Nat) : Int32 := fcF M d s f (dfF M s f) (nE M)
def cnL (M : Sl) : Nat → Nat
  | 0 => 0
  | k + 1 => if eF M k = -1 then cnL M k + 1 else cnL M k
def dvF (M : Sl) : Int32 := if M 7 0 = -1 then M 6 0 else M 7 0
def eOK (M : Sl) (k : Nat) : Prop := (eF M k = -1 ∧ eS M k = nI (cnL M k) ∧ lD M (cnL M k) = eD M k) ∨ ((0 ≤ (eF M k).toInt ∧ (eF M k).toInt < 11) ∧ 0 ≤ (eS M k).toInt ∧ (eS M k).toInt < (cnL M k : Int))
def Gd (g : Nat → Int32) : Prop := (∀ f, f < 11 → FL f ≤ (g f).toInt ∧ (g f).toInt ≤ FM f) ∧ (g 3).toInt < (g 0).toInt ∧ (g 5).toInt ≤ (g 6).toInt
def BW (M : Sl) : Prop := ((0 ≤ (M 8 0).toInt ∧ (M 8 0).toInt ≤ 400) ∧ (0 ≤ (M 5 0).toInt ∧ (M 5 0).toInt ≤ 32) ∧ (0 ≤ (M 6 0).toInt ∧ (M 6 0).toInt ≤ 9999) ∧ (M 7 0 = -1 ∨ (0 ≤ (M 7 0).toInt ∧ (M 7 0).toInt ≤ (M 6 0).toInt))) ∧ (∀ k, k < nE M → eOK M k ∧ (eD M k).toInt ≤ (M 6 0).toInt ∧ ∀ j, j < k → (eD M j).toInt ≤ (eD M k).toInt) ∧ cnL M (nE M) = nS M ∧ (∀ s, s < nS M → (lD M s).toInt ≤ (M 6 0).toInt) ∧ ∀ d s, s < nS M → (lD M s).toInt ≤ d.toInt → Gd (fct M d s)
section BKs
variable {M M1 : Sl} {d d1 : Int32} {s f : Nat} {z : Int32}
theorem cnL_mono {j : Nat} : ∀ {k : Nat}, j ≤ k → cnL M j ≤ cnL M k
  | 0, h => by
    have : j = 0 := by omega
    subst this
    exact Nat.le_refl _
  | k + 1, h => by
    by_cases e : j = k + 1
    · subst e
      exact Nat.le_refl _
    · have := cnL_mono (j := j) (k := k) (by omega)
      show _ ≤ if eF M k = -1 then cnL M k + 1 else cnL M k
      split <;> omega
theorem cnL_lt {k n : Nat} (h : k < n) (hf : eF M k = -1) : cnL M k < cnL M n := by
  have := cnL_mono (M := M) (j := k + 1) (k := n) h
  have e : cnL M (k + 1) = cnL M k + 1 := if_pos hf
  omega
theorem cnL_congr : ∀ {n : Nat}, (∀ k, k < n → eF M1 k = eF M k) → cnL M1 n = cnL M n
  | 0, _ => rfl
  | n + 1, h => by
    show (if eF M1 n = -1 then cnL M1 n + 1 else cnL M1 n) = if eF M n = -1 then cnL M n + 1 else cnL M n
    rw [h n (by omega), cnL_congr (fun k hk => h k (by omega))]
theorem fcF_congr : ∀ {n : Nat}, (∀ k, k < n → eD M1 k = eD M k ∧ eS M1 k = eS M k ∧ eF M1 k = eF M k ∧ eV M1 k = eV M k) → fcF M1 d s f z n = fcF M d s f z n
  | 0, _ => rfl
  | n + 1, h => by
    obtain ⟨a, b, c, e⟩ := h n (by omega)
    show (if hitF M1 d s f n then eV M1 n else fcF M1 d s f z n) = if hitF M d s f n then eV M n else fcF M d s f z n
    unfold hitF
    rw [a, b, c, e, fcF_congr (fun k hk => h k (by omega))]
theorem fcF_day : ∀ {n : Nat}, (∀ k, k < n → ((eD M k).toInt ≤ d1.toInt ↔ (eD M k).toInt ≤ d.toInt)) → fcF M d1 s f z n = fcF M d s f z n
  | 0, _ => rfl
  | n + 1, h => by
    show (if hitF M d1 s f n then eV M n else fcF M d1 s f z n) = if hitF M d s f n then eV M n else fcF M d s f z n
    unfold hitF
    rw [fcF_day (n := n) (fun k hk => h k (by omega))]
    simp only [h n (by omega)]
theorem fcF_new (hs : s < 1000) : ∀ {n : Nat}, (∀ k, k < n → eOK M k) → cnL M n ≤ s → fcF M d s f z n = z
  | 0, _, _ => rfl
  | n + 1, h, hc => by
    have hm := cnL_mono (M := M) (show n ≤ n + 1 by omega)
    show (if hitF M d s f n then eV M n else fcF M d s f z n) = z
    rw [if_neg, fcF_new hs (fun k hk => h k (by omega)) (by omega)]
    rintro ⟨h1, -⟩
    rcases h n (by omega) with ⟨a, b, c⟩ | ⟨a, b, c⟩
    · have hl := cnL_lt (n := n + 1) (Nat.lt_succ_self n) a
      rw [b, nI_eq (by omega) (by omega)] at h1
      omega
    · rw [h1, nI_toInt (by omega)] at c
      omega
theorem fct_congr (e8 : M1 8 0 = M 8 0) (h : ∀ k, k < nE M → eD M1 k = eD M k ∧ eS M1 k = eS M k ∧ eF M1 k = eF M k ∧ eV M1 k = eV M k) (hd : dfF M1 s f = dfF M s f) : fct M1 d s f = fct M d s f := by
  unfold fct
  rw [hd, show nE M1 = nE M by show (M1 8 0).toNatClampNeg = _; rw [e8]]
  exact fcF_congr h
theorem BW.late (h : BW M) (a : (M 6 0).toInt ≤ d.toInt) (b : (M 6 0).toInt ≤ d1.toInt) : fct M d1 s f = fct M d s f :=
  fcF_day (fun k hk => by have := (h.2.1 k hk).2.1; omega)
/-- one more entry -/
def WrS (M M1 : Sl) (s f v : Int32) : Prop := (∀ c, c ≠ 8 → c ≠ 9 → M1 c = M c) ∧ M1 8 0 = M 8 0 + 1 ∧ ∀ j, M1 9 j = if j = 4 * nE M then M 6 0 else if j = 4 * nE M + 1 then s else if j = 4 * nE M + 2 then f else if j = 4 * nE M + 3 then v else M 9 j
theorem WrS.ne {s f v : Int32} (w : WrS M M1 s f v) (h : 0 ≤ (M 8 0).toInt ∧ (M 8 0).toInt < 400) : nE M1 = nE M + 1 ∧ (M1 8 0).toInt = (M 8 0).toInt + 1 := by
  have e : (M1 8 0).toInt = (M 8 0).toInt + 1 := by rw [w.2.1]; exact ti_add rfl ti_1 (by omega) (by omega)
  refine ⟨?_, e⟩
  have a := cl_i (x := M 8 0) h.1
  have b := cl_i (x := M1 8 0) (by omega)
  show (M1 8 0).toNatClampNeg = (M 8 0).toNatClampNeg + 1
  omega
theorem WrS.old {s f v : Int32} (w : WrS M M1 s f v) {k : Nat} (hk : k ≠ nE M) : eD M1 k = eD M k ∧ eS M1 k = eS M k ∧ eF M1 k = eF M k ∧ eV M1 k = eV M k := by
  refine ⟨?_, ?_, ?_, ?_⟩
  · show M1 9 (4 * k) = M 9 (4 * k)
    rw [w.2.2, if_neg (by omega), if_neg (by omega), if_neg (by omega), if_neg (by omega)]
  · show M1 9 (4 * k + 1) = M 9 (4 * k + 1)
    rw [w.2.2, if_neg (by omega), if_neg (by omega), if_neg (by omega), if_neg (by omega)]
  · show M1 9 (4 * k + 2) = M 9 (4 * k + 2)
    rw [w.2.2, if_neg (by omega), if_neg (by omega), if_neg (by omega), if_neg (by omega)]
  · show M1 9 (4 * k + 3) = M 9 (4 * k + 3)
    rw [w.2.2, if_neg (by omega), if_neg (by omega), if_neg (by omega), if_neg (by omega)]
theorem WrS.new {s f v : Int32} (w : WrS M M1 s f v) : eD M1 (nE M) = M 6 0 ∧ eS M1 (nE M) = s ∧ eF M1 (nE M) = f ∧ eV M1 (nE M) = v := by
  refine ⟨?_, ?_, ?_, ?_⟩
  · show M1 9 (4 * nE M) = _
    rw [w.2.2, if_pos rfl]
  · show M1 9 (4 * nE M + 1) = _
    rw [w.2.2, if_neg (by omega), if_pos rfl]
  · show M1 9 (4 * nE M + 2) = _
    rw [w.2.2, if_neg (by omega), if_neg (by omega), if_pos rfl]
  · show M1 9 (4 * nE M + 3) = _
    rw [w.2.2, if_neg (by omega), if_neg (by omega), if_neg (by omega), if_pos rfl]
theorem WrS.df {s' f' v : Int32} (w : WrS M M1 s' f' v) : dfF M1 s f = dfF M s f := by
  unfold dfF
  rw [w.1 10 (by decide) (by decide)]
theorem WrS.fcN {s' f' v : Int32} (w : WrS M M1 s' f' v) (h : 0 ≤ (M 8 0).toInt ∧ (M 8 0).toInt < 400) : fct M1 d s f = if s' = nI s ∧ (M 6 0).toInt ≤ d.toInt ∧ (f' = nI f ∨ (f' = -1 ∧ f = 0)) then v else fct M d s f := by
  unfold fct
  rw [w.df, (w.ne h).1]
  obtain ⟨a, b, c, e⟩ := w.new
  show (if hitF M1 d s f (nE M) then eV M1 (nE M) else fcF M1 d s f (dfF M s f) (nE M)) = _
  unfold hitF
  rw [a, b, c, e, fcF_congr (fun k hk => w.old (by omega))]
theorem WrS.cn {s' f' v : Int32} (w : WrS M M1 s' f' v) {k : Nat} (hk : k ≤ nE M) : cnL M1 k = cnL M k := cnL_congr (fun j hj => (w.old (by omega)).2.2.1)
theorem WrS.cn1 {s' f' v : Int32} (w : WrS M M1 s' f' v) : cnL M1 (nE M + 1) = if f' = -1 then cnL M (nE M) + 1 else cnL M (nE M) := by
  show (if eF M1 (nE M) = -1 then cnL M1 (nE M) + 1 else cnL M1 (nE M)) = _
  rw [w.new.2.2.1, w.cn (Nat.le_refl _)]
/-- what may be told -/
abbrev Ag (g : Nat → Int32) (f v : Int32) : Prop := if f.toInt = 0 then (g 3).toInt < v.toInt else if f.toInt = 3 then v.toInt < (g 0).toInt else if f.toInt = 5 then v.toInt ≤ (g 6).toInt else if f.toInt = 6 then (g 5).toInt ≤ v.toInt else True
theorem Gd.put {g g1 : Nat → Int32} {f v : Int32} (h : Gd g) (r : InR f v) (a : Ag g f v) (e : ∀ i, i < 11 → g1 i = if f = nI i then v else g i) : Gd g1 := by
  obtain ⟨h1, h2, h3⟩ := h
  obtain ⟨⟨r1, r2⟩, r3, r4⟩ := r
  have ef := cl_i r1
  have q : ∀ i, i < 11 → (f = nI i ↔ f.toInt = i) := fun i hi => ⟨fun e => by rw [e, nI_toInt (by omega)], fun e => ti_eq (by rw [e, nI_toInt (by omega)])⟩
  have e0 := e 0 (by decide)
  have e3 := e 3 (by decide)
  have e5 := e 5 (by decide)
  have e6 := e 6 (by decide)
  simp only [q 0 (by decide), q 3 (by decide), q 5 (by decide), q 6 (by decide)] at e0 e3 e5 e6
  unfold Ag at a
  refine ⟨fun i hi => ?_, ?_, ?_⟩
  · rw [e i hi]
    split
    · rename_i hf
      have := (q i hi).mp hf
      have ec : f.toNatClampNeg = i := by omega
      rw [ec] at r3 r4
      exact ⟨r3, r4⟩
    · exact h1 i hi
  · rw [e0, e3]
    by_cases f0 : f.toInt = 0
    · rw [if_pos f0] at a
      rw [if_neg (by omega), if_pos (by omega)]
      exact a
    · by_cases f3 : f.toInt = 3
      · rw [if_neg f0, if_pos f3] at a
        rw [if_pos (by omega), if_neg (by omega)]
        exact a
      · rw [if_neg (by omega), if_neg (by omega)]
        exact h2
  · rw [e5, e6]
    by_cases f5 : f.toInt = 5
    · rw [if_neg (by omega), if_neg (by omega), if_pos f5] at a
      rw [if_pos (by omega), if_neg (by omega)]
      exact a
    · by_cases f6 : f.toInt = 6
      · rw [if_neg (by omega), if_neg (by omega), if_neg (by omega), if_pos f6] at a
        rw [if_neg (by omega), if_pos (by omega)]
        exact a
      · rw [if_neg (by omega), if_neg (by omega)]
        exact h3
theorem BW.tell {s f v : Int32} (h : BW M) (w : WrS M M1 s f v) (he : (M 8 0).toInt < 400) (hs : 0 ≤ s.toInt ∧ s.toInt < (M 5 0).toInt) (r : InR f v) (a : Ag (fct M (M 6 0) s.toNatClampNeg) f v) : BW M1 := by
  obtain ⟨⟨h1, h2, h3, h4⟩, h5, h6, h7, h8⟩ := id h
  have w8 : 0 ≤ (M 8 0).toInt ∧ (M 8 0).toInt < 400 := ⟨h1.1, he⟩
  obtain ⟨n1, n2⟩ := w.ne w8
  have es := cl_i hs.1
  have e5 := cl_i h2.1
  have c5 : M1 5 = M 5 := w.1 5 (by decide) (by decide)
  have c6 : M1 6 = M 6 := w.1 6 (by decide) (by decide)
  have c7 : M1 7 = M 7 := w.1 7 (by decide) (by decide)
  have c10 : M1 10 = M 10 := w.1 10 (by decide) (by decide)
  have fn : f ≠ -1 := fun e => by
    have := r.1.1
    rw [e, ti_m1] at this
    omega
  have ns : nS M1 = nS M := by show (M1 5 0).toNatClampNeg = _; rw [c5]
  refine ⟨⟨by omega, by rw [c5]; exact h2, by rw [c6]; exact h3, by rw [c6, c7]; exact h4⟩, fun k hk => ?_, ?_, fun i hi => ?_, fun d i hi hd => ?_⟩
  · rw [c6]
    by_cases e : k = nE M
    · subst e
      obtain ⟨a1, a2, a3, a4⟩ := w.new
      refine ⟨Or.inr ?_, by rw [a1]; exact Int.le_refl _, fun j hj => ?_⟩
      · rw [a2, a3, w.cn (Nat.le_refl _), h6]
        exact ⟨r.1, hs.1, by show s.toInt < ((M 5 0).toNatClampNeg : Int); omega⟩
      · rw [a1, (w.old (by omega)).1]
        exact (h5 j hj).2.1
    · obtain ⟨a1, a2, a3⟩ := h5 k (by omega)
      obtain ⟨b1, b2, b3, b4⟩ := w.old e
      refine ⟨?_, by rw [b1]; exact a2, fun j hj => ?_⟩
      · unfold eOK
        rw [b1, b2, b3, w.cn (by omega)]
        show (_ ∧ _ ∧ M1 10 _ = _) ∨ _
        rw [c10]
        exact a1
      · rw [b1, (w.old (by omega)).1]
        exact a3 j hj
  · rw [n1, w.cn1, if_neg fn, h6, ns]
  · rw [ns] at hi
    show (M1 10 _).toInt ≤ (M1 6 0).toInt
    rw [c6, c10]
    exact h7 i hi
  · rw [ns] at hi
    have hd : (M1 10 (3 * i)).toInt ≤ d.toInt := hd
    rw [c10] at hd
    have g := h8 d i hi hd
    have hi9 : i < (M 5 0).toNatClampNeg := hi
    have iN : i < 1000 := by omega
    by_cases hq : s = nI i ∧ (M 6 0).toInt ≤ d.toInt
    · have ei : s.toNatClampNeg = i := by rw [hq.1]; exact nI_clamp (by omega)
      rw [ei] at a
      have la : fct M (M 6 0) i = fct M d i := by
        funext f
        exact h.late hq.2 (Int.le_refl _)
      rw [la] at a
      refine g.put r a (fun j _ => ?_)
      rw [w.fcN w8]
      by_cases hf : f = nI j
      · rw [if_pos ⟨hq.1, hq.2, Or.inl hf⟩, if_pos hf]
      · rw [if_neg (fun q => q.2.2.elim hf (fun q => fn q.1)), if_neg hf]
    · have : fct M1 d i = fct M d i := by
        funext j
        rw [w.fcN w8, if_neg (fun q => hq ⟨q.1, q.2.1⟩)]
      rw [this]
      exact g
end BKs
