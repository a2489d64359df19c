section
/-! the search, both sides: scores, comparing, best -/
def sg (z : Int) : Int32 := if 0 < z then 1 else if z = 0 then 0 else -1
theorem sg_lt {z : Int} : sg z < 0 ↔ z < 0 := by
  unfold sg
  by_cases h : 0 < z
  · rw [if_pos h]
    exact ⟨fun q => absurd q (by decide), fun q => by omega⟩
  · rw [if_neg h]
    by_cases e : z = 0
    · rw [if_pos e]
      exact ⟨fun q => absurd q (by decide), fun q => by omega⟩
    · rw [if_neg e]
      exact ⟨fun _ => by omega, fun _ => by decide⟩
theorem sg_gt {z : Int} : 0 < sg z ↔ 0 < z := by
  unfold sg
  by_cases h : 0 < z
  · rw [if_pos h]
    exact ⟨fun _ => h, fun _ => by decide⟩
  · rw [if_neg h]
    by_cases e : z = 0
    · rw [if_pos e]
      exact ⟨fun q => absurd q (by decide), fun q => by omega⟩
    · rw [if_neg e]
      exact ⟨fun q => absurd q (by decide), fun q => by omega⟩
theorem eJ_cmp (x y : Int64) (D : ADD) : fJ13_compare_74951 x y D = some (sg (x.toInt - y.toInt), D) := by
  unfold fJ13_compare_74951 sg
  show (if 0 ≤ lg_cmp x y then (if lg_cmp x y = 0 then some ((0 : Int32), D) else some ((1 : Int32), D)) else some ((-1 : Int32), D)) = _
  by_cases h : 0 ≤ lg_cmp x y
  · rw [if_pos h]
    have h1 := Int64.le_iff_toInt_le.mp ((lg_cmp_ge _ _).mp h)
    by_cases e : lg_cmp x y = 0
    · have e1 : x.toInt = y.toInt := by rw [(lg_cmp_eq _ _).mp e]
      rw [if_pos e, if_neg (show ¬ 0 < x.toInt - y.toInt by omega), if_pos (show x.toInt - y.toInt = 0 by omega)]
    · have e1 : x.toInt ≠ y.toInt := fun q => e ((lg_cmp_eq _ _).mpr (Int64.toInt_inj.mp q))
      rw [if_neg e, if_pos (show 0 < x.toInt - y.toInt by omega)]
  · have h1 : ¬ y.toInt ≤ x.toInt := fun q => h ((lg_cmp_ge _ _).mpr (Int64.le_iff_toInt_le.mpr q))
    rw [if_neg h, if_neg (show ¬ 0 < x.toInt - y.toInt by omega), if_neg (show ¬ x.toInt - y.toInt = 0 by omega)]
theorem tl_mul {x y : Int64} {p q : Int} (hx : x.toInt = p) (hy : y.toInt = q) (h1 : -9223372036854775808 ≤ p * q) (h2 : p * q ≤ 9223372036854775807) : (x * y).toInt = p * q := by
  rw [Int64.toInt_mul, hx, hy]
  apply Int.bmod_eq_of_le <;> omega
theorem tl_sub {x y : Int64} {p q : Int} (hx : x.toInt = p) (hy : y.toInt = q) (h1 : -9223372036854775808 ≤ p - q) (h2 : p - q ≤ 9223372036854775807) : (x - y).toInt = p - q := by
  rw [Int64.toInt_sub, hx, hy]
  apply Int.bmod_eq_of_le <;> omega
theorem mb_of {s w : Int} (h1 : -2147483648 ≤ s) (h2 : s ≤ 2147483647) (w0 : 0 ≤ w) (w1 : w ≤ 2000) : -4294967296000 ≤ s * w ∧ s * w ≤ 4294967296000 := by
  have a := Int.mul_le_mul_of_nonneg_right h2 w0
  have b := Int.mul_le_mul_of_nonneg_right h1 w0
  omega
theorem lp_of (s : Int32) {w : Nat} (hw : w ≤ 2000) : (s.toInt64 * (nI w).toInt64).toInt = s.toInt * (w : Int) := by
  have b := mb_of (ti_lo s) (ti_hi s) (show (0 : Int) ≤ (w : Int) by omega) (show (w : Int) ≤ 2000 by omega)
  exact tl_mul (Int32.toInt_toInt64 s) (by rw [Int32.toInt_toInt64, nI_toInt (by omega)]) (by omega) (by omega)
/-- S of u over u against S of w over w -/
def rk (S : Nat → Int32) (u w : Nat) : Int := (S u).toInt * (w : Int) - (S w).toInt * (u : Int)
abbrev AB (A B : Nat) : Prop := 10 ≤ A ∧ A ≤ B ∧ B ≤ 2000 ∧ B ≤ A + 300
def SrX (D : ADD) (A B : Nat) (S : Nat → Int32) : Prop := D.1 50 0 = nI A ∧ D.1 50 1 = nI B ∧ ∀ u, A ≤ u → u ≤ B → D.1 51 (u - A) = S u
def SrM (E : ADD) (A B : Nat) (S : Nat → Int32) : Prop := ∀ u, A ≤ u → u ≤ B → E.1 36 (u - A) = S u
theorem nI_sub {u A : Nat} (h : A ≤ u) (hu : u < 100000) : nI u - nI A = nI (u - A) := ti_eq (by
  rw [ti_sub (nI_toInt (show u < 2 ^ 31 by omega)) (nI_toInt (show A < 2 ^ 31 by omega)) (by omega) (by omega), nI_toInt (by omega)]
  omega)
section SRs
variable {D D0 D1 E E1 : ADD} {A B N : Nat} {S : Nat → Int32} {L : List Nat} {P : Nat → Prop}
theorem eX_compare {u w : Nat} (hA : AB A B) (s : SrX D A B S) (hu : A ≤ u ∧ u ≤ B) (hw : A ≤ w ∧ w ≤ B) : fX7_compare (nI u) (nI w) D = some (sg (rk S u w), D) := by
  have vA : (nI A).toInt = (A : Int) := nI_toInt (by omega)
  have vB : (nI B).toInt = (B : Int) := nI_toInt (by omega)
  have vu : (nI u).toInt = (u : Int) := nI_toInt (by omega)
  have vw : (nI w).toInt = (w : Int) := nI_toInt (by omega)
  have vua : (nI (u - A)).toInt = ((u - A : Nat) : Int) := nI_toInt (by omega)
  have vwa : (nI (w - A)).toInt = ((w - A : Nat) : Int) := nI_toInt (by omega)
  obtain ⟨s0, s1, s2⟩ := s
  have H : Wp (fX7_compare (nI u) (nI w) D) (fun x D1 => D1 = D ∧ x = sg (rk S u w)) := by
    unfold fX7_compare
    refine Wp.bind tX7_inReach (fun x D1 h => ?_)
    obtain ⟨rfl, h⟩ := h
    rw [s0, s1, nI_sub hu.1 (by omega)] at h
    rcases h with ⟨rfl, -⟩ | ⟨rfl, h⟩
    · refine Wp.lets (Wp.neg (by decide) (Wp.bind tX7_inReach (fun x D2 g => ?_)))
      obtain ⟨rfl, g⟩ := g
      rw [s0, s1, nI_sub hw.1 (by omega)] at g
      rcases g with ⟨rfl, -⟩ | ⟨rfl, g⟩
      · rw [s0, nI_sub hu.1 (by omega), nI_sub hw.1 (by omega), nI_clamp (show u - A < 2 ^ 31 by omega), nI_clamp (show w - A < 2 ^ 31 by omega), s2 u hu.1 hu.2, s2 w hw.1 hw.2]
        refine Wp.neg (by decide) (Wp.idx (vp_in_nI (by omega) (by decide)) (Wp.idx (vp_in_nI (by omega) (by decide)) (Wp.bindE (eJ_cmp _ _ _) (Wp.ret ⟨rfl, ?_⟩))))
        rw [lp_of _ (by omega), lp_of _ (by omega)]
        rfl
      · exact absurd g (by omega)
    · exact absurd h (by omega)
  obtain ⟨x, D1, e, rfl, rfl⟩ := H
  exact e
theorem eM_against {u w : Nat} (hA : AB A B) (s : SrM E A B S) (hu : A ≤ u ∧ u ≤ B) (hw : A ≤ w ∧ w ≤ B) : ∃ v : Int64, fX11_against (nI A) (nI u) (nI w) E = some (v, E) ∧ v.toInt = rk S u w := by
  refine ⟨(S u).toInt64 * (nI w).toInt64 - (S w).toInt64 * (nI u).toInt64, ?_, ?_⟩
  · unfold fX11_against
    rw [nI_sub hu.1 (by omega), nI_sub hw.1 (by omega), nI_clamp (show u - A < 2 ^ 31 by omega), nI_clamp (show w - A < 2 ^ 31 by omega), s u hu.1 hu.2, s w hw.1 hw.2, aIn_ok (vp_in_nI (by omega) (by decide)), aIn_ok (vp_in_nI (by omega) (by decide))]
  · have b1 := mb_of (ti_lo (S u)) (ti_hi (S u)) (show (0 : Int) ≤ (w : Int) by omega) (show (w : Int) ≤ 2000 by omega)
    have b2 := mb_of (ti_lo (S w)) (ti_hi (S w)) (show (0 : Int) ≤ (u : Int) by omega) (show (u : Int) ≤ 2000 by omega)
    exact tl_sub (lp_of _ (by omega)) (lp_of _ (by omega)) (by omega) (by omega)
theorem cmp0_lt {v : Int64} : aCmp v 0 < 0 ↔ v.toInt < 0 := by
  show lg_cmp v 0 < 0 ↔ _
  rw [lg_cmp_lt, Int64.lt_iff_toInt_lt]
  rfl
/-- the best of A .. A + i: the later wins a tie -/
def bst (S : Nat → Int32) (A : Nat) : Nat → Nat
  | 0 => A
  | i + 1 => if rk S (A + i + 1) (bst S A i) < 0 then bst S A i else A + i + 1
theorem bst_in (S : Nat → Int32) (A i : Nat) : A ≤ bst S A i ∧ bst S A i ≤ A + i := by
  induction i with
  | zero => exact ⟨Nat.le_refl _, Nat.le_refl _⟩
  | succ i ih =>
    unfold bst
    split <;> omega
theorem bst_s (S : Nat → Int32) {A k : Nat} (h : A + 1 ≤ k) : bst S A (k + 1 - 1 - A) = if rk S k (bst S A (k - 1 - A)) < 0 then bst S A (k - 1 - A) else k := by
  rw [show k + 1 - 1 - A = (k - 1 - A) + 1 by omega]
  show (if rk S (A + (k - 1 - A) + 1) (bst S A (k - 1 - A)) < 0 then _ else A + (k - 1 - A) + 1) = _
  rw [show A + (k - 1 - A) + 1 = k by omega]
theorem eX_bestUnit (hA : AB A B) (s : SrX D A B S) : fX7_bestUnit D = some (nI (bst S A (B - A)), D) := by
  have s' := s
  obtain ⟨s0, s1, s2⟩ := s
  have vB : (nI B).toInt = (B : Int) := nI_toInt (by omega)
  have H : Wp (fX7_bestUnit D) (fun x D1 => D1 = D ∧ x = nI (bst S A (B - A))) := by
    unfold fX7_bestUnit
    rw [s0]
    refine Wp.lets (Wp.lets (Wp.lets (Wp.lets (Wp.go2 (fun k y D' => D' = D ∧ A + 1 ≤ k ∧ y = nI (bst S A (k - 1 - A))) (B + 1) (by omega) (fun g k y D' hk hI K => ?_) (k0 := A + 1) (nI_succ A).symm (by omega) ⟨rfl, by omega, ?_⟩))))
    · obtain ⟨e, i1, rfl⟩ := hI
      subst e
      have vk : (nI k).toInt = (k : Int) := nI_toInt (by omega)
      have bi := bst_in S A (k - 1 - A)
      unfold lX7_bestUnit_12
      rw [s1]
      refine Wp.ilt (fun q => Wp.ret ⟨rfl, ?_⟩) (fun q => Wp.bindE (eX_compare hA s' (u := k) (w := bst S A (k - 1 - A)) (by omega) (by omega)) (Wp.lets (Wp.ite (fun c => Wp.lets (K (by omega) _ _ ⟨rfl, by omega, ?_⟩)) (fun c => Wp.lets (K (by omega) _ _ ⟨rfl, by omega, ?_⟩)))))
      · rw [show k - 1 - A = B - A by omega]
      · rw [bst_s S i1, if_pos (sg_lt.mp c)]
      · rw [bst_s S i1, if_neg (fun z => c (sg_lt.mpr z))]
    · rw [show A + 1 - 1 - A = 0 by omega]
      rfl
  obtain ⟨x, D1, e, rfl, rfl⟩ := H
  exact e
/-- the score of a pile by a unit -/
noncomputable def scS (D : ADD) (L : List Nat) (u : Nat) : Int32 := nI u * nI L.length - 4 * sumL (ofS D (nI u)) L
theorem PilX.fr {D2 : ADD} (p : PilX D D1 L) (f : ∀ c, c ≠ 50 → c ≠ 51 → D2.1 c = D1.1 c) : PilX D D2 L := by
  obtain ⟨p1, p2, p3⟩ := p
  refine ⟨by rw [f 43 (by decide) (by decide)]; exact p1, p2, fun i s h => ?_⟩
  rw [f 44 (by decide) (by decide), f 45 (by decide) (by decide), f 46 (by decide) (by decide), f 47 (by decide) (by decide), f 48 (by decide) (by decide)]
  exact p3 i s h
theorem bX_scoreUnits (hA : AB A B) (p : PilX D D1 L) : Wp (fX7_scoreUnits (nI A) (nI B) D1) (fun _ D2 => (∀ c, c ≠ 50 → c ≠ 51 → D2.1 c = D1.1 c) ∧ SrX D2 A B (scS D L)) := by
  have vA : (nI A).toInt = (A : Int) := nI_toInt (by omega)
  have vB : (nI B).toInt = (B : Int) := nI_toInt (by omega)
  have hm : aMin (nI B) (nI A + 300) = nI B := by
    apply ti_eq
    have e : (nI A + 300).toInt = (nI A).toInt + 300 := ti_add rfl (by decide) (by omega) (by omega)
    rw [ti_min, e]
    omega
  unfold fX7_scoreUnits
  rw [hm]
  refine Wp.lets (Wp.lets (Wp.lets (Wp.lets (Wp.lets (Wp.go1 (fun k D2 => A ≤ k ∧ (∀ c, c ≠ 50 → c ≠ 51 → D2.1 c = D1.1 c) ∧ D2.1 50 0 = nI A ∧ D2.1 50 1 = nI B ∧ ∀ u, A ≤ u → u < k → D2.1 51 (u - A) = scS D L u) (B + 1) (by omega) (fun g k D2 hk hI K => ?_) (k0 := A) rfl (by omega) ⟨by omega, fun c c1 c2 => by rw [si_o c1, si_o c1], rfl, rfl, fun u h1 h2 => absurd h1 (by omega)⟩)))))
  obtain ⟨i0, i1, i2, i3, i4⟩ := hI
  have vk : (nI k).toInt = (k : Int) := nI_toInt (by omega)
  unfold lX7_scoreUnits_24
  rw [i2, i3]
  refine Wp.ilt (fun q => Wp.ret ⟨i1, i2, i3, fun u h1 h2 => i4 u h1 (by omega)⟩) (fun q => Wp.bindE (pil_score (p.fr i1) _) ?_)
  rw [nI_sub i0 (by omega), nI_clamp (show k - A < 2 ^ 31 by omega)]
  refine Wp.idx (vp_in_nI (by omega) (by decide)) (Wp.lets (Wp.lets (K (by omega) _ ⟨by omega, fun c c1 c2 => by rw [si_o c2, i1 c c1 c2], by rw [si_o (by decide)]; exact i2, by rw [si_o (by decide)]; exact i3, fun u h1 h2 => ?_⟩)))
  rw [si_s]
  by_cases e : u = k
  · rw [e, if_pos rfl]
    rfl
  · rw [if_neg (by omega), i4 u h1 (by omega)]
theorem CR.fr36 {E2 : ADD} (c : CR D E1 N P) (f : ∀ c, c ≠ 36 → E2.1 c = E1.1 c) : CR D E2 N P := by
  obtain ⟨⟨c1, c2⟩, c3⟩ := c
  refine ⟨⟨by rw [f 0 (by decide)]; exact c1, c2⟩, fun k hk => ?_⟩
  unfold FcR
  rw [f 35 (by decide), f 33 (by decide), f 34 (by decide), f 32 (by decide)]
  exact c3 k hk
theorem bM_findScores (hA : AB A B) (c : CR D E1 N P) : Wp (fX11_findScores (nI A) (nI B) E1) (fun _ E2 => (∀ c, c ≠ 36 → E2.1 c = E1.1 c) ∧ SrM E2 A B (scS D (chL P N))) := by
  have vB : (nI B).toInt = (B : Int) := nI_toInt (by omega)
  unfold fX11_findScores
  refine Wp.lets (Wp.lets (Wp.go1 (fun k E2 => A ≤ k ∧ (∀ c, c ≠ 36 → E2.1 c = E1.1 c) ∧ ∀ u, A ≤ u → u < k → E2.1 36 (u - A) = scS D (chL P N) u) (B + 1) (by omega) (fun g k E2 hk hI K => ?_) (k0 := A) rfl (by omega) ⟨by omega, fun _ _ => rfl, fun u h1 h2 => absurd h1 (by omega)⟩))
  obtain ⟨i0, i1, i2⟩ := hI
  have vk : (nI k).toInt = (k : Int) := nI_toInt (by omega)
  unfold lX11_findScores_2
  refine Wp.ilt (fun q => Wp.ret ⟨i1, fun u h1 h2 => i2 u h1 (by omega)⟩) (fun q => Wp.bindE (bM_scoreOf (c.fr36 i1) (by omega)) ?_)
  rw [nI_sub i0 (by omega), nI_clamp (show k - A < 2 ^ 31 by omega)]
  refine Wp.idx (vp_in_nI (by omega) (by decide)) (Wp.lets (Wp.lets (K (by omega) _ ⟨by omega, fun c hc => by rw [si_o hc, i1 c hc], fun u h1 h2 => ?_⟩)))
  rw [si_s]
  by_cases e : u = k
  · rw [e, if_pos rfl, sum_lin]
    rfl
  · rw [if_neg (by omega), i2 u h1 (by omega)]
theorem bM_bestOf (hA : AB A B) (c : CR D E1 N P) : Wp (fX11_bestOf (nI A) (nI B) E1) (fun r E2 => (∀ c, c ≠ 36 → E2.1 c = E1.1 c) ∧ SrM E2 A B (scS D (chL P N)) ∧ r = nI (bst (scS D (chL P N)) A (B - A))) := by
  have vB : (nI B).toInt = (B : Int) := nI_toInt (by omega)
  unfold fX11_bestOf
  refine Wp.bind (bM_findScores hA c) (fun _ E2 q => ?_)
  obtain ⟨q1, q2⟩ := q
  generalize scS D (chL P N) = S at q2 ⊢
  refine Wp.lets (Wp.lets (Wp.lets (Wp.go2 (fun k y D' => D' = E2 ∧ A + 1 ≤ k ∧ y = nI (bst S A (k - 1 - A))) (B + 1) (by omega) (fun g k y D' hk hI K => ?_) (k0 := A + 1) (nI_succ A).symm (by omega) ⟨rfl, by omega, ?_⟩)))
  · obtain ⟨e, i1, rfl⟩ := hI
    subst e
    have vk : (nI k).toInt = (k : Int) := nI_toInt (by omega)
    have bi := bst_in S A (k - 1 - A)
    unfold lX11_bestOf_13
    refine Wp.ilt (fun q => Wp.ret ⟨q1, q2, ?_⟩) (fun q => ?_)
    · rw [show k - 1 - A = B - A by omega]
    · obtain ⟨v, e1, e2⟩ := eM_against hA q2 (u := k) (w := bst S A (k - 1 - A)) (by omega) (by omega)
      refine Wp.bindE e1 (Wp.lets (Wp.ite (fun c => Wp.lets (K (by omega) _ _ ⟨rfl, by omega, ?_⟩)) (fun c => Wp.lets (K (by omega) _ _ ⟨rfl, by omega, ?_⟩))))
      · rw [bst_s S i1, if_pos (by rw [← e2]; exact cmp0_lt.mp c)]
      · rw [bst_s S i1, if_neg (fun z => c (cmp0_lt.mpr (by rw [e2]; exact z)))]
  · rw [show A + 1 - 1 - A = 0 by omega]
    rfl
end SRs
section BSs
variable {D E E1 : ADD} {n0 : Nat} {P : APD}
/-- the best unit of a pile, -1 of an empty one -/
noncomputable def bsV (D : ADD) (L : List Nat) (a b : Int32) : Int32 := if L.length = 0 then -1 else nI (bst (scS D L) a.toNatClampNeg (b.toNatClampNeg - a.toNatClampNeg))
theorem UR.ab {a b : Int32} (h : UR a b 300) : AB a.toNatClampNeg b.toNatClampNeg ∧ a = nI a.toNatClampNeg ∧ b = nI b.toNatClampNeg := by
  obtain ⟨h0, h1, h2, h3⟩ := h
  have ea := cl_i (show 0 ≤ a.toInt by omega)
  have eb := cl_i (show 0 ≤ b.toInt by omega)
  exact ⟨⟨by omega, by omega, by omega, by omega⟩, nI_val (by omega), nI_val (by omega)⟩
theorem bX_bestAmong {k v a b : Int32} (q : QX D) (h : RBk (xc D) (mB E)) (hU : UR a b 300) : Wp (fX10_bestAmong k v a b D) (fun r _ => r = bsV D (chL (fun s => thE E s ∧ blX D k v (nI s)) (nS (mB E))) a b) := by
  obtain ⟨hA, ea, eb⟩ := UR.ab hU
  unfold fX10_bestAmong
  refine Wp.bind (gaK q h k v) (fun x D1 p => ?_)
  obtain ⟨rfl, -, p⟩ := p
  generalize chL (fun s => thE E s ∧ blX D k v (nI s)) (nS (mB E)) = L at p ⊢
  have m := (pil_m p).1
  have l2 := p.2.1
  have vl : (nI L.length).toInt = (L.length : Int) := nI_toInt (by omega)
  unfold bsV
  refine Wp.ite (fun z => Wp.ret ?_) (fun z => ?_)
  · rw [if_pos (by rw [m] at z; rw [z, ti_0] at vl; omega)]
  · rw [if_neg (fun y => z (by rw [m, y]; rfl))]
    generalize a.toNatClampNeg = A at *
    generalize b.toNatClampNeg = B at *
    subst ea eb
    exact Wp.bind (bX_scoreUnits hA p) (fun _ D2 s => Wp.bindE (eX_bestUnit hA s.2) (Wp.ret rfl))
theorem jr_best {a b : Int32} (h : IR RF n0 P E) : BR RF n0 P id (fX10_best a b P.2) (fX11_best a b E) := by
  obtain ⟨hb, ⟨tp, fl, w, pr⟩, hc⟩ := h.nowF
  have qx := h.1.2.1.2.qx
  have qm := h.1.2.2.1.qm
  have e3 : (300 : Int32).toInt = 300 := by decide
  refine h.askE (v := if UR a b 300 then bsV P.2 (cL0 P.2 E) a b else -1) (fun q => oX_best q) (fun q => oM_best q) ?_ ?_
  · unfold fX10_best
    refine Wp.bindE (eX_isRange _ _ _ _) (Wp.lets ?_)
    rw [e3]
    by_cases hU : UR a b 300
    · rw [if_pos hU, if_pos hU]
      refine Wp.neg (by decide) (Wp.bind (bX_bestAmong qx hb hU) (fun r D2 z => Wp.ret ?_))
      rw [z]
      unfold cL0
      rw [chL_cg (fun s _ => and_congr_right (fun _ => bl_0))]
    · rw [if_neg hU, if_neg hU]
      exact Wp.pos rfl (Wp.ret rfl)
  · unfold fX11_best
    refine Wp.lets (Wp.bindE (eM_areUnits _ _ _) ?_)
    by_cases hU : UR a b 300
    · rw [if_pos hU, if_pos hU]
      refine Wp.neg (by decide) (Wp.bind (lk0 qm hb w hc) (fun _ E1 l => Wp.bindE (bM_those l.2) (Wp.lets ?_)))
      obtain ⟨hA, ea, eb⟩ := UR.ab hU
      have cr := l.2
      have c2 : (cL0 P.2 E).length ≤ 32 := Nat.le_trans chL_len cr.1.2
      have vl : (nI (cL0 P.2 E).length).toInt = ((cL0 P.2 E).length : Int) := nI_toInt (by omega)
      unfold bsV
      refine Wp.ile (fun z => Wp.ret ?_) (fun z => ?_)
      · have z : (nI (cL0 P.2 E).length).toInt ≤ (0 : Int32).toInt := z
        rw [if_pos (by rw [vl, ti_0] at z; omega)]
      · have z : (0 : Int32).toInt < (nI (cL0 P.2 E).length).toInt := z
        rw [if_neg (by rw [vl, ti_0] at z; omega)]
        generalize a.toNatClampNeg = A at *
        generalize b.toNatClampNeg = B at *
        subst ea eb
        exact Wp.bind (bM_bestOf hA cr) (fun r E2 s => Wp.ret s.2.2)
    · rw [if_neg hU, if_neg hU]
      exact Wp.pos rfl (Wp.ret rfl)
end BSs
end
