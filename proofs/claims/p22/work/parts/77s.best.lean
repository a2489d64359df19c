section
/-! the search, both sides: scores, comparing, best -/
def sg (z : Int) : Int32 := if 0 < z then 1 else if z = 0 then 0 else -1
theorem sg_lt {z : Int} : sg z < 0 ↔ z < 0 := by
  unfold sg
  by_cases h : 0 < z
  · rw [if_pos h]
    exact ⟨fun q => absurd q (by decide), fun q => by omega⟩
  · rw [if_neg h]
    by_cases e : z = 0
    · rw [if_pos e]
      exact ⟨fun q => absurd q (by decide), fun q => by omega⟩
    · rw [if_neg e]
      exact ⟨fun _ => by omega, fun _ => by decide⟩
theorem sg_gt {z : Int} : 0 < sg z ↔ 0 < z := by
  unfold sg
  by_cases h : 0 < z
  · rw [if_pos h]
    exact ⟨fun _ => h, fun _ => by decide⟩
  · rw [if_neg h]
    by_cases e : z = 0
    · rw [if_pos e]
      exact ⟨fun q => absurd q (by decide), fun q => by omega⟩
    · rw [if_neg e]
      exact ⟨fun q => absurd q (by decide), fun q => by omega⟩
theorem eJ_cmp (x y : Int64) (D : ADD) : fJ13_compare_74951 x y D = some (sg (x.toInt - y.toInt), D) := by
  unfold fJ13_compare_74951 sg
  show (if 0 ≤ lg_cmp x y then (if lg_cmp x y = 0 then some ((0 : Int32), D) else some ((1 : Int32), D)) else some ((-1 : Int32), D)) = _
  by_cases h : 0 ≤ lg_cmp x y
  · rw [if_pos h]
    have h1 := Int64.le_iff_toInt_le.mp ((lg_cmp_ge _ _).mp h)
    by_cases e : lg_cmp x y = 0
    · have e1 : x.toInt = y.toInt := by rw [(lg_cmp_eq _ _).mp e]
      rw [if_pos e, if_neg (show ¬ 0 < x.toInt - y.toInt by omega), if_pos (show x.toInt - y.toInt = 0 by omega)]
    · have e1 : x.toInt ≠ y.toInt := fun q => e ((lg_cmp_eq _ _).mpr (Int64.toInt_inj.mp q))
      rw [if_neg e, if_pos (show 0 < x.toInt - y.toInt by omega)]
  · have h1 : ¬ y.toInt ≤ x.toInt := fun q => h ((lg_cmp_ge _ _).mpr (Int64.le_iff_toInt_le.mpr q))
    rw [if_neg h, if_neg (show ¬ 0 < x.toInt - y.toInt by omega), if_neg (show ¬ x.toInt - y.toInt = 0 by omega)]
theorem tl_mul {x y : Int64} {p q : Int} (hx : x.toInt = p) (hy : y.toInt = q) (h1 : -9223372036854775808 ≤ p * q) (h2 : p * q ≤ 9223372036854775807) : (x * y).toInt = p * q := by
  rw [Int64.toInt_mul, hx, hy]
  apply Int.bmod_eq_of_le <;> omega
theorem tl_sub {x y : Int64} {p q : Int} (hx : x.toInt = p) (hy : y.toInt = q) (h1 : -9223372036854775808 ≤ p - q) (h2 : p - q ≤ 9223372036854775807) : (x - y).toInt = p - q := by
  rw [Int64.toInt_sub, hx, hy]
  apply Int.bmod_eq_of_le <;> omega
theorem mb_of {s w : Int} (h1 : -2147483648 ≤ s) (h2 : s ≤ 2147483647) (w0 : 0 ≤ w) (w1 : w ≤ 2000) : -4294967296000 ≤ s * w ∧ s * w ≤ 4294967296000 := by
  have a := Int.mul_le_mul_of_nonneg_right h2 w0
  have b := Int.mul_le_mul_of_nonneg_right h1 w0
  omega
theorem lp_of (s : Int32) {w : Nat} (hw : w ≤ 2000) : (s.toInt64 * (nI w).toInt64).toInt = s.toInt * (w : Int) := by
  have b := mb_of (ti_lo s) (ti_hi s) (show (0 : Int) ≤ (w : Int) by omega) (show (w : Int) ≤ 2000 by omega)
  exact tl_mul (Int32.toInt_toInt64 s) (by rw [Int32.toInt_toInt64, nI_toInt (by omega)]) (by omega) (by omega)
/-- S of u over u against S of w over w -/
def rk (S : Nat → Int32) (u w : Nat) : Int := (S u).toInt * (w : Int) - (S w).toInt * (u : Int)
abbrev AB (A B : Nat) : Prop := 10 ≤ A ∧ A ≤ B ∧ B ≤ 2000 ∧ B ≤ A + 300
def SrX (D : ADD) (A B : Nat) (S : Nat → Int32) : Prop := D.1 50 0 = nI A ∧ D.1 50 1 = nI B ∧ ∀ u, A ≤ u → u ≤ B → D.1 51 (u - A) = S u
def SrM (E : ADD) (A B : Nat) (S : Nat → Int32) : Prop := ∀ u, A ≤ u → u ≤ B → E.1 36 (u - A) = S u
theorem nI_sub {u A : Nat} (h : A ≤ u) (hu : u < 100000) : nI u - nI A = nI (u - A) := ti_eq (by
  rw [ti_sub (nI_toInt (show u < 2 ^ 31 by omega)) (nI_toInt (show A < 2 ^ 31 by omega)) (by omega) (by omega), nI_toInt (by omega)]
  omega)
section SRs
variable {D D0 D1 E E1 : ADD} {A B N : Nat} {S : Nat → Int32} {L : List Nat} {P : Nat → Prop}
theorem eX_compare {u w : Nat} (hA : AB A B) (s : SrX D A B S) (hu : A ≤ u ∧ u ≤ B) (hw : A ≤ w ∧ w ≤ B) : fX7_compare (nI u) (nI w) D = some (sg (rk S u w), D) := by
  have vA : (nI A).toInt = (A : Int) := nI_toInt (by omega)
  have vB : (nI B).toInt = (B : Int) := nI_toInt (by omega)
  have vu : (nI u).toInt = (u : Int) := nI_toInt (by omega)
  have vw : (nI w).toInt = (w : Int) := nI_toInt (by omega)
  have vua : (nI (u - A)).toInt = ((u - A : Nat) : Int) := nI_toInt (by omega)
  have vwa : (nI (w - A)).toInt = ((w - A : Nat) : Int) := nI_toInt (by omega)
  obtain ⟨s0, s1, s2⟩ := s
  have H : Wp (fX7_compare (nI u) (nI w) D) (fun x D1 => D1 = D ∧ x = sg (rk S u w)) := by
    unfold fX7_compare
    refine Wp.bind tX7_inReach (fun x D1 h => ?_)
    obtain ⟨rfl, h⟩ := h
    rw [s0, s1, nI_sub hu.1 (by omega)] at h
    rcases h with ⟨rfl, -⟩ | ⟨rfl, h⟩
    · refine Wp.lets (Wp.neg (by decide) (Wp.bind tX7_inReach (fun x D2 g => ?_)))
      obtain ⟨rfl, g⟩ := g
      rw [s0, s1, nI_sub hw.1 (by omega)] at g
      rcases g with ⟨rfl, -⟩ | ⟨rfl, g⟩
      · rw [s0, nI_sub hu.1 (by omega), nI_sub hw.1 (by omega), nI_clamp (show u - A < 2 ^ 31 by omega), nI_clamp (show w - A < 2 ^ 31 by omega), s2 u hu.1 hu.2, s2 w hw.1 hw.2]
        refine Wp.neg (by decide) (Wp.idx (vp_in_nI (by omega) (by decide)) (Wp.idx (vp_in_nI (by omega) (by decide)) (Wp.bindE (eJ_cmp _ _ _) (Wp.ret ⟨rfl, ?_⟩))))
        rw [lp_of _ (by omega), lp_of _ (by omega)]
        rfl
      · exact absurd g (by omega)
    · exact absurd h (by omega)
  obtain ⟨x, D1, e, rfl, rfl⟩ := H
  exact e
theorem eM_against {u w : Nat} (hA : AB A B) (s : SrM E A B S) (hu : A ≤ u ∧ u ≤ B) (hw : A ≤ w ∧ w ≤ B) : ∃ v : Int64, fX11_against (nI A) (nI u) (nI w) E = some (v, E) ∧ v.toInt = rk S u w := by
  refine ⟨(S u).toInt64 * (nI w).toInt64 - (S w).toInt64 * (nI u).toInt64, ?_, ?_⟩
  · unfold fX11_against
    rw [nI_sub hu.1 (by omega), nI_sub hw.1 (by omega), nI_clamp (show u - A < 2 ^ 31 by omega), nI_clamp (show w - A < 2 ^ 31 by omega), s u hu.1 hu.2, s w hw.1 hw.2, aIn_ok (vp_in_nI (by omega) (by decide)), aIn_ok (vp_in_nI (by omega) (by decide))]
  · have b1 := mb_of (ti_lo (S u)) (ti_hi (S u)) (show (0 : Int) ≤ (w : Int) by omega) (show (w : Int) ≤ 2000 by omega)
    have b2 := mb_of (ti_lo (S w)) (ti_hi (S w)) (show (0 : Int) ≤ (u : Int) by omega) (show (u : Int) ≤ 2000 by omega)
    exact tl_sub (lp_of _ (by omega)) (lp_of _ (by omega)) (by omega) (by omega)
theorem cmp0_lt {v : Int64} : aCmp v 0 < 0 ↔ v.toInt < 0 := by
  show lg_cmp v 0 < 0 ↔ _
  rw [lg_cmp_lt, Int64.lt_iff_toInt_lt]
  rfl
/-- the best of A .. A + i: the later wins a tie -/
def bst (S : Nat → Int32) (A : Nat) : Nat → Nat
  | 0 => A
  | i + 1 => if rk S (A + i + 1) (bst S A i) < 0 then bst S A i else A + i + 1
theorem bst_in (S : Nat → Int32) (A i : Nat) : A ≤ bst S A i ∧ bst S A i ≤ A + i := by
  induction i with
  | zero => exact ⟨Nat.le_refl _, Nat.le_refl _⟩
  | succ i ih =>
    unfold bst
    split <;> omega
theorem bst_s (S : Nat → Int32) {A k : Nat} (h : A + 1 ≤ k) : bst S A (k + 1 - 1 - A) = if rk S k (bst S A (k - 1 - A)) < 0 then bst S A (k - 1 - A) else k := by
  rw [show k + 1 - 1 - A = (k - 1 - A) + 1 by omega]
  show (if rk S (A + (k - 1 - A) + 1) (bst S A (k - 1 - A)) < 0 then _ else A + (k - 1 - A) + 1) = _
  rw [show A + (k - 1 - A) + 1 = k by omega]
theorem eX_bestUnit (hA : AB A B) (s : SrX D A B S) : fX7_bestUnit D = some (nI (bst S A (B - A)), D) := by
  have s' := s
  obtain ⟨s0, s1, s2⟩ := s
  have vB : (nI B).toInt = (B : Int) := nI_toInt (by omega)
  have H : Wp (fX7_bestUnit D) (fun x D1 => D1 = D ∧ x = nI (bst S A (B - A))) := by
    unfold fX7_bestUnit
    rw [s0]
    refine Wp.lets (Wp.lets (Wp.lets (Wp.lets (Wp.go2 (fun k y D' => D' = D ∧ A + 1 ≤ k ∧ y = nI (bst S A (k - 1 - A))) (B + 1) (by omega) (fun g k y D' hk hI K => ?_) (k0 := A + 1) (nI_succ A).symm (by omega) ⟨rfl, by omega, ?_⟩))))
    · obtain ⟨e, i1, rfl⟩ := hI
      subst e
      have vk : (nI k).toInt = (k : Int) := nI_toInt (by omega)
      have bi := bst_in S A (k - 1 - A)
      unfold lX7_bestUnit_12
      rw [s1]
      refine Wp.ilt (fun q => Wp.ret ⟨rfl, ?_⟩) (fun q => Wp.bindE (eX_compare hA s' (u := k) (w := bst S A (k - 1 - A)) (by omega) (by omega)) (Wp.lets (Wp.ite (fun c => Wp.lets (K (by omega) _ _ ⟨rfl, by omega, ?_⟩)) (fun c => Wp.lets (K (by omega) _ _ ⟨rfl, by omega, ?_⟩)))))
      · rw [show k - 1 - A = B - A by omega]
      · rw [bst_s S i1, if_pos (sg_lt.mp c)]
      · rw [bst_s S i1, if_neg (fun z => c (sg_lt.mpr z))]
    · rw [show A + 1 - 1 - A = 0 by omega]
      rfl
  obtain ⟨x, D1, e, rfl, rfl⟩ := H
  exact e
/-- the score of a pile by a unit -/
noncomputable def scS (D : ADD) (L : List Nat) (u : Nat) : Int32 := nI u * nI L.length - 4 * sumL (ofS D (nI u)) L
theorem PilX.fr {D2 : ADD} (p : PilX D D1 L) (f : ∀ c, c ≠ 50 → c ≠ 51 → D2.1 c = D1.1 c) : PilX D D2 L := by
  obtain ⟨p1, p2, p3⟩ := p
  refine ⟨by rw [f 43 (by decide) (by decide)]; exact p1, p2, fun i s h => ?_⟩
  rw [f 44 (by decide) (by decide), f 45 (by decide) (by decide), f 46 (by decide) (by decide), f 47 (by decide) (by decide), f 48 (by decide) (by decide)]
  exact p3 i s h
theorem bX_scoreUnits (hA : AB A B) (p : PilX D D1 L) : Wp (fX7_scoreUnits (nI A) (nI B) D1) (fun _ D2 => (∀ c, c ≠ 50 → c ≠ 51 → D2.1 c = D1.1 c) ∧ SrX D2 A B (scS D L)) := by
  have vA : (nI A).toInt = (A : Int) := nI_toInt (by omega)
  have vB : (nI B).toInt = (B : Int) := nI_toInt (by omega)
  have hm : aMin (nI B) (nI A + 300) = nI B := by
    apply ti_eq
    have e : (nI A + 300).toInt = (nI A).toInt + 300 := ti_add rfl (by decide) (by omega) (by omega)
    rw [ti_min, e]
    omega
  unfold fX7_scoreUnits
  rw [hm]
  refine Wp.lets (Wp.lets (Wp.lets (Wp.lets (Wp.lets (Wp.go1 (fun k D2 => A ≤ k ∧ (∀ c, c ≠ 50 → c ≠ 51 → D2.1 c = D1.1 c) ∧ D2.1 50 0 = nI A ∧ D2.1 50 1 = nI B ∧ ∀ u, A ≤ u → u < k → D2.1 51 (u - A) = scS D L u) (B + 1) (by omega) (fun g k D2 hk hI K => ?_) (k0 := A) rfl (by omega) ⟨by omega, fun c c1 c2 => by rw [si_o c1, si_o c1], rfl, rfl, fun u h1 h2 => absurd h1 (by omega)⟩)))))
  obtain ⟨i0, i1, i2, i3, i4⟩ := hI
  have vk : (nI k).toInt = (k : Int) := nI_toInt (by omega)
  unfold lX7_scoreUnits_24
  rw [i2, i3]
  refine Wp.ilt (fun q => Wp.ret ⟨i1, i2, i3, fun u h1 h2 => i4 u h1 (by omega)⟩) (fun q => Wp.bindE (pil_score (p.fr i1) _) ?_)
  rw [nI_sub i0 (by omega), nI_clamp (show k - A < 2 ^ 31 by omega)]
  refine Wp.idx (vp_in_nI (by omega) (by decide)) (Wp.lets (Wp.lets (K (by omega) _ ⟨by omega, fun c c1 c2 => by rw [si_o c2, i1 c c1 c2], by rw [si_o (by decide)]; exact i2, by rw [si_o (by decide)]; exact i3, fun u h1 h2 => ?_⟩)))
  rw [si_s]
  by_cases e : u = k
  · rw [e, if_pos rfl]
    rfl
  · rw [if_neg (by omega), i4 u h1 (by omega)]
theorem CR.fr36 {E2 : ADD} (c : CR D E1 N P) (f : ∀ c, c ≠ 36 → E2.1 c = E1.1 c) : CR D E2 N P := by
  obtain ⟨⟨c1, c2⟩, c3⟩ := c
  refine ⟨⟨by rw [f 0 (by decide)]; exact c1, c2⟩, fun k hk => ?_⟩
  unfold FcR
  rw [f 35 (by decide), f 33 (by decide), f 34 (by decide), f 32 (by decide)]
  exact c3 k hk
theorem bM_findScores (hA : AB A B) (c : CR D E1 N P) : Wp (fX11_findScores (nI A) (nI B) E1) (fun _ E2 => (∀ c, c ≠ 36 → E2.1 c = E1.1 c) ∧ SrM E2 A B (scS D (chL P N))) := by
  have vB : (nI B).toInt = (B : Int) := nI_toInt (by omega)
  unfold fX11_findScores
  refine Wp.lets (Wp.lets (Wp.go1 (fun k E2 => A ≤ k ∧ (∀ c, c ≠ 36 → E2.1 c = E1.1 c) ∧ ∀ u, A ≤ u → u < k → E2.1 36 (u - A) = scS D (chL P N) u) (B + 1) (by omega) (fun g k E2 hk hI K => ?_) (k0 := A) rfl (by omega) ⟨by omega, fun _ _ => rfl, fun u h1 h2 => absurd h1 (by omega)⟩))
  obtain ⟨i0, i1, i2⟩ := hI
  have vk : (nI k).toInt = (k : Int) := nI_toInt (by omega)
  unfold lX11_findScores_2
  refine Wp.ilt (fun q => Wp.ret ⟨i1, fun u h1 h2 => i2 u h1 (by omega)⟩) (fun q => Wp.bindE (bM_scoreOf (c.fr36 i1) (by omega)) ?_)
  rw [nI_sub i0 (by omega), nI_clamp (show k - A < 2 ^ 31 by omega)]
  refine Wp.idx (vp_in_nI (by omega) (by decide)) (Wp.lets (Wp.lets (K (by omega) _ ⟨by omega, fun c hc => by rw [si_o hc, i1 c hc], fun u h1 h2 => ?_⟩)))
  rw [si_s]
  by_cases e : u = k
  · rw [e, if_pos rfl, sum_lin]
    rfl
  · rw [if_neg (by omega), i2 u h1 (by omega)]
theorem bM_bestOf (hA : AB A B) (c : CR D E1 N P) : Wp (fX11_bestOf (nI A) (nI B) E1) (fun r E2 => (∀ c, c ≠ 36 → E2.1 c = E1.1 c) ∧ SrM E2 A B (scS D (chL P N)) ∧ r = nI (bst (scS D (chL P N)) A (B - A))) := by
  have vB : (nI B).toInt = (B : Int) := nI_toInt (by omega)
  unfold fX11_bestOf
  refine Wp.bind (bM_findScores hA c) (fun _ E2 q => ?_)
  obtain ⟨q1, q2⟩ := q
  generalize scS D (chL P N) = S at q2 ⊢
  refine Wp.lets (Wp.lets (Wp.lets (Wp.go2 (fun k y D' => D' = E2 ∧ A + 1 ≤ k ∧ y = nI (bst S A (k - 1 - A))) (B + 1) (by omega) (fun g k y D' hk hI K => ?_) (k0 := A + 1) (nI_succ A).symm (by omega) ⟨rfl, by omega, ?_⟩)))
  · obtain ⟨e, i1, rfl⟩ := hI
    subst e
    have vk : (nI k).toInt = (k : Int) := nI_toInt (by omega)
    have bi := bst_in S A (k - 1 - A)
    unfold lX11_bestOf_13
    refine Wp.ilt (fun q => Wp.ret ⟨q1, q2, ?_⟩) (fun q => ?_)
    · rw [show k - 1 - A = B - A by omega]
    · obtain ⟨v, e1, e2⟩ := eM_against hA q2 (u := k) (w := bst S A (k - 1 - A)) (by omega) (by omega)
      refine Wp.bindE e1 (Wp.lets (Wp.ite (fun c => Wp.lets (K (by omega) _ _ ⟨rfl, by omega, ?_⟩)) (fun c => Wp.lets (K (by omega) _ _ ⟨rfl, by omega, ?_⟩))))
      · rw [bst_s S i1, if_pos (by rw [← e2]; exact cmp0_lt.mp c)]
      · rw [bst_s S i1, if_neg (fun z => c (cmp0_lt.mpr (by rw [e2]; exact z)))]
  · rw [show A + 1 - 1 - A = 0 by omega]
    rfl
end SRs
section BSs
variable {D E E1 : ADD} {n0 : Nat} {P : APD}
/-- the best unit of a pile, -1 of an empty one -/
noncomputable def bsV (D : ADD) (L : List Nat) (a b : Int32) : Int32 := if L.length = 0 then -1 else nI (bst (scS D L) a.toNatClampNeg (b.toNatClampNeg - a.toNatClampNeg))
theorem UR.ab {a b : Int32} (h : UR a b 300) : AB a.toNatClampNeg b.toNatClampNeg ∧ a = nI a.toNatClampNeg ∧ b = nI b.toNatClampNeg := by
  obtain ⟨h0, h1, h2, h3⟩ := h
  have ea := cl_i (show 0 ≤ a.toInt by omega)
  have eb := cl_i (show 0 ≤ b.toInt by omega)
  exact ⟨⟨by omega, by omega, by omega, by omega⟩, nI_val (by omega), nI_val (by omega)⟩
theorem bX_bestAmong {k v a b : Int32} (q : QX D) (h : RBk (xc D) (mB E)) (hU : UR a b 300) : Wp (fX10_bestAmong k v a b D) (fun r _ => r = bsV D (chL (fun s => thE E s ∧ blX D k v (nI s)) (nS (mB E))) a b) := by
  obtain ⟨hA, ea, eb⟩ := UR.ab hU
  unfold fX10_bestAmong
  refine Wp.bind (gaK q h k v) (fun x D1 p => ?_)
  obtain ⟨rfl, -, p⟩ := p
  generalize chL (fun s => thE E s ∧ blX D k v (nI s)) (nS (mB E)) = L at p ⊢
  have m := (pil_m p).1
  have l2 := p.2.1
  have vl : (nI L.length).toInt = (L.length : Int) := nI_toInt (by omega)
  unfold bsV
  refine Wp.ite (fun z => Wp.ret ?_) (fun z => ?_)
  · rw [if_pos (by rw [m] at z; rw [z, ti_0] at vl; omega)]
  · rw [if_neg (fun y => z (by rw [m, y]; rfl))]
    generalize a.toNatClampNeg = A at *
    generalize b.toNatClampNeg = B at *
    subst ea eb
    exact Wp.bind (bX_scoreUnits hA p) (fun _ D2 s => Wp.bindE (eX_bestUnit hA s.2) (Wp.ret rfl))
theorem jr_best {a b : Int32} (h : IR RF n0 P E) : BR RF n0 P id (fX10_best a b P.2) (fX11_best a b E) := by
  obtain ⟨hb, ⟨tp, fl, w, pr⟩, hc⟩ := h.nowF
  have qx := h.1.2.1.2.qx
  have qm := h.1.2.2.1.qm
  have e3 : (300 : Int32).toInt = 300 := by decide
  refine h.askE (v := if UR a b 300 then bsV P.2 (cL0 P.2 E) a b else -1) (fun q => oX_best q) (fun q => oM_best q) ?_ ?_
  · unfold fX10_best
    refine Wp.bindE (eX_isRange _ _ _ _) (Wp.lets ?_)
    rw [e3]
    by_cases hU : UR a b 300
    · rw [if_pos hU, if_pos hU]
      refine Wp.neg (by decide) (Wp.bind (bX_bestAmong qx hb hU) (fun r D2 z => Wp.ret ?_))
      rw [z]
      unfold cL0
      rw [chL_cg (fun s _ => and_congr_right (fun _ => bl_0))]
    · rw [if_neg hU, if_neg hU]
      exact Wp.pos rfl (Wp.ret rfl)
  · unfold fX11_best
    refine Wp.lets (Wp.bindE (eM_areUnits _ _ _) ?_)
    by_cases hU : UR a b 300
    · rw [if_pos hU, if_pos hU]
      refine Wp.neg (by decide) (Wp.bind (lk0 qm hb w hc) (fun _ E1 l => Wp.bindE (bM_those l.2) (Wp.lets ?_)))
      obtain ⟨hA, ea, eb⟩ := UR.ab hU
      have cr := l.2
      have c2 : (cL0 P.2 E).length ≤ 32 := Nat.le_trans chL_len cr.1.2
      have vl : (nI (cL0 P.2 E).length).toInt = ((cL0 P.2 E).length : Int) := nI_toInt (by omega)
      unfold bsV
      refine Wp.ile (fun z => Wp.ret ?_) (fun z => ?_)
      · have z : (nI (cL0 P.2 E).length).toInt ≤ (0 : Int32).toInt := z
        rw [if_pos (by rw [vl, ti_0] at z; omega)]
      · have z : (0 : Int32).toInt < (nI (cL0 P.2 E).length).toInt := z
        rw [if_neg (by rw [vl, ti_0] at z; omega)]
        generalize a.toNatClampNeg = A at *
        generalize b.toNatClampNeg = B at *
        subst ea eb
        exact Wp.bind (bM_bestOf hA cr) (fun r E2 s => Wp.ret s.2.2)
    · rw [if_neg hU, if_neg hU]
      exact Wp.pos rfl (Wp.ret rfl)
end BSs
end
section
/-! folds over the chosen, both sides; sum -/
section FOs
variable {E1 D D1 : ADD} {N : Nat} {P : Nat → Prop} {L : List Nat} {ρ σ τ : Type} {Q : ρ → ADD → Prop}
theorem bM_fold1 (Inv : List Nat → ADD → Prop) {F : (Int32 → ADD → Option (ρ × ADD)) → Int32 → ADD → Option (ρ × ADD)} {z : Int32 → ADD → Option (ρ × ADD)} (hN : N ≤ 32) (hF : ∀ g E2 k, k < N → Inv (chL P k) E2 → (∀ E3, (P k → Inv (chL P k ++ [k]) E3) → (¬ P k → Inv (chL P k) E3) → Wp (g (nI k + 1) E3) Q) → Wp (F g (nI k) E2) Q) (hE : ∀ g E2, Inv (chL P N) E2 → Wp (F g (nI N) E2) Q) (h0 : Inv [] E1) : Wp (aFix aFuel F z 0 E1) Q := by
  refine Wp.go1 (fun k E2 => Inv (chL P k) E2) N (by omega) (fun g k E2 hk hI K => ?_) (k0 := 0) rfl (Nat.zero_le _) (by show Inv (chL P 0) E1; rw [chL_0]; exact h0)
  by_cases e : k = N
  · subst e
    exact hE g E2 hI
  · refine hF g E2 k (by omega) hI (fun E3 a b => K (by omega) E3 ?_)
    show Inv (chL P (k + 1)) E3
    by_cases p : P k
    · rw [chL_t p]; exact a p
    · rw [chL_f p]; exact b p
theorem bM_fold2 (Inv : List Nat → σ → ADD → Prop) {F : (σ → Int32 → ADD → Option (ρ × ADD)) → σ → Int32 → ADD → Option (ρ × ADD)} {z : σ → Int32 → ADD → Option (ρ × ADD)} {y0 : σ} (hN : N ≤ 32) (hF : ∀ g y E2 k, k < N → Inv (chL P k) y E2 → (∀ y' E3, (P k → Inv (chL P k ++ [k]) y' E3) → (¬ P k → Inv (chL P k) y' E3) → Wp (g y' (nI k + 1) E3) Q) → Wp (F g y (nI k) E2) Q) (hE : ∀ g y E2, Inv (chL P N) y E2 → Wp (F g y (nI N) E2) Q) (h0 : Inv [] y0 E1) : Wp (aFix aFuel F z y0 0 E1) Q := by
  refine Wp.go2 (fun k y E2 => Inv (chL P k) y E2) N (by omega) (fun g k y E2 hk hI K => ?_) (k0 := 0) rfl (Nat.zero_le _) (by show Inv (chL P 0) y0 E1; rw [chL_0]; exact h0)
  by_cases e : k = N
  · subst e
    exact hE g y E2 hI
  · refine hF g y E2 k (by omega) hI (fun y' E3 a b => K (by omega) y' E3 ?_)
    show Inv (chL P (k + 1)) y' E3
    by_cases p : P k
    · rw [chL_t p]; exact a p
    · rw [chL_f p]; exact b p
theorem bM_fold3 (Inv : List Nat → σ → τ → ADD → Prop) {F : (σ → τ → Int32 → ADD → Option (ρ × ADD)) → σ → τ → Int32 → ADD → Option (ρ × ADD)} {z : σ → τ → Int32 → ADD → Option (ρ × ADD)} {y0 : σ} {w0 : τ} (hN : N ≤ 32) (hF : ∀ g y w E2 k, k < N → Inv (chL P k) y w E2 → (∀ y' w' E3, (P k → Inv (chL P k ++ [k]) y' w' E3) → (¬ P k → Inv (chL P k) y' w' E3) → Wp (g y' w' (nI k + 1) E3) Q) → Wp (F g y w (nI k) E2) Q) (hE : ∀ g y w E2, Inv (chL P N) y w E2 → Wp (F g y w (nI N) E2) Q) (h0 : Inv [] y0 w0 E1) : Wp (aFix aFuel F z y0 w0 0 E1) Q := by
  refine Wp.go3 (fun k y w E2 => Inv (chL P k) y w E2) N (by omega) (fun g k y w E2 hk hI K => ?_) (k0 := 0) rfl (Nat.zero_le _) (by show Inv (chL P 0) y0 w0 E1; rw [chL_0]; exact h0)
  by_cases e : k = N
  · subst e
    exact hE g y w E2 hI
  · refine hF g y w E2 k (by omega) hI (fun y' w' E3 a b => K (by omega) y' w' E3 ?_)
    show Inv (chL P (k + 1)) y' w' E3
    by_cases p : P k
    · rw [chL_t p]; exact a p
    · rw [chL_f p]; exact b p
theorem bX_fold1 (Inv : List Nat → ADD → Prop) {F : (Int32 → ADD → Option (ρ × ADD)) → Int32 → ADD → Option (ρ × ADD)} {z : Int32 → ADD → Option (ρ × ADD)} (hL : L.length ≤ 32) (hF : ∀ g D2 i s, L[i]? = some s → Inv (L.take i) D2 → (∀ D3, Inv (L.take i ++ [s]) D3 → Wp (g (nI i + 1) D3) Q) → Wp (F g (nI i) D2) Q) (hE : ∀ g D2, Inv L D2 → Wp (F g (nI L.length) D2) Q) (h0 : Inv [] D1) : Wp (aFix aFuel F z 0 D1) Q := by
  refine Wp.go1 (fun k D2 => Inv (L.take k) D2) L.length (by omega) (fun g k D2 hk hI K => ?_) (k0 := 0) rfl (Nat.zero_le _) (by show Inv (L.take 0) D1; rw [List.take_zero]; exact h0)
  by_cases e : k = L.length
  · have hI : Inv (L.take k) D2 := hI
    rw [e, List.take_length] at hI
    rw [e]
    exact hE g D2 hI
  · have hk2 : k < L.length := by omega
    have hs : L[k]? = some L[k] := List.getElem?_eq_getElem hk2
    refine hF g D2 k _ hs hI (fun D3 a => K hk2 D3 ?_)
    show Inv (L.take (k + 1)) D3
    rw [List.take_add_one, hs]
    exact a
theorem bX_fold2 (Inv : List Nat → σ → ADD → Prop) {F : (σ → Int32 → ADD → Option (ρ × ADD)) → σ → Int32 → ADD → Option (ρ × ADD)} {z : σ → Int32 → ADD → Option (ρ × ADD)} {y0 : σ} (hL : L.length ≤ 32) (hF : ∀ g y D2 i s, L[i]? = some s → Inv (L.take i) y D2 → (∀ y' D3, Inv (L.take i ++ [s]) y' D3 → Wp (g y' (nI i + 1) D3) Q) → Wp (F g y (nI i) D2) Q) (hE : ∀ g y D2, Inv L y D2 → Wp (F g y (nI L.length) D2) Q) (h0 : Inv [] y0 D1) : Wp (aFix aFuel F z y0 0 D1) Q := by
  refine Wp.go2 (fun k y D2 => Inv (L.take k) y D2) L.length (by omega) (fun g k y D2 hk hI K => ?_) (k0 := 0) rfl (Nat.zero_le _) (by show Inv (L.take 0) y0 D1; rw [List.take_zero]; exact h0)
  by_cases e : k = L.length
  · have hI : Inv (L.take k) y D2 := hI
    rw [e, List.take_length] at hI
    rw [e]
    exact hE g y D2 hI
  · have hk2 : k < L.length := by omega
    have hs : L[k]? = some L[k] := List.getElem?_eq_getElem hk2
    refine hF g y D2 k _ hs hI (fun y' D3 a => K hk2 y' D3 ?_)
    show Inv (L.take (k + 1)) y' D3
    rw [List.take_add_one, hs]
    exact a
end FOs
/-! sum -/
theorem sm_term {a b x y : Int32} (ha : 10 ≤ a.toInt ∧ a.toInt ≤ 2000) (hb : 10 ≤ b.toInt ∧ b.toInt ≤ 2000) (hx : 0 ≤ x.toInt ∧ x.toInt ≤ a.toInt) (hy : 0 ≤ y.toInt ∧ y.toInt ≤ b.toInt) : (if y * a < x * b then (b - 4 * y).toInt64 * a.toInt64 else (a - 4 * x).toInt64 * b.toInt64) = a.toInt64 * b.toInt64 - 4 * (aMin (x * b) (y * a)).toInt64 := by
  have p1 : 0 ≤ x.toInt * b.toInt := Int.mul_nonneg hx.1 (by omega)
  have p2 : x.toInt * b.toInt ≤ 2000 * b.toInt := Int.mul_le_mul_of_nonneg_right (by omega) (by omega)
  have p3 : 0 ≤ y.toInt * a.toInt := Int.mul_nonneg hy.1 (by omega)
  have p4 : y.toInt * a.toInt ≤ 2000 * a.toInt := Int.mul_le_mul_of_nonneg_right (by omega) (by omega)
  have p5 : 0 ≤ a.toInt * b.toInt := Int.mul_nonneg (by omega) (by omega)
  have p6 : a.toInt * b.toInt ≤ 2000 * b.toInt := Int.mul_le_mul_of_nonneg_right (by omega) (by omega)
  have e1 : (b.toInt - 4 * y.toInt) * a.toInt = a.toInt * b.toInt - 4 * (y.toInt * a.toInt) := by rw [Int.sub_mul, Int.mul_assoc, Int.mul_comm b.toInt]
  have e2 : (a.toInt - 4 * x.toInt) * b.toInt = a.toInt * b.toInt - 4 * (x.toInt * b.toInt) := by rw [Int.sub_mul, Int.mul_assoc]
  have xb := ti_mul (rfl : x.toInt = _) (rfl : b.toInt = _) (by omega) (by omega)
  have ya := ti_mul (rfl : y.toInt = _) (rfl : a.toInt = _) (by omega) (by omega)
  have mn : (aMin (x * b) (y * a)).toInt = min (x.toInt * b.toInt) (y.toInt * a.toInt) := by rw [ti_min, xb, ya]
  have y4 : (4 * y).toInt = 4 * y.toInt := ti_mul (by decide) rfl (by omega) (by omega)
  have x4 : (4 * x).toInt = 4 * x.toInt := ti_mul (by decide) rfl (by omega) (by omega)
  have by4 := ti_sub (rfl : b.toInt = _) y4 (by omega) (by omega)
  have ax4 := ti_sub (rfl : a.toInt = _) x4 (by omega) (by omega)
  have l1 := tl_mul (x := (b - 4 * y).toInt64) (y := a.toInt64) (by rw [Int32.toInt_toInt64, by4]) (Int32.toInt_toInt64 a) (by rw [e1]; omega) (by rw [e1]; omega)
  have l2 := tl_mul (x := (a - 4 * x).toInt64) (y := b.toInt64) (by rw [Int32.toInt_toInt64, ax4]) (Int32.toInt_toInt64 b) (by rw [e2]; omega) (by rw [e2]; omega)
  have ab := tl_mul (Int32.toInt_toInt64 a) (Int32.toInt_toInt64 b) (by omega) (by omega)
  have m4 : (4 * (aMin (x * b) (y * a)).toInt64).toInt = 4 * min (x.toInt * b.toInt) (y.toInt * a.toInt) := tl_mul (by decide) (by rw [Int32.toInt_toInt64, mn]) (by omega) (by omega)
  have r := tl_sub ab m4 (by omega) (by omega)
  apply Int64.toInt_inj.mp
  rw [r]
  split
  · next c =>
    have c1 := Int32.lt_iff_toInt_lt.mp c
    rw [ya, xb] at c1
    rw [l1, e1]
    omega
  · next c =>
    have c1 : ¬ (y * a).toInt < (x * b).toInt := fun q => c (Int32.lt_iff_toInt_lt.mpr q)
    rw [ya, xb] at c1
    rw [l2, e2]
    omega
theorem nIl_succ {n : Nat} (h : n < 1000) : (nI (n + 1)).toInt64 = (nI n).toInt64 + 1 := by
  apply Int64.toInt_inj.mp
  rw [Int64.toInt_add, Int32.toInt_toInt64, Int32.toInt_toInt64, nI_toInt (by omega), nI_toInt (by omega)]
  rw [show (1 : Int64).toInt = 1 from by decide]
  symm
  apply Int.bmod_eq_of_le <;> omega
theorem sumq_lin {T : Int64} {m : Nat → Int64} (L : List Nat) (hL : L.length ≤ 32) : L.foldl (fun y s => y + (T - 4 * m s)) 0 = T * (nI L.length).toInt64 - 4 * L.foldl (fun y s => y + m s) 0 := by
  have step : ∀ (L : List Nat) (A F : Int64) (n : Nat), n + L.length ≤ 32 → A = T * (nI n).toInt64 - 4 * F → L.foldl (fun y s => y + (T - 4 * m s)) A = T * (nI (n + L.length)).toInt64 - 4 * L.foldl (fun y s => y + m s) F := by
    intro L
    induction L with
    | nil => intro A F n _ h; exact h
    | cons x L ih =>
      intro A F n hn h
      have hn : n + (L.length + 1) ≤ 32 := hn
      show List.foldl _ (A + (T - 4 * m x)) L = T * (nI (n + (L.length + 1))).toInt64 - 4 * List.foldl _ (F + m x) L
      rw [show n + (L.length + 1) = n + 1 + L.length by omega]
      refine ih _ _ (n + 1) (by omega) ?_
      rw [h, nIl_succ (by omega), Int64.mul_add, Int64.mul_add, Int64.mul_one, Int64.sub_eq_add_neg, Int64.sub_eq_add_neg, Int64.sub_eq_add_neg, Int64.neg_add, Int64.sub_eq_add_neg]
      ac_rfl
  have := step L 0 0 0 (by omega) (by rw [show (nI 0).toInt64 = 0 from rfl, Int64.mul_zero, Int64.mul_zero]; rfl)
  rw [Nat.zero_add] at this
  exact this
section SMs
variable {D D1 E E1 : ADD} {N n0 : Nat} {R : Nat → Prop} {L : List Nat} {P : APD}
noncomputable def mnS (D : ADD) (a b : Int32) (s : Nat) : Int32 := aMin (ofS D a s * b) (ofS D b s * a)
theorem bX_sumOfTwo {a b : Int32} (p : PilX D D1 L) : fX7_sumOfTwo a b D1 = some (a.toInt64 * b.toInt64 * (nI L.length).toInt64 - 4 * L.foldl (fun y s => y + (mnS D a b s).toInt64) 0, D1) := by
  have m := (pil_m p).1
  have l2 := p.2.1
  have vn : (nI L.length).toInt = (L.length : Int) := nI_toInt (by omega)
  have H : Wp (fX7_sumOfTwo a b D1) (fun x D2 => D2 = D1 ∧ x = a.toInt64 * b.toInt64 * (nI L.length).toInt64 - 4 * L.foldl (fun y s => y + (mnS D a b s).toInt64) 0) := by
    unfold fX7_sumOfTwo
    refine Wp.lets (Wp.lets (bX_fold2 (L := L) (fun l y D' => D' = D1 ∧ y = l.foldl (fun y s => y + (mnS D a b s).toInt64) 0) l2 (fun g y D2 i s hs hI K => ?_) (fun g y D2 hI => ?_) ⟨rfl, rfl⟩))
    · obtain ⟨rfl, rfl⟩ := hI
      have hl := (List.getElem?_eq_some_iff.mp hs).1
      have vi : (nI i).toInt = (i : Int) := nI_toInt (by omega)
      unfold lX7_sumOfTwo_6
      rw [m]
      refine Wp.ile (fun q => absurd q (by omega)) (fun _ => Wp.bindE (eX_offOf _ _ _) (Wp.bindE (eX_offOf _ _ _) (Wp.lets (Wp.lets (K _ _ ⟨rfl, ?_⟩)))))
      rw [p.off a hs, p.off b hs, List.foldl_append]
      rfl
    · obtain ⟨rfl, rfl⟩ := hI
      unfold lX7_sumOfTwo_6
      rw [m]
      refine Wp.pos (Int32.le_refl _) (Wp.ret ⟨rfl, ?_⟩)
      rw [m]
  obtain ⟨x, D2, e, rfl, rfl⟩ := H
  exact e
theorem CR.ofs {a : Int32} {k : Nat} (c : CR D E1 N R) (hk : k < N) (hp : R k) (ha : 10 ≤ a.toInt ∧ a.toInt ≤ 2000) : 0 ≤ (ofS D a k).toInt ∧ (ofS D a k).toInt ≤ a.toInt := (off_eq (c.k1 hk hp).2.2.2 ha).2
theorem bM_sumOf {a b : Int32} (c : CR D E1 N R) (ha : 10 ≤ a.toInt ∧ a.toInt ≤ 2000) (hb : 10 ≤ b.toInt ∧ b.toInt ≤ 2000) : fX11_sumOf a b E1 = some (a.toInt64 * b.toInt64 * (nI (chL R N).length).toInt64 - 4 * (chL R N).foldl (fun y s => y + (mnS D a b s).toInt64) 0, E1) := by
  have c' := c
  obtain ⟨⟨c1, c2⟩, c3⟩ := c
  rw [← sumq_lin _ (Nat.le_trans chL_len c2)]
  have H : Wp (fX11_sumOf a b E1) (fun x D2 => D2 = E1 ∧ x = (chL R N).foldl (fun y s => y + (a.toInt64 * b.toInt64 - 4 * (mnS D a b s).toInt64)) 0) := by
    unfold fX11_sumOf
    refine Wp.lets (Wp.lets (bM_fold2 (P := R) (N := N) (fun l y D' => D' = E1 ∧ y = l.foldl (fun y s => y + (a.toInt64 * b.toInt64 - 4 * (mnS D a b s).toInt64)) 0) c2 (fun g y E2 k hk hI K => ?_) (fun g y E2 hI => ?_) ⟨rfl, rfl⟩))
    · obtain ⟨e, rfl⟩ := hI
      subst e
      unfold lX11_sumOf_5
      have vk : (nI k).toInt = (k : Int) := nI_toInt (by omega)
      have vn : (nI N).toInt = (N : Int) := nI_toInt (by omega)
      rw [c1, nI_clamp (show k < 2 ^ 31 by omega)]
      refine Wp.ile (fun q => absurd q (by omega)) (fun _ => Wp.idx (vp_in_nI (by omega) (by decide)) (Wp.lets ?_))
      have b0 := bz_Bo (c3 k hk).1
      refine Wp.ite (fun q => Wp.lets (K _ _ (fun z => absurd z (b0.mp q)) (fun _ => ⟨rfl, rfl⟩))) (fun q => ?_)
      have pk : R k := Classical.byContradiction (fun z => q (b0.mpr z))
      have T := sm_term ha hb (c'.ofs hk pk ha) (c'.ofs hk pk hb)
      have fin : ∀ v : Int64, v = (if ofS D b k * a < ofS D a k * b then (b - 4 * ofS D b k).toInt64 * a.toInt64 else (a - 4 * ofS D a k).toInt64 * b.toInt64) → Wp (g ((chL R k).foldl (fun y s => y + (a.toInt64 * b.toInt64 - 4 * (mnS D a b s).toInt64)) 0 + v) (nI k + 1) E2) (fun x D2 => D2 = E2 ∧ x = (chL R N).foldl (fun y s => y + (a.toInt64 * b.toInt64 - 4 * (mnS D a b s).toInt64)) 0) := by
        intro v hv
        refine K _ _ (fun _ => ⟨rfl, ?_⟩) (fun z => absurd pk z)
        rw [List.foldl_append, hv, T]
        rfl
      exact Wp.bindE (k1_off (c'.k1 hk pk) ha) (Wp.bindE (k1_off (c'.k1 hk pk) hb) (Wp.lets (Wp.ite (fun y => Wp.lets (Wp.lets (fin _ (by rw [if_pos y])))) (fun y => Wp.lets (Wp.lets (fin _ (by rw [if_neg y])))))))
    · obtain ⟨e, rfl⟩ := hI
      subst e
      unfold lX11_sumOf_5
      rw [c1]
      exact Wp.pos (Int32.le_refl _) (Wp.ret ⟨rfl, rfl⟩)
  obtain ⟨x, D2, e, rfl, rfl⟩ := H
  exact e
noncomputable def suV (D : ADD) (L : List Nat) (a b : Int32) : Int64 := a.toInt64 * b.toInt64 * (nI L.length).toInt64 - 4 * L.foldl (fun y s => y + (mnS D a b s).toInt64) 0
theorem jr_sum {a b : Int32} (h : IR RF n0 P E) : BR RF n0 P id (fX10_sum a b P.2) (fX11_sum a b E) := by
  obtain ⟨hb, ⟨tp, fl, w, pr⟩, hc⟩ := h.nowF
  have qx := h.1.2.1.2.qx
  have qm := h.1.2.2.1.qm
  refine h.askE (v := if (10 ≤ a.toInt ∧ a.toInt ≤ 2000) ∧ (10 ≤ b.toInt ∧ b.toInt ≤ 2000) ∧ a < b then suV P.2 (cL0 P.2 E) a b else -1000000000000) (fun q => oX_sum q) (fun q => oM_sum q) ?_ ?_
  · unfold fX10_sum
    refine Wp.bindE (eX_isUnit _ _) (Wp.lets ?_)
    by_cases ha : 10 ≤ a.toInt ∧ a.toInt ≤ 2000
    · rw [if_pos ha]
      refine Wp.neg (by decide) (Wp.bindE (eX_isUnit _ _) ?_)
      by_cases hb2 : 10 ≤ b.toInt ∧ b.toInt ≤ 2000
      · rw [if_pos hb2]
        refine Wp.neg (by decide) (Wp.ite (fun l => Wp.bind (ga0 qx hb) (fun r D1 k => Wp.bindE (bX_sumOfTwo k.2.2) (Wp.ret ?_))) (fun l => Wp.ret ?_))
        · rw [if_pos ⟨ha, hb2, l⟩]
          rfl
        · rw [if_neg (fun z => l z.2.2)]
      · rw [if_neg hb2]
        refine Wp.pos rfl (Wp.ret ?_)
        rw [if_neg (fun z => hb2 z.2.1)]
    · rw [if_neg ha]
      refine Wp.pos rfl (Wp.ret ?_)
      rw [if_neg (fun z => ha z.1)]
  · unfold fX11_sum
    refine Wp.lets (Wp.bindE (eM_isUnit _ _) (Wp.lets ?_))
    by_cases ha : 10 ≤ a.toInt ∧ a.toInt ≤ 2000
    · rw [if_pos ha]
      refine Wp.neg (by decide) (Wp.bindE (eM_isUnit _ _) ?_)
      by_cases hb2 : 10 ≤ b.toInt ∧ b.toInt ≤ 2000
      · rw [if_pos hb2]
        refine Wp.neg (by decide) (Wp.ite (fun l => Wp.bind (lk0 qm hb w hc) (fun _ E1 k => Wp.bindE (bM_sumOf k.2 ha hb2) (Wp.ret ?_))) (fun l => Wp.ret ?_))
        · rw [if_pos ⟨ha, hb2, l⟩]
          rfl
        · rw [if_neg (fun z => l z.2.2)]
      · rw [if_neg hb2]
        refine Wp.pos rfl (Wp.ret ?_)
        rw [if_neg (fun z => hb2 z.2.1)]
    · rw [if_neg ha]
      refine Wp.pos rfl (Wp.ret ?_)
      rw [if_neg (fun z => ha z.1)]
end SMs
end
section
/-! chance, owner: both sides -/
section CHs
variable {D D1 E E1 : ADD} {N n0 : Nat} {R : Nat → Prop} {L : List Nat} {P : APD}
theorem likely_eq {u w : Int32} (hu : 10 ≤ u.toInt ∧ u.toInt ≤ 2000) (hw : 0 ≤ w.toInt ∧ w.toInt ≤ 60000) : fX11_likely u w E = some (luckyF w u, E) := by
  have ed := ti_div (rfl : u.toInt = _) (show (8 : Int32).toInt = 8 by decide) (by omega) (by omega)
  rw [Int.tdiv_eq_ediv_of_nonneg (by omega)] at ed
  have eu := cl_i (show 0 ≤ u.toInt by omega)
  have H : Wp (fX11_likely u w E) (fun x D2 => D2 = E ∧ x = luckyF w u) := by
    unfold fX11_likely
    refine Wp.lets (Wp.lets (Wp.go2 (fun k y D' => D' = E ∧ y.toInt = min (k : Int) (u.toInt / 8 + 1) + max 0 ((k : Int) - max (u.toInt / 8 + 1) (u.toInt - w.toInt - u.toInt / 8))) u.toNatClampNeg (by omega) (fun g k y D' hk hI K => ?_) (k0 := 0) rfl (Nat.zero_le _) ⟨rfl, ?_⟩))
    · obtain ⟨rfl, hy⟩ := hI
      have vk : (nI k).toInt = (k : Int) := nI_toInt (by omega)
      unfold lX11_likely_4
      refine Wp.ile (fun q => Wp.ret ⟨rfl, ?_⟩) (fun q => Wp.bindE (eM_far _ _ _) (Wp.bindE (eM_far _ _ _) ?_))
      · have e1 : (2 * (u / 8)).toInt = 2 * (u.toInt / 8) := ti_mul (by decide) ed (by omega) (by omega)
        have e2 := ti_add e1 ti_1 (by omega) (by omega)
        have e3 := ti_add e2 (rfl : w.toInt = _) (by omega) (by omega)
        refine ti_eq ?_
        unfold luckyF
        rw [ti_min, e3, hy]
        omega
      · have kw := ti_add vk (rfl : w.toInt = _) (by omega) (by omega)
        have f1 : (farF (nI k) (nI k + w) 0).toInt = (k : Int) := by
          unfold farF
          by_cases c : nI k ≤ 0
          · have c1 := Int32.le_iff_toInt_le.mp c
            rw [vk, ti_0] at c1
            rw [if_pos c, if_pos (Int32.le_iff_toInt_le.mpr (by rw [kw, ti_0]; omega)), ti_0]
            omega
          · rw [if_neg c, ti_sub vk ti_0 (by omega) (by omega)]
            omega
        have f2 : (farF (nI k) (nI k + w) u).toInt = max 0 (u.toInt - ((k : Int) + w.toInt)) := by
          unfold farF
          rw [if_pos (Int32.le_iff_toInt_le.mpr (by rw [vk]; omega))]
          by_cases c : u ≤ nI k + w
          · have c1 := Int32.le_iff_toInt_le.mp c
            rw [kw] at c1
            rw [if_pos c, ti_0]
            omega
          · have c1 : ¬ u.toInt ≤ (k : Int) + w.toInt := fun z => c (Int32.le_iff_toInt_le.mpr (by rw [kw]; exact z))
            rw [if_neg c, ti_sub (rfl : u.toInt = _) kw (by omega) (by omega)]
            omega
        refine Wp.letQ (fun Q j => ∀ x6 : Int32, x6.toInt = min (k : Int) (max 0 (u.toInt - ((k : Int) + w.toInt))) → Wp (j x6 D') Q) (fun x6 h6 => ?_) (fun j K2 => Wp.ile (fun c => K2 _ ?_) (fun c => K2 _ ?_))
        · have e8 : (8 * x6).toInt = 8 * x6.toInt := ti_mul (by decide) rfl (by omega) (by omega)
          refine Wp.lets (Wp.ilt (fun c => Wp.lets (Wp.lets (K (by omega) _ _ ⟨rfl, ?_⟩))) (fun c => Wp.lets (Wp.lets (K (by omega) _ _ ⟨rfl, ?_⟩))))
          · rw [e8] at c
            rw [ti_add hy ti_0 (by omega) (by omega)]
            omega
          · rw [e8] at c
            rw [ti_add hy ti_1 (by omega) (by omega)]
            omega
        · rw [f1, f2] at c
          rw [f2]
          omega
        · rw [f1, f2] at c
          rw [f1]
          omega
    · rw [ti_0]
      omega
  obtain ⟨x, D2, e, rfl, rfl⟩ := H
  exact e
theorem drF_cg {f g : Nat → Int64} {a b : Int32} (h : ∀ j, j ≤ 32 → f j = g j) : ∀ j, j ≤ 32 → drF f a b j = drF g a b j := by
  intro j hj
  unfold drF
  rw [h 0 (by omega), h j hj, h (j - 1) (by omega)]
/-- places that come near by luck -/
noncomputable def luS (D : ADD) (u : Int32) (s : Nat) : Int32 := luckyF (hiX D (nI s) - loX D (nI s)) u
noncomputable def neS (D : ADD) (u : Int32) (s : Nat) : Int32 := if 8 * ofS D u s ≤ u then 1 else 0
noncomputable def chV (D : ADD) (u : Int32) (l : List Nat) : Nat → Int64 := l.foldl (fun f s => drF f (luS D u s) u) pB
theorem chV_snoc {u : Int32} {s : Nat} : chV D u (L ++ [s]) = drF (chV D u L) (luS D u s) u := by
  unfold chV
  rw [List.foldl_append]
  rfl
theorem PilX.luc (p : PilX D D1 L) {i s : Nat} (u : Int32) (h : L[i]? = some s) : lucX D1 (nI i) u = luS D u s := by
  obtain ⟨a, b⟩ := p.has h
  obtain ⟨e1, e2, e3, e4, e5⟩ := p.2.2 i s h
  unfold lucX
  rw [if_pos a, b, e4, e5]
  rfl
theorem sum01 {g : Nat → Int32} (hg : ∀ s, g s = 0 ∨ g s = 1) (L : List Nat) : ∃ c, c ≤ L.length ∧ sumL g L = nI c := by
  have step : ∀ (L : List Nat) (k : Nat), ∃ c, c ≤ L.length ∧ L.foldl (fun a s => a + g s) (nI k) = nI (k + c) := by
    intro L
    induction L with
    | nil => intro k; exact ⟨0, Nat.le_refl _, rfl⟩
    | cons x L ih =>
      intro k
      rcases hg x with e | e
      · obtain ⟨c, h1, h2⟩ := ih k
        refine ⟨c, Nat.le_succ_of_le h1, ?_⟩
        show L.foldl _ (nI k + g x) = _
        rw [e, Int32.add_zero, h2]
      · obtain ⟨c, h1, h2⟩ := ih (k + 1)
        refine ⟨c + 1, Nat.succ_le_succ h1, ?_⟩
        show L.foldl _ (nI k + g x) = _
        rw [e, ← nI_succ, h2, show k + 1 + c = k + (c + 1) by omega]
  obtain ⟨c, h1, h2⟩ := step L 0
  rw [Nat.zero_add] at h2
  exact ⟨c, h1, h2⟩
theorem neS_01 {u : Int32} (s : Nat) : neS D u s = 0 ∨ neS D u s = 1 := by
  unfold neS
  split
  · exact Or.inr rfl
  · exact Or.inl rfl
theorem pil_near (p : PilX D D1 L) (u : Int32) : fX4_nearBy u D1 = some (sumL (neS D u) L, D1) := by
  obtain ⟨m1, m2, m3⟩ := pil_m p
  rw [eX_nearBy u m3, m2, sI_sumL (g := neS D u) (fun j s hs => ?_)]
  unfold neaX neS
  rw [p.off u hs]
theorem bX_ofNear {u n : Int32} (p : PilX D D1 L) (hu : 1 ≤ u.toInt) (hn : 0 ≤ n.toInt ∧ n.toInt ≤ 33) : Wp (fX3_ofNear u n D1) (fun r _ => r = (sL (chV D u L) 0 n.toNatClampNeg (33 - n.toNatClampNeg)).toInt32) := by
  have m := (pil_m p).1
  have l2 := p.2.1
  have vn : (nI L.length).toInt = (L.length : Int) := nI_toInt (by omega)
  have en := cl_i hn.1
  unfold fX3_ofNear
  refine Wp.bind tX3_begin (fun _ D2 q => Wp.lets (Wp.lets ?_))
  refine bX_fold1 (L := L) (fun l D' => D'.1 = D1.1 ∧ ∀ j, j ≤ 32 → D'.2 56 j = chV D u l j) l2 (fun g D3 i s hs hI K => ?_) (fun g D3 hI => ?_) ⟨q.1, q.2⟩
  · unfold lX3_ofNear_7
    have hl := (List.getElem?_eq_some_iff.mp hs).1
    have vi : (nI i).toInt = (i : Int) := nI_toInt (by omega)
    have lu : lucX D3 (nI i) u = luS D u s := by
      have : lucX D3 (nI i) u = lucX D1 (nI i) u := by
        unfold lucX hasX
        rw [hI.1]
      rw [this, p.luc u hs]
    rw [hI.1, m]
    refine Wp.ile (fun q => absurd q (by omega)) (fun _ => Wp.bindE (eX_luckyOf _ _ _) (Wp.bind (tX3_draw hu) (fun _ D4 q4 => Wp.lets (K _ ⟨by rw [q4.1]; exact hI.1, fun j hj => ?_⟩))))
    rw [q4.2 j hj, lu, chV_snoc]
    exact drF_cg hI.2 j hj
  · unfold lX3_ofNear_7
    rw [hI.1, m]
    refine Wp.pos (Int32.le_refl _) (Wp.bind (tX3_from hn.1 hn.2) (fun r D4 q4 => Wp.ret ?_))
    rw [q4.2, sL_congr _ _ _ (fun j h1 h2 => hI.2 j (by omega))]
theorem CR.same {E2 : ADD} (c : CR D E1 N R) (f : E2.1 = E1.1) : CR D E2 N R := c.fr36 (fun k _ => by rw [f])
theorem bM_nearOf {u : Int32} (c : CR D E1 N R) (hu : 10 ≤ u.toInt ∧ u.toInt ≤ 2000) : fX11_nearOf u E1 = some (sumL (neS D u) (chL R N), E1) := by
  have c' := c
  obtain ⟨⟨c1, c2⟩, c3⟩ := c
  have H : Wp (fX11_nearOf u E1) (fun x D2 => D2 = E1 ∧ x = sumL (neS D u) (chL R N)) := by
    unfold fX11_nearOf
    refine Wp.lets (Wp.lets (bM_sum (P := R) (v := neS D u) c2 (fun g y k hk K => ?_) (fun g => ?_)))
    · unfold lX11_nearOf_4
      have vk : (nI k).toInt = (k : Int) := nI_toInt (by omega)
      have vn : (nI N).toInt = (N : Int) := nI_toInt (by omega)
      rw [c1, nI_clamp (show k < 2 ^ 31 by omega)]
      refine Wp.ile (fun q => absurd q (by omega)) (fun _ => Wp.idx (vp_in_nI (by omega) (by decide)) (Wp.lets (Wp.lets ?_)))
      have b0 := bz_Bo (c3 k hk).1
      refine Wp.ite (fun q => Wp.lets (Wp.lets (K _ (Or.inr ⟨rfl, b0.mp q⟩)))) (fun q => ?_)
      have pk : R k := Classical.byContradiction (fun z => q (b0.mpr z))
      refine Wp.bindE (k1_off (c'.k1 hk pk) hu) (Wp.ite (fun y => Wp.lets (Wp.lets (K _ (Or.inl ⟨?_, pk⟩)))) (fun y => Wp.lets (Wp.lets (K _ (Or.inl ⟨?_, pk⟩)))))
      · unfold neS
        rw [if_neg (Int32.not_le.mpr y)]
      · unfold neS
        rw [if_pos (Int32.not_lt.mp y)]
    · unfold lX11_nearOf_4
      rw [c1]
      exact Wp.pos (Int32.le_refl _) (Wp.ret ⟨rfl, rfl⟩)
  obtain ⟨x, D2, e, rfl, rfl⟩ := H
  exact e
theorem bM_chanceOf {u : Int32} (c : CR D E1 N R) (hu : 10 ≤ u.toInt ∧ u.toInt ≤ 2000) : Wp (fX11_chanceOf u E1) (fun r _ => r = sL (chV D u (chL R N)) 0 (sumL (neS D u) (chL R N)).toNatClampNeg (33 - (sumL (neS D u) (chL R N)).toNatClampNeg)) := by
  have c' := c
  obtain ⟨⟨c1, c2⟩, c3⟩ := c
  unfold fX11_chanceOf
  refine Wp.bind tM_begin (fun _ E2 q => Wp.lets (Wp.lets ?_))
  refine bM_fold1 (P := R) (N := N) (fun l E' => E'.1 = E1.1 ∧ ∀ j, j ≤ 32 → E'.2 37 j = chV D u l j) c2 (fun g E3 k hk hI K => ?_) (fun g E3 hI => ?_) ⟨q.1, q.2.2⟩
  · unfold lX11_chanceOf_6
    have vk : (nI k).toInt = (k : Int) := nI_toInt (by omega)
    have vn : (nI N).toInt = (N : Int) := nI_toInt (by omega)
    rw [nI_clamp (show k < 2 ^ 31 by omega), hI.1, c1]
    refine Wp.ile (fun q => absurd q (by omega)) (fun _ => Wp.idx (vp_in_nI (by omega) (by decide)) (Wp.lets ?_))
    have b0 := bz_Bo (c3 k hk).1
    refine Wp.ite (fun q => Wp.lets (K _ (fun z => absurd z (b0.mp q)) (fun _ => hI))) (fun q => ?_)
    have pk : R k := Classical.byContradiction (fun z => q (b0.mpr z))
    obtain ⟨-, -, ⟨lo, hi⟩, sp⟩ := c'.k1 hk pk
    have vw : (hiX D (nI k) - loX D (nI k)).toInt = (hiX D (nI k)).toInt - (loX D (nI k)).toInt := ti_sub rfl rfl (by have := sp.1; omega) (by have := sp.1; omega)
    rw [lo, hi]
    refine Wp.idx (vp_in_nI (by omega) (by decide)) (Wp.idx (vp_in_nI (by omega) (by decide)) (Wp.bindE (likely_eq hu (by have := sp.1; omega)) (Wp.bind (tM_draw (by omega)) (fun _ E4 q4 => Wp.lets (K _ (fun _ => ⟨by rw [q4.1]; exact hI.1, fun j hj => ?_⟩) (fun z => absurd pk z))))))
    rw [q4.2 j hj, chV_snoc]
    exact drF_cg hI.2 j hj
  · unfold lX11_chanceOf_6
    rw [hI.1, c1]
    obtain ⟨cc, h1, h2⟩ := sum01 (g := neS D u) neS_01 (chL R N)
    have l3 := Nat.le_trans (chL_len (P := R) (n := N)) c2
    have vc : (nI cc).toInt = (cc : Int) := nI_toInt (by omega)
    have ec := nI_clamp (show cc < 2 ^ 31 by omega)
    refine Wp.pos (Int32.le_refl _) (Wp.bindE (bM_nearOf (c'.same hI.1) hu) (Wp.bind (tM_from (by rw [h2]; omega) (by rw [h2]; omega)) (fun r E4 q4 => Wp.ret ?_)))
    rw [q4.2, sL_congr _ _ _ (fun j j1 j2 => hI.2 j (by rw [h2, ec] at j1 j2; omega))]
noncomputable def caV (D : ADD) (u : Int32) (L : List Nat) : Int32 := (sL (chV D u L) 0 (sumL (neS D u) L).toNatClampNeg (33 - (sumL (neS D u) L).toNatClampNeg)).toInt32
theorem jr_chance {a : Int32} (h : IR RF n0 P E) : BR RF n0 P id (fX10_chance a P.2) (fX11_chance a E) := by
  obtain ⟨hb, ⟨tp, fl, w, pr⟩, hc⟩ := h.nowF
  have qx := h.1.2.1.2.qx
  have qm := h.1.2.2.1.qm
  refine h.askE (v := if 10 ≤ a.toInt ∧ a.toInt ≤ 2000 then caV P.2 a (cL0 P.2 E) else -1) (fun q => oX_chance q) (fun q => oM_chance q) ?_ ?_
  · unfold fX10_chance
    refine Wp.bindE (eX_isUnit _ _) ?_
    by_cases hu : 10 ≤ a.toInt ∧ a.toInt ≤ 2000
    · rw [if_pos hu, if_pos hu]
      refine Wp.neg (by decide) (Wp.bind (ga0 qx hb) (fun r D1 k => Wp.bindE (pil_near k.2.2 a) ?_))
      obtain ⟨cc, h1, h2⟩ := sum01 (g := neS P.2 a) neS_01 (cL0 P.2 E)
      have l2 := k.2.2.2.1
      have vc : (nI cc).toInt = (cc : Int) := nI_toInt (by omega)
      exact Wp.bind (bX_ofNear k.2.2 (by omega) (by rw [h2]; omega)) (fun r D2 q2 => Wp.ret q2)
    · rw [if_neg hu, if_neg hu]
      exact Wp.pos rfl (Wp.ret rfl)
  · unfold fX11_chance
    refine Wp.lets (Wp.bindE (eM_isUnit _ _) ?_)
    by_cases hu : 10 ≤ a.toInt ∧ a.toInt ≤ 2000
    · rw [if_pos hu, if_pos hu]
      refine Wp.neg (by decide) (Wp.bind (lk0 qm hb w hc) (fun _ E1 l => Wp.bind (bM_chanceOf l.2 hu) (fun r E2 q2 => Wp.ret ?_)))
      rw [q2]
      rfl
    · rw [if_neg hu, if_neg hu]
      exact Wp.pos rfl (Wp.ret rfl)
end CHs
end
section
/-! owner: both sides -/
section OWs
variable {D D1 E E1 : ADD} {N n0 : Nat} {R : Nat → Prop} {L : List Nat} {P : APD}
theorem bl_4 {v s : Int32} : blX D 4 v s ↔ chX D s ∧ knX D s 8 = v := by
  unfold blX
  rw [show (4 : Int32).toInt = 4 by decide, if_neg (by decide), if_neg (by decide), if_neg (by decide), if_neg (by decide), if_pos rfl]
noncomputable def stS (D : ADD) (u : Int32) (s : Nat) : Int32 := if u < 100 * shS D u s then 1 else 0
theorem stS_01 {u : Int32} (s : Nat) : stS D u s = 0 ∨ stS D u s = 1 := by
  unfold stS
  split
  · exact Or.inr rfl
  · exact Or.inl rfl
theorem pil_shorts (p : PilX D D1 L) {u : Int32} (hu : u.toInt ≤ 100000) : fX4_shortsBy u D1 = some (sumL (stS D u) L, D1) := by
  obtain ⟨m1, m2, m3⟩ := pil_m p
  rw [eX_shortsBy u hu m3, m2, sI_sumL (g := stS D u) (fun j s hs => ?_)]
  unfold stS
  rw [p.sho u hs]
/-- n throws of an even coin -/
def chH : Nat → Nat → Int64
  | 0 => pB
  | n + 1 => drF (chH n) 1 2
theorem bX_ofShort {m : Nat} {n : Int32} (hm : m ≤ 32) (hn : 0 ≤ n.toInt ∧ n.toInt ≤ 33) : Wp (fX3_ofShort (nI m) n D) (fun r _ => r = (sL (chH m) 0 n.toNatClampNeg (33 - n.toNatClampNeg)).toInt32) := by
  have vm : (nI m).toInt = (m : Int) := nI_toInt (by omega)
  have en := cl_i hn.1
  have e32 : (32 : Int32).toInt = 32 := by decide
  unfold fX3_ofShort
  refine Wp.bind tX3_begin (fun _ D2 q => Wp.lets (Wp.lets ?_))
  refine Wp.go1 (fun k D' => ∀ j, j ≤ 32 → D'.2 56 j = chH k j) m (by omega) (fun g k D3 hk hI K => ?_) (k0 := 0) rfl (Nat.zero_le _) q.2
  have vk : (nI k).toInt = (k : Int) := nI_toInt (by omega)
  unfold lX3_ofShort_6
  refine Wp.ile (fun q => ?_) (fun q => Wp.ile (fun q2 => absurd q2 (by omega)) (fun q2 => Wp.bind (tX3_draw (by decide)) (fun _ D4 q4 => Wp.lets (K (by omega) _ (fun j hj => ?_)))))
  · have e : k = m := by omega
    subst e
    refine Wp.bind (tX3_from hn.1 hn.2) (fun r D4 q4 => Wp.ret ?_)
    rw [q4.2, sL_congr _ _ _ (fun j h1 h2 => hI j (by omega))]
  · rw [q4.2 j hj]
    exact drF_cg hI j hj
noncomputable def owV (D : ADD) (L : List Nat) (u c : Int32) : Int32 := if c.toInt = 0 then nI L.length else if c.toInt = 1 then sumL (stS D u) L else if c.toInt = 2 then (sL (chH L.length) 0 (sumL (stS D u) L).toNatClampNeg (33 - (sumL (stS D u) L).toNatClampNeg)).toInt32 else -1
theorem jr_owner {a b c : Int32} (h : IR RF n0 P E) : BR RF n0 P id (fX10_owner a b c P.2) (fX11_owner a b c E) := by
  obtain ⟨hb, ⟨tp, fl, w, pr⟩, hc⟩ := h.nowF
  have qx := h.1.2.1.2.qx
  have qm := h.1.2.2.1.qm
  have e1 : (1 : Int32).toInt = 1 := by decide
  have e2 : (2 : Int32).toInt = 2 := by decide
  have e9 : (9 : Int32).toInt = 9 := by decide
  generalize hL : chL (fun s => thE E s ∧ blX P.2 4 a (nI s)) (nS (mB E)) = L
  have V0 : c.toInt = 0 → owV P.2 L b c = nI L.length := fun z => by unfold owV; rw [if_pos z]
  have V1 : c.toInt = 1 → owV P.2 L b c = sumL (stS P.2 b) L := fun z => by unfold owV; rw [if_neg (show ¬ c.toInt = 0 by omega), if_pos z]
  have V2 : c.toInt = 2 → owV P.2 L b c = (sL (chH L.length) 0 (sumL (stS P.2 b) L).toNatClampNeg (33 - (sumL (stS P.2 b) L).toNatClampNeg)).toInt32 := fun z => by unfold owV; rw [if_neg (show ¬ c.toInt = 0 by omega), if_neg (show ¬ c.toInt = 1 by omega), if_pos z]
  have V3 : (c.toInt < 0 ∨ 3 ≤ c.toInt) → owV P.2 L b c = -1 := fun z => by unfold owV; rw [if_neg (show ¬ c.toInt = 0 by omega), if_neg (show ¬ c.toInt = 1 by omega), if_neg (show ¬ c.toInt = 2 by omega)]
  obtain ⟨cc, h1, h2⟩ := sum01 (g := stS P.2 b) stS_01 L
  refine h.askE (v := if (1 ≤ a.toInt ∧ a.toInt ≤ 9) ∧ (10 ≤ b.toInt ∧ b.toInt ≤ 2000) then owV P.2 L b c else -1) (fun q => oX_owner q) (fun q => oM_owner q) ?_ ?_
  · unfold fX10_owner
    refine Wp.lets (Wp.ilt (fun q => Wp.ret ?_) (fun q => Wp.ilt (fun q2 => Wp.ret ?_) (fun q2 => Wp.bindE (eX_isUnit _ _) ?_)))
    · rw [if_neg (fun z => by omega)]
    · rw [if_neg (fun z => by omega)]
    · by_cases hu : 10 ≤ b.toInt ∧ b.toInt ≤ 2000
      · rw [if_pos hu, if_pos (show (1 ≤ a.toInt ∧ a.toInt ≤ 9) ∧ (10 ≤ b.toInt ∧ b.toInt ≤ 2000) by omega)]
        refine Wp.neg (by decide) (Wp.bind (gaK qx hb 4 a) (fun r D1 k => ?_))
        rw [hL] at k
        obtain ⟨-, -, p⟩ := k
        have m := (pil_m p).1
        have l2 := p.2.1
        have vc : (nI cc).toInt = (cc : Int) := nI_toInt (by omega)
        refine Wp.tab3 (fun z => Wp.ret ?_) (fun z => Wp.bindE (pil_shorts p (by omega)) (Wp.ret (V1 z).symm)) (fun z => Wp.bindE (pil_shorts p (by omega)) ?_) (fun z => Wp.ret (V3 z).symm)
        · rw [V0 z, m]
        · rw [m, V2 z]
          exact Wp.bind (bX_ofShort l2 (by rw [h2]; omega)) (fun r D2 q2 => Wp.ret q2)
      · rw [if_neg hu, if_neg (show ¬ ((1 ≤ a.toInt ∧ a.toInt ≤ 9) ∧ (10 ≤ b.toInt ∧ b.toInt ≤ 2000)) from fun z => hu z.2)]
        exact Wp.pos rfl (Wp.ret rfl)
  · unfold fX11_owner
    refine Wp.lets (Wp.bindE (eM_is _ _ _ _) (Wp.lets ?_))
    rw [e1, e9]
    by_cases ha : 1 ≤ a.toInt ∧ a.toInt ≤ 9
    · rw [if_pos ha]
      refine Wp.neg (by decide) (Wp.bindE (eM_isUnit _ _) ?_)
      by_cases hu : 10 ≤ b.toInt ∧ b.toInt ≤ 2000
      · rw [if_pos hu, if_pos (show (1 ≤ a.toInt ∧ a.toInt ≤ 9) ∧ (10 ≤ b.toInt ∧ b.toInt ≤ 2000) from ⟨ha, hu⟩)]
        refine Wp.neg (by decide) (Wp.bindE (eM_is _ _ _ _) ?_)
        rw [ti_0, e2]
        by_cases hw : 0 ≤ c.toInt ∧ c.toInt ≤ 2
        · rw [if_pos hw]
          refine Wp.neg (by decide) (Wp.bind (lk0 qm hb w hc) (fun _ E1 l => Wp.bind tM_begin (fun _ E2 q => ?_)))
          obtain ⟨-, cr⟩ := l
          have cr' := cr
          obtain ⟨⟨c1, c2⟩, c3⟩ := cr
          refine Wp.lets (Wp.lets (bM_fold3 (P := fun s => thE E s ∧ blX P.2 4 a (nI s)) (N := nS (mB E)) (fun l y x E' => y = nI l.length ∧ x = sumL (stS P.2 b) l ∧ E'.1 = E1.1 ∧ ∀ j, j ≤ 32 → E'.2 37 j = chH l.length j) c2 (fun g y x E3 k hk hI K => ?_) (fun g y x E3 hI => ?_) ⟨rfl, rfl, q.1, q.2.2⟩))
          · obtain ⟨rfl, rfl, i3, i4⟩ := hI
            unfold lX11_owner_50
            have vk : (nI k).toInt = (k : Int) := nI_toInt (by omega)
            have vn : (nI (nS (mB E))).toInt = (nS (mB E) : Int) := nI_toInt (by omega)
            rw [nI_clamp (show k < 2 ^ 31 by omega), i3, c1]
            refine Wp.ile (fun q => absurd q (by omega)) (fun _ => Wp.idx (vp_in_nI (by omega) (by decide)) (Wp.lets ?_))
            have b0 := bz_Bo (c3 k hk).1
            refine Wp.ite (fun q => Wp.lets (K _ _ _ (fun z => absurd (⟨z.1, (bl_4.mp z.2).1⟩ : thE E k ∧ chX P.2 (nI k)) (b0.mp q)) (fun _ => ⟨rfl, rfl, i3, i4⟩))) (fun q => ?_)
            have pk := Classical.byContradiction (fun z => q (b0.mpr z))
            have k3 : K1 P.2 E3 k := (cr'.same i3).k1 hk pk
            have f8 : E3.1 32 (11 * k + 8) = knX P.2 (nI k) 8 := k3.2.1 8 (by decide)
            refine Wp.bindE (eM_f (by omega) ⟨by decide, by decide⟩) ?_
            rw [nI_clamp (show k < 2 ^ 31 by omega), show (8 : Int32).toNatClampNeg = 8 from rfl, f8]
            refine Wp.ite (fun y => ?_) (fun y => Wp.lets (K _ _ _ (fun t => absurd (bl_4.mp t.2).2 y) (fun _ => ⟨rfl, rfl, i3, i4⟩)))
            have pp : thE E k ∧ blX P.2 4 a (nI k) := ⟨pk.1, bl_4.mpr ⟨pk.2, y⟩⟩
            refine Wp.lets (Wp.bindE (k1_short k3 hu) (Wp.letQ (fun Q j => ∀ v, v = stS P.2 b k → Wp (j v E3) Q) (fun v hv => ?_) (fun j K2 => Wp.ite (fun t => K2 _ ?_) (fun t => K2 _ ?_))))
            · refine Wp.lets (Wp.bind (tM_draw (by decide)) (fun _ E4 q4 => Wp.lets (K _ _ _ (fun _ => ⟨?_, ?_, by rw [q4.1]; exact i3, fun j hj => ?_⟩) (fun t => absurd pp t))))
              · rw [List.length_append]
                exact (nI_succ _).symm
              · rw [sumL_snoc, hv]
              · rw [q4.2 j hj, List.length_append]
                exact drF_cg i4 j hj
            · unfold stS
              rw [if_neg (Int32.not_lt.mpr t)]
            · unfold stS
              rw [if_pos (Int32.not_le.mp t)]
          · rw [hL] at hI
            obtain ⟨rfl, rfl, i3, i4⟩ := hI
            unfold lX11_owner_50
            rw [i3, c1]
            have l3 : L.length ≤ 32 := by rw [← hL]; exact Nat.le_trans chL_len c2
            have vc : (nI cc).toInt = (cc : Int) := nI_toInt (by omega)
            have ec := nI_clamp (show cc < 2 ^ 31 by omega)
            refine Wp.pos (Int32.le_refl _) (Wp.lets (Wp.ite (fun z => Wp.ret ?_) (fun z => Wp.ite (fun y => Wp.ret ?_) (fun y => ?_))))
            · exact (V0 (by rw [z, ti_0])).symm
            · exact (V1 (by rw [y, e1])).symm
            · have z0 : c.toInt ≠ 0 := fun t => z (ti_eq (by rw [t, ti_0]))
              have z1 : c.toInt ≠ 1 := fun t => y (ti_eq (by rw [t, e1]))
              rw [V2 (by omega)]
              refine Wp.bind (tM_from (by rw [h2]; omega) (by rw [h2]; omega)) (fun r E4 q4 => Wp.ret ?_)
              rw [q4.2, sL_congr _ _ _ (fun j j1 j2 => i4 j (by rw [h2, ec] at j1 j2; omega))]
        · rw [if_neg hw]
          exact Wp.pos rfl (Wp.ret (V3 (by omega)).symm)
      · rw [if_neg hu, if_neg (show ¬ ((1 ≤ a.toInt ∧ a.toInt ≤ 9) ∧ (10 ≤ b.toInt ∧ b.toInt ≤ 2000)) from fun z => hu z.2)]
        exact Wp.pos rfl (Wp.ret rfl)
    · rw [if_neg ha, if_neg (show ¬ ((1 ≤ a.toInt ∧ a.toInt ≤ 9) ∧ (10 ≤ b.toInt ∧ b.toInt ≤ 2000)) from fun z => ha z.1)]
      exact Wp.pos rfl (Wp.ret rfl)
end OWs
end
section
/-! groups of the chosen: drift, both sides -/
section GRs
variable {D D0 D1 E E1 : ADD} {N n0 : Nat} {R C G : Nat → Prop} {L : List Nat} {P : APD} {ρ : Type} {Q : ρ → ADD → Prop}
/-- what a search leaves as it was -/
def FrW (D0 D : ADD) : Prop := (∀ c, c < 43 → D.1 c = D0.1 c) ∧ ∀ i, 7 ≤ i → D.1 49 i = D0.1 49 i
theorem FrW.kn (h : FrW D0 D) (a b : Int32) : knX D a b = knX D0 a b := knX_fr (h.1 2 (by omega)) (h.1 4 (by omega)) a b
theorem FrW.tr (h : FrW D0 D) (s : Int32) : trF D s = trF D0 s := by
  funext i
  unfold trF
  simp only [h.kn]
  match i with
  | 0 => rfl
  | 1 => rfl
  | 2 => rfl
  | 3 => rfl
  | 4 => rfl
  | 5 => rfl
  | 6 => rfl
  | i + 7 => exact h.2 _ (by omega)
theorem FrW.sm (h : FrW D0 D) : smR D0 D 13 := ⟨by rw [h.1 13 (by omega)], fun c h1 h2 => h.1 c (by omega)⟩
theorem FrW.wr (h : FrW D0 D) (s : Int32) : wrX D s = wrX D0 s := by
  unfold wrX
  rw [h.tr, wrF_sm h.sm, h.sm.1]
theorem FrW.lo (h : FrW D0 D) (s : Int32) : loX D s = loX D0 s := by
  unfold loX
  rw [h.wr, h.kn, h.kn]
theorem FrW.hi (h : FrW D0 D) (s : Int32) : hiX D s = hiX D0 s := by
  unfold hiX
  rw [h.wr, h.kn, h.kn]
theorem FrW.ch (h : FrW D0 D) (s : Int32) : chX D s ↔ chX D0 s := by
  unfold chX
  simp only [h.kn, h.1 31 (by omega)]
theorem FrW.bl (h : FrW D0 D) (k v s : Int32) : blX D k v s ↔ blX D0 k v s := by
  unfold blX
  simp only [h.kn, h.ch]
theorem FrW.ofs (h : FrW D0 D) (u : Int32) (s : Nat) : ofS D u s = ofS D0 u s := by
  unfold ofS
  rw [h.lo, h.hi, h.kn]
theorem FrW.scs (h : FrW D0 D) (L : List Nat) : scS D L = scS D0 L := by
  funext u
  unfold scS
  rw [show ofS D (nI u) = ofS D0 (nI u) from funext (fun s => h.ofs _ s)]
theorem FrW.bsv (h : FrW D0 D) (L : List Nat) (a b : Int32) : bsV D L a b = bsV D0 L a b := by
  unfold bsV
  rw [h.scs]
theorem bX_best2 {k v a b : Int32} (q : QX D) (h : RBk (xc D) (mB E)) (hU : UR a b 300) : Wp (fX10_bestAmong k v a b D) (fun r D2 => r = bsV D (chL (fun s => thE E s ∧ blX D k v (nI s)) (nS (mB E))) a b ∧ FrW D D2) := by
  obtain ⟨hA, ea, eb⟩ := UR.ab hU
  unfold fX10_bestAmong
  refine Wp.bind (gaK q h k v) (fun x D1 p => ?_)
  obtain ⟨rfl, f, p⟩ := p
  generalize chL (fun s => thE E s ∧ blX D k v (nI s)) (nS (mB E)) = L at p ⊢
  have m := (pil_m p).1
  have l2 := p.2.1
  have vl : (nI L.length).toInt = (L.length : Int) := nI_toInt (by omega)
  have fw : FrW D D1 := ⟨fun c hc => f.1 c (by omega), f.2.2⟩
  unfold bsV
  refine Wp.ite (fun z => Wp.ret ⟨?_, fw⟩) (fun z => ?_)
  · rw [if_pos (by rw [m] at z; rw [z, ti_0] at vl; omega)]
  · rw [if_neg (fun y => z (by rw [m, y]; rfl))]
    generalize a.toNatClampNeg = A at *
    generalize b.toNatClampNeg = B at *
    subst ea eb
    exact Wp.bind (bX_scoreUnits hA p) (fun _ D2 s => Wp.bindE (eX_bestUnit hA s.2) (Wp.ret ⟨rfl, fun c hc => by rw [s.1 c (by omega) (by omega)]; exact fw.1 c hc, fun i hi => by rw [s.1 49 (by decide) (by decide)]; exact fw.2 i hi⟩))
/-- the reference: the chosen are kept aside -/
def CB (D E1 : ADD) (N : Nat) (C : Nat → Prop) : Prop := (E1.1 0 41 = nI N ∧ N ≤ 32) ∧ ∀ k, k < N → Bo (E1.1 38 k) (C k) ∧ (C k → FcR D E1 k ∧ (E1.1 33 k = loX D (nI k) ∧ E1.1 34 k = hiX D (nI k)) ∧ SpK (loX D (nI k)) (hiX D (nI k)) (knX D (nI k) 7))
theorem CB.fr {E2 : ADD} (c : CB D E1 N C) (f : ∀ c, c ≠ 35 → c ≠ 36 → E2.1 c = E1.1 c) : CB D E2 N C := by
  obtain ⟨⟨c1, c2⟩, c3⟩ := c
  refine ⟨⟨by rw [f 0 (by decide) (by decide)]; exact c1, c2⟩, fun k hk => ?_⟩
  unfold FcR
  rw [f 38 (by decide) (by decide), f 33 (by decide) (by decide), f 34 (by decide) (by decide), f 32 (by decide) (by decide)]
  exact c3 k hk
theorem Bo.bz {x : Int32} {H : Prop} (h : Bo x H) : Bo (aBz x) H := by
  rcases h with ⟨rfl, c⟩ | ⟨rfl, c⟩
  · exact Or.inl ⟨by decide, c⟩
  · exact Or.inr ⟨by decide, c⟩
theorem bM_keep (c : CR D E1 N R) : Wp (fX11_keepChosen E1) (fun _ E2 => CB D E2 N R) := by
  obtain ⟨⟨c1, c2⟩, c3⟩ := c
  unfold fX11_keepChosen
  refine Wp.lets (Wp.lets (Wp.go1 (fun k E2 => (∀ c, c ≠ 38 → E2.1 c = E1.1 c) ∧ ∀ i, i < k → Bo (E2.1 38 i) (R i)) N (by omega) (fun g k E2 hk hI K => ?_) (k0 := 0) rfl (Nat.zero_le _) ⟨fun _ _ => rfl, fun i hi => absurd hi (Nat.not_lt_zero _)⟩))
  obtain ⟨i1, i2⟩ := hI
  have vk : (nI k).toInt = (k : Int) := nI_toInt (by omega)
  have vn : (nI N).toInt = (N : Int) := nI_toInt (by omega)
  unfold lX11_keepChosen_2
  rw [nI_clamp (show k < 2 ^ 31 by omega), i1 0 (by decide), c1, i1 35 (by decide)]
  refine Wp.ile (fun q => Wp.ret ⟨⟨by rw [i1 0 (by decide)]; exact c1, c2⟩, fun j hj => ⟨i2 j (by omega), fun r => ?_⟩⟩) (fun q => Wp.idx (vp_in_nI (by omega) (by decide)) (Wp.idx (vp_in_nI (by omega) (by decide)) (Wp.lets (Wp.lets (K (by omega) _ ⟨fun c hc => by rw [si_o hc, i1 c hc], fun i hi => ?_⟩)))))
  · unfold FcR
    rw [i1 33 (by decide), i1 34 (by decide), i1 32 (by decide)]
    exact (c3 j hj).2 r
  · rw [si_s]
    by_cases e : i = k
    · rw [e, if_pos rfl]
      exact (c3 k (by omega)).1.bz
    · rw [if_neg e]
      exact i2 i (by omega)
theorem bM_group {F : (Int32 → ADD → Option (ρ × ADD)) → Int32 → ADD → Option (ρ × ADD)} {z : Int32 → ADD → Option (ρ × ADD)} (cb : CB D E1 N C) (hF : ∀ g k E2, k < N → CB D E2 N C → (∀ x, Bo x (C k ∧ G k) → Wp (g (nI k + 1) (aSI E2 35 k x)) Q) → Wp (F g (nI k) E2) Q) (hE : ∀ g E2, CR D E2 N (fun k => C k ∧ G k) → CB D E2 N C → Wp (F g (nI N) E2) Q) : Wp (aFix aFuel F z 0 E1) Q := by
  have c2 := cb.1.2
  refine Wp.go1 (fun k E2 => CB D E2 N C ∧ ∀ i, i < k → Bo (E2.1 35 i) (C i ∧ G i)) N (by omega) (fun g k E2 hk hI K => ?_) (k0 := 0) rfl (Nat.zero_le _) ⟨cb, fun i hi => absurd hi (Nat.not_lt_zero _)⟩
  obtain ⟨i1, i2⟩ := hI
  by_cases e : k = N
  · subst e
    exact hE g E2 ⟨i1.1, fun j hj => ⟨i2 j hj, fun r => (i1.2 j hj).2 r.1⟩⟩ i1
  · refine hF g k E2 (by omega) i1 (fun x hx => K (by omega) _ ⟨i1.fr (fun c c5 c6 => si_o c5), fun i hi => ?_⟩)
    rw [si_s]
    by_cases q : i = k
    · rw [q, if_pos rfl]
      exact hx
    · rw [if_neg q]
      exact i2 i (by omega)
theorem bM_gb {a b : Int32} {J : Int32 → ADD → Option (ρ × ADD)} (hU : UR a b 300) (c : CR D E1 N R) (cb : CB D E1 N C) (K : ∀ E3, CB D E3 N C → Wp (J (bsV D (chL R N) a b) E3) Q) : Wp (aBind (fX11_those E1) (fun x D2 => aLet J (fun j => if x = 0 then j (-1) D2 else aBind (fX11_bestOf a b D2) (fun v D4 => j v D4)))) Q := by
  obtain ⟨hA, ea, eb⟩ := UR.ab hU
  have c2 : (chL R N).length ≤ 32 := Nat.le_trans chL_len c.1.2
  have vl : (nI (chL R N).length).toInt = ((chL R N).length : Int) := nI_toInt (by omega)
  refine Wp.bindE (bM_those c) (Wp.lets ?_)
  unfold bsV at K
  refine Wp.ite (fun z => ?_) (fun z => ?_)
  · rw [if_pos (show (chL R N).length = 0 by rw [z, ti_0] at vl; omega)] at K
    exact K _ cb
  · rw [if_neg (show ¬ (chL R N).length = 0 from fun y => z (by rw [y]; rfl))] at K
    generalize a.toNatClampNeg = A at *
    generalize b.toNatClampNeg = B at *
    subst ea eb
    refine Wp.bind (bM_bestOf hA c) (fun r E2 s => ?_)
    rw [s.2.2]
    exact K _ (cb.fr (fun c c5 c6 => s.1 c c6))
theorem bl_2 {v s : Int32} : blX D 2 v s ↔ chX D s ∧ v ≤ knX D s 5 := by
  unfold blX
  rw [show (2 : Int32).toInt = 2 by decide, if_neg (by decide), if_neg (by decide), if_pos rfl]
theorem bl_3 {v s : Int32} : blX D 3 v s ↔ chX D s ∧ knX D s 6 < v := by
  unfold blX
  rw [show (3 : Int32).toInt = 3 by decide, if_neg (by decide), if_neg (by decide), if_neg (by decide), if_pos rfl]
theorem chL_nil {n : Nat} (h : ∀ s, s < n → ¬ R s) : chL R n = [] := by
  induction n with
  | zero => rfl
  | succ n ih => rw [chL_f (h n (by omega)), ih (fun s hs => h s (by omega))]
noncomputable def drV (D : ADD) (L2 L3 : List Nat) (a b : Int32) : Int32 := if bsV D L2 a b = -1 then -100000 else if bsV D L3 a b = -1 then -100000 else bsV D L2 a b - bsV D L3 a b
theorem jr_drift {a b c : Int32} (h : IR RF n0 P E) : BR RF n0 P id (fX10_drift a b c P.2) (fX11_drift a b c E) := by
  obtain ⟨hb, ⟨tp, fl, w, pr⟩, hc⟩ := h.nowF
  have qx := h.1.2.1.2.qx
  have qm := h.1.2.2.1.qm
  have e3 : (300 : Int32).toInt = 300 := by decide
  have em : (-3000 : Int32).toInt = -3000 := by decide
  have e19 : (1900 : Int32).toInt = 1900 := by decide
  refine h.askE (v := if UR b c 300 then drV P.2 (chL (fun s => thE E s ∧ blX P.2 2 a (nI s)) (nS (mB E))) (chL (fun s => thE E s ∧ blX P.2 3 a (nI s)) (nS (mB E))) b c else -100000) (fun q => oX_drift q) (fun q => oM_drift q) ?_ ?_
  · unfold fX10_drift
    refine Wp.bindE (eX_isRange _ _ _ _) ?_
    rw [e3]
    by_cases hU : UR b c 300
    · rw [if_pos hU, if_pos hU]
      refine Wp.neg (by decide) (Wp.bind (bX_best2 qx hb hU) (fun r D2 z => ?_))
      obtain ⟨rfl, f⟩ := z
      have q2 : QX D2 := by
        unfold QX
        rw [f.1 2 (by omega), f.1 13 (by omega), f.1 22 (by omega)]
        exact qx
      refine Wp.bind (bX_best2 q2 (hb.same (fun c c1 c2 => f.1 c (by omega)) (fun _ _ _ => rfl)) hU) (fun r D3 z => Wp.lets (Wp.lets ?_))
      obtain ⟨rfl, -⟩ := z
      rw [f.bsv, chL_cg (P := fun s => thE E s ∧ blX D2 3 a (nI s)) (P2 := fun s => thE E s ∧ blX P.2 3 a (nI s)) (fun s _ => and_congr_right (fun _ => f.bl 3 a (nI s)))]
      unfold drV
      refine Wp.ite (fun y => Wp.ret ?_) (fun y => Wp.ite (fun y2 => Wp.ret ?_) (fun y2 => Wp.ret ?_))
      · rw [if_pos y]
      · rw [if_neg y, if_pos y2]
      · rw [if_neg y, if_neg y2]
    · rw [if_neg hU, if_neg hU]
      exact Wp.pos rfl (Wp.ret rfl)
  · unfold fX11_drift
    refine Wp.lets (Wp.bindE (eM_is _ _ _ _) (Wp.lets ?_))
    rw [em, e19]
    by_cases ha : -3000 ≤ a.toInt ∧ a.toInt ≤ 1900
    · rw [if_pos ha]
      refine Wp.neg (by decide) (Wp.bindE (eM_areUnits _ _ _) ?_)
      by_cases hU : UR b c 300
      · rw [if_pos hU, if_pos hU]
        refine Wp.neg (by decide) (Wp.bind (lk0 qm hb w hc) (fun _ E1 l => Wp.bind (bM_keep l.2) (fun _ E2 cb => Wp.lets (Wp.lets ?_))))
        rw [chL_cg (P := fun s => thE E s ∧ blX P.2 2 a (nI s)) (P2 := fun s => (thE E s ∧ chX P.2 (nI s)) ∧ a ≤ knX P.2 (nI s) 5) (fun s _ => by rw [bl_2]; exact and_assoc.symm), chL_cg (P := fun s => thE E s ∧ blX P.2 3 a (nI s)) (P2 := fun s => (thE E s ∧ chX P.2 (nI s)) ∧ knX P.2 (nI s) 6 < a) (fun s _ => by rw [bl_3]; exact and_assoc.symm)]
        refine bM_group (G := fun s => a ≤ knX P.2 (nI s) 5) cb (fun g k E3 hk c3 K => ?_) (fun g E3 cr c3 => ?_)
        · obtain ⟨⟨d1, d2⟩, d3⟩ := c3
          obtain ⟨b0, f⟩ := d3 k hk
          have b0 := bz_Bo b0
          have vk : (nI k).toInt = (k : Int) := nI_toInt (by omega)
          have vn : (nI (nS (mB E))).toInt = (nS (mB E) : Int) := nI_toInt (by omega)
          have ik : vp_in (nI k) 32 := vp_in_nI (by omega) (by decide)
          unfold lX11_drift_40
          rw [d1, nI_clamp (show k < 2 ^ 31 by omega)]
          refine Wp.ile (fun q => absurd q (by omega)) (fun _ => Wp.idx ik (Wp.lets (Wp.lets (Wp.ite (fun q => ?_) (fun q => ?_)))))
          · exact Wp.idx ik (Wp.lets (Wp.lets (K 0 (Or.inr ⟨rfl, fun y => b0.mp q y.1⟩))))
          · have pk := Classical.byContradiction (fun z => q (b0.mpr z))
            have f5 : E3.1 32 (11 * k + 5) = knX P.2 (nI k) 5 := (f pk).1 5 (by decide)
            refine Wp.bindE (eM_f (by omega) ⟨by decide, by decide⟩) ?_
            rw [nI_clamp (show k < 2 ^ 31 by omega), show (5 : Int32).toNatClampNeg = 5 from rfl, f5]
            exact Wp.ite (fun y => Wp.idx ik (Wp.lets (Wp.lets (K 0 (Or.inr ⟨rfl, fun t => Int32.not_le.mpr y t.2⟩))))) (fun y => Wp.idx ik (Wp.lets (Wp.lets (K 1 (Or.inl ⟨rfl, pk, Int32.not_lt.mp y⟩)))))
        · unfold lX11_drift_40
          rw [c3.1.1]
          refine Wp.pos (Int32.le_refl _) (bM_gb hU cr c3 (fun E4 c4 => Wp.lets (Wp.lets ?_)))
          refine bM_group (G := fun s => knX P.2 (nI s) 6 < a) c4 (fun g k E5 hk c5 K => ?_) (fun g E5 cr5 c5 => ?_)
          · obtain ⟨⟨d1, d2⟩, d3⟩ := c5
            obtain ⟨b0, f⟩ := d3 k hk
            have b0 := bz_Bo b0
            have vk : (nI k).toInt = (k : Int) := nI_toInt (by omega)
            have vn : (nI (nS (mB E))).toInt = (nS (mB E) : Int) := nI_toInt (by omega)
            have ik : vp_in (nI k) 32 := vp_in_nI (by omega) (by decide)
            unfold lX11_drift_110
            rw [d1, nI_clamp (show k < 2 ^ 31 by omega)]
            refine Wp.ile (fun q => absurd q (by omega)) (fun _ => Wp.idx ik (Wp.lets (Wp.lets (Wp.ite (fun q => ?_) (fun q => ?_)))))
            · exact Wp.idx ik (Wp.lets (Wp.lets (K 0 (Or.inr ⟨rfl, fun y => b0.mp q y.1⟩))))
            · have pk := Classical.byContradiction (fun z => q (b0.mpr z))
              have f6 : E5.1 32 (11 * k + 6) = knX P.2 (nI k) 6 := (f pk).1 6 (by decide)
              refine Wp.bindE (eM_f (by omega) ⟨by decide, by decide⟩) ?_
              rw [nI_clamp (show k < 2 ^ 31 by omega), show (6 : Int32).toNatClampNeg = 6 from rfl, f6]
              exact Wp.ite (fun y => Wp.idx ik (Wp.lets (Wp.lets (K 0 (Or.inr ⟨rfl, fun t => Int32.not_lt.mpr y t.2⟩))))) (fun y => Wp.idx ik (Wp.lets (Wp.lets (K 1 (Or.inl ⟨rfl, pk, Int32.not_le.mp y⟩)))))
          · unfold lX11_drift_110
            rw [c5.1.1]
            refine Wp.pos (Int32.le_refl _) (bM_gb hU cr5 c5 (fun E6 c6 => Wp.lets (Wp.lets ?_)))
            unfold drV
            refine Wp.ite (fun y => Wp.ret ?_) (fun y => Wp.ite (fun y2 => Wp.ret ?_) (fun y2 => Wp.ret ?_))
            · rw [if_pos y]
            · rw [if_neg y, if_pos y2]
            · rw [if_neg y, if_neg y2]
      · rw [if_neg hU, if_neg hU]
        exact Wp.pos rfl (Wp.ret rfl)
    · rw [if_neg ha]
      refine Wp.pos rfl (Wp.ret ?_)
      by_cases hU : UR b c 300
      · rw [if_pos hU]
        have nil : ∀ L : List Nat, L = [] → bsV P.2 L b c = -1 := fun L hL => by rw [hL]; rfl
        have rng : ∀ s, s < nS (mB E) → thE E s → (-3000 ≤ (knX P.2 (nI s) 6).toInt) ∧ (knX P.2 (nI s) 5).toInt ≤ 1900 := fun s hs ht => by
          have g := gd_th hb hs ht
          have k5 : knX P.2 (nI s) 5 = fct (mB E) (dvF (mB E)) s 5 := kn_th hb hs ht (by decide)
          have k6 : knX P.2 (nI s) 6 = fct (mB E) (dvF (mB E)) s 6 := kn_th hb hs ht (by decide)
          have g5 : -3000 ≤ (fct (mB E) (dvF (mB E)) s 5).toInt ∧ (fct (mB E) (dvF (mB E)) s 5).toInt ≤ 1900 := g.1 5 (by decide)
          have g6 : -3000 ≤ (fct (mB E) (dvF (mB E)) s 6).toInt ∧ (fct (mB E) (dvF (mB E)) s 6).toInt ≤ 1900 := g.1 6 (by decide)
          rw [k5, k6]
          exact ⟨g6.1, g5.2⟩
        unfold drV
        by_cases hl : a.toInt < -3000
        · rw [nil (chL (fun s => thE E s ∧ blX P.2 3 a (nI s)) (nS (mB E))) (chL_nil (fun s hs t => by
            have := Int32.lt_iff_toInt_lt.mp (bl_3.mp t.2).2
            have := rng s hs t.1
            omega)), if_pos rfl]
          split <;> rfl
        · rw [nil (chL (fun s => thE E s ∧ blX P.2 2 a (nI s)) (nS (mB E))) (chL_nil (fun s hs t => by
            have := Int32.le_iff_toInt_le.mp (bl_2.mp t.2).2
            have := rng s hs t.1
            omega)), if_pos rfl]
      · rw [if_neg hU]
end GRs
end
section
/-! peak: both sides -/
theorem sg_le {z : Int} : sg z ≤ 0 ↔ z ≤ 0 := by
  rw [← Int32.not_lt, sg_gt]
  omega
theorem sg_eq {z : Int} : sg z = 0 ↔ z = 0 := by
  unfold sg
  by_cases h : 0 < z
  · rw [if_pos h]
    exact ⟨fun q => absurd q (by decide), fun q => by omega⟩
  · rw [if_neg h]
    by_cases e : z = 0
    · rw [if_pos e]
      exact ⟨fun _ => e, fun _ => rfl⟩
    · rw [if_neg e]
      exact ⟨fun q => absurd q (by decide), fun q => absurd q e⟩
theorem cmp0_le {v : Int64} : aCmp v 0 ≤ 0 ↔ v.toInt ≤ 0 := by
  show lg_cmp v 0 ≤ 0 ↔ _
  rw [lg_cmp_le, Int64.le_iff_toInt_le]
  rfl
theorem cmp0_gt {v : Int64} : 0 < aCmp v 0 ↔ 0 < v.toInt := by
  show 0 < lg_cmp v 0 ↔ _
  rw [lg_cmp_gt, Int64.lt_iff_toInt_lt]
  rfl
theorem cmp0_eq {v : Int64} : aCmp v 0 = 0 ↔ v.toInt = 0 := by
  show lg_cmp v 0 = 0 ↔ _
  rw [lg_cmp_eq, ← Int64.toInt_inj]
  rfl
abbrev isPk (S : Nat → Int32) (A B u : Nat) : Prop := (u = A ∨ 0 < rk S u (u - 1)) ∧ (u = B ∨ 0 ≤ rk S u (u + 1))
/-- p comes before u -/
abbrev bfr (S : Nat → Int32) (p u : Nat) : Prop := 0 < rk S p u ∨ (rk S p u = 0 ∧ u < p)
def btF (S : Nat → Int32) (u p : Nat) : Int32 := if bfr S p u then 1 else 0
noncomputable def pkK (S : Nat → Int32) (A B k : Nat) : List Nat := chL (fun u => A ≤ u ∧ isPk S A B u) k
noncomputable def pkN (S : Nat → Int32) (A B u : Nat) : Int32 := sumL (btF S u) (pkK S A B (B + 1))
section PKs
variable {D D1 E E1 : ADD} {A B N n0 : Nat} {S : Nat → Int32} {L : List Nat} {P : APD}
theorem nI_inj {a b : Nat} (ha : a < 100000) (hb : b < 100000) (h : nI a = nI b) : a = b := by
  have e1 : (nI a).toInt = (a : Int) := nI_toInt (by omega)
  have e2 : (nI b).toInt = (b : Int) := nI_toInt (by omega)
  rw [h, e2] at e1
  omega
theorem eX_isPeak {u : Nat} (hA : AB A B) (s : SrX D A B S) (hu : A ≤ u ∧ u ≤ B) : fX7_isPeak (nI u) D = some (if isPk S A B u then 1 else 0, D) := by
  have eq1 : nI u - 1 = nI (u - 1) := nI_sub (A := 1) (by omega) (by omega)
  have s0 := s.1
  have s1 := s.2.1
  have H : Wp (fX7_isPeak (nI u) D) (fun x D1 => D1 = D ∧ x = if isPk S A B u then 1 else 0) := by
    unfold fX7_isPeak
    rw [s0, eq1, ← nI_succ]
    refine Wp.lets (Wp.lets (Wp.letQ (fun Q j => (u = A ∨ 0 < rk S u (u - 1)) → Wp (j D) Q) (fun h1 => ?_) (fun j K => ?_)))
    · refine Wp.lets ?_
      rw [s1]
      refine Wp.ite (fun e => Wp.z (Or.inr rfl) (Wp.ret ⟨rfl, ?_⟩)) (fun e => Wp.bindE (eX_compare hA s (u := u) (w := u + 1) hu ⟨by omega, ?_⟩) (Wp.ite (fun c => Wp.z (Or.inl rfl) (Wp.ret ⟨rfl, ?_⟩)) (fun c => Wp.z (Or.inr rfl) (Wp.ret ⟨rfl, ?_⟩))))
      · rw [if_pos ⟨h1, Or.inl (nI_inj (by omega) (by omega) e)⟩]
      · have : u ≠ B := fun q => e (by rw [q])
        omega
      · have c1 := sg_lt.mp c
        have : u ≠ B := fun q => e (by rw [q])
        rw [if_neg (fun z => z.2.elim this (fun y => by omega))]
      · have c1 : ¬ rk S u (u + 1) < 0 := fun z => c (sg_lt.mpr z)
        rw [if_pos ⟨h1, Or.inr (by omega)⟩]
    · refine Wp.ite (fun e => K (Or.inl (nI_inj (by omega) (by omega) e))) (fun e => ?_)
      have ne : u ≠ A := fun q => e (by rw [q])
      refine Wp.bindE (eX_compare hA s (u := u) (w := u - 1) hu (by omega)) (Wp.ite (fun c => Wp.z (Or.inl rfl) (Wp.ret ⟨rfl, ?_⟩)) (fun c => K (Or.inr ?_)))
      · have c1 := sg_le.mp c
        rw [if_neg (fun z => z.1.elim ne (fun y => by omega))]
      · have c1 : ¬ rk S u (u - 1) ≤ 0 := fun z => c (sg_le.mpr z)
        omega
  obtain ⟨x, D1, e, rfl, rfl⟩ := H
  exact e
theorem eM_isPeak {u : Nat} (hA : AB A B) (s : SrM E A B S) (hu : A ≤ u ∧ u ≤ B) : fX11_isPeak (nI A) (nI B) (nI u) E = some (if isPk S A B u then 1 else 0, E) := by
  have eq1 : nI u - 1 = nI (u - 1) := nI_sub (A := 1) (by omega) (by omega)
  have H : Wp (fX11_isPeak (nI A) (nI B) (nI u) E) (fun x D1 => D1 = E ∧ x = if isPk S A B u then 1 else 0) := by
    unfold fX11_isPeak
    rw [eq1, ← nI_succ]
    refine Wp.lets (Wp.lets (Wp.letQ (fun Q j => (u = A ∨ 0 < rk S u (u - 1)) → Wp (j E) Q) (fun h1 => ?_) (fun j K => ?_)))
    · refine Wp.lets (Wp.ite (fun e => Wp.z (Or.inr rfl) (Wp.ret ⟨rfl, ?_⟩)) (fun e => ?_))
      · rw [if_pos ⟨h1, Or.inl (nI_inj (by omega) (by omega) e)⟩]
      · have ne : u ≠ B := fun q => e (by rw [q])
        obtain ⟨v, e1, e2⟩ := eM_against hA s (u := u) (w := u + 1) hu (by omega)
        refine Wp.bindE e1 (Wp.ite (fun c => Wp.z (Or.inl rfl) (Wp.ret ⟨rfl, ?_⟩)) (fun c => Wp.z (Or.inr rfl) (Wp.ret ⟨rfl, ?_⟩)))
        · have c1 := cmp0_lt.mp c
          rw [if_neg (fun z => z.2.elim ne (fun y => by omega))]
        · have c1 : ¬ v.toInt < 0 := fun z => c (cmp0_lt.mpr z)
          rw [if_pos ⟨h1, Or.inr (by omega)⟩]
    · refine Wp.ite (fun e => K (Or.inl (nI_inj (by omega) (by omega) e))) (fun e => ?_)
      have ne : u ≠ A := fun q => e (by rw [q])
      obtain ⟨v, e1, e2⟩ := eM_against hA s (u := u) (w := u - 1) hu (by omega)
      refine Wp.bindE e1 (Wp.ite (fun c => Wp.z (Or.inl rfl) (Wp.ret ⟨rfl, ?_⟩)) (fun c => K (Or.inr ?_)))
      · have c1 := cmp0_le.mp c
        rw [if_neg (fun z => z.1.elim ne (fun y => by omega))]
      · have c1 : ¬ v.toInt ≤ 0 := fun z => c (cmp0_le.mpr z)
        omega
  obtain ⟨x, D1, e, rfl, rfl⟩ := H
  exact e
theorem eX_isBetter {p u : Nat} (hA : AB A B) (s : SrX D A B S) (hp : A ≤ p ∧ p ≤ B) (hu : A ≤ u ∧ u ≤ B) : fX7_isBetter (nI p) (nI u) D = some (btF S u p, D) := by
  have vp : (nI p).toInt = (p : Int) := nI_toInt (by omega)
  have vu : (nI u).toInt = (u : Int) := nI_toInt (by omega)
  have H : Wp (fX7_isBetter (nI p) (nI u) D) (fun x D1 => D1 = D ∧ x = btF S u p) := by
    unfold fX7_isBetter btF
    refine Wp.bindE (eX_compare hA s hp hu) (Wp.lets (Wp.lets (Wp.ite (fun c => Wp.z (Or.inr rfl) (Wp.ret ⟨rfl, ?_⟩)) (fun c => Wp.lets (Wp.ite (fun c2 => Wp.ile (fun c3 => Wp.z (Or.inl rfl) (Wp.ret ⟨rfl, ?_⟩)) (fun c3 => Wp.z (Or.inr rfl) (Wp.ret ⟨rfl, ?_⟩))) (fun c2 => Wp.z (Or.inl rfl) (Wp.ret ⟨rfl, ?_⟩)))))))
    · rw [if_pos (Or.inl (sg_gt.mp c))]
    · have d := sg_eq.mp c2
      rw [if_neg (fun z => z.elim (fun y => by omega) (fun y => by omega))]
    · rw [if_pos (Or.inr ⟨sg_eq.mp c2, by omega⟩)]
    · rw [if_neg (fun z => z.elim (fun y => c (sg_gt.mpr y)) (fun y => c2 (sg_eq.mpr y.1)))]
  obtain ⟨x, D1, e, rfl, rfl⟩ := H
  exact e
theorem pkK_s {k : Nat} (h : A ≤ k ∧ isPk S A B k) : pkK S A B (k + 1) = pkK S A B k ++ [k] := chL_t (P := fun u => A ≤ u ∧ isPk S A B u) h
theorem pkK_n {k : Nat} (h : ¬ (A ≤ k ∧ isPk S A B k)) : pkK S A B (k + 1) = pkK S A B k := chL_f (P := fun u => A ≤ u ∧ isPk S A B u) h
theorem pkK_A : pkK S A B A = [] := chL_nil (R := fun u => A ≤ u ∧ isPk S A B u) (fun s hs z => by omega)
theorem pkK_len (k : Nat) : A ≤ k → (pkK S A B k).length ≤ k - A := by
  induction k with
  | zero => intro h; rw [show pkK S A B 0 = [] from rfl]; exact Nat.zero_le _
  | succ k ih =>
    intro h
    by_cases e : A = k + 1
    · rw [← e, pkK_A]
      exact Nat.zero_le _
    · have ih := ih (by omega)
      by_cases p : A ≤ k ∧ isPk S A B k
      · rw [pkK_s p, List.length_append]
        show _ + 1 ≤ _
        omega
      · rw [pkK_n p]
        omega
theorem pkK_mem {k u : Nat} : u ∈ pkK S A B k ↔ (A ≤ u ∧ u < k) ∧ isPk S A B u := by
  unfold pkK chL
  rw [List.mem_filter, List.mem_range]
  simp
  exact ⟨fun z => ⟨⟨z.2.1, z.1⟩, z.2.2⟩, fun z => ⟨z.1.2, z.1.1, z.2⟩⟩
/-- the class's list of peaks -/
def PkX (D : ADD) (L : List Nat) : Prop := D.1 50 5 = nI L.length ∧ ∀ i p, L[i]? = some p → D.1 53 i = nI p
theorem SrX.fr {D2 : ADD} (s : SrX D A B S) (f : (∀ i, i < 5 → D2.1 50 i = D.1 50 i) ∧ D2.1 51 = D.1 51) : SrX D2 A B S := by
  obtain ⟨s0, s1, s2⟩ := s
  exact ⟨by rw [f.1 0 (by decide)]; exact s0, by rw [f.1 1 (by decide)]; exact s1, by rw [f.2]; exact s2⟩
theorem bX_listPeaks (hA : AB A B) (s : SrX D A B S) : Wp (fX7_listPeaks D) (fun _ D2 => SrX D2 A B S ∧ PkX D2 (pkK S A B (B + 1))) := by
  have vB : (nI B).toInt = (B : Int) := nI_toInt (by omega)
  have s0 := s.1
  unfold fX7_listPeaks
  refine Wp.lets (Wp.lets (Wp.lets (Wp.lets (Wp.go1 (fun k D2 => A ≤ k ∧ SrX D2 A B S ∧ PkX D2 (pkK S A B k)) (B + 1) (by omega) (fun g k D2 hk hI K => ?_) (k0 := A) ?_ (by omega) ⟨Nat.le_refl _, s.fr ⟨fun i hi => ?_, si_o (by decide)⟩, ?_⟩))))
  · obtain ⟨i0, i1, i2, i3⟩ := hI
    have vk : (nI k).toInt = (k : Int) := nI_toInt (by omega)
    have ll := pkK_len (S := S) (A := A) (B := B) k i0
    have vl : (nI (pkK S A B k).length).toInt = ((pkK S A B k).length : Int) := nI_toInt (by omega)
    have e301 : (Int32.ofNat 301).toInt = 301 := by decide
    unfold lX7_listPeaks_10
    rw [i1.2.1]
    refine Wp.ilt (fun q => ?_) (fun q => Wp.bindE (eX_isPeak hA i1 (u := k) (by omega)) (Wp.lets ?_))
    · have e : k = B + 1 := by omega
      subst e
      exact Wp.ret ⟨i1, i2, i3⟩
    · rw [i2]
      by_cases p : isPk S A B k
      · rw [if_pos p]
        refine Wp.neg (by decide) (Wp.ile (fun z => absurd z (by omega)) (fun _ => Wp.idx (vp_in_nI (by omega) (by decide)) (Wp.lets (Wp.lets (Wp.lets (K (by omega) _ ⟨by omega, i1.fr ⟨fun i hi => ?_, ?_⟩, ?_, fun i x hx => ?_⟩))))))
        · rw [si_s, if_neg (by omega), si_o (by decide)]
        · rw [si_o (by decide), si_o (by decide)]
        · rw [si_s, if_pos rfl, si_o (by decide), i2, pkK_s ⟨i0, p⟩, List.length_append]
          exact (nI_succ _).symm
        · rw [si_o (by decide), si_s, nI_clamp (show (pkK S A B k).length < 2 ^ 31 by omega)]
          rw [pkK_s ⟨i0, p⟩] at hx
          by_cases e : i = (pkK S A B k).length
          · rw [if_pos e]
            rw [e, List.getElem?_append_right (Nat.le_refl _), Nat.sub_self] at hx
            have hx : some k = some x := hx
            injection hx with hx
            rw [hx]
          · rw [if_neg e]
            have hl := (List.getElem?_eq_some_iff.mp hx).1
            rw [List.length_append] at hl
            have hl : i < (pkK S A B k).length + 1 := hl
            rw [List.getElem?_append_left (by omega)] at hx
            exact i3 i x hx
      · rw [if_neg p]
        refine Wp.pos rfl (Wp.lets (K (by omega) _ ⟨by omega, i1, ?_⟩))
        rw [pkK_n (fun z => p z.2)]
        exact ⟨i2, i3⟩
  · rw [si_s, if_neg (by decide)]
    exact s0
  · rw [si_s, if_neg (by omega)]
  · rw [pkK_A]
    exact ⟨by rw [si_s, if_pos rfl]; rfl, fun i p h => absurd h (by simp)⟩
theorem btF_01 {u : Nat} (s : Nat) : btF S u s = 0 ∨ btF S u s = 1 := by
  unfold btF
  split
  · exact Or.inr rfl
  · exact Or.inl rfl
theorem bX_betterPeaks {u : Nat} (hA : AB A B) (s : SrX D A B S) (pk : PkX D L) (hL : L.length ≤ 301) (hm : ∀ p, p ∈ L → A ≤ p ∧ p ≤ B) (hu : A ≤ u ∧ u ≤ B) : fX7_betterPeaks (nI u) D = some (sumL (btF S u) L, D) := by
  obtain ⟨p1, p2⟩ := pk
  have vl : (nI L.length).toInt = (L.length : Int) := nI_toInt (by omega)
  have e301 : (Int32.ofNat 301).toInt = 301 := by decide
  have H : Wp (fX7_betterPeaks (nI u) D) (fun x D1 => D1 = D ∧ x = sumL (btF S u) L) := by
    unfold fX7_betterPeaks
    refine Wp.lets (Wp.lets (Wp.go2 (fun k y D' => D' = D ∧ y = sumL (btF S u) (L.take k)) L.length (by omega) (fun g k y D' hk hI K => ?_) (k0 := 0) rfl (Nat.zero_le _) ⟨rfl, rfl⟩))
    obtain ⟨e, rfl⟩ := hI
    subst e
    have vk : (nI k).toInt = (k : Int) := nI_toInt (by omega)
    unfold lX7_betterPeaks_4
    rw [p1, nI_clamp (show k < 2 ^ 31 by omega)]
    refine Wp.ile (fun q => Wp.ret ⟨rfl, ?_⟩) (fun q => ?_)
    · rw [show k = L.length by omega, List.take_length]
    · have hk2 : k < L.length := by omega
      have hs : L[k]? = some L[k] := List.getElem?_eq_getElem hk2
      have hp := hm L[k] (List.getElem_mem hk2)
      have tk : L.take (k + 1) = L.take k ++ [L[k]] := by rw [List.take_add_one, hs]; rfl
      rw [p2 k _ hs]
      refine Wp.ile (fun z => absurd z (by omega)) (fun _ => Wp.idx (vp_in_nI (by omega) (by decide)) (Wp.bindE (eX_isBetter hA s hp hu) (Wp.lets (Wp.ite (fun c => Wp.lets (Wp.lets (K hk2 _ _ ⟨rfl, ?_⟩))) (fun c => Wp.lets (Wp.lets (K hk2 _ _ ⟨rfl, ?_⟩)))))))
      · rw [tk, sumL_snoc, c]
      · rw [tk, sumL_snoc, (btF_01 (S := S) (u := u) L[k]).resolve_left c]
  obtain ⟨x, D1, e, rfl, rfl⟩ := H
  exact e
theorem bM_placeOf {u : Nat} (hA : AB A B) (s : SrM E A B S) (hu : A ≤ u ∧ u ≤ B) : fX11_placeOf (nI A) (nI B) (nI u) E = some (if isPk S A B u then pkN S A B u else 9999, E) := by
  have vB : (nI B).toInt = (B : Int) := nI_toInt (by omega)
  have vu : (nI u).toInt = (u : Int) := nI_toInt (by omega)
  have H : Wp (fX11_placeOf (nI A) (nI B) (nI u) E) (fun x D1 => D1 = E ∧ x = if isPk S A B u then pkN S A B u else 9999) := by
    unfold fX11_placeOf
    refine Wp.bindE (eM_isPeak hA s hu) ?_
    by_cases pu : isPk S A B u
    · rw [if_pos pu, if_pos pu]
      refine Wp.neg (by decide) (Wp.lets (Wp.lets (Wp.go2 (fun k y D' => D' = E ∧ A ≤ k ∧ y = sumL (btF S u) (pkK S A B k)) (B + 1) (by omega) (fun g k y D' hk hI K => ?_) (k0 := A) rfl (by omega) ⟨rfl, Nat.le_refl _, by rw [pkK_A]; rfl⟩)))
      obtain ⟨e, i0, rfl⟩ := hI
      subst e
      have vk : (nI k).toInt = (k : Int) := nI_toInt (by omega)
      unfold lX11_placeOf_20
      refine Wp.ilt (fun q => Wp.ret ⟨rfl, ?_⟩) (fun q => ?_)
      · have e : k = B + 1 := by omega
        rw [e]
        rfl
      · obtain ⟨v, e1, e2⟩ := eM_against hA s (u := k) (w := u) (by omega) hu
        refine Wp.bindE e1 (Wp.letQ (fun Q j => ∀ x, (x = 0 ∧ ¬ (isPk S A B k ∧ bfr S k u)) ∨ (x = 1 ∧ isPk S A B k ∧ bfr S k u) → Wp (j x D') Q) (fun x hx => Wp.lets (Wp.lets (K (by omega) _ _ ⟨rfl, by omega, ?_⟩))) (fun j K2 => Wp.lets (Wp.ite (fun e => K2 _ (Or.inl ⟨rfl, fun z => ?_⟩)) (fun e => Wp.bindE (eM_isPeak hA s (u := k) (by omega)) ?_))))
        · by_cases p : isPk S A B k
          · rw [pkK_s ⟨i0, p⟩, sumL_snoc]
            unfold btF
            rcases hx with ⟨rfl, z⟩ | ⟨rfl, z⟩
            · rw [if_neg (fun y => z ⟨p, y⟩)]
            · rw [if_pos z.2]
          · rw [pkK_n (fun z => p z.2)]
            rcases hx with ⟨rfl, z⟩ | ⟨rfl, z⟩
            · exact Int32.add_zero _
            · exact absurd z.1 p
        · have e : k = u := nI_inj (by omega) (by omega) e
          subst e
          have r0 : rk S k k = 0 := by unfold rk; omega
          have := z.2
          unfold bfr at this
          omega
        · by_cases p : isPk S A B k
          · rw [if_pos p]
            refine Wp.neg (by decide) (Wp.lets (Wp.ite (fun c => K2 _ (Or.inr ⟨rfl, p, Or.inl (by rw [← e2]; exact cmp0_gt.mp c)⟩)) (fun c => Wp.ite (fun c2 => Wp.ile (fun c3 => K2 _ (Or.inl ⟨rfl, fun z => ?_⟩)) (fun c3 => K2 _ (Or.inr ⟨rfl, p, Or.inr ⟨by rw [← e2]; exact cmp0_eq.mp c2, by omega⟩⟩))) (fun c2 => K2 _ (Or.inl ⟨rfl, fun z => ?_⟩)))))
            · have := z.2
              have := cmp0_eq.mp c2
              unfold bfr at *
              omega
            · have c4 : ¬ 0 < v.toInt := fun y => c (cmp0_gt.mpr y)
              have c5 : ¬ v.toInt = 0 := fun y => c2 (cmp0_eq.mpr y)
              have := z.2
              unfold bfr at *
              omega
          · rw [if_neg p]
            exact Wp.pos rfl (K2 _ (Or.inl ⟨rfl, fun z => p z.1⟩))
    · rw [if_neg pu, if_neg pu]
      exact Wp.pos rfl (Wp.ret ⟨rfl, rfl⟩)
  obtain ⟨x, D1, e, rfl, rfl⟩ := H
  exact e
end PKs
end
section
/-! peak: both sides, the end -/
theorem sum01k {g : Nat → Int32} (hg : ∀ s, g s = 0 ∨ g s = 1) : ∀ (L : List Nat) (k : Nat), ∃ c, c ≤ L.length ∧ L.foldl (fun a s => a + g s) (nI k) = nI (k + c) := by
  intro L
  induction L with
  | nil => intro k; exact ⟨0, Nat.le_refl _, rfl⟩
  | cons x L ih =>
    intro k
    rcases hg x with e | e
    · obtain ⟨c, h1, h2⟩ := ih k
      refine ⟨c, Nat.le_succ_of_le h1, ?_⟩
      show L.foldl _ (nI k + g x) = _
      rw [e, Int32.add_zero, h2]
    · obtain ⟨c, h1, h2⟩ := ih (k + 1)
      refine ⟨c + 1, Nat.succ_le_succ h1, ?_⟩
      show L.foldl _ (nI k + g x) = _
      rw [e, ← nI_succ, h2, show k + 1 + c = k + (c + 1) by omega]
theorem sum01_lt {g : Nat → Int32} (hg : ∀ s, g s = 0 ∨ g s = 1) {L : List Nat} {u : Nat} (hm : u ∈ L) (h0 : g u = 0) : ∃ c, c < L.length ∧ sumL g L = nI c := by
  obtain ⟨l1, l2, rfl⟩ := List.append_of_mem hm
  obtain ⟨c1, a1, b1⟩ := sum01k hg l1 0
  obtain ⟨c2, a2, b2⟩ := sum01k hg l2 (0 + c1)
  refine ⟨0 + c1 + c2, ?_, ?_⟩
  · rw [List.length_append]
    show _ < _ + (l2.length + 1)
    omega
  · unfold sumL
    rw [List.foldl_append]
    show List.foldl _ (List.foldl _ (nI 0) l1 + g u) l2 = _
    rw [b1, h0, Int32.add_zero, b2]
section PK2
variable {D D1 E E1 : ADD} {A B N n0 : Nat} {S : Nat → Int32} {L : List Nat} {P : APD}
theorem pkK_take : ∀ (n i u : Nat), (pkK S A B n)[i]? = some u → (pkK S A B n).take i = pkK S A B u ∧ u < n := by
  intro n
  induction n with
  | zero => intro i u h; exact absurd h (by unfold pkK; rw [chL_0]; simp)
  | succ n ih =>
    intro i u h
    by_cases p : A ≤ n ∧ isPk S A B n
    · rw [pkK_s p] at h ⊢
      by_cases q : i < (pkK S A B n).length
      · rw [List.getElem?_append_left q] at h
        rw [List.take_append_of_le_length (Nat.le_of_lt q)]
        exact ⟨(ih i u h).1, Nat.lt_succ_of_lt (ih i u h).2⟩
      · have hl := (List.getElem?_eq_some_iff.mp h).1
        rw [List.length_append] at hl
        have hl : i < (pkK S A B n).length + 1 := hl
        have e : i = (pkK S A B n).length := by omega
        rw [e, List.getElem?_append_right (Nat.le_refl _), Nat.sub_self] at h
        have h : some n = some u := h
        injection h with h
        rw [e, List.take_left, h]
        exact ⟨by rw [← h], by omega⟩
    · rw [pkK_n p] at h ⊢
      exact ⟨(ih i u h).1, Nat.lt_succ_of_lt (ih i u h).2⟩
/-- r is the first unit at place k among the peaks, or -1 -/
def PkR (S : Nat → Int32) (A B : Nat) (k r : Int32) : Prop := (∃ u, (A ≤ u ∧ u ≤ B) ∧ (isPk S A B u ∧ pkN S A B u = k) ∧ (∀ w, A ≤ w → w < u → ¬ (isPk S A B w ∧ pkN S A B w = k)) ∧ r = nI u) ∨ ((∀ w, A ≤ w → w ≤ B → ¬ (isPk S A B w ∧ pkN S A B w = k)) ∧ r = -1)
theorem PkR.uniq {k r r2 : Int32} (h : PkR S A B k r) (h2 : PkR S A B k r2) : r = r2 := by
  rcases h with ⟨u, a, b, c, rfl⟩ | ⟨a, rfl⟩
  · rcases h2 with ⟨u2, a2, b2, c2, rfl⟩ | ⟨a2, rfl⟩
    · rcases Nat.lt_trichotomy u u2 with l | l | l
      · exact absurd b (c2 u a.1 l)
      · rw [l]
      · exact absurd b2 (c u2 a2.1 l)
    · exact absurd b (a2 u a.1 a.2)
  · rcases h2 with ⟨u2, a2, b2, c2, rfl⟩ | ⟨a2, rfl⟩
    · exact absurd b2 (a u2 a2.1 a2.2)
    · rfl
theorem pkN_lt {u : Nat} (hA : AB A B) (hu : A ≤ u ∧ u ≤ B) (p : isPk S A B u) : ∃ c : Nat, c ≤ B - A ∧ pkN S A B u = nI c := by
  have r0 : rk S u u = 0 := by unfold rk; omega
  have g0 : btF S u u = 0 := by
    unfold btF
    rw [if_neg (fun z => by unfold bfr at z; omega)]
  obtain ⟨c, h1, h2⟩ := sum01_lt (g := btF S u) btF_01 (pkK_mem.mpr ⟨⟨hu.1, Nat.lt_succ_of_le hu.2⟩, p⟩ : u ∈ pkK S A B (B + 1)) g0
  have := pkK_len (S := S) (A := A) (B := B) (B + 1) (by omega)
  exact ⟨c, by omega, h2⟩
theorem bX_peakAt {k : Int32} (hA : AB A B) (s : SrX D A B S) : Wp (fX7_peakAt k D) (fun r _ => PkR S A B k r) := by
  unfold fX7_peakAt
  refine Wp.bind (bX_listPeaks hA s) (fun _ D2 q => Wp.lets (Wp.lets ?_))
  obtain ⟨s2, pk⟩ := q
  have ll := pkK_len (S := S) (A := A) (B := B) (B + 1) (by omega)
  have vl : (nI (pkK S A B (B + 1)).length).toInt = ((pkK S A B (B + 1)).length : Int) := nI_toInt (by omega)
  have e301 : (Int32.ofNat 301).toInt = 301 := by decide
  have mem : ∀ p, p ∈ pkK S A B (B + 1) → A ≤ p ∧ p ≤ B := fun p hp => by
    have := (pkK_mem.mp hp).1
    omega
  refine Wp.go1 (fun i D' => D' = D2 ∧ ∀ w, w ∈ (pkK S A B (B + 1)).take i → pkN S A B w ≠ k) (pkK S A B (B + 1)).length (by omega) (fun g i D' hi hI K => ?_) (k0 := 0) rfl (Nat.zero_le _) ⟨rfl, fun w hw => absurd hw (by simp)⟩
  obtain ⟨e, i1⟩ := hI
  subst e
  have vi : (nI i).toInt = (i : Int) := nI_toInt (by omega)
  unfold lX7_peakAt_6
  rw [pk.1, nI_clamp (show i < 2 ^ 31 by omega)]
  refine Wp.ile (fun q => Wp.ret (Or.inr ⟨fun w w1 w2 z => ?_, rfl⟩)) (fun q => Wp.ile (fun z => absurd z (by omega)) (fun _ => ?_))
  · have e : i = (pkK S A B (B + 1)).length := by omega
    rw [e, List.take_length] at i1
    exact i1 w (pkK_mem.mpr ⟨⟨w1, by omega⟩, z.1⟩) z.2
  · have hk2 : i < (pkK S A B (B + 1)).length := by omega
    have hs : (pkK S A B (B + 1))[i]? = some (pkK S A B (B + 1))[i] := List.getElem?_eq_getElem hk2
    generalize (pkK S A B (B + 1))[i] = u at hs
    have hmu : u ∈ pkK S A B (B + 1) := List.mem_of_getElem? hs
    have hu := mem u hmu
    obtain ⟨tk, -⟩ := pkK_take _ _ _ hs
    have ii : vp_in (nI i) 301 := vp_in_nI (by omega) (by decide)
    rw [pk.2 i u hs]
    refine Wp.idx ii (Wp.bindE (bX_betterPeaks hA s2 pk (by omega) mem hu) (Wp.ite (fun c => Wp.idx ii (Wp.ret (Or.inl ⟨u, hu, ⟨(pkK_mem.mp hmu).2, c⟩, fun w w1 w2 z => ?_, pk.2 i u hs⟩))) (fun c => Wp.lets (K hk2 _ ⟨rfl, fun w hw => ?_⟩))))
    · rw [tk] at i1
      exact i1 w (pkK_mem.mpr ⟨⟨w1, w2⟩, z.1⟩) z.2
    · rw [List.take_add_one, hs] at hw
      rcases List.mem_append.mp hw with y | y
      · exact i1 w y
      · have : w = u := by simpa using y
        rw [this]
        exact c
theorem bM_peakRun {k : Int32} {J : ADD → Option (Int32 × ADD)} (hA : AB A B) (s : SrM E A B S) (hk : k.toInt ≤ 300) (hJ : J = fun D8 => some ((-1 : Int32), D8)) : Wp (aFix aFuel (lX11_peak_48 (nI A) (nI B) k J) (fun _ _ => none) (nI A) E) (fun r _ => PkR S A B k r) := by
  have vB : (nI B).toInt = (B : Int) := nI_toInt (by omega)
  refine Wp.go1 (fun i D' => D' = E ∧ A ≤ i ∧ ∀ w, A ≤ w → w < i → ¬ (isPk S A B w ∧ pkN S A B w = k)) (B + 1) (by omega) (fun g i D' hi hI K => ?_) (k0 := A) rfl (by omega) ⟨rfl, Nat.le_refl _, fun w w1 w2 => by omega⟩
  obtain ⟨e, i0, i1⟩ := hI
  subst e
  have vi : (nI i).toInt = (i : Int) := nI_toInt (by omega)
  unfold lX11_peak_48
  rw [hJ]
  refine Wp.ilt (fun q => Wp.ret (Or.inr ⟨fun w w1 w2 => i1 w w1 (by omega), rfl⟩)) (fun q => Wp.bindE (bM_placeOf hA s (u := i) (by omega)) (Wp.ite (fun c => Wp.ret ?_) (fun c => Wp.lets (K (by omega) _ ⟨rfl, by omega, fun w w1 w2 z => ?_⟩))))
  · by_cases p : isPk S A B i
    · rw [if_pos p] at c
      exact Or.inl ⟨i, by omega, ⟨p, c⟩, i1, rfl⟩
    · rw [if_neg p] at c
      rw [← c] at hk
      exact absurd hk (by decide)
  · by_cases q2 : w = i
    · subst q2
      rw [if_pos z.1] at c
      exact c z.2
    · exact i1 w w1 (by omega) z
theorem jr_peak {a b c : Int32} (h : IR RF n0 P E) : BR RF n0 P id (fX10_peak a b c P.2) (fX11_peak a b c E) := by
  obtain ⟨hb, ⟨tp, fl, w, pr⟩, hc⟩ := h.nowF
  have qx := h.1.2.1.2.qx
  have qm := h.1.2.2.1.qm
  have e3 : (300 : Int32).toInt = 300 := by decide
  generalize hL : cL0 P.2 E = L
  have X : Wp (fX10_peak a b c P.2) (fun r _ => (UR a b 300 ∧ L.length ≠ 0 ∧ PkR (scS P.2 L) a.toNatClampNeg b.toNatClampNeg c r) ∨ (¬ (UR a b 300 ∧ L.length ≠ 0) ∧ r = -1)) := by
    unfold fX10_peak
    refine Wp.bindE (eX_isRange _ _ _ _) (Wp.lets ?_)
    rw [e3]
    by_cases hU : UR a b 300
    · rw [if_pos hU]
      obtain ⟨hA, ea, eb⟩ := UR.ab hU
      refine Wp.neg (by decide) (Wp.bind (ga0 qx hb) (fun r D1 p => ?_))
      rw [hL] at p
      obtain ⟨rfl, -, p⟩ := p
      have m := (pil_m p).1
      have l2 := p.2.1
      have vl : (nI L.length).toInt = (L.length : Int) := nI_toInt (by omega)
      refine Wp.ite (fun z => Wp.ret (Or.inr ⟨fun y => y.2 ?_, rfl⟩)) (fun z => ?_)
      · rw [m] at z
        rw [z, ti_0] at vl
        omega
      · have nz : L.length ≠ 0 := fun y => z (by rw [m, y]; rfl)
        have B1 := bX_scoreUnits hA p
        rw [← ea, ← eb] at B1
        exact Wp.bind B1 (fun _ D2 s => Wp.bind (bX_peakAt hA s.2) (fun r D3 q => Wp.ret (Or.inl ⟨hU, nz, q⟩)))
    · rw [if_neg hU]
      exact Wp.pos rfl (Wp.ret (Or.inr ⟨fun z => hU z.1, rfl⟩))
  have M : Wp (fX11_peak a b c E) (fun r _ => (UR a b 300 ∧ L.length ≠ 0 ∧ PkR (scS P.2 L) a.toNatClampNeg b.toNatClampNeg c r) ∨ (¬ (UR a b 300 ∧ L.length ≠ 0) ∧ r = -1)) := by
    unfold fX11_peak
    refine Wp.lets (Wp.bindE (eM_areUnits _ _ _) ?_)
    by_cases hU : UR a b 300
    · rw [if_pos hU]
      obtain ⟨hA, ea, eb⟩ := UR.ab hU
      refine Wp.neg (by decide) (Wp.bind (lk0 qm hb w hc) (fun _ E1 l => Wp.bindE (bM_those l.2) (Wp.lets ?_)))
      have cr := l.2
      have c2 : (cL0 P.2 E).length ≤ 32 := Nat.le_trans chL_len cr.1.2
      rw [hL] at c2
      have vl : (nI L.length).toInt = (L.length : Int) := nI_toInt (by omega)
      have hL2 : chL (fun k => thE E k ∧ chX P.2 (nI k)) (nS (mB E)) = L := hL
      rw [hL2]
      refine Wp.ite (fun z => Wp.ret (Or.inr ⟨fun y => y.2 ?_, rfl⟩)) (fun z => Wp.bindE (eM_is _ _ _ _) ?_)
      · rw [z, ti_0] at vl
        omega
      · have nz : L.length ≠ 0 := fun y => z (by rw [y]; rfl)
        have eba : (b - a).toInt = b.toInt - a.toInt := ti_sub rfl rfl (by omega) (by omega)
        have la := cl_i (show 0 ≤ a.toInt by omega)
        have lb := cl_i (show 0 ≤ b.toInt by omega)
        rw [ti_0, eba]
        by_cases hk : 0 ≤ c.toInt ∧ c.toInt ≤ b.toInt - a.toInt
        · rw [if_pos hk]
          have F1 := bM_findScores hA cr
          rw [← ea, ← eb, hL2] at F1
          refine Wp.neg (by decide) (Wp.bind F1 (fun _ E2 s => Wp.lets (Wp.lets ?_)))
          have R1 := bM_peakRun (k := c) hA s.2 (by omega) rfl
          rw [← ea, ← eb] at R1
          exact R1.mono (fun r _ q => Or.inl ⟨hU, nz, q⟩)
        · rw [if_neg hk]
          refine Wp.pos rfl (Wp.ret (Or.inl ⟨hU, nz, Or.inr ⟨fun w w1 w2 y => hk ?_, rfl⟩⟩))
          obtain ⟨cc, h1, h2⟩ := pkN_lt hA ⟨w1, w2⟩ y.1
          have vc : (nI cc).toInt = (cc : Int) := nI_toInt (by omega)
          rw [← y.2, h2, vc]
          omega
    · rw [if_neg hU]
      exact Wp.pos rfl (Wp.ret (Or.inr ⟨fun z => hU z.1, rfl⟩))
  obtain ⟨r, E', e, hr⟩ := M
  refine h.askE (v := r) (fun q => oX_peak q) (fun q => oM_peak q) (X.mono (fun r' _ h' => ?_)) ⟨r, E', e, rfl⟩
  rcases h' with ⟨a1, a2, a3⟩ | ⟨a1, rfl⟩
  · rcases hr with ⟨b1, b2, b3⟩ | ⟨b1, -⟩
    · exact a3.uniq b3
    · exact absurd ⟨a1, a2⟩ b1
  · rcases hr with ⟨b1, b2, b3⟩ | ⟨b1, rfl⟩
    · exact absurd ⟨b1, b2⟩ a1
    · rfl
end PK2
end
