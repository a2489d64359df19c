section
/-! heaps: both sides -/
/-- bits of a long -/
def bl (x : Int64) (i : Nat) : Bool := x.toBitVec.getLsbD i
theorem l_or (x y : Int64) (i : Nat) : bl (x ||| y) i = (bl x i || bl y i) := by unfold bl; rw [Int64.toBitVec_or, BitVec.getLsbD_or]
theorem l_and (x y : Int64) (i : Nat) : bl (x &&& y) i = (bl x i && bl y i) := by unfold bl; rw [Int64.toBitVec_and, BitVec.getLsbD_and]
theorem l_m1 : ∀ i, i < 64 → bl (-1) i = true := by decide +kernel
theorem l_0 (i : Nat) : bl 0 i = false := BitVec.getLsbD_zero
theorem l_not (x : Int64) {i : Nat} (hi : i < 64) : bl (x ^^^ -1) i = !(bl x i) := by
  have m := l_m1 i hi
  unfold bl at m ⊢
  rw [Int64.toBitVec_xor, BitVec.getLsbD_xor, m, Bool.xor_true]
abbrev sl1 (n : Nat) : Int64 := (1 : Int64) <<< ((nI n).toInt64 &&& 63)
theorem sl1_bt : ∀ n, n < 32 → ∀ i, i < 64 → bl (sl1 n) i = decide (i = n) := by decide +kernel
theorem sl_l : ∀ n, n < 32 → (((nI n).toInt64 &&& 63).toBitVec.smod 64).toNat = n := by decide +kernel
theorem bl_1b : ∀ i, i < 64 → bl 1 i = decide (i = 0) := by decide +kernel
theorem l_ext {x y : Int64} (h : ∀ i, i < 64 → bl x i = bl y i) : x = y := Int64.toBitVec_inj.mp (BitVec.eq_of_getLsbD_eq (fun i hi => h i hi))
theorem l_shr0 {x : Int64} {n : Nat} (hn : n < 32) : bl (x >>> ((nI n).toInt64 &&& 63)) 0 = bl x n := by
  unfold bl
  rw [Int64.toBitVec_shiftRight]
  show (x.toBitVec.sshiftRight (((nI n).toInt64 &&& 63).toBitVec.smod 64).toNat).getLsbD 0 = _
  rw [sl_l n hn, BitVec.getLsbD_sshiftRight]
  simp
  intro h
  omega
theorem l_test {x : Int64} {n : Nat} (hn : n < 32) : aCmp ((x >>> ((nI n).toInt64 &&& 63)) &&& 1) 1 = 0 ↔ bl x n = true := by
  have e0 := l_shr0 (x := x) hn
  show lg_cmp _ _ = 0 ↔ _
  rw [lg_cmp_eq]
  constructor
  · intro h
    have h2 : bl ((x >>> ((nI n).toInt64 &&& 63)) &&& 1) 0 = true := by rw [h]; decide
    rw [l_and, bl_1b 0 (by decide), e0] at h2
    simpa using h2
  · intro h
    refine l_ext (fun i hi => ?_)
    rw [l_and, bl_1b i hi]
    by_cases h0 : i = 0
    · subst h0
      rw [e0, h]
      rfl
    · simp [h0]
/-- how many -/
def cnQ (f : Nat → Bool) : Nat → Nat
  | 0 => 0
  | n + 1 => cnQ f n + (if f n then 1 else 0)
theorem cnQ_le (f : Nat → Bool) : ∀ n, cnQ f n ≤ n
  | 0 => Nat.le_refl _
  | n + 1 => by
    have := cnQ_le f n
    show cnQ f n + _ ≤ n + 1
    split <;> omega
theorem cnQ_full {f : Nat → Bool} : ∀ n, cnQ f n = n → ∀ i, i < n → f i = true
  | 0, _, i, hi => absurd hi (Nat.not_lt_zero _)
  | n + 1, h, i, hi => by
    have l := cnQ_le f n
    have h : cnQ f n + (if f n then 1 else 0) = n + 1 := h
    by_cases fn : f n = true
    · rw [if_pos fn] at h
      by_cases e : i = n
      · rw [e]; exact fn
      · exact cnQ_full n (by omega) i (by omega)
    · rw [if_neg fn] at h
      omega
theorem cnQ_put {f g : Nat → Bool} {k : Nat} (hf : f k = false) (hg : g k = true) (e : ∀ i, i ≠ k → g i = f i) : ∀ n, (k < n → cnQ g n = cnQ f n + 1) ∧ (n ≤ k → cnQ g n = cnQ f n)
  | 0 => ⟨fun h => absurd h (Nat.not_lt_zero _), fun _ => rfl⟩
  | n + 1 => by
    obtain ⟨a, b⟩ := cnQ_put hf hg e n
    constructor
    · intro h
      show cnQ g n + _ = cnQ f n + _ + 1
      by_cases q : n = k
      · subst q
        rw [b (Nat.le_refl _), hg, hf]
        rfl
      · rw [a (by omega), e n q]
        omega
    · intro h
      show cnQ g n + _ = cnQ f n + _
      rw [b (by omega), e n (by omega)]
section HEs
variable {D D1 E E1 : ADD} {N n0 a : Nat} {d : Int32} {L : List Nat} {R : Nat → Prop} {P : APD}
/-- two that may be one -/
def Tw (D : ADD) (d : Int32) (s r : Nat) : Prop := knX D (nI s) 4 = knX D (nI r) 4 ∧ knX D (nI s) 1 = knX D (nI r) 1 ∧ knX D (nI s) 7 = knX D (nI r) 7 ∧ (-d.toInt ≤ (knX D (nI s) 0).toInt - (knX D (nI r) 0).toInt ∧ (knX D (nI s) 0).toInt - (knX D (nI r) 0).toInt ≤ d.toInt)
/-- what a heap reaches from its first -/
def Rc (D : ADD) (d : Int32) (N : Nat) (R : Nat → Prop) (a s : Nat) : Prop := ∀ S : Nat → Prop, S a → (∀ x y, S x → y < N → R y → Tw D d x y → S y) → S s
theorem Rc.own : Rc D d N R a a := fun _ h _ => h
theorem Rc.next {x y : Nat} (h : Rc D d N R a x) (hy : y < N) (hr : R y) (t : Tw D d x y) : Rc D d N R a y := fun S h0 hs => hs x y (h S h0 hs) hy hr t
def Lst (D : ADD) (d : Int32) (N : Nat) (R : Nat → Prop) (a m : Nat) : Prop := Rc D d N R a m ∧ ∀ s, Rc D d N R a s → m ≤ s
noncomputable def hpV (D : ADD) (d : Int32) (N : Nat) (R : Nat → Prop) (a : Nat) : Nat := Classical.epsilon (Lst D d N R a)
theorem hpV_of {m : Nat} (h : Lst D d N R a m) : m = hpV D d N R a := by
  have g : Lst D d N R a (hpV D d N R a) := Classical.epsilon_spec (p := Lst D d N R a) ⟨m, h⟩
  exact Nat.le_antisymm (h.2 _ g.1) (g.2 _ h.1)
/-- weights of those that count lie within their bounds -/
def Wt (D : ADD) (N : Nat) (R : Nat → Prop) : Prop := ∀ s, s < N → R s → 0 ≤ (knX D (nI s) 0).toInt ∧ (knX D (nI s) 0).toInt ≤ 30000
theorem bM_twins {i k : Nat} (c : CR D E1 N R) (wt : Wt D N R) (hd : 0 ≤ d.toInt ∧ d.toInt ≤ 500) (hi : i < N) (hk : k < N) : ∃ x, fX11_areTwins (nI i) (nI k) d E1 = some (x, E1) ∧ Bo x (R i ∧ R k ∧ Tw D d i k) := by
  have n32 := c.1.2
  have vi : (nI i).toInt = (i : Int) := nI_toInt (by omega)
  have vk : (nI k).toInt = (k : Int) := nI_toInt (by omega)
  have ii : vp_in (nI i) 32 := vp_in_nI (by omega) (by decide)
  have ik : vp_in (nI k) 32 := vp_in_nI (by omega) (by decide)
  obtain ⟨bi, gi⟩ := c.2 i hi
  obtain ⟨bk, gk⟩ := c.2 k hk
  have bi := bz_Bo bi
  have bk := bz_Bo bk
  have fi : ∀ f : Nat, f < 11 → fX11_f (nI i) (nI f) E1 = some (E1.1 32 (11 * i + f), E1) := fun f hf => by
    have vf : (nI f).toInt = (f : Int) := nI_toInt (by omega)
    rw [eM_f (by omega) (by omega), nI_clamp (by omega), nI_clamp (by omega)]
  have fk : ∀ f : Nat, f < 11 → fX11_f (nI k) (nI f) E1 = some (E1.1 32 (11 * k + f), E1) := fun f hf => by
    have vf : (nI f).toInt = (f : Int) := nI_toInt (by omega)
    rw [eM_f (by omega) (by omega), nI_clamp (by omega), nI_clamp (by omega)]
  have nd : (-d).toInt = -d.toInt := by
    rw [show -d = 0 - d from (Int32.zero_sub d).symm, ti_sub ti_0 rfl (by omega) (by omega)]
    omega
  have z0 : (¬ (R i ∧ R k ∧ Tw D d i k)) → Wp (aZ 0 (some ((0 : Int32), E1))) (fun x D1 => D1 = E1 ∧ Bo x (R i ∧ R k ∧ Tw D d i k)) := fun h => Wp.z (Or.inl rfl) (Wp.ret ⟨rfl, Or.inr ⟨rfl, h⟩⟩)
  have H : Wp (fX11_areTwins (nI i) (nI k) d E1) (fun x D1 => D1 = E1 ∧ Bo x (R i ∧ R k ∧ Tw D d i k)) := by
    unfold fX11_areTwins
    refine Wp.bindE (fi 0 (by decide)) (Wp.bindE (fk 0 (by decide)) (Wp.lets (Wp.idx ii (Wp.lets (Wp.lets ?_)))))
    rw [nI_clamp (show i < 2 ^ 31 by omega), nI_clamp (show k < 2 ^ 31 by omega)]
    refine Wp.ite (fun q => z0 (fun z => bi.mp q z.1)) (fun q => Wp.idx ik (Wp.ite (fun q2 => z0 (fun z => bk.mp q2 z.2.1)) (fun q2 => ?_)))
    have ri : R i := Classical.byContradiction (fun y => q (bi.mpr y))
    have rk : R k := Classical.byContradiction (fun y => q2 (bk.mpr y))
    have ci := (gi ri).1
    have ck := (gk rk).1
    have i0 : E1.1 32 (11 * i + 0) = knX D (nI i) 0 := ci 0 (by decide)
    have i1 : E1.1 32 (11 * i + 1) = knX D (nI i) 1 := ci 1 (by decide)
    have i4 : E1.1 32 (11 * i + 4) = knX D (nI i) 4 := ci 4 (by decide)
    have i7 : E1.1 32 (11 * i + 7) = knX D (nI i) 7 := ci 7 (by decide)
    have k0 : E1.1 32 (11 * k + 0) = knX D (nI k) 0 := ck 0 (by decide)
    have k1 : E1.1 32 (11 * k + 1) = knX D (nI k) 1 := ck 1 (by decide)
    have k4 : E1.1 32 (11 * k + 4) = knX D (nI k) 4 := ck 4 (by decide)
    have k7 : E1.1 32 (11 * k + 7) = knX D (nI k) 7 := ck 7 (by decide)
    have wi := wt i hi ri
    have wk := wt k hk rk
    have sb : (knX D (nI i) 0 - knX D (nI k) 0).toInt = (knX D (nI i) 0).toInt - (knX D (nI k) 0).toInt := ti_sub rfl rfl (by omega) (by omega)
    refine Wp.bindE (fi 4 (by decide)) (Wp.bindE (fk 4 (by decide)) ?_)
    rw [i4, k4]
    refine Wp.ite (fun p4 => Wp.bindE (fi 1 (by decide)) (Wp.bindE (fk 1 (by decide)) ?_)) (fun p4 => z0 (fun z => p4 z.2.2.1))
    rw [i1, k1]
    refine Wp.ite (fun p1 => Wp.bindE (fi 7 (by decide)) (Wp.bindE (fk 7 (by decide)) ?_)) (fun p1 => z0 (fun z => p1 z.2.2.2.1))
    rw [i7, k7]
    refine Wp.ite (fun p7 => Wp.bindE (eM_is _ _ _ _) ?_) (fun p7 => z0 (fun z => p7 z.2.2.2.2.1))
    rw [i0, k0, sb, nd]
    by_cases pw : -d.toInt ≤ (knX D (nI i) 0).toInt - (knX D (nI k) 0).toInt ∧ (knX D (nI i) 0).toInt - (knX D (nI k) 0).toInt ≤ d.toInt
    · rw [if_pos pw]
      exact Wp.neg (by decide) (Wp.z (Or.inr rfl) (Wp.ret ⟨rfl, Or.inl ⟨rfl, ri, rk, p4, p1, p7, pw⟩⟩))
    · rw [if_neg pw]
      exact Wp.pos rfl (z0 (fun z => pw z.2.2.2.2.2))
  obtain ⟨x, D1, e, rfl, b⟩ := H
  exact ⟨x, e, b⟩
/-- bits that the heap reaches -/
abbrev SoB (D : ADD) (d : Int32) (N : Nat) (R : Nat → Prop) (a : Nat) (x : Int32) : Prop := ∀ i, i < 32 → bt x i = true → (i < N ∧ R i) ∧ Rc D d N R a i
theorem bM_heapGo {Q : Int32 → ADD → Prop} (c : CR D E1 N R) (wt : Wt D N R) (hd : 0 ≤ d.toInt ∧ d.toInt ≤ 500) (ha : a < N) (ra : R a) {j : Int32 → ADD → Option (Int32 × ADD)} {z : Int32 → Int32 → ADD → Option (Int32 × ADD)} (K : ∀ x, bt x a = true → SoB D d N R a x → (∀ i k, i < N → k < N → bt x i = true → R i → R k → Tw D d i k → bt x k = true) → Wp (j x E1) Q) : Wp (aFix aFuel (lX11_heap_48 d j) z (sh1 a) 0 E1) Q := by
  have n32 := c.1.2
  have vN : (nI N).toInt = (N : Int) := nI_toInt (by omega)
  have own : bt (sh1 a) a = true := bt_own (by omega)
  have so0 : SoB D d N R a (sh1 a) := fun i hi h => by
    rw [sh1_bt a (by omega) i hi, decide_eq_true_eq] at h
    subst h
    exact ⟨⟨ha, ra⟩, Rc.own⟩
  refine Wp.fix2 (fun n x y D' => D' = E1 ∧ subB y x ∧ bt x a = true ∧ SoB D d N R a x ∧ (∀ i k, i < N → k < N → bt y i = true → R i → R k → Tw D d i k → bt x k = true) ∧ 34 - (cnB y 32 : Int) < (n : Int)) ?_ ?_ aFuel 1000000 _ _ _ (Nat.le_refl _) ⟨rfl, (fun i hi h => by rw [b_0] at h; cases h), own, so0, (fun i k _ _ h => by rw [b_0] at h; cases h), by omega⟩
  · intro n g hg x y D' hI
    obtain ⟨e, i1, i2, i3, i4, i5⟩ := hI
    subst e
    unfold lX11_heap_48
    refine Wp.ite (fun e => ?_) (fun hne => Wp.letQ (fun Q j => ∀ w, subB x w → SoB D d N R a w → (∀ i k, i < N → k < N → bt x i = true → R i → R k → Tw D d i k → bt w k = true) → Wp (j w D') Q) (fun w hw h2 h3 => ?_) (fun j2 K2 => Wp.lets ?_))
    · rw [e] at i4
      exact K x i2 i3 i4
    · refine hg _ _ _ ⟨rfl, hw, hw _ (by omega) i2, h2, h3, ?_⟩
      have := cnB_ne i1 hne
      omega
    · refine Wp.go2 (fun i w D2 => D2 = D' ∧ subB x w ∧ SoB D d N R a w ∧ (∀ i' k, i' < i → k < N → bt x i' = true → R i' → R k → Tw D d i' k → bt w k = true)) N (by omega) (fun g2 i w D2 hi hI K3 => ?_) (k0 := 0) rfl (Nat.zero_le _) ⟨rfl, fun _ _ h => h, i3, fun i' k h => absurd h (Nat.not_lt_zero _)⟩
      obtain ⟨e, k1, k2, k3⟩ := hI
      subst e
      have vi : (nI i).toInt = (i : Int) := nI_toInt (by omega)
      unfold lX11_heap_60
      rw [c.1.1]
      refine Wp.ile (fun q => K2 w k1 k2 (fun i' k h1 h2 => k3 i' k (by omega) h2)) (fun q => Wp.letQ (fun Q j => ∀ v, subB x v → SoB D d N R a v → (∀ i' k, i' < i + 1 → k < N → bt x i' = true → R i' → R k → Tw D d i' k → bt v k = true) → Wp (j v D2) Q) (fun v h1 h2 h3 => Wp.lets (K3 (by omega) _ _ ⟨rfl, h1, h2, h3⟩)) (fun j3 K4 => Wp.lets ?_))
      refine Wp.go2 (fun k v D3 => D3 = D2 ∧ subB x v ∧ SoB D d N R a v ∧ (∀ i' k', i' < i → k' < N → bt x i' = true → R i' → R k' → Tw D d i' k' → bt v k' = true) ∧ ∀ k', k' < k → bt x i = true → R i → R k' → Tw D d i k' → bt v k' = true) N (by omega) (fun g3 k v D3 hk hI K5 => ?_) (k0 := 0) rfl (Nat.zero_le _) ⟨rfl, k1, k2, k3, fun k' h => absurd h (Nat.not_lt_zero _)⟩
      obtain ⟨e, l1, l2, l3, l4⟩ := hI
      subst e
      have vk : (nI k).toInt = (k : Int) := nI_toInt (by omega)
      unfold lX11_heap_72
      rw [c.1.1]
      refine Wp.ile (fun q => K4 v l1 l2 (fun i' k' h1 h2 h3 h4 h5 h6 => ?_)) (fun q => Wp.lets (Wp.lets (Wp.ite (fun q2 => Wp.lets (Wp.lets (K5 (by omega) _ _ ⟨rfl, ?_⟩))) (fun q2 => ?_))))
      · by_cases e : i' = i
        · subst e
          exact l4 k' (by omega) h3 h4 h5 h6
        · exact l3 i' k' (by omega) h2 h3 h4 h5 h6
      · have nb := (bit_t (show i < 32 by omega)).mp q2
        rw [Int32.or_zero]
        refine ⟨l1, l2, l3, fun k' h1 h2 h3 h4 h5 => ?_⟩
        rw [l1 i (by omega) h2] at nb
        cases nb
      · have yb : bt v i = true := by
          cases e : bt v i with
          | true => rfl
          | false => exact absurd ((bit_t (show i < 32 by omega)).mpr e) q2
        obtain ⟨t, et, bt'⟩ := bM_twins (i := i) (k := k) c wt hd (by omega) (by omega)
        refine Wp.bindE et ?_
        rcases bt' with ⟨rfl, ri, rk, tw⟩ | ⟨rfl, no⟩
        · refine Wp.neg (by decide) (Wp.lets (Wp.lets (K5 (by omega) _ _ ⟨rfl, subB_or l1, fun q hq h => ?_, fun i' k' h1 h2 h3 h4 h5 h6 => ?_, fun k' h1 h2 h3 h4 h5 => ?_⟩)))
          · rw [b_or, Bool.or_eq_true] at h
            rcases h with h | h
            · exact l2 q hq h
            · have h : bt (sh1 k) q = true := h
              rw [sh1_bt k (by omega) q hq, decide_eq_true_eq] at h
              subst h
              exact ⟨⟨by omega, rk⟩, (l2 i (by omega) yb).2.next (by omega) rk tw⟩
          · rw [b_or, l3 i' k' h1 h2 h3 h4 h5 h6]
            rfl
          · rw [b_or, Bool.or_eq_true]
            by_cases e : k' = k
            · subst e
              exact Or.inr (bt_own (by omega))
            · exact Or.inl (l4 k' (by omega) h2 h3 h4 h5)
        · refine Wp.pos rfl (Wp.lets (Wp.lets (K5 (by omega) _ _ ⟨rfl, ?_⟩)))
          rw [Int32.or_zero]
          refine ⟨l1, l2, l3, fun k' h1 h2 h3 h4 h5 => ?_⟩
          by_cases e : k' = k
          · subst e
            exact absurd ⟨h3, h4, h5⟩ no
          · exact l4 k' (by omega) h2 h3 h4 h5
  · intro x y D' hI
    have := cnB_le y 32
    have := hI.2.2.2.2.2
    omega
theorem bM_least {x : Int32} (hs : a < 32) (hb : bt x a = true) {j : Int32 → ADD → Option (Int32 × ADD)} {z : Int32 → ADD → Option (Int32 × ADD)} {Q : Int32 → ADD → Prop} (K : ∀ y, y ≤ a → bt x y = true → (∀ i, i < y → bt x i = false) → Wp (j (nI y) E1) Q) : Wp (aFix aFuel (lX11_heap_131 x j) z 0 E1) Q := by
  refine Wp.go1 (fun y D' => D' = E1 ∧ ∀ i, i < y → bt x i = false) a (by omega) (fun g y D' hy hI K2 => ?_) (k0 := 0) rfl (Nat.zero_le _) ⟨rfl, fun i hi => absurd hi (Nat.not_lt_zero _)⟩
  obtain ⟨e, i1⟩ := hI
  subst e
  unfold lX11_heap_131
  refine Wp.ite (fun h => ?_) (fun h => K y hy ?_ i1)
  · have nb := (bit_t (show y < 32 by omega)).mp h
    have ne : y ≠ a := fun e => by rw [e, hb] at nb; cases nb
    refine Wp.lets (K2 (by omega) _ ⟨rfl, fun i hi => ?_⟩)
    by_cases e : i = y
    · rw [e]; exact nb
    · exact i1 i (by omega)
  · cases e : bt x y with
    | true => rfl
    | false => exact absurd ((bit_t (show y < 32 by omega)).mpr e) h
/-- the class -/
theorem bX_firstIn {x : Int64} : Wp (fX4_firstIn x D1) (fun r D2 => D2 = D1 ∧ ((∃ i, i < 32 ∧ r = nI i ∧ bl x i = true ∧ ∀ j, j < i → bl x j = false) ∨ (r = -1 ∧ ∀ j, j < 32 → bl x j = false))) := by
  have e32 : (32 : Int32).toInt = 32 := by decide
  unfold fX4_firstIn
  refine Wp.lets (Wp.lets (Wp.go1 (fun y D' => D' = D1 ∧ ∀ i, i < y → bl x i = false) 32 (by omega) (fun g y D' hy hI K => ?_) (k0 := 0) rfl (Nat.zero_le _) ⟨rfl, fun i hi => absurd hi (Nat.not_lt_zero _)⟩))
  obtain ⟨e, i1⟩ := hI
  subst e
  have vy : (nI y).toInt = (y : Int) := nI_toInt (by omega)
  unfold lX4_firstIn_2
  refine Wp.ile (fun q => Wp.ret ⟨rfl, Or.inr ⟨rfl, fun j hj => i1 j (by omega)⟩⟩) (fun q => Wp.ite (fun h => Wp.ret ⟨rfl, Or.inl ⟨y, by omega, rfl, (l_test (show y < 32 by omega)).mp h, i1⟩⟩) (fun h => Wp.lets (K (by omega) _ ⟨rfl, fun i hi => ?_⟩)))
  by_cases e : i = y
  · rw [e]
    cases f : bl x y with
    | false => rfl
    | true => exact absurd ((l_test (show y < 32 by omega)).mpr f) h
  · exact i1 i (by omega)
theorem bX_twins {i k s r : Nat} (p : PilX D D1 L) (f : ∀ a b, knX D1 a b = knX D a b) (hd : 0 ≤ d.toInt ∧ d.toInt ≤ 500) (hs : L[i]? = some s) (hr : L[k]? = some r) (ws : 0 ≤ (knX D (nI s) 0).toInt ∧ (knX D (nI s) 0).toInt ≤ 30000) (wr : 0 ≤ (knX D (nI r) 0).toInt ∧ (knX D (nI r) 0).toInt ≤ 30000) : ∃ x, fX4_areTwins (nI i) (nI k) d D1 = some (x, D1) ∧ Bo x (Tw D d s r) := by
  have sb : (knX D (nI s) 0 - knX D (nI r) 0).toInt = (knX D (nI s) 0).toInt - (knX D (nI r) 0).toInt := ti_sub rfl rfl (by omega) (by omega)
  have ab := ti_abs sb (by omega)
  have z0 : (¬ Tw D d s r) → Wp (aZ 0 (some ((0 : Int32), D1))) (fun x D2 => D2 = D1 ∧ Bo x (Tw D d s r)) := fun h => Wp.z (Or.inl rfl) (Wp.ret ⟨rfl, Or.inr ⟨rfl, h⟩⟩)
  have H : Wp (fX4_areTwins (nI i) (nI k) d D1) (fun x D2 => D2 = D1 ∧ Bo x (Tw D d s r)) := by
    unfold fX4_areTwins
    refine Wp.bindE (eX_numberOf _ _) (Wp.bindE (eX_numberOf _ _) ?_)
    rw [p.num hs, p.num hr]
    refine Wp.bindE (eX_known _ _ _) (Wp.bindE (eX_known _ _ _) (Wp.lets (Wp.lets ?_)))
    rw [f, f]
    refine Wp.ite (fun p4 => Wp.bindE (eX_known _ _ _) (Wp.bindE (eX_known _ _ _) ?_)) (fun p4 => z0 (fun z => p4 z.1))
    rw [f, f]
    refine Wp.ite (fun p1 => Wp.bindE (eX_known _ _ _) (Wp.bindE (eX_known _ _ _) ?_)) (fun p1 => z0 (fun z => p1 z.2.1))
    rw [f, f]
    refine Wp.ite (fun p7 => Wp.bindE (eX_known _ _ _) (Wp.bindE (eX_known _ _ _) ?_)) (fun p7 => z0 (fun z => p7 z.2.2.1))
    rw [f, f]
    refine Wp.ilt (fun q => z0 (fun z => ?_)) (fun q => Wp.z (Or.inr rfl) (Wp.ret ⟨rfl, Or.inl ⟨rfl, p4, p1, p7, ?_⟩⟩))
    · have w := z.2.2.2
      rw [ab] at q
      split at q <;> omega
    · rw [ab] at q
      split at q <;> omega
  obtain ⟨x, D2, e, rfl, b⟩ := H
  exact ⟨x, e, b⟩
theorem chL_ge : ∀ (n i j s r : Nat), i ≤ j → (chL R n)[i]? = some s → (chL R n)[j]? = some r → s ≤ r := by
  intro n
  induction n with
  | zero => intro i j s r _ h; rw [chL_0] at h; simp at h
  | succ n ih =>
    intro i j s r hij h1 h2
    by_cases q : R n
    · rw [chL_t q] at h1 h2
      by_cases c : j < (chL R n).length
      · rw [List.getElem?_append_left c] at h2
        rw [List.getElem?_append_left (by omega)] at h1
        exact ih i j s r hij h1 h2
      · have hl := (List.getElem?_eq_some_iff.mp h2).1
        rw [List.length_append] at hl
        have hl : j < (chL R n).length + 1 := hl
        rw [show j = (chL R n).length by omega, List.getElem?_append_right (Nat.le_refl _), Nat.sub_self] at h2
        have h2 : some n = some r := h2
        injection h2 with h2
        have m := List.mem_of_getElem? h1
        rcases List.mem_append.mp m with m | m
        · have := (chL_mem m).1
          omega
        · have := List.mem_singleton.mp m
          omega
    · rw [chL_f q] at h1 h2
      exact ih i j s r hij h1 h2
theorem bX_leastOfHeap {i0 : Nat} (p : PilX D D1 (chL R N)) (f : ∀ a b, knX D1 a b = knX D a b) (wt : Wt D N R) (hd : 0 ≤ d.toInt ∧ d.toInt ≤ 500) (h0 : (chL R N)[i0]? = some a) : Wp (fX4_leastOfHeap (nI i0) d D1) (fun r _ => r = nI (hpV D d N R a)) := by
  have m := (pil_m p).1
  have l2 := p.2.1
  have hl0 : i0 < (chL R N).length := (List.getElem?_eq_some_iff.mp h0).1
  have vn : (nI (chL R N).length).toInt = ((chL R N).length : Int) := nI_toInt (by omega)
  generalize hL : chL R N = L at *
  have inL : ∀ i s, L[i]? = some s → (s < N ∧ R s) ∧ i < L.length := fun i s h => ⟨chL_mem (by rw [hL]; exact List.mem_of_getElem? h), (List.getElem?_eq_some_iff.mp h).1⟩
  unfold fX4_leastOfHeap
  refine Wp.lets (Wp.letQ (fun Q j => ∀ x, bl x i0 = true → (∀ i, i < 64 → bl x i = true → ∃ s, L[i]? = some s ∧ Rc D d N R a s) → (∀ i k s r, L[i]? = some s → L[k]? = some r → bl x i = true → Tw D d s r → bl x k = true) → Wp (j x D1) Q) (fun x x0 x1 x2 => ?_) (fun j J => Wp.lets ?_))
  · refine Wp.bind bX_firstIn (fun r D2 q => ?_)
    obtain ⟨e, q⟩ := q
    subst e
    rcases q with ⟨i, hi, rfl, b, lst⟩ | ⟨rfl, no⟩
    · obtain ⟨s, hs, rs⟩ := x1 i (by omega) b
      refine Wp.bindE (eX_numberOf _ _) (Wp.ret ?_)
      rw [p.num hs]
      congr 1
      refine hpV_of ⟨rs, fun t ht => ?_⟩
      obtain ⟨k, hk, bk⟩ := ht (fun t => ∃ k, L[k]? = some t ∧ bl x k = true) ⟨i0, h0, x0⟩ (fun u v hu hv rv tw => by
        obtain ⟨k, hk, bk⟩ := hu
        have mv : v ∈ L := by rw [← hL]; exact chL_in N hv rv
        obtain ⟨k2, hk2⟩ := List.getElem?_of_mem mv
        exact ⟨k2, hk2, x2 k k2 u v hk hk2 bk tw⟩)
      have ik : i ≤ k := by
        rcases Nat.lt_or_ge k i with c | c
        · rw [lst k c] at bk
          cases bk
        · exact c
      rw [← hL] at hs hk
      exact chL_ge N i k s t ik hs hk
    · rw [no i0 (by omega)] at x0
      cases x0
  · have s0 : ∀ i, i < 64 → bl (sl1 i0) i = decide (i = i0) := sl1_bt i0 (by omega)
    refine Wp.go3 (fun n h q D' => D' = D1 ∧ bl h i0 = true ∧ (∀ i, i < 64 → bl h i = true → ∃ s, L[i]? = some s ∧ Rc D d N R a s) ∧ (∀ i, i < 64 → bl q i = true → bl h i = true) ∧ (∀ i k s r, L[i]? = some s → L[k]? = some r → bl q i = true → Tw D d s r → bl h k = true) ∧ cnQ (bl q) L.length = n) L.length (by omega) (fun g n h q D' hn hI K => ?_) (k0 := 0) rfl (Nat.zero_le _) ⟨rfl, by rw [s0 i0 (by omega)]; exact decide_eq_true rfl, fun i hi h => ?_, (fun i hi h => by rw [l_0] at h; cases h), (fun i k s r _ _ h => by rw [l_0] at h; cases h), ?_⟩
    · obtain ⟨e, a0, a1, a2, a3, a4⟩ := hI
      subst e
      have vm : (nI n).toInt = (n : Int) := nI_toInt (by omega)
      unfold lX4_leastOfHeap_11
      rw [m]
      refine Wp.ile (fun z => J h a0 a1 (fun i k s r hs hr b tw => ?_)) (fun z => Wp.bind bX_firstIn (fun r D2 y => ?_))
      · have full := cnQ_full (f := bl q) L.length (by omega) i (inL i s hs).2
        exact a3 i k s r hs hr full tw
      · obtain ⟨e, y⟩ := y
        subst e
        rcases y with ⟨i, hi, rfl, b, -⟩ | ⟨rfl, no⟩
        · have vi : (nI i).toInt = (i : Int) := nI_toInt (by omega)
          rw [l_and, l_not q (by omega), Bool.and_eq_true] at b
          obtain ⟨bh, bq⟩ := b
          have bq : bl q i = false := by
            cases e : bl q i with
            | false => rfl
            | true => rw [e] at bq; cases bq
          obtain ⟨s, hs, rs⟩ := a1 i (by omega) bh
          have hil := (inL i s hs).2
          have si := sl1_bt i hi
          refine Wp.neg (fun e => by have := congrArg Int32.toInt e; rw [vi, ti_m1] at this; omega) (Wp.lets (Wp.letQ (fun Q j => ∀ w, (∀ k, k < 64 → bl h k = true → bl w k = true) → (∀ k, k < 64 → bl w k = true → ∃ s, L[k]? = some s ∧ Rc D d N R a s) → (∀ k r, L[k]? = some r → Tw D d s r → bl w k = true) → Wp (j w D2) Q) (fun w w1 w2 w3 => Wp.lets (K (by omega) _ _ _ ⟨rfl, w1 i0 (by omega) a0, w2, fun k hk b => ?_, fun k k2 s2 r2 hs2 hr2 b tw => ?_, ?_⟩)) (fun j2 J2 => Wp.lets ?_)))
          · rw [l_or, Bool.or_eq_true, si k hk, decide_eq_true_eq] at b
            rcases b with b | b
            · exact w1 k hk (a2 k hk b)
            · subst b
              exact w1 k hk bh
          · have hk := (inL k s2 hs2).2
            rw [l_or, Bool.or_eq_true, si k (by omega), decide_eq_true_eq] at b
            rcases b with b | b
            · exact w1 k2 (by have := (inL k2 r2 hr2).2; omega) (a3 k k2 s2 r2 hs2 hr2 b tw)
            · subst b
              rw [hs] at hs2
              injection hs2 with hs2
              subst hs2
              exact w3 k2 r2 hr2 tw
          · rw [((cnQ_put (f := bl q) (g := bl (q ||| sl1 i)) (k := i) bq ?_ ?_) L.length).1 hil, a4]
            · rw [l_or, si i (by omega)]
              simp
            · intro k hk
              rw [l_or]
              by_cases c : k < 64
              · rw [si k c]
                simp [hk]
              · have e1 : bl (sl1 i) k = false := BitVec.getLsbD_of_ge _ _ (by omega)
                rw [e1, Bool.or_false]
          · refine Wp.go2 (fun k w D3 => D3 = D2 ∧ (∀ k', k' < 64 → bl h k' = true → bl w k' = true) ∧ (∀ k', k' < 64 → bl w k' = true → ∃ s, L[k']? = some s ∧ Rc D d N R a s) ∧ (∀ k' r, k' < k → L[k']? = some r → Tw D d s r → bl w k' = true)) L.length (by omega) (fun g2 k w D3 hk hI K2 => ?_) (k0 := 0) rfl (Nat.zero_le _) ⟨rfl, fun _ _ b => b, a1, fun k' r h => absurd h (Nat.not_lt_zero _)⟩
            obtain ⟨e, w1, w2, w3⟩ := hI
            subst e
            have vk : (nI k).toInt = (k : Int) := nI_toInt (by omega)
            unfold lX4_leastOfHeap_55
            rw [m]
            refine Wp.ile (fun z => J2 w w1 w2 (fun k' r h1 h2 => w3 k' r (by have := (inL k' r h1).2; omega) h1 h2)) (fun z => ?_)
            have hkl : k < L.length := by omega
            have hr : L[k]? = some L[k] := List.getElem?_eq_getElem hkl
            obtain ⟨rn, rr⟩ := (inL k _ hr).1
            obtain ⟨sn, sr⟩ := (inL i s hs).1
            obtain ⟨x, ex, bx⟩ := bX_twins p f hd hs hr (wt s sn sr) (wt _ rn rr)
            refine Wp.bindE ex (Wp.lets ?_)
            rcases bx with ⟨rfl, tw⟩ | ⟨rfl, no⟩
            · have sk := sl1_bt k (by omega)
              refine Wp.neg (by decide) (Wp.lets (Wp.lets (K2 (by omega) _ _ ⟨rfl, fun k' hk' b => ?_, fun k' hk' b => ?_, fun k' r h1 h2 h3 => ?_⟩)))
              · rw [l_or, w1 k' hk' b]
                rfl
              · rw [l_or, Bool.or_eq_true, sk k' hk', decide_eq_true_eq] at b
                rcases b with b | b
                · exact w2 k' hk' b
                · subst b
                  exact ⟨_, hr, rs.next rn rr tw⟩
              · rw [l_or, Bool.or_eq_true]
                by_cases e : k' = k
                · subst e
                  exact Or.inr (by rw [sk k' (by omega)]; exact decide_eq_true rfl)
                · exact Or.inl (w3 k' r (by omega) h2 h3)
            · refine Wp.pos rfl (Wp.lets (Wp.lets (K2 (by omega) _ _ ⟨rfl, ?_⟩)))
              rw [Int64.or_zero]
              refine ⟨w1, w2, fun k' r h1 h2 h3 => ?_⟩
              by_cases e : k' = k
              · subst e
                rw [hr] at h2
                injection h2 with h2
                rw [h2] at no
                exact absurd h3 no
              · exact w3 k' r (by omega) h2 h3
        · refine Wp.pos rfl (J h a0 a1 (fun i k s r hs hr b tw => ?_))
          have hi := (inL i s hs).2
          have nb := no i (by omega)
          rw [l_and, l_not q (by omega), b] at nb
          have bq : bl q i = true := by
            cases e : bl q i with
            | true => rfl
            | false => rw [e] at nb; cases nb
          exact a3 i k s r hs hr bq tw
    · rw [s0 i hi, decide_eq_true_eq] at h
      subst h
      exact ⟨a, h0, Rc.own⟩
    · have : ∀ n, cnQ (bl 0) n = 0 := by
        intro n
        induction n with
        | zero => rfl
        | succ n ih =>
          show cnQ (bl 0) n + _ = 0
          rw [ih, l_0]
          rfl
      exact this _
theorem jr_heap {a d : Int32} (h : IR RF n0 P E) : BR RF n0 P id (fX10_heap a d P.2) (fX11_heap a d E) := by
  obtain ⟨hb, ⟨tp, fl, w, pr⟩, hc⟩ := h.nowF
  have qx := h.1.2.1.2.qx
  have qm := h.1.2.2.1.qm
  have e5 : (500 : Int32).toInt = 500 := by decide
  have n32 := n32_of hb
  have wt : Wt P.2 (nS (mB E)) (fun k => thE E k ∧ chX P.2 (nI k)) := fun s hs hr => by
    have g := gd_th hb hs hr.1
    have k0 : knX P.2 (nI s) 0 = fct (mB E) (dvF (mB E)) s 0 := kn_th hb hs hr.1 (by decide)
    have g0 : 1 ≤ (fct (mB E) (dvF (mB E)) s 0).toInt ∧ (fct (mB E) (dvF (mB E)) s 0).toInt ≤ 30000 := g.1 0 (by decide)
    rw [k0]
    omega
  obtain ⟨v, vp, vn⟩ : ∃ v : Int32, (((0 ≤ d.toInt ∧ d.toInt ≤ 500) ∧ ∃ s, s ∈ cL0 P.2 E ∧ a = nI s) → v = nI (hpV P.2 d (nS (mB E)) (fun k => thE E k ∧ chX P.2 (nI k)) a.toNatClampNeg)) ∧ (¬ ((0 ≤ d.toInt ∧ d.toInt ≤ 500) ∧ ∃ s, s ∈ cL0 P.2 E ∧ a = nI s) → v = -1) := ⟨@ite _ ((0 ≤ d.toInt ∧ d.toInt ≤ 500) ∧ ∃ s, s ∈ cL0 P.2 E ∧ a = nI s) (Classical.propDecidable _) (nI (hpV P.2 d (nS (mB E)) (fun k => thE E k ∧ chX P.2 (nI k)) a.toNatClampNeg)) (-1), fun z => if_pos z, fun z => if_neg z⟩
  refine h.askE (v := v) (fun q => oX_heap q) (fun q => oM_heap q) ?_ ?_
  · unfold fX10_heap
    refine Wp.lets (Wp.ilt (fun q => Wp.ret ?_) (fun q => Wp.ile (fun q2 => ?_) (fun q2 => Wp.ret ?_)))
    · rw [vn (fun z => by have := z.1.1; rw [ti_0] at q; omega)]
    · rw [ti_0] at q
      rw [e5] at q2
      refine Wp.bind (ga0 qx hb) (fun r D1 k => Wp.bind (bX_indexOf k.2.2) (fun x D2 y => Wp.lets ?_))
      obtain ⟨e, y⟩ := y
      subst e
      rcases y with ⟨i, s, h1, h2, rfl⟩ | ⟨rfl, h2⟩
      · have hm : s ∈ cL0 P.2 E := List.mem_of_getElem? h1
        have hs : s < nS (mB E) := (chL_mem hm).1
        rw [vp ⟨⟨q, q2⟩, s, hm, h2⟩]
        have hl : i < (cL0 P.2 E).length := (List.getElem?_eq_some_iff.mp h1).1
        have l2 := k.2.2.2.1
        have vi : (nI i).toInt = (i : Int) := nI_toInt (by omega)
        have es : a.toNatClampNeg = s := by rw [h2]; exact nI_clamp (by omega)
        rw [es]
        have fr := k.2.1.1
        refine Wp.neg (fun z => by have := congrArg Int32.toInt z; rw [vi, ti_m1] at this; omega) ?_
        exact Wp.bind (bX_leastOfHeap (R := fun k => thE E k ∧ chX P.2 (nI k)) (N := nS (mB E)) k.2.2 (fun a b => knX_fr (fr 2 (by omega)) (fr 4 (by omega)) a b) wt ⟨q, q2⟩ h1) (fun r D3 y => Wp.ret y)
      · rw [vn (fun z => by obtain ⟨-, s, hm, e⟩ := z; exact h2 s hm e)]
        exact Wp.pos rfl (Wp.ret rfl)
    · rw [vn (fun z => by have := z.1.2; rw [e5] at q2; omega)]
  · unfold fX11_heap
    have f1 : FmM E (aSI E 0 0 0) := FmM.code
    have eS : stM (aSI E 0 0 0) a ↔ stM E a := by
      unfold stM
      rw [f1.mb, f1 5 (by omega)]
    refine Wp.lets (Wp.bindE (eM_isStone (qm.fr f1)) (Wp.lets ?_))
    by_cases hs : stM E a
    · rw [if_pos (eS.mpr hs)]
      refine Wp.neg (by decide) (Wp.bindE (eM_is _ _ _ _) ?_)
      rw [ti_0, e5]
      by_cases hd : 0 ≤ d.toInt ∧ d.toInt ≤ 500
      · rw [if_pos hd]
        obtain ⟨va, hn, ht, h32⟩ := st_nS hb hs
        refine Wp.neg (by decide) (Wp.bind (lk0 qm hb w hc) (fun _ E1 l => ?_))
        have cr := l.2
        have ia : vp_in a 32 := by rw [va]; exact vp_in_nI (by omega) (by decide)
        have b0 := bz_Bo (cr.2 _ hn).1
        refine Wp.idx ia (Wp.ite (fun z => Wp.ret ?_) (fun z => ?_))
        · rw [vn (fun y => by
            obtain ⟨-, s, hm, e⟩ := y
            have ms := chL_mem hm
            have es : a.toNatClampNeg = s := by rw [e]; exact nI_clamp (by omega)
            rw [es] at b0 z
            exact b0.mp z ms.2)]
        · have pk := Classical.byContradiction (fun y => z (b0.mpr y))
          rw [vp ⟨hd, _, chL_in _ hn pk, va⟩]
          have W := bM_heapGo (E1 := E1) (a := a.toNatClampNeg) (z := fun _ _ _ => none) (Q := fun r _ => r = nI (hpV P.2 d (nS (mB E)) (fun k => thE E k ∧ chX P.2 (nI k)) a.toNatClampNeg)) (j := fun (x4 : Int32) (D6 : ADD) => aLet (fun (x5 : Int32) (D7 : ADD) => some (x5, D7)) (fun (j146 : Int32 → ADD → Option (Int32 × ADD)) => aLet (aFix aFuel (lX11_heap_131 x4 j146) (fun _ _ => none)) (fun j131 => j131 (0 : Int32) D6))) cr wt hd hn pk (fun x x0 x1 x2 => Wp.lets (Wp.lets (bM_least (a := a.toNatClampNeg) h32 x0 (fun y hy by1 no => Wp.ret ?_))))
          · unfold sh1 at W
            rw [← va] at W
            exact Wp.lets (Wp.lets (Wp.lets W))
          · congr 1
            refine hpV_of ⟨(x1 y (by omega) by1).2, fun s rs => ?_⟩
            obtain ⟨s1, s2, s3⟩ := rs (fun s => s < nS (mB E) ∧ (thE E s ∧ chX P.2 (nI s)) ∧ bt x s = true) ⟨hn, pk, x0⟩ (fun u v hu hv rv tw => ⟨hv, rv, x2 u v hu.1 hv hu.2.2 hu.2.1 rv tw⟩)
            rcases Nat.lt_or_ge s y with c | c
            · rw [no s c] at s3
              cases s3
            · exact c
      · rw [if_neg hd, vn (fun z => hd z.1)]
        exact Wp.pos rfl (Wp.ret rfl)
    · rw [if_neg (fun z => hs (eS.mp z)), vn (fun z => by
        obtain ⟨-, s, hm, e⟩ := z
        have ms := chL_mem hm
        rw [e] at hs
        exact hs ((th_st ms.1 n32).mp ms.2.1))]
      exact Wp.pos rfl (Wp.ret rfl)
end HEs
end
