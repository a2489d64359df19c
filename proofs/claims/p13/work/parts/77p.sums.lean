/-! lists of stones and sums over them -/
noncomputable def chL (P : Nat → Prop) (n : Nat) : List Nat := (List.range n).filter (fun s => @decide (P s) (Classical.propDecidable _))
def sumL (g : Nat → Int32) (L : List Nat) : Int32 := L.foldl (fun a s => a + g s) 0
section CLs
variable {P : Nat → Prop} {n : Nat} {g : Nat → Int32}
theorem chL_t (h : P n) : chL P (n + 1) = chL P n ++ [n] := by
  unfold chL
  rw [List.range_succ, List.filter_append]
  simp [h]
theorem chL_f (h : ¬ P n) : chL P (n + 1) = chL P n := by
  unfold chL
  rw [List.range_succ, List.filter_append]
  simp [h]
theorem chL_0 : chL P 0 = [] := rfl
theorem chL_mem {s : Nat} (h : s ∈ chL P n) : s < n ∧ P s := by
  unfold chL at h
  rw [List.mem_filter] at h
  exact ⟨List.mem_range.mp h.1, by have := h.2; simpa using this⟩
theorem chL_len : (chL P n).length ≤ n := by
  unfold chL
  have := List.length_filter_le (fun s => @decide (P s) (Classical.propDecidable _)) (List.range n)
  rw [List.length_range] at this
  exact this
theorem chL_cg {P2 : Nat → Prop} (h : ∀ s, s < n → (P s ↔ P2 s)) : chL P n = chL P2 n := by
  unfold chL
  refine List.filter_congr (fun s hs => ?_)
  have := h s (List.mem_range.mp hs)
  by_cases q : P s
  · simp [q, this.mp q]
  · have q2 : ¬ P2 s := fun z => q (this.mpr z)
    simp [q, q2]
theorem sumL_snoc {L : List Nat} {s : Nat} : sumL g (L ++ [s]) = sumL g L + g s := by
  unfold sumL
  rw [List.foldl_append]
  rfl
theorem sumL_cg {f : Nat → Int32} {L : List Nat} (h : ∀ s, s ∈ L → f s = g s) : sumL f L = sumL g L := by
  unfold sumL
  generalize (0 : Int32) = a
  induction L generalizing a with
  | nil => rfl
  | cons x L ih =>
    show List.foldl _ (a + f x) L = List.foldl _ (a + g x) L
    rw [h x List.mem_cons_self]
    exact ih (fun s hs => h s (List.mem_cons_of_mem _ hs)) _
theorem sumL_one : ∀ L : List Nat, L.foldl (fun a _ => a + (1 : Int32)) 0 = nI L.length := by
  have : ∀ (L : List Nat) (k : Nat), L.foldl (fun a _ => a + (1 : Int32)) (nI k) = nI (k + L.length) := by
    intro L
    induction L with
    | nil => intro k; rfl
    | cons x L ih =>
      intro k
      show List.foldl _ (nI k + 1) L = _
      rw [← nI_succ, ih (k + 1)]
      congr 1
      simp
      omega
  intro L
  have := this L 0
  rw [Nat.zero_add] at this
  exact this
theorem sI_L {f : Nat → Int32} : ∀ (L : List Nat) (a : Int32) (i : Nat), (∀ j s, L[j]? = some s → f (i + j) = g s) → sI f a i L.length = L.foldl (fun a s => a + g s) a
  | [], a, i, _ => rfl
  | x :: L, a, i, h => by
    show sI f (a + f i) (i + 1) L.length = L.foldl _ (a + g x)
    have h0 := h 0 x rfl
    rw [Nat.add_zero] at h0
    rw [h0]
    refine sI_L L _ (i + 1) (fun j s hs => ?_)
    have := h (j + 1) s hs
    rw [show i + 1 + j = i + (j + 1) by omega]
    exact this
theorem sI_sumL {f : Nat → Int32} {L : List Nat} (h : ∀ j s, L[j]? = some s → f j = g s) : sI f 0 0 L.length = sumL g L := sI_L L 0 0 (fun j s hs => by rw [Nat.zero_add]; exact h j s hs)
end CLs
/-- a counted loop of the reference -/
theorem bM_sum {E1 : ADD} {N : Nat} {P : Nat → Prop} {v : Nat → Int32} {ρ : Type} {Q : ρ → ADD → Prop} {F : (Int32 → Int32 → ADD → Option (ρ × ADD)) → Int32 → Int32 → ADD → Option (ρ × ADD)} {z : Int32 → Int32 → ADD → Option (ρ × ADD)} (hN : N ≤ 32) (hF : ∀ g y k, k < N → (∀ y', (y' = y + v k ∧ P k) ∨ (y' = y + 0 ∧ ¬ P k) → Wp (g y' (nI k + 1) E1) Q) → Wp (F g y (nI k) E1) Q) (hE : ∀ g, Wp (F g (sumL v (chL P N)) (nI N) E1) Q) : Wp (aFix aFuel F z 0 0 E1) Q := by
  refine Wp.go2 (fun k y D' => D' = E1 ∧ y = sumL v (chL P k)) N (by omega) (fun g k y D' hk hI K => ?_) (k0 := 0) rfl (Nat.zero_le _) ⟨rfl, rfl⟩
  obtain ⟨rfl, rfl⟩ := hI
  by_cases e : k = N
  · subst e
    exact hE g
  · refine hF g _ k (by omega) (fun y' hy => K (by omega) y' D' ⟨rfl, ?_⟩)
    rcases hy with ⟨a, b⟩ | ⟨a, b⟩
    · rw [chL_t b, sumL_snoc]
      exact a
    · rw [chL_f b, a, Int32.add_zero]
/-- what the reference's questions rest on: those that P says are chosen -/
def CR (D E1 : ADD) (N : Nat) (P : Nat → Prop) : Prop := (E1.1 0 41 = nI N ∧ N ≤ 32) ∧ ∀ k, k < N → Bo (E1.1 35 k) (P k) ∧ (P k → FcR D E1 k ∧ (E1.1 33 k = loX D (nI k) ∧ E1.1 34 k = hiX D (nI k)) ∧ SpK (loX D (nI k)) (hiX D (nI k)) (knX D (nI k) 7))
section CRs
variable {D E E1 : ADD} {N : Nat} {P : Nat → Prop}
theorem bz_Bo {x : Int32} {C : Prop} (h : Bo x C) : aBz x = 0 ↔ ¬ C := by
  rcases h with ⟨rfl, c⟩ | ⟨rfl, c⟩
  · exact ⟨fun q => absurd q (by decide), fun q => absurd c q⟩
  · exact ⟨fun _ => c, fun _ => by decide⟩
theorem LkR.cr (l : LkR D E E1 (nS (mB E))) (h : RBk (xc D) (mB E)) (w : RuS (xc D) (slM E 0) 12 0 0 True) : CR D E1 (nS (mB E)) (fun k => thE E k ∧ chX D (nI k)) := by
  obtain ⟨l1, l2, l3, l4, l5⟩ := l
  have bw := h.2.2.2.1
  have n5 : ((nS (mB E) : Nat) : Int) = (mB E 5 0).toInt := cl_i bw.1.2.1.1
  have h32 := bw.1.2.1.2
  refine ⟨⟨by rw [l2, ← mB5]; exact nI_val bw.1.2.1.1, by omega⟩, fun k hk => ⟨(l5 k hk).2, fun q => ⟨l4 k hk q.1, (l5 k hk).1 q.1, sp_th h w hk q.1⟩⟩⟩
theorem bM_those (c : CR D E1 N P) : fX11_those E1 = some (nI (chL P N).length, E1) := by
  obtain ⟨⟨c1, c2⟩, c3⟩ := c
  have H : Wp (fX11_those E1) (fun x D1 => D1 = E1 ∧ x = nI (chL P N).length) := by
    unfold fX11_those
    refine Wp.lets (Wp.lets (bM_sum (P := P) (v := fun _ => 1) c2 (fun g y k hk K => ?_) (fun g => ?_)))
    · unfold lX11_those_4
      have vk : (nI k).toInt = (k : Int) := nI_toInt (by omega)
      have vn : (nI N).toInt = (N : Int) := nI_toInt (by omega)
      rw [c1, nI_clamp (show k < 2 ^ 31 by omega)]
      refine Wp.ile (fun q => absurd q (by omega)) (fun _ => Wp.idx (vp_in_nI (by omega) (by decide)) (Wp.lets ?_))
      have b := bz_Bo (c3 k hk).1
      exact Wp.ite (fun q => Wp.lets (Wp.lets (K _ (Or.inr ⟨rfl, b.mp q⟩)))) (fun q => Wp.lets (Wp.lets (K _ (Or.inl ⟨rfl, Classical.byContradiction (fun z => q (b.mpr z))⟩))))
    · unfold lX11_those_4
      rw [c1]
      exact Wp.pos (Int32.le_refl _) (Wp.ret ⟨rfl, sumL_one _⟩)
  obtain ⟨x, D1, e, rfl, rfl⟩ := H
  exact e
/-- a stone's off by a unit -/
noncomputable def ofS (D : ADD) (u : Int32) (s : Nat) : Int32 := offF (loX D (nI s)) (hiX D (nI s)) (knX D (nI s) 7) u
theorem bM_off (c : CR D E1 N P) {k : Nat} {u : Int32} (hk : k < N) (hp : P k) (hu : 10 ≤ u.toInt ∧ u.toInt ≤ 2000) : fX11_off (nI k) u E1 = some (ofS D u k, E1) := by
  obtain ⟨⟨c1, c2⟩, c3⟩ := c
  obtain ⟨-, c4⟩ := c3 k hk
  obtain ⟨f, ⟨lo, hi⟩, sp⟩ := c4 hp
  have vk : (nI k).toInt = (k : Int) := nI_toInt (by omega)
  have f7 : E1.1 32 (11 * k + 7) = knX D (nI k) 7 := f 7 (by decide)
  rw [eM_off (by omega) (u_ne (by omega)), nI_clamp (by omega), lo, hi, f7, (off_eq sp hu).1]
  rfl
theorem bM_scoreOf (c : CR D E1 N P) {u : Int32} (hu : 10 ≤ u.toInt ∧ u.toInt ≤ 2000) : fX11_scoreOf u E1 = some (sumL (fun s => u - 4 * ofS D u s) (chL P N), E1) := by
  have c' := c
  obtain ⟨⟨c1, c2⟩, c3⟩ := c
  have H : Wp (fX11_scoreOf u E1) (fun x D1 => D1 = E1 ∧ x = sumL (fun s => u - 4 * ofS D u s) (chL P N)) := by
    unfold fX11_scoreOf
    refine Wp.lets (Wp.lets (bM_sum (P := P) (v := fun s => u - 4 * ofS D u s) c2 (fun g y k hk K => ?_) (fun g => ?_)))
    · unfold lX11_scoreOf_4
      have vk : (nI k).toInt = (k : Int) := nI_toInt (by omega)
      have vn : (nI N).toInt = (N : Int) := nI_toInt (by omega)
      rw [c1, nI_clamp (show k < 2 ^ 31 by omega)]
      refine Wp.ile (fun q => absurd q (by omega)) (fun _ => Wp.idx (vp_in_nI (by omega) (by decide)) (Wp.lets ?_))
      have b := bz_Bo (c3 k hk).1
      refine Wp.ite (fun q => Wp.lets (Wp.lets (K _ (Or.inr ⟨rfl, b.mp q⟩)))) (fun q => ?_)
      have pk : P k := Classical.byContradiction (fun z => q (b.mpr z))
      exact Wp.bindE (bM_off c' hk pk hu) (Wp.lets (Wp.lets (K _ (Or.inl ⟨rfl, pk⟩))))
    · unfold lX11_scoreOf_4
      rw [c1]
      exact Wp.pos (Int32.le_refl _) (Wp.ret ⟨rfl, rfl⟩)
  obtain ⟨x, D1, e, rfl, rfl⟩ := H
  exact e
/-- the class gathers just those that the reference goes through -/
theorem gaL_th (h : RBk (xc D) (mB E)) (k v : Int32) : gaL D k v (D.1 2 9).toNatClampNeg = chL (fun s => thE E s ∧ blX D k v (nI s)) (nS (mB E)) := by
  obtain ⟨-, -, -, bw, s0, t0, -, -⟩ := h
  have s0 : 0 ≤ (D.1 2 9).toInt ∧ (D.1 2 9).toInt ≤ (mB E 5 0).toInt := s0
  have t0 : ∀ s : Nat, s < nS (mB E) → ((s : Int) < (D.1 2 9).toInt ↔ thE E s) := t0
  have n5 : ((nS (mB E) : Nat) : Int) = (mB E 5 0).toInt := cl_i bw.1.2.1.1
  have e9 := cl_i s0.1
  have step : ∀ i, i ≤ nS (mB E) → chL (fun s => thE E s ∧ blX D k v (nI s)) i = gaL D k v (min i (D.1 2 9).toNatClampNeg) := by
    intro i
    induction i with
    | zero => intro _; rw [Nat.zero_min]; rfl
    | succ i ih =>
      intro hi
      have ih := ih (by omega)
      have t := t0 i (by omega)
      by_cases c : i < (D.1 2 9).toNatClampNeg
      · have th : thE E i := t.mp (by omega)
        rw [show min (i + 1) (D.1 2 9).toNatClampNeg = i + 1 by omega]
        rw [show min i (D.1 2 9).toNatClampNeg = i by omega] at ih
        by_cases b : blX D k v (nI i)
        · rw [chL_t ⟨th, b⟩, gaL_t b, ih]
        · rw [chL_f (fun z => b z.2), gaL_f b, ih]
      · have th : ¬ thE E i := fun z => by have := t.mpr z; omega
        rw [show min (i + 1) (D.1 2 9).toNatClampNeg = (D.1 2 9).toNatClampNeg by omega]
        rw [show min i (D.1 2 9).toNatClampNeg = (D.1 2 9).toNatClampNeg by omega] at ih
        rw [chL_f (fun z => th z.1), ih]
  rw [step _ (Nat.le_refl _), show min (nS (mB E)) (D.1 2 9).toNatClampNeg = (D.1 2 9).toNatClampNeg by omega]
theorem bl_0 {v s : Int32} : blX D 0 v s ↔ chX D s := by
  unfold blX
  rw [ti_0, if_neg (by decide), if_neg (by decide), if_neg (by decide), if_neg (by decide), if_neg (by decide)]
  exact ⟨fun h => h.1, fun h => ⟨h, trivial⟩⟩
/-- the class's pile, by the list it holds -/
theorem PilX.has {D1 : ADD} {L : List Nat} (p : PilX D D1 L) {i s : Nat} (h : L[i]? = some s) : hasX D1 (nI i) ∧ (nI i).toNatClampNeg = i := by
  obtain ⟨p1, p2, p3⟩ := p
  have hl : i < L.length := (List.getElem?_eq_some_iff.mp h).1
  have vi : (nI i).toInt = (i : Int) := nI_toInt (by omega)
  exact ⟨⟨by omega, by omega, by omega⟩, nI_clamp (by omega)⟩
theorem PilX.off {D1 : ADD} {L : List Nat} (p : PilX D D1 L) {i s : Nat} (u : Int32) (h : L[i]? = some s) : offX D1 (nI i) u = ofS D u s := by
  obtain ⟨a, b⟩ := p.has h
  obtain ⟨e1, e2, e3, e4, e5⟩ := p.2.2 i s h
  unfold offX
  rw [if_pos a, b, e4, e5, e2]
  rfl
theorem sum_lin {u : Int32} {f : Nat → Int32} (L : List Nat) : sumL (fun s => u - 4 * f s) L = u * nI L.length - 4 * sumL f L := by
  have step : ∀ (L : List Nat) (A F : Int32) (n : Nat), A = u * nI n - 4 * F → L.foldl (fun a s => a + (u - 4 * f s)) A = u * nI (n + L.length) - 4 * L.foldl (fun a s => a + f s) F := by
    intro L
    induction L with
    | nil => intro A F n h; exact h
    | cons x L ih =>
      intro A F n h
      show List.foldl _ (A + (u - 4 * f x)) L = u * nI (n + (L.length + 1)) - 4 * List.foldl _ (F + f x) L
      rw [show n + (L.length + 1) = n + 1 + L.length by omega]
      refine ih _ _ (n + 1) ?_
      rw [h, nI_succ, Int32.mul_add, Int32.mul_add, Int32.mul_one, Int32.sub_eq_add_neg, Int32.sub_eq_add_neg, Int32.sub_eq_add_neg, Int32.neg_add, Int32.sub_eq_add_neg]
      ac_rfl
  have := step L 0 0 0 (by rw [nI_0, Int32.mul_zero, Int32.mul_zero, Int32.sub_self])
  rw [Nat.zero_add] at this
  exact this
end CRs
