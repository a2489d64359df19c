/-! the book of both sides -/
def LsS (M M1 : Sl) (w st tw : Int32) : Prop := ∃ M7 : Sl, (∀ c, c ≠ 5 → c ≠ 10 → M7 c = M c) ∧ M7 5 0 = M 5 0 + 1 ∧ (∀ j, M7 10 j = if j = 3 * nS M then M 6 0 else if j = 3 * nS M + 1 then st else if j = 3 * nS M + 2 then tw else M 10 j) ∧ WrS M7 M1 (M 5 0) (-1) w
theorem Gd.ls {w st tw : Int32} (h : LsOK w st tw) : Gd (fun i => lsF i w st tw) := by
  refine ⟨fun f hf => ?_, ?_, ?_⟩
  · match f, hf with
    | 0, _ => exact h.1
    | 1, _ => exact h.2.1
    | 2, _ => show (0 : Int) ≤ (0 : Int32).toInt ∧ (0 : Int32).toInt ≤ 3; decide
    | 3, _ => show (0 : Int) ≤ (0 : Int32).toInt ∧ (0 : Int32).toInt ≤ 2000; decide
    | 4, _ => exact h.2.2
    | 5, _ => show (-3000 : Int) ≤ (-3000 : Int32).toInt ∧ (-3000 : Int32).toInt ≤ 1900; decide
    | 6, _ => show (-3000 : Int) ≤ (1900 : Int32).toInt ∧ (1900 : Int32).toInt ≤ 1900; decide
    | 7, _ => show (0 : Int) ≤ (0 : Int32).toInt ∧ (0 : Int32).toInt ≤ 60; decide
    | 8, _ => show (0 : Int) ≤ (0 : Int32).toInt ∧ (0 : Int32).toInt ≤ 9; decide
    | 9, _ => show (0 : Int) ≤ (1 : Int32).toInt ∧ (1 : Int32).toInt ≤ 1; decide
    | 10, _ => show (0 : Int) ≤ (0 : Int32).toInt ∧ (0 : Int32).toInt ≤ 8; decide
    | n + 11, h => omega
  · show (0 : Int32).toInt < w.toInt
    rw [ti_0]
    have := h.1.1
    omega
  · show (-3000 : Int32).toInt ≤ (1900 : Int32).toInt
    decide
section BK2
variable {M M1 : Sl} {d : Int32}
theorem LsS.all {w st tw : Int32} (h : BW M) (l : LsS M M1 w st tw) (he : (M 8 0).toInt < 400) (hs : (M 5 0).toInt < 32) : (∀ c, c ≠ 5 → c ≠ 8 → c ≠ 9 → c ≠ 10 → M1 c = M c) ∧ (nS M1 = nS M + 1 ∧ (M1 5 0).toInt = (M 5 0).toInt + 1 ∧ M 5 0 = nI (nS M)) ∧ (nE M1 = nE M + 1 ∧ M1 8 0 = M 8 0 + 1 ∧ (M1 8 0).toInt = (M 8 0).toInt + 1) ∧ (∀ j, M1 10 j = if j = 3 * nS M then M 6 0 else if j = 3 * nS M + 1 then st else if j = 3 * nS M + 2 then tw else M 10 j) ∧ (∀ k, k ≠ nE M → eD M1 k = eD M k ∧ eS M1 k = eS M k ∧ eF M1 k = eF M k ∧ eV M1 k = eV M k) ∧ (eD M1 (nE M) = M 6 0 ∧ eS M1 (nE M) = M 5 0 ∧ eF M1 (nE M) = -1 ∧ eV M1 (nE M) = w) ∧ (∀ d i f, i < nS M → fct M1 d i f = fct M d i f) ∧ ∀ d f, (M 6 0).toInt ≤ d.toInt → f < 11 → fct M1 d (nS M) f = lsF f w st tw := by
  obtain ⟨⟨h1, h2, h3, h4⟩, h5, h6, h7, h8⟩ := id h
  obtain ⟨M7, k1, k2, k3, wr⟩ := l
  have k8 : M7 8 = M 8 := k1 8 (by decide) (by decide)
  have k9 : M7 9 = M 9 := k1 9 (by decide) (by decide)
  have k6 : M7 6 = M 6 := k1 6 (by decide) (by decide)
  have n7 : nE M7 = nE M := by show (M7 8 0).toNatClampNeg = _; rw [k8]
  have w8 : 0 ≤ (M7 8 0).toInt ∧ (M7 8 0).toInt < 400 := by rw [k8]; exact ⟨h1.1, he⟩
  obtain ⟨n1, n2⟩ := wr.ne w8
  have c5 : M1 5 = M7 5 := wr.1 5 (by decide) (by decide)
  have c10 : M1 10 = M7 10 := wr.1 10 (by decide) (by decide)
  have e5 := cl_i h2.1
  have m5 : (M7 5 0).toInt = (M 5 0).toInt + 1 := by rw [k2]; exact ti_add rfl ti_1 (by omega) (by omega)
  have e57 := cl_i (x := M7 5 0) (by omega)
  have nv : M 5 0 = nI (nS M) := nI_val h2.1
  have o7 : ∀ k, eD M7 k = eD M k ∧ eS M7 k = eS M k ∧ eF M7 k = eF M k ∧ eV M7 k = eV M k := fun k => by
    show M7 9 _ = M 9 _ ∧ M7 9 _ = M 9 _ ∧ M7 9 _ = M 9 _ ∧ M7 9 _ = M 9 _
    rw [k9]
    exact ⟨rfl, rfl, rfl, rfl⟩
  have nN : nS M < 1000 := by show (M 5 0).toNatClampNeg < 1000; omega
  refine ⟨fun c a b c' d => by rw [wr.1 c b c', k1 c a d], ⟨?_, by rw [c5]; exact m5, nv⟩, ⟨by rw [n1, n7], by rw [wr.2.1, k8], by rw [n2, k8]⟩, fun j => by rw [c10, k3], fun k hk => ?_, ?_, fun d i f hi => ?_, fun d f hd hf => ?_⟩
  · show (M1 5 0).toNatClampNeg = (M 5 0).toNatClampNeg + 1
    rw [c5]
    omega
  · obtain ⟨a1, a2, a3, a4⟩ := wr.old (k := k) (by rw [n7]; exact hk)
    obtain ⟨b1, b2, b3, b4⟩ := o7 k
    exact ⟨a1.trans b1, a2.trans b2, a3.trans b3, a4.trans b4⟩
  · have a := wr.new
    rw [n7, k6] at a
    exact a
  · rw [wr.fcN w8, if_neg]
    · refine fct_congr (by rw [k8]) (fun k _ => o7 k) ?_
      have y1 : M7 10 (3 * i + 1) = M 10 (3 * i + 1) := by rw [k3, if_neg (by omega), if_neg (by omega), if_neg (by omega)]
      have y2 : M7 10 (3 * i + 2) = M 10 (3 * i + 2) := by rw [k3, if_neg (by omega), if_neg (by omega), if_neg (by omega)]
      unfold dfF
      rw [y1, y2]
    · rintro ⟨q, -⟩
      rw [nv, nI_eq (by omega) (by omega)] at q
      omega
  · have f7 : fct M7 d (nS M) f = dfF M7 (nS M) f := by
      unfold fct
      rw [n7]
      refine fcF_new nN (fun k hk => ?_) ?_
      · unfold eOK
        obtain ⟨b1, b2, b3, b4⟩ := o7 k
        have cn : cnL M7 k = cnL M k := cnL_congr (fun j _ => (o7 j).2.2.1)
        rw [b1, b2, b3, cn]
        rcases (h5 k hk).1 with ⟨a, b, c⟩ | a
        · refine Or.inl ⟨a, b, ?_⟩
          have hl := cnL_lt (n := nE M) hk a
          show M7 10 (3 * cnL M k) = _
          rw [k3, if_neg (by omega), if_neg (by omega), if_neg (by omega)]
          exact c
        · exact Or.inr a
      · rw [cnL_congr (fun j _ => (o7 j).2.2.1), h6]
        exact Nat.le_refl _
    rw [wr.fcN w8, k6, f7]
    have d7 : dfF M7 (nS M) f = if f = 1 then st else if f = 4 then tw else if f = 5 then -3000 else if f = 6 then 1900 else if f = 9 then 1 else 0 := by
      have y1 : M7 10 (3 * nS M + 1) = st := by rw [k3, if_neg (by omega), if_pos rfl]
      have y2 : M7 10 (3 * nS M + 2) = tw := by rw [k3, if_neg (by omega), if_neg (by omega), if_pos rfl]
      unfold dfF
      rw [y1, y2]
    rw [d7]
    have n1 : ¬ (-1 : Int32) = nI f := fun e => by
      have : (-1 : Int32).toInt = (nI f).toInt := by rw [e]
      rw [ti_m1, nI_toInt (by omega)] at this
      omega
    unfold lsF
    by_cases f0 : f = 0
    · rw [if_pos ⟨nv, hd, Or.inr ⟨rfl, f0⟩⟩, if_pos f0]
    · rw [if_neg (fun q => q.2.2.elim n1 (fun q => f0 q.2)), if_neg f0]
theorem BW.stone {w st tw : Int32} (h : BW M) (l : LsS M M1 w st tw) (he : (M 8 0).toInt < 400) (hs : (M 5 0).toInt < 32) (ok : LsOK w st tw) : BW M1 := by
  obtain ⟨a1, ⟨a2, a3, nv⟩, ⟨a4, a5, a6⟩, a7, a8, ⟨a9, b1, b2, b3⟩, b4, b5⟩ := l.all h he hs
  obtain ⟨⟨h1, h2, h3, h4⟩, h5, h6, h7, h8⟩ := id h
  have c6 : M1 6 = M 6 := a1 6 (by decide) (by decide) (by decide) (by decide)
  have c7 : M1 7 = M 7 := a1 7 (by decide) (by decide) (by decide) (by decide)
  have cn : ∀ k, k ≤ nE M → cnL M1 k = cnL M k := fun k hk => cnL_congr (fun j hj => (a8 j (by omega)).2.2.1)
  have lo : ∀ i, i < nS M → lD M1 i = lD M i := fun i hi => by
    show M1 10 _ = M 10 _
    rw [a7, if_neg (by omega), if_neg (by omega), if_neg (by omega)]
  have ln : lD M1 (nS M) = M 6 0 := by
    show M1 10 _ = _
    rw [a7, if_pos rfl]
  refine ⟨⟨by omega, by omega, by rw [c6]; exact h3, by rw [c6, c7]; exact h4⟩, fun k hk => ?_, ?_, fun i hi => ?_, fun d i hi hd => ?_⟩
  · rw [c6]
    by_cases e : k = nE M
    · subst e
      refine ⟨Or.inl ⟨b2, ?_, ?_⟩, by rw [a9]; exact Int.le_refl _, fun j hj => ?_⟩
      · rw [b1, cn _ (Nat.le_refl _), h6]
        exact nv
      · rw [cn _ (Nat.le_refl _), h6, ln, a9]
      · rw [a9, (a8 j (by omega)).1]
        exact (h5 j hj).2.1
    · obtain ⟨q1, q2, q3⟩ := h5 k (by omega)
      obtain ⟨p1, p2, p3, p4⟩ := a8 k e
      refine ⟨?_, by rw [p1]; exact q2, fun j hj => ?_⟩
      · unfold eOK
        rw [p1, p2, p3, cn k (by omega)]
        rcases q1 with ⟨a, b, c⟩ | a
        · have hl := cnL_lt (n := nE M) (by omega) a
          refine Or.inl ⟨a, b, ?_⟩
          rw [lo _ (by omega)]
          exact c
        · exact Or.inr a
      · rw [p1, (a8 j (by omega)).1]
        exact q3 j hj
  · rw [a4, a2]
    show (if eF M1 (nE M) = -1 then cnL M1 (nE M) + 1 else cnL M1 (nE M)) = _
    rw [if_pos b2, cn _ (Nat.le_refl _), h6]
  · rw [c6]
    by_cases e : i = nS M
    · rw [e, ln]
      exact Int.le_refl _
    · rw [lo i (by omega)]
      exact h7 i (by omega)
  · by_cases e : i = nS M
    · subst e
      rw [ln] at hd
      have g := Gd.ls ok
      obtain ⟨g1, g2, g3⟩ := g
      exact ⟨fun f hf => by rw [b5 d f hd hf]; exact g1 f hf, by rw [b5 d 3 hd (by decide), b5 d 0 hd (by decide)]; exact g2, by rw [b5 d 5 hd (by decide), b5 d 6 hd (by decide)]; exact g3⟩
    · rw [lo i (by omega)] at hd
      have : fct M1 d i = fct M d i := by
        funext f
        exact b4 d i f (by omega)
      rw [this]
      exact h8 d i (by omega) hd
theorem BW.day (h : BW M) (e : ∀ c, c ≠ 6 → M1 c = M c) (h6 : (M 6 0).toInt ≤ (M1 6 0).toInt) (h9 : (M1 6 0).toInt ≤ 9999) : BW M1 ∧ ∀ d s f, fct M1 d s f = fct M d s f := by
  obtain ⟨⟨h1, h2, h3, h4⟩, k5, k6, k7, k8⟩ := h
  have e5 : M1 5 = M 5 := e 5 (by decide)
  have e7 : M1 7 = M 7 := e 7 (by decide)
  have e8 : M1 8 = M 8 := e 8 (by decide)
  have e9 : M1 9 = M 9 := e 9 (by decide)
  have e10 : M1 10 = M 10 := e 10 (by decide)
  have ns : nS M1 = nS M := by show (M1 5 0).toNatClampNeg = _; rw [e5]
  have ne : nE M1 = nE M := by show (M1 8 0).toNatClampNeg = _; rw [e8]
  have o7 : ∀ k, eD M1 k = eD M k ∧ eS M1 k = eS M k ∧ eF M1 k = eF M k ∧ eV M1 k = eV M k := fun k => by
    show M1 9 _ = M 9 _ ∧ M1 9 _ = M 9 _ ∧ M1 9 _ = M 9 _ ∧ M1 9 _ = M 9 _
    rw [e9]
    exact ⟨rfl, rfl, rfl, rfl⟩
  have cn : ∀ k, cnL M1 k = cnL M k := fun k => cnL_congr (fun j _ => (o7 j).2.2.1)
  have fc : ∀ d s f, fct M1 d s f = fct M d s f := fun d s f => fct_congr (by rw [e8]) (fun k _ => o7 k) (by unfold dfF; rw [e10])
  have lo : ∀ i, lD M1 i = lD M i := fun i => by show M1 10 _ = M 10 _; rw [e10]
  refine ⟨⟨⟨by rw [e8]; exact h1, by rw [e5]; exact h2, by omega, ?_⟩, fun k hk => ?_, by rw [ne, ns, cn]; exact k6, fun s hs => ?_, fun d s hs hd => ?_⟩, fc⟩
  · rw [e7]
    rcases h4 with h4 | h4
    · exact Or.inl h4
    · exact Or.inr (by omega)
  · rw [ne] at hk
    obtain ⟨q1, q2, q3⟩ := k5 k hk
    refine ⟨?_, by rw [(o7 k).1]; omega, fun j hj => by rw [(o7 k).1, (o7 j).1]; exact q3 j hj⟩
    unfold eOK
    rw [(o7 k).1, (o7 k).2.1, (o7 k).2.2.1, cn, lo]
    exact q1
  · rw [ns] at hs
    have := k7 s hs
    rw [lo]
    omega
  · rw [ns] at hs
    rw [lo] at hd
    have : fct M1 d s = fct M d s := by
      funext f
      exact fc d s f
    rw [this]
    exact k8 d s hs hd
theorem BW.view (h : BW M) (e : ∀ c, c ≠ 7 → M1 c = M c) (h7 : M1 7 0 = -1 ∨ (0 ≤ (M1 7 0).toInt ∧ (M1 7 0).toInt ≤ (M 6 0).toInt)) : BW M1 ∧ ∀ d s f, fct M1 d s f = fct M d s f := by
  obtain ⟨⟨h1, h2, h3, h4⟩, k5, k6, k7, k8⟩ := h
  have e5 : M1 5 = M 5 := e 5 (by decide)
  have e6 : M1 6 = M 6 := e 6 (by decide)
  have e8 : M1 8 = M 8 := e 8 (by decide)
  have e9 : M1 9 = M 9 := e 9 (by decide)
  have e10 : M1 10 = M 10 := e 10 (by decide)
  have ns : nS M1 = nS M := by show (M1 5 0).toNatClampNeg = _; rw [e5]
  have ne : nE M1 = nE M := by show (M1 8 0).toNatClampNeg = _; rw [e8]
  have o7 : ∀ k, eD M1 k = eD M k ∧ eS M1 k = eS M k ∧ eF M1 k = eF M k ∧ eV M1 k = eV M k := fun k => by
    show M1 9 _ = M 9 _ ∧ M1 9 _ = M 9 _ ∧ M1 9 _ = M 9 _ ∧ M1 9 _ = M 9 _
    rw [e9]
    exact ⟨rfl, rfl, rfl, rfl⟩
  have cn : ∀ k, cnL M1 k = cnL M k := fun k => cnL_congr (fun j _ => (o7 j).2.2.1)
  have fc : ∀ d s f, fct M1 d s f = fct M d s f := fun d s f => fct_congr (by rw [e8]) (fun k _ => o7 k) (by unfold dfF; rw [e10])
  have lo : ∀ i, lD M1 i = lD M i := fun i => by show M1 10 _ = M 10 _; rw [e10]
  refine ⟨⟨⟨by rw [e8]; exact h1, by rw [e5]; exact h2, by rw [e6]; exact h3, by rw [e6]; exact h7⟩, fun k hk => ?_, by rw [ne, ns, cn]; exact k6, fun s hs => ?_, fun d s hs hd => ?_⟩, fc⟩
  · rw [ne] at hk
    obtain ⟨q1, q2, q3⟩ := k5 k hk
    refine ⟨?_, by rw [(o7 k).1, e6]; exact q2, fun j hj => by rw [(o7 k).1, (o7 j).1]; exact q3 j hj⟩
    unfold eOK
    rw [(o7 k).1, (o7 k).2.1, (o7 k).2.2.1, cn, lo]
    exact q1
  · rw [ns] at hs
    rw [lo, e6]
    exact k7 s hs
  · rw [ns] at hs
    rw [lo] at hd
    have : fct M1 d s = fct M d s := by
      funext f
      exact fc d s f
    rw [this]
    exact k8 d s hs hd
end BK2
/-- the class's book beside the reference's -/
def RBk (X M : Sl) : Prop := (X 1 8 = M 5 0 ∧ X 1 10 = M 8 0 ∧ X 1 11 = M 6 0 ∧ X 1 12 = M 7 0) ∧ (∀ k, k < 400 → X 6 k = eD M k ∧ X 7 k = eS M k ∧ X 8 k = eF M k ∧ X 9 k = eV M k) ∧ (∀ s, s < 32 → X 4 s = M 10 (3 * s + 1) ∧ X 5 s = M 10 (3 * s + 2)) ∧ BW M ∧ (0 ≤ (X 1 9).toInt ∧ (X 1 9).toInt ≤ (M 5 0).toInt) ∧ (∀ s : Nat, s < nS M → ((s : Int) < (X 1 9).toInt ↔ (lD M s).toInt ≤ (dvF M).toInt)) ∧ (∀ s f : Nat, s < nS M → f < 11 → X 2 (11 * s + f) = fct M (M 6 0) s f) ∧ ∀ s f : Nat, (s : Int) < (X 1 9).toInt → f < 11 → X 3 (11 * s + f) = fct M (dvF M) s f
theorem slX_arr {D : ADD} {o d n i : Nat} (hm : (d, true, n) ∈ cpL) (hi : i < n) : slX D o d i = D.1 (o + d) i := by
  have hd : ∀ s, s ∈ cpL → s.1 < 31 := by decide
  exact slX_at (hd _ hm) (List.any_eq_true.mpr ⟨_, hm, by simp [cpC, hi]⟩)
theorem slX_fld {D : ADD} {o d n : Nat} (hm : (d, false, n) ∈ cpL) : slX D o d n = D.1 (o + d) n := by
  have hd : ∀ s, s ∈ cpL → s.1 < 31 := by decide
  exact slX_at (hd _ hm) (List.any_eq_true.mpr ⟨_, hm, by simp [cpC]⟩)
abbrev xc (D : ADD) : Sl := fun d i => D.1 (1 + d) i
theorem RBk.cx {X X1 M : Sl} (h : RBk X M) (e1 : ∀ i, 8 ≤ i → i ≤ 12 → X1 1 i = X 1 i) (e2 : ∀ d i, (d = 2 ∨ d = 3) → i < 352 → X1 d i = X d i) (e3 : ∀ d i, (d = 4 ∨ d = 5) → i < 32 → X1 d i = X d i) (e4 : ∀ d i, 6 ≤ d → d ≤ 9 → i < 400 → X1 d i = X d i) : RBk X1 M := by
  obtain ⟨⟨a1, a2, a3, a4⟩, b, c, w, s, t, u, v⟩ := h
  have n5 : ((nS M : Nat) : Int) = (M 5 0).toInt := cl_i w.1.2.1.1
  have h32 := w.1.2.1.2
  refine ⟨⟨by rw [e1 8 (by decide) (by decide)]; exact a1, by rw [e1 10 (by decide) (by decide)]; exact a2, by rw [e1 11 (by decide) (by decide)]; exact a3, by rw [e1 12 (by decide) (by decide)]; exact a4⟩, fun k hk => ?_, fun i hi => ?_, w, by rw [e1 9 (by decide) (by decide)]; exact s, by rw [e1 9 (by decide) (by decide)]; exact t, fun i f hi hf => ?_, fun i f hi hf => ?_⟩
  · rw [e4 6 k (by decide) (by decide) hk, e4 7 k (by decide) (by decide) hk, e4 8 k (by decide) (by decide) hk, e4 9 k (by decide) (by decide) hk]
    exact b k hk
  · rw [e3 4 i (by decide) hi, e3 5 i (by decide) hi]
    exact c i hi
  · rw [e2 2 _ (by decide) (by omega)]
    exact u i f hi hf
  · rw [e1 9 (by decide) (by decide)] at hi
    rw [e2 3 _ (by decide) (by omega)]
    exact v i f hi hf
theorem RBk.to {D : ADD} {M : Sl} : RBk (slX D 1) M ↔ RBk (xc D) M := by
  have m1 : ∀ i, 8 ≤ i → i ≤ 12 → (1, false, i) ∈ cpL := by
    intro i a b
    have : i = 8 ∨ i = 9 ∨ i = 10 ∨ i = 11 ∨ i = 12 := by omega
    rcases this with rfl | rfl | rfl | rfl | rfl <;> decide
  have e1 : ∀ i, 8 ≤ i → i ≤ 12 → slX D 1 1 i = xc D 1 i := fun i a b => slX_fld (m1 i a b)
  have e2 : ∀ d i, (d = 2 ∨ d = 3) → i < 352 → slX D 1 d i = xc D d i := fun d i a b => by
    rcases a with rfl | rfl <;> exact slX_arr (n := 352) (by decide) b
  have e3 : ∀ d i, (d = 4 ∨ d = 5) → i < 32 → slX D 1 d i = xc D d i := fun d i a b => by
    rcases a with rfl | rfl <;> exact slX_arr (n := 32) (by decide) b
  have e4 : ∀ d i, 6 ≤ d → d ≤ 9 → i < 400 → slX D 1 d i = xc D d i := fun d i a b c => by
    have : d = 6 ∨ d = 7 ∨ d = 8 ∨ d = 9 := by omega
    rcases this with rfl | rfl | rfl | rfl <;> exact slX_arr (n := 400) (by decide) c
  exact ⟨fun h => h.cx (fun i a b => (e1 i a b).symm) (fun d i a b => (e2 d i a b).symm) (fun d i a b => (e3 d i a b).symm) (fun d i a b c => (e4 d i a b c).symm), fun h => h.cx e1 e2 e3 e4⟩
