/-! the class: spans, exactly -/
theorem Wp.letQ {ρ α : Type} {Q : ρ → ADD → Prop} {x : α} {G : α → Option (ρ × ADD)} (P : (ρ → ADD → Prop) → α → Prop) (h : P Q x) (k : ∀ j, P Q j → Wp (G j) Q) : Wp (aLet x G) Q := k x h
theorem Wp.tabl4 {ρ : Type} {Q : ρ → ADD → Prop} {x : Int32} {A0 A1 A2 A3 Kd : Option (ρ × ADD)} (h0 : x.toInt = 1 → Wp A0 Q) (h1 : x.toInt = 2 → Wp A1 Q) (h2 : x.toInt = 3 → Wp A2 Q) (h3 : x.toInt = 4 → Wp A3 Q) (d : x.toInt < 1 ∨ 5 ≤ x.toInt → Wp Kd Q) : Wp (aTab x 1 [A0, A1, A2, A3] Kd) Q := by
  refine Wp.tab (fun i K hK hc => ?_) (fun hc => d (by simp at hc; omega))
  match i, hK with
  | 0, hK => cases hK; exact h0 (by omega)
  | 1, hK => cases hK; exact h1 (by omega)
  | 2, hK => cases hK; exact h2 (by omega)
  | 3, hK => cases hK; exact h3 (by omega)
  | i + 4, hK => cases hK
def pasG (D : ADD) (o : Nat) (row : Nat → Int32) (a : Nat) : Prop := 0 ≤ (D.1 (o + 5) a).toInt ∧ (D.1 (o + 5) a).toInt < 8 ∧ (if D.1 (o + 6) a = 60 then row (D.1 (o + 5) a).toNatClampNeg < D.1 (o + 7) a else if D.1 (o + 6) a = 62 then D.1 (o + 7) a < row (D.1 (o + 5) a).toNatClampNeg else row (D.1 (o + 5) a).toNatClampNeg = D.1 (o + 7) a)
def hldG (D : ADD) (o : Nat) (row : Nat → Int32) (l : Nat) : Prop := l < 16 ∧ ∀ i : Nat, (i : Int) < (D.1 (o + 4) l).toInt → i < 4 → (pasG D o row (4 * l + i) ↔ aBz (D.1 (o + 8) (4 * l + i)) = 0)
theorem hldF_G {o v : Nat} {D : ADD} {l : Nat} : hldF o v D l ↔ hldG D o (D.1 v) l := Iff.rfl
/-- the rules at o are the same -/
def smR (D D1 : ADD) (o : Nat) : Prop := D1.1 o 0 = D.1 o 0 ∧ ∀ c, o < c → c ≤ o + 8 → D1.1 c = D.1 c
theorem hldG_sm {D D1 : ADD} {o : Nat} {row : Nat → Int32} {l : Nat} (h : smR D D1 o) : hldG D1 o row l ↔ hldG D o row l := by
  unfold hldG pasG
  rw [h.2 (o + 4) (by omega) (by omega), h.2 (o + 5) (by omega) (by omega), h.2 (o + 6) (by omega) (by omega), h.2 (o + 7) (by omega) (by omega), h.2 (o + 8) (by omega) (by omega)]
/-- the wear of a row of traits, line by line -/
noncomputable def wrF (D : ADD) (row : Nat → Int32) (a b : Int32) (l : Nat) : Nat → Int32 × Int32
  | 0 => (a, b)
  | n + 1 => @ite _ (hldG D 13 row l) (Classical.propDecidable _) (if D.1 14 l = 2 then (a, b) else wrF D row (a + (if D.1 14 l = 1 then -D.1 16 l else D.1 15 l)) (b + (if D.1 14 l = 1 then -D.1 15 l else D.1 16 l)) (l + 1) n) (wrF D row a b (l + 1) n)
theorem wrF_sm {D D1 : ADD} {row : Nat → Int32} (h : smR D D1 13) : ∀ (n : Nat) (a b : Int32) (l : Nat), wrF D1 row a b l n = wrF D row a b l n
  | 0, a, b, l => rfl
  | n + 1, a, b, l => by
    have e14 := h.2 14 (by omega) (by omega)
    have e15 := h.2 15 (by omega) (by omega)
    have e16 := h.2 16 (by omega) (by omega)
    unfold wrF
    rw [e14, e15, e16, wrF_sm h n, wrF_sm h n]
    by_cases hh : hldG D 13 row l
    · rw [if_pos hh, if_pos ((hldG_sm h).mpr hh)]
    · rw [if_neg hh, if_neg (fun q => hh ((hldG_sm h).mp q))]
noncomputable def wrX (D : ADD) (s : Int32) : Int32 × Int32 := wrF D (trF D s) 0 0 0 (D.1 13 0).toNatClampNeg
noncomputable def loX (D : ADD) (s : Int32) : Int32 := newF (knX D s 0 - knX D s 3) (wrX D s).1
noncomputable def hiX (D : ADD) (s : Int32) : Int32 := newF (knX D s 0 - knX D s 3) (wrX D s).2
theorem tX4_measure {a : Int32} {D : ADD} (h0 : 0 ≤ a.toInt) (h1 : a.toInt < 32) (hl : (D.1 13 0).toInt ≤ 16) : Wp (fX4_measure a D) (fun _ D1 => (∀ c, c ≠ 44 → c ≠ 45 → c ≠ 49 → D1.1 c = D.1 c) ∧ D1.2 = D.2 ∧ (∀ i, 7 ≤ i → D1.1 49 i = D.1 49 i) ∧ (∀ j, D1.1 44 j = if j = a.toNatClampNeg then loX D (D.1 46 a.toNatClampNeg) else D.1 44 j) ∧ ∀ j, D1.1 45 j = if j = a.toNatClampNeg then hiX D (D.1 46 a.toNatClampNeg) else D.1 45 j) := by
  unfold fX4_measure
  have ia : vp_in a 32 := i_in h0 h1
  refine Wp.idx ia (Wp.leti (fun s hs => Wp.bind tX4_traits (fun _ D1 q => ?_)))
  obtain ⟨q1, q2, q3⟩ := q
  have r13 : smR D D1 13 := ⟨by rw [q1 13 (by decide)], fun c h1 h2 => q1 c (by omega)⟩
  have row : D1.1 49 = trF D s := funext q3
  have tot : wrX D s = wrF D1 (D1.1 49) 0 0 0 (D1.1 13 0).toNatClampNeg := by
    rw [row, wrF_sm r13, r13.1]
    rfl
  rw [← hs]
  refine Wp.letQ (fun Q j => ∀ x y, (x, y) = wrX D s → Wp (j x y D1) Q) (fun x y hxy => ?_) (fun j K => Wp.lets ?_)
  · refine Wp.bindE (eX_known _ _ _) (Wp.bindE (eX_known _ _ _) (Wp.lets (Wp.bindE (eX_whenNew _ _ _) (Wp.idx ia (Wp.leti (fun D6 e6 => Wp.bindE (eX_whenNew _ _ _) (Wp.idx ia (Wp.leti (fun D8 e8 => Wp.ret ?_)))))))))
    have kk : ∀ b, knX D1 s b = knX D s b := fun b => knX_fr (q1 2 (by decide)) (q1 4 (by decide)) s b
    rw [kk, kk] at e6 e8
    have hx : x = (wrX D s).1 := by rw [← hxy]
    have hy : y = (wrX D s).2 := by rw [← hxy]
    rw [hx] at e6
    rw [hy] at e8
    refine ⟨fun c c44 c45 c49 => ?_, ?_, fun i hi => ?_, fun j => ?_, fun j => ?_⟩
    · rw [e8, e6, ← q1 c c49]
      funext z
      simp [aSI, c44, c45]
    · rw [e8, e6]
      exact q2
    · rw [e8, e6]
      show D1.1 49 i = _
      rw [q3, trF]
      rw [if_neg (by omega), if_neg (by omega), if_neg (by omega), if_neg (by omega), if_neg (by omega), if_neg (by omega), if_neg (by omega)]
    · rw [e8, e6, ← q1 44 (by decide)]
      simp [aSI, loX]
    · rw [e8, e6, ← q1 45 (by decide)]
      simp [aSI, hiX]
  · have e13 : (D1.1 13 0).toInt ≤ 16 := by rw [q1 13 (by decide)]; exact hl
    have em : ((D1.1 13 0).toNatClampNeg : Int) = max (D1.1 13 0).toInt 0 := ti_cl
    refine Wp.fix3 (fun n x y w D' => (0 ≤ w.toInt ∧ w.toInt ≤ ((D1.1 13 0).toNatClampNeg : Int) ∧ ((D1.1 13 0).toNatClampNeg : Int) - w.toInt < (n : Int)) ∧ D' = D1 ∧ wrF D1 (D1.1 49) x y w.toNatClampNeg ((D1.1 13 0).toNatClampNeg - w.toNatClampNeg) = wrX D s) ?_ ?_ aFuel 1000000 _ _ _ _ (Nat.le_refl _) ⟨⟨by decide, by rw [ti_0]; omega, by rw [ti_0]; omega⟩, rfl, tot.symm⟩
    · intro n g hg x y w D' hI
      obtain ⟨⟨i0, i1, i2⟩, i3, i4⟩ := hI
      subst i3
      have ew := cl_i i0
      unfold lX4_measure_24
      refine Wp.ile (fun k => K x y ?_) (fun k => ?_)
      · rw [← i4, show (D'.1 13 0).toNatClampNeg - w.toNatClampNeg = 0 by omega]
        rfl
      · obtain ⟨c1, c2⟩ := cl_add1 (x := w) (by omega) (by omega)
        have hs1 : (D'.1 13 0).toNatClampNeg - w.toNatClampNeg = ((D'.1 13 0).toNatClampNeg - (w.toNatClampNeg + 1)) + 1 := by omega
        rw [hs1] at i4
        have ln : ∀ c d, lnF D' c d w = D'.1 c w.toNatClampNeg := fun c d => if_pos ⟨i0, by omega⟩
        refine Wp.bind tX6_holds (fun b D2 q => ?_)
        obtain ⟨rfl, q⟩ := q
        refine Wp.lets ?_
        unfold wrF at i4
        by_cases hh : hldG D2 13 (D2.1 49) w.toNatClampNeg
        · rw [if_pos hh] at i4
          have hb : b = 1 := q.t ⟨i0, hh⟩
          subst hb
          refine Wp.neg (by decide) (Wp.bindE (eX_deedOf _ _ _) ?_)
          rw [ln]
          refine Wp.ite (fun h2 => K x y ?_) (fun h2 => Wp.lets ?_)
          · rw [if_pos h2] at i4
            exact i4
          · rw [if_neg h2] at i4
            by_cases h1 : D2.1 14 w.toNatClampNeg = 1
            · rw [if_pos h1, if_pos h1] at i4
              refine Wp.pos h1 (Wp.bindE (eX_mostOf _ _ _) (Wp.lets (Wp.lets (Wp.pos h1 (Wp.bindE (eX_leastOf _ _ _) (Wp.lets (Wp.lets (hg _ _ _ _ ⟨⟨by omega, by omega, by omega⟩, rfl, ?_⟩))))))))
              rw [ln, ln, c1]
              exact i4
            · rw [if_neg h1, if_neg h1] at i4
              refine Wp.neg h1 (Wp.bindE (eX_leastOf _ _ _) (Wp.lets (Wp.lets (Wp.neg h1 (Wp.bindE (eX_mostOf _ _ _) (Wp.lets (Wp.lets (hg _ _ _ _ ⟨⟨by omega, by omega, by omega⟩, rfl, ?_⟩))))))))
              rw [ln, ln, c1]
              exact i4
        · rw [if_neg hh] at i4
          have hb : b = 0 := q.f (fun p => hh p.2)
          subst hb
          refine Wp.pos rfl (Wp.lets (hg _ _ _ _ ⟨⟨by omega, by omega, by omega⟩, rfl, ?_⟩))
          rw [c1]
          exact i4
    · intro x y w D' hI
      obtain ⟨⟨i0, i1, i2⟩, -⟩ := hI
      omega
/-! who is chosen -/
def chX (D : ADD) (s : Int32) : Prop := knX D s 9 = 1 ∧ ((D.1 31 0 >>> (knX D s 4 &&& 31)) &&& 1) = 1 ∧ ((D.1 31 1 >>> (knX D s 1 &&& 31)) &&& 1) = 1 ∧ knX D s 5 ≤ D.1 31 3 ∧ D.1 31 2 ≤ knX D s 6 ∧ (D.1 31 4 = 0 ∨ (D.1 31 4 = 1 ↔ 0 < knX D s 7))
theorem tX1_takesMark {m : Int32} {D : ADD} : Wp (fX1_takesMark m D) (fun x D1 => D1 = D ∧ Bo x (D.1 31 4 = 0 ∨ (D.1 31 4 = 1 ↔ 0 < m))) := by
  unfold fX1_takesMark
  refine Wp.lets (Wp.lets (Wp.ite (fun h => Wp.z (Or.inr rfl) (Wp.ret ⟨rfl, Or.inl ⟨rfl, Or.inl h⟩⟩)) (fun h => Wp.lets (Wp.ite (fun h1 => Wp.lets (Wp.ite (fun h2 => ?_) (fun h2 => ?_))) (fun h1 => Wp.lets (Wp.ite (fun h2 => ?_) (fun h2 => ?_)))))))
  · refine Wp.neg (by decide) (Wp.z (Or.inl rfl) (Wp.ret ⟨rfl, Or.inr ⟨rfl, fun q => ?_⟩⟩))
    rcases q with q | q
    · exact h q
    · exact absurd (q.mp h1) (Int32.not_lt.mpr h2)
  · refine Wp.pos rfl (Wp.z (Or.inr rfl) (Wp.ret ⟨rfl, Or.inl ⟨rfl, Or.inr ⟨fun _ => Int32.not_le.mp h2, fun _ => h1⟩⟩⟩))
  · refine Wp.pos rfl (Wp.z (Or.inr rfl) (Wp.ret ⟨rfl, Or.inl ⟨rfl, Or.inr ⟨fun q => absurd q h1, fun q => absurd q (Int32.not_lt.mpr h2)⟩⟩⟩))
  · refine Wp.neg (by decide) (Wp.z (Or.inl rfl) (Wp.ret ⟨rfl, Or.inr ⟨rfl, fun q => ?_⟩⟩))
    rcases q with q | q
    · exact h q
    · exact h1 (q.mpr (Int32.not_le.mp h2))
theorem tX1_takes {s : Int32} {D : ADD} : Wp (fX1_takes s D) (fun x D1 => D1 = D ∧ Bo x (chX D s)) := by
  unfold fX1_takes chX
  refine Wp.bindE (eX_known _ _ _) (Wp.lets (Wp.lets (Wp.ite (fun h => Wp.bindE (eX_known _ _ _) (Wp.ite (fun h1 => Wp.bindE (eX_known _ _ _) (Wp.ite (fun h2 => Wp.bindE (eX_known _ _ _) (Wp.ite (fun h3 => ?_) (fun h3 => Wp.bindE (eX_known _ _ _) (Wp.ite (fun h4 => ?_) (fun h4 => Wp.bindE (eX_known _ _ _) (Wp.bind tX1_takesMark (fun y D1 q => ?_))))))) (fun h2 => ?_))) (fun h1 => ?_))) (fun h => ?_))))
  · exact Wp.z (Or.inl rfl) (Wp.ret ⟨rfl, Or.inr ⟨rfl, fun q => absurd q.2.2.2.1 (Int32.not_le.mpr h3)⟩⟩)
  · exact Wp.z (Or.inl rfl) (Wp.ret ⟨rfl, Or.inr ⟨rfl, fun q => absurd q.2.2.2.2.1 (Int32.not_le.mpr h4)⟩⟩)
  · obtain ⟨rfl, q⟩ := q
    rcases q with ⟨rfl, q⟩ | ⟨rfl, q⟩
    · exact Wp.neg (by decide) (Wp.z (Or.inr rfl) (Wp.ret ⟨rfl, Or.inl ⟨rfl, h, h1, h2, Int32.not_lt.mp h3, Int32.not_lt.mp h4, q⟩⟩))
    · exact Wp.pos rfl (Wp.z (Or.inl rfl) (Wp.ret ⟨rfl, Or.inr ⟨rfl, fun p => q p.2.2.2.2.2⟩⟩))
  · exact Wp.z (Or.inl rfl) (Wp.ret ⟨rfl, Or.inr ⟨rfl, fun q => h2 q.2.2.1⟩⟩)
  · exact Wp.z (Or.inl rfl) (Wp.ret ⟨rfl, Or.inr ⟨rfl, fun q => h1 q.2.1⟩⟩)
  · exact Wp.z (Or.inl rfl) (Wp.ret ⟨rfl, Or.inr ⟨rfl, fun q => h q.1⟩⟩)
/-- who is of a pile: by its kind and value -/
def blX (D : ADD) (k v s : Int32) : Prop := if k.toInt = 5 then knX D s 9 = 1 ∧ knX D s 10 = v else chX D s ∧ (if k.toInt = 1 then knX D s 4 = v else if k.toInt = 2 then v ≤ knX D s 5 else if k.toInt = 3 then knX D s 6 < v else if k.toInt = 4 then knX D s 8 = v else True)
theorem tX4_belongs {s k v : Int32} {D : ADD} : Wp (fX4_belongs s k v D) (fun x D1 => D1 = D ∧ Bo x (blX D k v s)) := by
  unfold fX4_belongs blX
  have L5 : (5 : Int32).toInt = 5 := by decide
  refine Wp.ite (fun h => Wp.bindE (eX_known _ _ _) (Wp.lets (Wp.lets (Wp.ite (fun h1 => Wp.bindE (eX_known _ _ _) (Wp.ite (fun h2 => ?_) (fun h2 => ?_))) (fun h1 => ?_))))) (fun h => Wp.bind tX1_takes (fun x D1 q => ?_))
  · rw [if_pos (by rw [h, L5])]
    exact Wp.z (Or.inr rfl) (Wp.ret ⟨rfl, Or.inl ⟨rfl, h1, h2⟩⟩)
  · rw [if_pos (by rw [h, L5])]
    exact Wp.z (Or.inl rfl) (Wp.ret ⟨rfl, Or.inr ⟨rfl, fun q => h2 q.2⟩⟩)
  · rw [if_pos (by rw [h, L5])]
    exact Wp.z (Or.inl rfl) (Wp.ret ⟨rfl, Or.inr ⟨rfl, fun q => h1 q.1⟩⟩)
  · obtain ⟨rfl, q⟩ := q
    have h5 := ti_ne h
    rw [L5] at h5
    rw [if_neg h5]
    rcases q with ⟨rfl, q⟩ | ⟨rfl, q⟩
    · refine Wp.neg (by decide) (Wp.tabl4 (fun hc => ?_) (fun hc => ?_) (fun hc => ?_) (fun hc => ?_) (fun hc => Wp.ret ?_))
      · refine Wp.bindE (eX_known _ _ _) (Wp.lets (Wp.ite (fun p => Wp.z (Or.inr rfl) (Wp.ret ⟨rfl, Or.inl ⟨rfl, q, ?_⟩⟩)) (fun p => Wp.z (Or.inl rfl) (Wp.ret ⟨rfl, Or.inr ⟨rfl, fun r => ?_⟩⟩))))
        · rw [if_pos hc]; exact p
        · have r := r.2
          rw [if_pos hc] at r
          exact p r
      · refine Wp.bindE (eX_known _ _ _) (Wp.lets (Wp.ite (fun p => Wp.z (Or.inl rfl) (Wp.ret ⟨rfl, Or.inr ⟨rfl, fun r => ?_⟩⟩)) (fun p => Wp.z (Or.inr rfl) (Wp.ret ⟨rfl, Or.inl ⟨rfl, q, ?_⟩⟩))))
        · have r := r.2
          rw [if_neg (by omega), if_pos hc] at r
          exact absurd r (Int32.not_le.mpr p)
        · rw [if_neg (by omega), if_pos hc]; exact Int32.not_lt.mp p
      · refine Wp.bindE (eX_known _ _ _) (Wp.lets (Wp.ite (fun p => Wp.z (Or.inl rfl) (Wp.ret ⟨rfl, Or.inr ⟨rfl, fun r => ?_⟩⟩)) (fun p => Wp.z (Or.inr rfl) (Wp.ret ⟨rfl, Or.inl ⟨rfl, q, ?_⟩⟩))))
        · have r := r.2
          rw [if_neg (by omega), if_neg (by omega), if_pos hc] at r
          exact absurd r (Int32.not_lt.mpr p)
        · rw [if_neg (by omega), if_neg (by omega), if_pos hc]; exact Int32.not_le.mp p
      · refine Wp.bindE (eX_known _ _ _) (Wp.lets (Wp.ite (fun p => Wp.z (Or.inr rfl) (Wp.ret ⟨rfl, Or.inl ⟨rfl, q, ?_⟩⟩)) (fun p => Wp.z (Or.inl rfl) (Wp.ret ⟨rfl, Or.inr ⟨rfl, fun r => ?_⟩⟩))))
        · rw [if_neg (by omega), if_neg (by omega), if_neg (by omega), if_pos hc]; exact p
        · have r := r.2
          rw [if_neg (by omega), if_neg (by omega), if_neg (by omega), if_pos hc] at r
          exact p r
      · refine ⟨rfl, Or.inl ⟨rfl, q, ?_⟩⟩
        rw [if_neg (by omega), if_neg (by omega), if_neg (by omega), if_neg (by omega)]
        trivial
    · exact Wp.pos rfl (Wp.ret ⟨rfl, Or.inr ⟨rfl, fun p => q p.1⟩⟩)
