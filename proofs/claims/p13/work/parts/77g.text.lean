/-! a text, both sides: what is kept of it -/
def cTx (a1 x1 : Int32) (D1 : ADD) : Option (Int32 × ADD) := aLet (aSI D1 1 5 (D1.1 33 1)) (fun D2 => aLet (aSI D2 1 6 (D2.1 33 2)) (fun D3 => aBind (fX9_cut (0 : Int32) D3) (fun x2 D4 => (if x1 = 0 then some ((-1 : Int32), D4) else (if a1 = 0 then aBind (fX6_copyFrom 13 34 D4) (fun _ D5 => some ((D5.1 13 0), D5)) else aBind (fX6_copyFrom 22 34 D4) (fun _ D6 => some ((D6.1 22 0), D6)))))))
theorem cTx_eq {a1 : Int32} {D : ADD} : fX10_text a1 D = aBind (fX5_read a1 D) (fun x1 D1 => cTx a1 x1 D1) := rfl
def cE (x1 : Int32) (D7 : ADD) : Option (Int32 × ADD) := aLet (aSI D7 34 0 (aMin x1 (16 : Int32))) (fun D8 => (if (D8.1 33 1) = 0 then aZ (1 : Int32) (some ((1 : Int32), D8)) else aZ (0 : Int32) (some ((0 : Int32), D8))))
theorem cRd_eq {a1 : Int32} {D : ADD} : fX5_read a1 D = aZ a1 (aBind (fX5_advance (aSI (aSI (aSI (aSI (aSI D 33 4 a1) 33 1 (0 : Int32)) 33 2 (-1 : Int32)) 34 0 (0 : Int32)) 33 7 (0 : Int32))) (fun _ D6 => aFix aFuel (lX5_read_34 cE) (fun _ _ => none) (0 : Int32) D6)) := by
  have e : cE = fun (x1 : Int32) (D7 : ADD) => aLet (aSI D7 34 0 (aMin x1 (16 : Int32))) (fun D8 => aLet (fun (x2 : Int32) (D9 : ADD) => aZ x2 (some (x2, D9))) (fun (j104 : Int32 → ADD → Option (Int32 × ADD)) => (if (D8.1 33 1) = 0 then j104 (1 : Int32) D8 else j104 (0 : Int32) D8))) := by
    funext x1 D7
    unfold cE
    simp only [aLet_nr]
  rw [e]
  unfold fX5_read
  simp only [aLet_nr]
def mF (x1 : Int32) (D12 : ADD) : Option (Int32 × ADD) := aLet (fun (x2 : Int32) (D13 : ADD) => aIn (0 : Int32) 4 (aLet (aSI D13 3 (0 : Int32).toNatClampNeg x2) (fun D14 => aLet (fun (x3 : Int32) (D15 : ADD) => aIn (0 : Int32) 4 (aLet (aSI D15 4 (0 : Int32).toNatClampNeg x3) (fun D16 => some ((-1 : Int32), D16)))) (fun (j131 : Int32 → ADD → Option (Int32 × ADD)) => (if x1 = 0 then j131 (D14.1 0 29) D14 else j131 (D14.1 0 31) D14))))) (fun (j110 : Int32 → ADD → Option (Int32 × ADD)) => (if x1 = 0 then j110 (1 : Int32) D12 else j110 (D12.1 0 30) D12))
def mE (a1 x1 : Int32) (D11 : ADD) : Option (Int32 × ADD) := (if x1 = 0 then mF x1 D11 else (if (D11.1 0 30) ≤ 0 then aLet (fun (x4 : Int32) (D17 : ADD) => aLet (fun (x5 : Int32) (D18 : ADD) => aIn x5 8 (aLet (aSI D18 15 x5.toNatClampNeg (D18.1 0 32)) (fun D19 => aFix aFuel (lX11_text_166 x4 (fun D20 => some ((D20.1 0 32), D20))) (fun _ _ => none) (0 : Int32) D19))) (fun (j158 : Int32 → ADD → Option (Int32 × ADD)) => (if a1 = 0 then j158 (0 : Int32) D17 else j158 (1 : Int32) D17))) (fun (j144 : Int32 → ADD → Option (Int32 × ADD)) => (if a1 = 0 then j144 (0 : Int32) D11 else j144 (16 : Int32) D11)) else mF x1 D11))
def mIn (D : ADD) : ADD := aSI (aSI (aSI (aSI (aSI (aSI (aSI (aSI (aSI D 0 0 (0 : Int32)) 0 24 ((aSI D 0 0 (0 : Int32)).1 2 (0 : Int32).toNatClampNeg)) 2 (0 : Int32).toNatClampNeg (0 : Int32)) 3 (0 : Int32).toNatClampNeg (0 : Int32)) 4 (0 : Int32).toNatClampNeg (-1 : Int32)) 0 23 (0 : Int32)) 0 29 (-1 : Int32)) 0 30 (0 : Int32)) 0 32 (0 : Int32)
theorem mTx_eq {a1 : Int32} {D : ADD} : fX11_text a1 D = aBind (fX11_next (mIn D)) (fun _ D10 => aFix aFuel (lX11_text_62 a1 (mE a1)) (fun _ _ => none) (1 : Int32) D10) := by
  have e : mE a1 = fun (x1 : Int32) (D11 : ADD) => mE a1 x1 D11 := rfl
  rw [e]
  unfold fX11_text mE mF mIn
  simp only [aLet_nr, in04]
section TXs
variable {D0 E0 D D1 E E1 : ADD} {B : Nat → Int32} {n L s e m : Nat} {k p : Int32} {X X1 M M1 : Sl} {o b q : Nat} {wear : Prop}
theorem RuS.fr (h : RuS X M o b q wear) (hx : ∀ i j, i ≤ 8 → X1 (o + i) j = X (o + i) j) (h15 : M1 15 q = M 15 q) (hm : ∀ l, l < 16 → (M1 16 (b + l) = M 16 (b + l) ∧ M1 20 (b + l) = M 20 (b + l) ∧ M1 21 (b + l) = M 21 (b + l) ∧ M1 22 (b + l) = M 22 (b + l)) ∧ ∀ t, t < 4 → M1 17 (4 * (b + l) + t) = M 17 (4 * (b + l) + t) ∧ M1 18 (4 * (b + l) + t) = M 18 (4 * (b + l) + t) ∧ M1 19 (4 * (b + l) + t) = M 19 (4 * (b + l) + t)) : RuS X1 M1 o b q wear := by
  obtain ⟨h1, h2, h3⟩ := h
  have x0 : X1 o 0 = X o 0 := hx 0 0 (by decide)
  unfold RuS
  rw [x0, h15]
  refine ⟨h1, h2, fun l hl => ?_⟩
  have l16 : l < 16 := by omega
  obtain ⟨m, ⟨a1, a2, a3⟩, a4, a5, a6, a7⟩ := h3 l hl
  obtain ⟨⟨b1, b2, b3, b4⟩, b5⟩ := hm l l16
  refine ⟨m, ⟨a1, by rw [hx 4 l (by decide)]; exact a2, by rw [b1]; exact a3⟩, fun t ht => ?_, by rw [b2, hx 1 l (by decide)]; exact a5, by rw [hx 1 l (by decide)]; exact a6, ?_⟩
  · obtain ⟨c1, c2, c3⟩ := b5 t (by omega)
    rw [hx 5 _ (by decide), hx 6 _ (by decide), hx 7 _ (by decide), hx 8 _ (by decide), c1, c2, c3]
    exact a4 t ht
  · rw [hx 1 l (by decide), hx 2 l (by decide), hx 3 l (by decide), b3, b4]
    exact a7
theorem RuS_new (hL : L ≤ 16) (hl : ∀ l, l < L → (∃ m, LnT p D E l m) ∧ LnD p D E l) (hf : D.1 33 1 = 0) (hw : wear → p = 0) (x0 : X o 0 = nI L) (m15 : M 15 q = nI L) (h4 : ∀ i j, 1 ≤ i → i ≤ 4 → j < 16 → X (o + i) j = D.1 (34 + i) j) (h8 : ∀ i j, 5 ≤ i → i ≤ 8 → j < 64 → X (o + i) j = D.1 (34 + i) j) (hm : ∀ l, l < L → (M 16 (b + l) = E.1 23 l ∧ M 20 (b + l) = E.1 27 l ∧ M 21 (b + l) = E.1 28 l ∧ M 22 (b + l) = E.1 29 l) ∧ ∀ t : Nat, (t : Int) < (E.1 23 l).toInt → M 17 (4 * (b + l) + t) = E.1 24 (4 * l + t) ∧ M 18 (4 * (b + l) + t) = E.1 25 (4 * l + t) ∧ M 19 (4 * (b + l) + t) = E.1 26 (4 * l + t)) : RuS X M o b q wear := by
  have vL : (nI L).toInt = (L : Int) := nI_toInt (by omega)
  unfold RuS
  rw [x0, m15, vL]
  refine ⟨rfl, by omega, fun l hl2 => ?_⟩
  obtain ⟨⟨m, ⟨a1, a2, a3⟩, a4⟩, d1, d2, d3⟩ := hl l (by omega)
  obtain ⟨⟨b1, b2, b3, b4⟩, b5⟩ := hm l (by omega)
  have vm : (nI m).toInt = (m : Int) := nI_toInt (by omega)
  have k1 : X (o + 1) l = D.1 35 l := h4 1 l (by decide) (by decide) (by omega)
  have k2 : X (o + 2) l = D.1 36 l := h4 2 l (by decide) (by decide) (by omega)
  have k3 : X (o + 3) l = D.1 37 l := h4 3 l (by decide) (by decide) (by omega)
  have k4 : X (o + 4) l = D.1 38 l := h4 4 l (by decide) (by decide) (by omega)
  refine ⟨m, ⟨a3, by rw [k4]; exact a1, by rw [b1]; exact a2⟩, fun t ht => ?_, by rw [b2, k1]; exact d1, by rw [k1]; exact d2, fun hwr => ?_⟩
  · obtain ⟨c1, c2, c3⟩ := b5 t (by rw [a2, vm]; omega)
    have k5 : X (o + 5) (4 * l + t) = D.1 39 (4 * l + t) := h8 5 _ (by decide) (by decide) (by omega)
    have k6 : X (o + 6) (4 * l + t) = D.1 40 (4 * l + t) := h8 6 _ (by decide) (by decide) (by omega)
    have k7 : X (o + 7) (4 * l + t) = D.1 41 (4 * l + t) := h8 7 _ (by decide) (by decide) (by omega)
    have k8 : X (o + 8) (4 * l + t) = D.1 42 (4 * l + t) := h8 8 _ (by decide) (by decide) (by omega)
    rw [k5, k6, k7, k8, c1, c2, c3]
    obtain ⟨z1, z2⟩ := a4 t ht
    exact ⟨⟨z1.1, fun w => z1.2 (hw w)⟩, z2⟩
  · rw [k1, k2, k3, b3, b4]
    obtain ⟨d4, d5⟩ := d3 (hw hwr)
    refine ⟨d4, fun q => ?_⟩
    obtain ⟨e1, e2, e3, e4⟩ := d5 q
    exact ⟨e1, e2, e3, e4 hf⟩
def TxO (D D1 E E1 : ADD) : Prop := RTx (xc D1) (slM E1 0) ∧ NwM E E1 ∧ (∀ c, ((2 ≤ c ∧ c ≤ 10) ∨ c = 31 ∨ 43 ≤ c) → D1.1 c = D.1 c) ∧ ∀ c, 5 ≤ c → c ≤ 14 → E1.1 c = E.1 c
theorem bX_cut (h : 0 ≤ (D.1 11 1).toInt) : Wp (fX9_cut 0 D) (fun _ D1 => D1 = aSI D 11 1 0) := by
  unfold fX9_cut
  refine Wp.lets (Wp.ilt (fun q => absurd q (by decide)) (fun _ => Wp.ile (fun _ => Wp.lets (Wp.ret rfl)) (fun q => absurd q (by rw [ti_0]; omega))))
/-- the class's end of a text -/
theorem bX_end {a x : Int32} (h : 0 ≤ (D.1 11 1).toInt) : Wp (cTx a x D) (fun r D1 => ∃ D4, (∀ c, c ≠ 1 → c ≠ 11 → D4.1 c = D.1 c) ∧ (D4.1 1 5 = D.1 33 1 ∧ D4.1 1 6 = D.1 33 2 ∧ D4.1 11 1 = 0) ∧ if x = 0 then r = -1 ∧ D1 = D4 else r = D.1 34 0 ∧ (∀ c, (c < (if a = 0 then 13 else 22) ∨ (if a = 0 then 13 else 22) + 9 ≤ c) → D1.1 c = D4.1 c) ∧ D1.1 (if a = 0 then 13 else 22) 0 = D.1 34 0 ∧ (∀ i j, 1 ≤ i → i ≤ 4 → j < 16 → D1.1 ((if a = 0 then 13 else 22) + i) j = D.1 (34 + i) j) ∧ ∀ i j, 5 ≤ i → i ≤ 8 → j < 64 → D1.1 ((if a = 0 then 13 else 22) + i) j = D.1 (34 + i) j) := by
  unfold cTx
  refine Wp.lets (Wp.leti (fun D3 e3 => Wp.bind (bX_cut (by rw [e3, si_o (by decide), si_o (by decide)]; exact h)) (fun _ D4 e4 => ?_)))
  have f4 : ∀ c, c ≠ 1 → c ≠ 11 → D4.1 c = D.1 c := fun c a b => by rw [e4, e3, si_o b, si_o a, si_o a]
  have v4 : D4.1 1 5 = D.1 33 1 ∧ D4.1 1 6 = D.1 33 2 ∧ D4.1 11 1 = 0 := by
    refine ⟨?_, ?_, by rw [e4, si_s, if_pos rfl]⟩
    · rw [e4, si_o (by decide), e3, si_s, if_neg (by decide), si_s, if_pos rfl]
    · rw [e4, si_o (by decide), e3, si_s, if_pos rfl, si_o (by decide)]
  clear e3 e4
  refine Wp.ite (fun hx => Wp.ret ⟨D4, f4, v4, by rw [if_pos hx]; exact ⟨rfl, rfl⟩⟩) (fun hx => Wp.ite (fun ha => ?_) (fun ha => ?_))
  · refine Wp.bind (tX6_cp (Or.inl (by decide))) (fun _ D5 q => Wp.ret ⟨D4, f4, v4, ?_⟩)
    obtain ⟨q1, q2, q3, q4⟩ := q
    rw [if_neg hx, if_pos ha]
    have e34 : ∀ c, 34 ≤ c → D4.1 c = D.1 c := fun c hc => f4 c (by omega) (by omega)
    exact ⟨by rw [q2, e34 34 (by decide)], q1, by rw [q2, e34 34 (by decide)], fun i j a b c => by rw [q3 i j a b c, e34 _ (by omega)], fun i j a b c => by rw [q4 i j a b c, e34 _ (by omega)]⟩
  · refine Wp.bind (tX6_cp (Or.inl (by decide))) (fun _ D5 q => Wp.ret ⟨D4, f4, v4, ?_⟩)
    obtain ⟨q1, q2, q3, q4⟩ := q
    rw [if_neg hx, if_neg ha]
    have e34 : ∀ c, 34 ≤ c → D4.1 c = D.1 c := fun c hc => f4 c (by omega) (by omega)
    exact ⟨by rw [q2, e34 34 (by decide)], q1, by rw [q2, e34 34 (by decide)], fun i j a b c => by rw [q3 i j a b c, e34 _ (by omega)], fun i j a b c => by rw [q4 i j a b c, e34 _ (by omega)]⟩
/-- the reference's end of a text that is refused -/
theorem bM_bad {x : Int32} : Wp (mF x E) (fun r E1 => r = -1 ∧ (∀ c, c ≠ 3 → c ≠ 4 → E1.1 c = E.1 c) ∧ (∀ i, E1.1 3 i = if i = 0 then (if x = 0 then 1 else E.1 0 30) else E.1 3 i) ∧ ∀ i, E1.1 4 i = if i = 0 then (if x = 0 then E.1 0 29 else E.1 0 31) else E.1 4 i) := by
  unfold mF
  refine Wp.letQ (fun Q j => ∀ v, (v = if x = 0 then 1 else E.1 0 30) → Wp (j v E) Q) (fun v hv => ?_) (fun j K => Wp.ite (fun hx => K _ (if_pos hx).symm) (fun hx => K _ (if_neg hx).symm))
  refine Wp.idd (by decide) (Wp.leti (fun E2 e2 => ?_))
  rw [cl_0] at e2
  have g0 : E2.1 0 = E.1 0 := by rw [e2, si_o (by decide)]
  rw [g0]
  refine Wp.letQ (fun Q j => ∀ u, (u = if x = 0 then E.1 0 29 else E.1 0 31) → Wp (j u E2) Q) (fun u hu => ?_) (fun j K => Wp.ite (fun hx => K _ (if_pos hx).symm) (fun hx => K _ (if_neg hx).symm))
  refine Wp.idd (by decide) (Wp.lets (Wp.ret ⟨rfl, fun c a b => ?_, fun i => ?_, fun i => ?_⟩))
  · rw [si_o b, e2, si_o a]
  · rw [si_o (by decide), e2, si_s, hv]
  · rw [cl_0, si_s, e2, si_o (by decide), hu]
end TXs
