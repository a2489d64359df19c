/-! a test of both readers -/
def cT3 (a1 x2 x3 : Int32) (D7 : ADD) : Option (Int32 × ADD) := aBind (fX9_byteAt (D7.1 33 6) D7) (fun x5 D8 => aBind (fX5_advance D8) (fun _ D9 => (if (D9.1 33 5) = (2 : Int32) then aBind (fX5_number D9) (fun x6 D10 => aBind (fX6_addTest 34 a1 x2 x3 x5 x6 D10) (fun _ D11 => aBind (fX5_advance D11) (fun _ D12 => some ((1 : Int32), D12)))) else aBind (fX5_refuse D9) (fun x7 D13 => aZ x7 (some (x7, D13))))))
def cT2 (a1 x2 x3 : Int32) (D4 : ADD) : Option (Int32 × ADD) := (if x3 = (-1 : Int32) then aBind (fX5_refuse D4) (fun x11 D17 => aZ x11 (some (x11, D17))) else aBind (fX5_advance D4) (fun _ D5 => aBind (fX5_isSign (60 : Int32) D5) (fun x4 D6 => (if x4 = 0 then aBind (fX5_isSign (62 : Int32) D6) (fun x8 D14 => (if x8 = 0 then aBind (fX5_isSign (61 : Int32) D14) (fun x9 D15 => (if x9 = 0 then aBind (fX5_refuse D15) (fun x10 D16 => aZ x10 (some (x10, D16))) else cT3 a1 x2 x3 D15)) else cT3 a1 x2 x3 D14)) else cT3 a1 x2 x3 D6))))
def cT1 (a1 x2 : Int32) (D3 : ADD) : Option (Int32 × ADD) := (if (D3.1 33 4) = 0 then aBind (fX5_wordIn 3 D3) (fun x3 D4 => cT2 a1 x2 x3 D4) else aBind (fX5_wordIn 2 D3) (fun x3 D4 => cT2 a1 x2 x3 D4))
theorem cT_eq {a1 : Int32} {D : ADD} : fX5_readTest a1 D = aBind (fX5_wordIn 1 D) (fun x1 D1 => if x1 = 0 then aBind (fX5_advance D1) (fun _ D => cT1 a1 1 D) else cT1 a1 0 D1) := rfl
def mT4 (a2 a3 x1 x2 x3 x5 : Int32) (D10 : ADD) : Option (Int32 × ADD) := (if (4 : Int32) ≤ a3 then some ((1 : Int32), D10) else (if (16 : Int32) ≤ a2 then some ((1 : Int32), D10) else aLet (((4 : Int32) * a2) + a3) (fun x6 => aLet (fun (x7 : Int32) (D12 : ADD) => aIn x6 64 (aLet (aSI D12 24 x6.toNatClampNeg x7) (fun D13 => aIn x6 64 (aLet (aSI D13 25 x6.toNatClampNeg x3) (fun D14 => aIn x6 64 (aLet (aSI D14 26 x6.toNatClampNeg x5) (fun D15 => aIn a2 17 (aLet (aSI D15 23 a2.toNatClampNeg (a3 + (1 : Int32))) (fun D16 => some ((1 : Int32), D16)))))))))) (fun (j160 : Int32 → ADD → Option (Int32 × ADD)) => (if x1 = 0 then j160 x2 D10 else j160 (x2 + (8 : Int32)) D10)))))
def mT3 (a2 a3 x1 x2 x3 : Int32) (D8 : ADD) : Option (Int32 × ADD) := aBind (fX11_next D8) (fun _ D9 => (if (D9.1 0 26) = (3 : Int32) then aBind (fX11_next D9) (fun _ D10 => mT4 a2 a3 x1 x2 x3 (D9.1 0 27) D10) else aBind (fX11_wrong D9) (fun x8 D17 => aZ x8 (some (x8, D17)))))
def mT2 (a2 a3 x1 x2 : Int32) (D4 : ADD) : Option (Int32 × ADD) := (if x2 = (-1 : Int32) then aBind (fX11_wrong D4) (fun x9 D18 => aZ x9 (some (x9, D18))) else aBind (fX11_next D4) (fun _ D5 => (if (D5.1 0 26) = (4 : Int32) then (if D5.1 0 27 = (60 : Int32) then mT3 a2 a3 x1 x2 (D5.1 0 27) D5 else (if D5.1 0 27 = (62 : Int32) then mT3 a2 a3 x1 x2 (D5.1 0 27) D5 else (if D5.1 0 27 = (61 : Int32) then mT3 a2 a3 x1 x2 (D5.1 0 27) D5 else aBind (fX11_wrong D5) (fun x4 D7 => aZ x4 (some (x4, D7)))))) else aBind (fX11_wrong D5) (fun x4 D7 => aZ x4 (some (x4, D7))))))
def mT0 (a1 a2 a3 : Int32) (D1 : ADD) : Option (Int32 × ADD) := aBind (fX11_isWord (7237492 : Int64) D1) (fun x1 D2 => (if x1 = 0 then aBind (fX11_testWord a1 D2) (fun x2 D4 => mT2 a2 a3 x1 x2 D4) else aBind (fX11_next D2) (fun _ D19 => aBind (fX11_testWord a1 D19) (fun x2 D4 => mT2 a2 a3 x1 x2 D4))))
theorem mT_eq {a1 a2 a3 : Int32} {D : ADD} : fX11_test a1 a2 a3 D = (if a3 = (4 : Int32) then aBind (fX11_later (3 : Int32) (D.1 0 25) D) (fun _ D20 => mT0 a1 a2 a3 D20) else mT0 a1 a2 a3 D) := rfl
section STs
variable {D0 E0 D D1 E E1 : ADD} {B : Nat → Int32} {n L s e m : Nat} {k p : Int32}
theorem Wp.rpos {α β : Type} {f : Option (α × ADD)} {c : Prop} [Decidable c] {g h : Option (β × ADD)} {R : α → ADD → β → ADD → Prop} (hc : c) (q : Wp f (fun x D => Wp g (fun y E => R x D y E))) : Wp f (fun x D => Wp (if c then g else h) (fun y E => R x D y E)) := by
  rw [if_pos hc]
  exact q
theorem Wp.rneg {α β : Type} {f : Option (α × ADD)} {c : Prop} [Decidable c] {g h : Option (β × ADD)} {R : α → ADD → β → ADD → Prop} (hc : ¬ c) (q : Wp f (fun x D => Wp h (fun y E => R x D y E))) : Wp f (fun x D => Wp (if c then g else h) (fun y E => R x D y E)) := by
  rw [if_neg hc]
  exact q
theorem wcF_rng : ∀ (ws : List (List Int32)) (i : Nat), wcF B s e ws i = -1 ∨ ∃ j, j < ws.length ∧ wcF B s e ws i = nI (i + j)
  | [], i => Or.inl rfl
  | w :: ws, i => by
    by_cases h : wM B s e w
    · exact Or.inr ⟨0, by simp, wcF_y h⟩
    · rw [wcF_n h]
      rcases wcF_rng ws (i + 1) with q | ⟨j, q1, q2⟩
      · exact Or.inl q
      · exact Or.inr ⟨j + 1, by simp; omega, by rw [q2]; congr 1; omega⟩
/-- the class's new test -/
def AdT (L m : Nat) (nt key sg bd : Int32) (D D1 : ADD) : Prop := (∀ c, (c < 38 ∨ 42 < c) → D1.1 c = D.1 c) ∧ D1.2 = D.2 ∧ if L < 16 ∧ m < 4 then (∀ j, D1.1 38 j = if j = L then nI (m + 1) else D.1 38 j) ∧ (∀ j, D1.1 39 j = if j = 4 * L + m then key else D.1 39 j) ∧ (∀ j, D1.1 40 j = if j = 4 * L + m then sg else D.1 40 j) ∧ (∀ j, D1.1 41 j = if j = 4 * L + m then bd else D.1 41 j) ∧ (∀ j, D1.1 42 j = if j = 4 * L + m then nt else D.1 42 j) else ∀ c, D1.1 c = D.1 c
theorem bX_addTest {nt key sg bd : Int32} (hL : L ≤ 500) (hm : L < 16 → D.1 38 L = nI (min m 4)) : Wp (fX6_addTest 34 (nI L) nt key sg bd D) (fun _ D1 => AdT L m nt key sg bd D D1) := by
  unfold fX6_addTest
  have vL : (nI L).toInt = (L : Int) := nI_toInt (by omega)
  have cL : (nI L).toNatClampNeg = L := nI_clamp (by omega)
  refine Wp.bindE (eX_hasLine _ _) (Wp.lets ?_)
  rw [vL]
  by_cases h : 0 ≤ (L : Int) ∧ (L : Int) < 16
  · rw [if_pos h]
    have l16 : L < 16 := by omega
    have iL : vp_in (nI L) 16 := i_in (by omega) (by omega)
    have hm := hm l16
    refine Wp.neg (by decide) (Wp.idx iL ?_)
    show Wp (if D.1 38 (nI L).toNatClampNeg < 4 then _ else _) _
    rw [cL, hm]
    have e4 : (4 : Int32).toInt = 4 := by decide
    have vm : (nI (min m 4)).toInt = ((min m 4 : Nat) : Int) := nI_toInt (by omega)
    refine Wp.ilt (fun q => ?_) (fun q => Wp.ret ⟨fun _ _ => rfl, rfl, by rw [if_neg (by omega)]; exact fun _ => rfl⟩)
    have m4 : min m 4 = m := by omega
    have m5 : m < 4 := by omega
    rw [m4] at vm hm
    rw [m4]
    refine Wp.idx iL (Wp.leti (fun x2 ex => ?_))
    have e1 : (nI L * 4).toInt = (L : Int) * 4 := ti_mul vL e4 (by omega) (by omega)
    have e2 : x2.toInt = ((4 * L + m : Nat) : Int) := by
      rw [ex]
      have := ti_add e1 vm (by omega) (by omega)
      omega
    have ix : vp_in x2 64 := i_in (by omega) (by omega)
    have cx : x2.toNatClampNeg = 4 * L + m := cl_of e2
    rw [cx]
    refine Wp.idx ix (Wp.lets (Wp.idx ix (Wp.lets (Wp.idx ix (Wp.lets (Wp.idx ix (Wp.lets (Wp.idx iL (Wp.idx iL (Wp.leti (fun D7 e7 => Wp.ret ?_)))))))))))
    have z : nI m + 1 = nI (m + 1) := (nI_succ m).symm
    refine ⟨fun c hc => ?_, by rw [e7]; rfl, ?_⟩
    · rw [e7, si_o (by omega), si_o (by omega), si_o (by omega), si_o (by omega), si_o (by omega)]
    · rw [if_pos ⟨l16, m5⟩]
      refine ⟨fun j => ?_, fun j => ?_, fun j => ?_, fun j => ?_, fun j => ?_⟩
      · rw [e7, si_s, si_o (by decide), si_o (by decide), si_o (by decide), si_o (by decide), hm, z]
      · rw [e7, si_o (by decide), si_o (by decide), si_o (by decide), si_s, si_o (by decide)]
      · rw [e7, si_o (by decide), si_o (by decide), si_s, si_o (by decide), si_o (by decide)]
      · rw [e7, si_o (by decide), si_s, si_o (by decide), si_o (by decide), si_o (by decide)]
      · rw [e7, si_o (by decide), si_o (by decide), si_o (by decide), si_o (by decide), si_s]
  · rw [if_neg h]
    exact Wp.pos rfl (Wp.ret ⟨fun _ _ => rfl, rfl, by rw [if_neg (by omega)]; exact fun _ => rfl⟩)
theorem AdT.ps {nt key sg bd : Int32} (a : AdT L m nt key sg bd D D1) (h : PS B n p D0 E0 L D E s e k) : PS B n p D0 E0 L D1 E s e k := by
  obtain ⟨h1, h2, h3, h4, h5, h6⟩ := h
  obtain ⟨a1, a2, a3⟩ := a
  have r33 : D1.1 33 = D.1 33 := a1 33 (by omega)
  refine ⟨?_, h2, ?_, ⟨by rw [r33]; exact h4.1, h4.2⟩, ⟨fun c hc => by rw [a1 c (by omega)]; exact h5.1 c hc, h5.2.1, by rw [r33]; exact h5.2.2⟩, fun l hl h16 => ?_⟩
  · unfold TkX TpX
    rw [r33, a1 11 (by omega), a1 12 (by omega)]
    exact h1
  · unfold Flt
    rw [r33]
    exact h3
  · obtain ⟨⟨m', ⟨q1, q2, q3⟩, q4⟩, q5⟩ := h6 l hl h16
    refine ⟨⟨m', ⟨?_, q2, q3⟩, fun t ht => ?_⟩, ?_⟩
    · rw [← q1]
      split at a3
      · rw [a3.1 l, if_neg (by omega)]
      · rw [a3 38]
    · have := q4 t ht
      unfold TsR at this ⊢
      split at a3
      · rw [a3.2.1, a3.2.2.1, a3.2.2.2.1, a3.2.2.2.2, if_neg (by omega), if_neg (by omega), if_neg (by omega), if_neg (by omega)]
        exact this
      · rw [a3 39, a3 40, a3 41, a3 42]
        exact this
    · unfold LnD
      rw [a1 35 (by omega), a1 36 (by omega), a1 37 (by omega), r33]
      exact q5
/-- the reference's new test -/
theorem bM_store {x1 x2 x3 x5 : Int32} (hm : m ≤ 500) : Wp (mT4 (nI (min L 16)) (nI m) x1 x2 x3 x5 E) (fun y E1 => y = 1 ∧ (∀ c, (c < 23 ∨ 26 < c) → E1.1 c = E.1 c) ∧ E1.2 = E.2 ∧ if L < 16 ∧ m < 4 then (∀ j, E1.1 23 j = if j = L then nI (m + 1) else E.1 23 j) ∧ (∀ j, E1.1 24 j = if j = 4 * L + m then (if x1 = 0 then x2 else x2 + 8) else E.1 24 j) ∧ (∀ j, E1.1 25 j = if j = 4 * L + m then x3 else E.1 25 j) ∧ (∀ j, E1.1 26 j = if j = 4 * L + m then x5 else E.1 26 j) else ∀ c, E1.1 c = E.1 c) := by
  unfold mT4
  have e4 : (4 : Int32).toInt = 4 := by decide
  have e16 : (16 : Int32).toInt = 16 := by decide
  have vm : (nI m).toInt = (m : Int) := nI_toInt (by omega)
  have vL : (nI (min L 16)).toInt = ((min L 16 : Nat) : Int) := nI_toInt (by omega)
  refine Wp.ile (fun q => Wp.ret ⟨rfl, fun _ _ => rfl, rfl, by rw [if_neg (by omega)]; exact fun _ => rfl⟩) (fun q => Wp.ile (fun q2 => Wp.ret ⟨rfl, fun _ _ => rfl, rfl, by rw [if_neg (by omega)]; exact fun _ => rfl⟩) (fun q2 => ?_))
  have l16 : L < 16 := by omega
  have m4 : m < 4 := by omega
  have lL : min L 16 = L := by omega
  rw [lL] at vL ⊢
  refine Wp.leti (fun x6 ex => ?_)
  have e1 : ((4 : Int32) * nI L).toInt = 4 * (L : Int) := ti_mul e4 vL (by omega) (by omega)
  have e2 : x6.toInt = ((4 * L + m : Nat) : Int) := by
    rw [ex]
    have := ti_add e1 vm (by omega) (by omega)
    omega
  have ix : vp_in x6 64 := i_in (by omega) (by omega)
  have cx : x6.toNatClampNeg = 4 * L + m := cl_of e2
  have iL : vp_in (nI L) 17 := i_in (by omega) (by omega)
  have cL : (nI L).toNatClampNeg = L := nI_clamp (by omega)
  have z : nI m + 1 = nI (m + 1) := (nI_succ m).symm
  rw [cx, cL, z]
  refine Wp.letK (fun j => ∀ x7, (x7 = if x1 = 0 then x2 else x2 + 8) → Wp (j x7 E) _) (fun x7 hx => ?_) (fun j K => Wp.ite (fun q => K _ (if_pos q).symm) (fun q => K _ (if_neg q).symm))
  refine Wp.idx ix (Wp.lets (Wp.idx ix (Wp.lets (Wp.idx ix (Wp.lets (Wp.idx iL (Wp.leti (fun D7 e7 => Wp.ret ?_))))))))
  refine ⟨rfl, fun c hc => ?_, by rw [e7]; rfl, ?_⟩
  · rw [e7, si_o (by omega), si_o (by omega), si_o (by omega), si_o (by omega)]
  · rw [if_pos ⟨l16, m4⟩, ← hx]
    refine ⟨fun j => ?_, fun j => ?_, fun j => ?_, fun j => ?_⟩
    · rw [e7, si_s, si_o (by decide), si_o (by decide), si_o (by decide)]
    · rw [e7, si_o (by decide), si_o (by decide), si_o (by decide), si_s]
    · rw [e7, si_o (by decide), si_o (by decide), si_s, si_o (by decide)]
    · rw [e7, si_o (by decide), si_s, si_o (by decide), si_o (by decide)]
end STs
