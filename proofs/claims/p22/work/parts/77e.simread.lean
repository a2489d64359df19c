section
/-! deeds, lines, the whole text: both readers -/
def cD (a1 x1 : Int32) (D1 : ADD) : Option (Int32 × ADD) := (if x1 = (-1 : Int32) then aBind (fX5_refuse D1) (fun x3 D6 => aZ x3 (some (x3, D6))) else aBind (fX5_advance D1) (fun _ D2 => (if (D2.1 33 4) = 0 then (if x1 = (2 : Int32) then aBind (fX6_setDeed 34 a1 x1 (0 : Int32) (0 : Int32) D2) (fun _ D4 => some ((1 : Int32), D4)) else aBind (fX5_readAmounts a1 x1 D2) (fun x2 D5 => aZ x2 (some (x2, D5)))) else aBind (fX6_setDeed 34 a1 x1 (0 : Int32) (0 : Int32) D2) (fun _ D4 => some ((1 : Int32), D4)))))
theorem cD_eq {a1 : Int32} {D : ADD} : fX5_readDeed a1 D = (if (D.1 33 4) = 0 then aBind (fX5_wordIn 6 D) (fun x1 D1 => cD a1 x1 D1) else aBind (fX5_wordIn 5 D) (fun x1 D1 => cD a1 x1 D1)) := rfl
def cLe (x2 : Int32) (D4 : ADD) : Option (Int32 × ADD) := (if x2 = 0 then aZ (0 : Int32) (some ((0 : Int32), D4)) else aBind (fX5_pass (59 : Int32) D4) (fun x4 D7 => (if x4 = 0 then aZ (0 : Int32) (some ((0 : Int32), D7)) else aZ (1 : Int32) (some ((1 : Int32), D7)))))
def cL3 (a1 : Int32) (D3 : ADD) : Option (Int32 × ADD) := aBind (fX5_readDeed a1 D3) (fun x2 D4 => cLe x2 D4)
def cL2 (a1 x5 : Int32) (D8 : ADD) : Option (Int32 × ADD) := if x5 = 0 then some ((0 : Int32), D8) else cL3 a1 D8
theorem cL_eq {a1 : Int32} {D : ADD} : fX5_readLine a1 D = aBind (fX6_clearTests 34 a1 D) (fun _ D1 => aBind (fX5_wordIn 0 D1) (fun x1 D2 => (if x1 = 0 then aBind (fX5_readTests a1 D2) (fun x5 D8 => cL2 a1 x5 D8) else cL3 a1 D2))) := rfl
def mL4 (D9 : ADD) : Option (Int32 × ADD) := aLet (aSI D9 0 32 ((D9.1 0 32) + (1 : Int32))) (fun D10 => aBind (fX11_need (59 : Int32) D10) (fun x4 D11 => aZ x4 (some (x4, D11))))
def mD (a1 x1 x3 : Int32) (D6 : ADD) : Option (Int32 × ADD) := aIn x1 17 (aLet (aSI D6 27 x1.toNatClampNeg x3) (fun D7 => aIn x1 17 ((if (D7.1 27 x1.toNatClampNeg) = (-1 : Int32) then aBind (fX11_wrong D7) (fun x6 D13 => aZ x6 (some (x6, D13))) else aBind (fX11_next D7) (fun _ D8 => (if a1 = 0 then aIn x1 17 ((if (2 : Int32) ≤ (D8.1 27 x1.toNatClampNeg) then mL4 D8 else aBind (fX11_numbers x1 D8) (fun x5 D12 => (if x5 = 0 then some ((0 : Int32), D12) else mL4 D12)))) else mL4 D8))))))
def mL3 (a1 x1 : Int32) (D5 : ADD) : Option (Int32 × ADD) := aBind (fX11_actWord a1 D5) (fun x3 D6 => mD a1 x1 x3 D6)
def mL2 (a1 x1 : Int32) (D14 : ADD) : Option (Int32 × ADD) := aBind (fX11_need (58 : Int32) D14) (fun x7 D15 => (if x7 = 0 then some ((0 : Int32), D15) else mL3 a1 x1 D15))
def mL1 (a1 x1 : Int32) (D2 : ADD) : Option (Int32 × ADD) := aIn x1 17 (aLet (aSI D2 23 x1.toNatClampNeg (0 : Int32)) (fun D3 => aBind (fX11_isWord (26982 : Int64) D3) (fun x2 D4 => (if x2 = 0 then mL3 a1 x1 D4 else aFix aFuel (lX11_oneLine_59 a1 x1 (mL2 a1 x1)) (fun _ _ _ => none) (1 : Int32) (0 : Int32) D4))))
def mL0 (a1 x1 : Int32) (D1 : ADD) : Option (Int32 × ADD) := (if (D1.1 0 32) = (16 : Int32) then aBind (fX11_later (3 : Int32) (D1.1 0 25) D1) (fun _ D20 => mL1 a1 x1 D20) else mL1 a1 x1 D1)
theorem aLet_nr {α β : Type} {x : α} {G : α → Option β} : aLet x G = G x := (Eq.refl (G x)).trans (Eq.refl (G x))
theorem mL_eq {a1 : Int32} {D : ADD} : fX11_oneLine a1 D = (if (16 : Int32) ≤ (D.1 0 32) then mL0 a1 (16 : Int32) D else mL0 a1 (D.1 0 32) D) := by
  unfold fX11_oneLine mL0 mL1
  simp only [aLet_nr]
  have e3 : ∀ x1 : Int32, mL3 a1 x1 = fun D5 => aBind (fX11_actWord a1 D5) (fun x3 D6 => aIn x1 17 ((aIn x1 17 ((if ((aSI D6 27 x1.toNatClampNeg x3).1 27 x1.toNatClampNeg) = (-1 : Int32) then aBind (fX11_wrong (aSI D6 27 x1.toNatClampNeg x3)) (fun x6 D13 => aZ x6 (some (x6, D13))) else aBind (fX11_next (aSI D6 27 x1.toNatClampNeg x3)) (fun _ D8 => (if a1 = 0 then aIn x1 17 ((if (2 : Int32) ≤ (D8.1 27 x1.toNatClampNeg) then aBind (fX11_need (59 : Int32) (aSI D8 0 32 ((D8.1 0 32) + (1 : Int32)))) (fun x4 D11 => aZ x4 (some (x4, D11))) else aBind (fX11_numbers x1 D8) (fun x5 D12 => (if x5 = 0 then some ((0 : Int32), D12) else aBind (fX11_need (59 : Int32) (aSI D12 0 32 ((D12.1 0 32) + (1 : Int32)))) (fun x4 D11 => aZ x4 (some (x4, D11))))))) else aBind (fX11_need (59 : Int32) (aSI D8 0 32 ((D8.1 0 32) + (1 : Int32)))) (fun x4 D11 => aZ x4 (some (x4, D11)))))))))) := fun x1 => by
    funext D5
    unfold mL3 mD mL4
    simp only [aLet_nr]
  have e2 : ∀ x1 : Int32, mL2 a1 x1 = fun D14 => aBind (fX11_need (58 : Int32) D14) (fun x7 D15 => (if x7 = 0 then some ((0 : Int32), D15) else mL3 a1 x1 D15)) := fun x1 => rfl
  simp only [e2, e3]
theorem aLet_eq {α β : Type} {x : α} {G : α → Option β} : aLet x G = G x := rfl
section SRs
variable {D0 E0 D D1 E E1 : ADD} {B : Nat → Int32} {n L s e m : Nat} {k p : Int32} {T : Int32 → ADD → Option (Int32 × ADD) → Prop}
theorem Wp.toT {α β : Type} {f : Option (α × ADD)} {g : Option (β × ADD)} {S : α → ADD → β → ADD → Prop} {T : α → ADD → Option (β × ADD) → Prop} (h : Wp f (fun x D => Wp g (fun y E => S x D y E))) (k : ∀ x D y E, S x D y E → T x D (some (y, E))) : Wp f (fun x D => T x D g) := by
  obtain ⟨x, D, e1, y, E, e2, r⟩ := h
  refine ⟨x, D, e1, ?_⟩
  rw [e2]
  exact k x D y E r
/-- the line that is read stands -/
def LnK (p : Int32) (L : Nat) (D E : ADD) : Prop := L < 16 → (∃ m, LnT p D E L m) ∧ LnD p D E L
theorem sim_deed (t : TB B n) (hp : p = 0 ∨ p = 1) (hL : L ≤ 500) (h : PS B n p D0 E0 L D E s e k) (hm : ∃ m, CT p L D E m) (Kf : ∀ D' E', PF D0 E0 D' E' → T 0 D' (some (0, E'))) (Ks : ∀ D' E' s' e' k', PS B n p D0 E0 L D' E' s' e' k' → LnK p L D' E' → s < s' → T 1 D' (mL4 E')) : Wp (fX5_readDeed (nI L) D) (fun x D1 => T x D1 (mL3 p (nI (min L 16)) E)) := by
  have iL : vp_in (nI (min L 16)) 17 := vp_in_nI (by omega) (by omega)
  have cL : (nI (min L 16)).toNatClampNeg = min L 16 := nI_clamp (by omega)
  obtain ⟨m, hm⟩ := hm
  have l16e : L < 16 → min L 16 = L := fun q => by omega
  have main : ∀ X : Int32, (X = -1 ∨ (k = 1 ∧ ∃ kk : Nat, kk < 4 ∧ (p = 0 → kk < 3) ∧ X = nI kk)) → Wp (cD (nI L) X D) (fun x D1 => T x D1 (mD p (nI (min L 16)) X E)) := by
    intro X hX
    unfold cD mD
    rw [cL, aIn_ok iL, aLet_eq, aIn_ok iL]
    have pa : PS B n p D0 E0 L D (aSI E 27 (min L 16) X) s e k := h.wm (c := 27) (by decide)
    have a27 : (aSI E 27 (min L 16) X).1 27 (min L 16) = X := by rw [si_s, if_pos rfl]
    have fa : ∀ c, c ≠ 27 → (aSI E 27 (min L 16) X).1 c = E.1 c := fun c hc => si_o hc
    rw [a27]
    generalize aSI E 27 (min L 16) X = Ea at pa a27 fa ⊢
    by_cases x1 : X = -1
    · refine Wp.pos x1 ?_
      rw [if_pos x1]
      refine Wp.toT (sim_no pa) (fun x D y E r => ?_)
      obtain ⟨rfl, rfl, r⟩ := r
      exact Kf _ _ r
    obtain ⟨hk, kk, k4, k3, ex⟩ := hX.resolve_left x1
    have vk : (nI kk).toInt = (kk : Int) := nI_toInt (by omega)
    have se := h.1.2.2.1.ne (by rw [hk]; decide)
    refine Wp.neg x1 ?_
    rw [if_neg x1]
    refine Wp.twoT (sim_next t pa) (fun _ D2 _ E2 q => ?_)
    obtain ⟨s2, e2, k2, h2, le2, fr, fn⟩ := q
    have m2 : CT p L D2 E2 m := hm.wx (fun c hc => fr.1 c (by omega)) (fun c c1 c2 => by rw [fn.1 c (by omega), fa c (by omega)])
    have e27 : E2.1 27 (min L 16) = X := by rw [fn.1 27 (by decide)]; exact a27
    -- without amounts
    have plain : (p = 0 → kk = 2) → Wp (aBind (fX6_setDeed 34 (nI L) X (0 : Int32) (0 : Int32) D2) (fun _ D4 => some ((1 : Int32), D4))) (fun x D1 => T x D1 (mL4 E2)) := by
      intro hpk
      refine Wp.bind (bX_setDeed hL h2) (fun _ D3 q3 => Wp.ret (Ks D3 E2 s2 e2 k2 q3.2 (fun l16 => ?_) (by omega)))
      obtain ⟨w1, w2, w3⟩ := q3.1.2.2 l16
      have c3 : CT p L D3 E2 m := m2.wx (fun c hc => q3.1.1 c (by omega)) (fun _ _ _ => rfl)
      refine ⟨⟨_, c3 l16⟩, ?_⟩
      rw [l16e l16] at e27
      unfold LnD
      rw [w1, e27, ex, vk]
      refine ⟨rfl, by omega, fun hp0 => ⟨by have := k3 hp0; omega, fun q => ?_⟩⟩
      have := hpk hp0
      omega
    rw [h2.2.2.2.1.1]
    have v2 : (2 : Int32).toInt = 2 := by decide
    by_cases hp0 : p = 0
    · refine Wp.pos hp0 ?_
      rw [if_pos hp0, aIn_ok iL, e27]
      by_cases hk2 : kk = 2
      · have ex2 : X = 2 := by rw [ex, hk2]; rfl
        have z : (2 : Int32) ≤ X := by rw [ex2]; decide
        rw [if_pos z]
        exact Wp.pos ex2 (plain (fun _ => hk2))
      · have nx : ¬ X = 2 := fun q => by
          have : X.toInt = 2 := by rw [q]; decide
          rw [ex, vk] at this
          omega
        have z : ¬ (2 : Int32) ≤ X := fun q => by
          have := Int32.le_iff_toInt_le.mp q
          rw [ex, vk, v2] at this
          have := k3 hp0
          omega
        rw [if_neg z]
        refine Wp.neg nx (Wp.twoT (sim_amounts t hL h2) (fun x D5 y E5 r => ?_))
        rcases r with ⟨rfl, rfl, r⟩ | ⟨rfl, rfl, s5, e5, k5, h5, lt5, ⟨f5, g5⟩, a5⟩
        · refine Wp.z (Or.inl rfl) (Wp.ret ?_)
          rw [if_pos rfl]
          exact Kf _ _ r
        · refine Wp.z (Or.inr rfl) (Wp.ret ?_)
          rw [if_neg (show ¬ ((1 : Int32) = 0) by decide)]
          refine Ks D5 E5 s5 e5 k5 h5 (fun l16 => ?_) (by omega)
          obtain ⟨b1, b2, b3, b4, b5⟩ := a5 l16
          have c5 : CT p L D5 E5 m := m2.wx f5 (fun c c1 c2 => g5 c c1 (by omega))
          refine ⟨⟨_, c5 l16⟩, ?_⟩
          rw [l16e l16] at e27
          unfold LnD
          rw [b1, g5 27 (by decide) (by decide), e27, ex, vk]
          exact ⟨rfl, by omega, fun _ => ⟨by have := k3 hp0; omega, fun _ => ⟨b2, b3, b4, b5⟩⟩⟩
    · refine Wp.neg hp0 ?_
      rw [if_neg hp0]
      exact plain (fun q => absurd q hp0)
  have rng : ∀ si q, (wds si).length ≤ q → q ≤ 4 → (p = 0 → q ≤ 3) → ((if k = 1 then wcF B s e (wds si) 0 else -1) = -1 ∨ (k = 1 ∧ ∃ kk : Nat, kk < 4 ∧ (p = 0 → kk < 3) ∧ (if k = 1 then wcF B s e (wds si) 0 else -1) = nI kk)) := fun si q hl hq h0 => by
    by_cases hk : k = 1
    · rw [if_pos hk]
      rcases wcF_rng (B := B) (s := s) (e := e) (wds si) 0 with q1 | ⟨j, q1, q2⟩
      · exact Or.inl q1
      · exact Or.inr ⟨hk, j, by omega, fun z => by have := h0 z; omega, by rw [q2, Nat.zero_add]⟩
    · rw [if_neg hk]
      exact Or.inl rfl
  rw [cD_eq, h.2.2.2.1.1]
  unfold mL3
  rcases hp with rfl | rfl
  · exact Wp.pos rfl (Wp.bindE (eX_wordIn (by decide) t h.1) (Wp.rrT (eM_act0 t h.2.1) (main _ (rng 6 3 (by decide) (by decide) (fun _ => by decide)))))
  · exact Wp.neg (by decide) (Wp.bindE (eX_wordIn (by decide) t h.1) (Wp.rrT (eM_act1 t h.2.1) (main _ (rng 5 4 (by decide) (by decide) (fun q => absurd q (by decide))))))
/-- a line more -/
theorem PS.line (h : PS B n p D0 E0 L D E s e k) (hk : LnK p L D E) : PS B n p D0 E0 (L + 1) D (aSI E 0 32 (E.1 0 32 + 1)) s e k := by
  obtain ⟨h1, h2, h3, h4, h5, h6⟩ := h
  have o : ∀ d, d ≠ 0 → (aSI E 0 32 (E.1 0 32 + 1)).1 d = E.1 d := fun d hd => si_o hd
  have r : ∀ j, j ≠ 32 → (aSI E 0 32 (E.1 0 32 + 1)).1 0 j = E.1 0 j := fun j hj => by rw [si_s, if_neg hj]
  have r32 : (aSI E 0 32 (E.1 0 32 + 1)).1 0 32 = nI (L + 1) := by rw [si_s, if_pos rfl, h4.2, nI_succ]
  have l2 : (aSI E 0 32 (E.1 0 32 + 1)).2 = E.2 := rfl
  generalize aSI E 0 32 (E.1 0 32 + 1) = E1 at o r r32 l2 ⊢
  refine ⟨h1, ?_, ?_, ⟨h4.1, r32⟩, ⟨h5.1, fun d hd => by rw [o d (by omega)]; exact h5.2.1 d hd, h5.2.2⟩, fun l hl h16 => ?_⟩
  · unfold TkM TpM Ctn
    rw [r 24 (by decide), r 25 (by decide), r 23 (by decide), r 26 (by decide), r 27 (by decide), o 1 (by decide), l2]
    exact h2
  · unfold Flt
    rw [r 30 (by decide), r 31 (by decide)]
    exact h3
  · have q : (∃ m, LnT p D E l m) ∧ LnD p D E l := by
      by_cases e : l = L
      · rw [e]
        exact hk (by omega)
      · exact h6 l (by omega) h16
    obtain ⟨⟨m', q1⟩, q2⟩ := q
    exact ⟨⟨m', q1.fr (fun _ _ => rfl) o⟩, q2.fr (fun _ _ => rfl) o id⟩
def LnP (B : Nat → Int32) (n : Nat) (p : Int32) (D0 E0 : ADD) (L s : Nat) (x : Int32) (D1 : ADD) (y : Int32) (E1 : ADD) : Prop := (x = 0 ∧ y = 0 ∧ PF D0 E0 D1 E1) ∨ (x = 1 ∧ y = 1 ∧ ∃ s1 e1 k1, PS B n p D0 E0 (L + 1) D1 E1 s1 e1 k1 ∧ s < s1)
theorem sim_rest (t : TB B n) (hp : p = 0 ∨ p = 1) (hL : L ≤ 500) (h : PS B n p D0 E0 L D E s e k) (hm : ∃ m, CT p L D E m) : Wp (cL3 (nI L) D) (fun x D1 => Wp (mL3 p (nI (min L 16)) E) (fun y E1 => LnP B n p D0 E0 L s x D1 y E1)) := by
  unfold cL3
  refine Wp.bind (P := fun x D1 => Wp (cLe x D1) (fun x2 D2 => Wp (mL3 p (nI (min L 16)) E) (fun y E1 => LnP B n p D0 E0 L s x2 D2 y E1))) ?_ (fun x D1 q => q)
  refine sim_deed (T := fun x D1 g => Wp (cLe x D1) (fun x2 D2 => Wp g (fun y E1 => LnP B n p D0 E0 L s x2 D2 y E1))) t hp hL h hm (fun D' E' r => ?_) (fun D' E' s' e' k' h' lk lt => ?_)
  · show Wp (cLe 0 D') _
    unfold cLe
    exact Wp.pos rfl (Wp.z (Or.inl rfl) (Wp.ret (Wp.ret (Or.inl ⟨rfl, rfl, r⟩))))
  · show Wp (cLe 1 D') (fun x2 D2 => Wp (mL4 E') _)
    unfold cLe mL4
    refine Wp.neg (by decide) (Wp.flip (Wp.lets (Wp.flip (Wp.two (sim_need t (h'.line lk)) (fun x D2 y E2 r => ?_)))))
    rcases r with ⟨rfl, rfl, r⟩ | ⟨rfl, rfl, s2, e2, k2, h2, lt2, -⟩
    · exact Wp.pos rfl (Wp.z (Or.inl rfl) (Wp.ret (Wp.z (Or.inl rfl) (Wp.ret (Or.inl ⟨rfl, rfl, r⟩)))))
    · exact Wp.neg (by decide) (Wp.z (Or.inr rfl) (Wp.ret (Wp.z (Or.inr rfl) (Wp.ret (Or.inr ⟨rfl, rfl, s2, e2, k2, h2, by omega⟩)))))
theorem PS.w38 {v : Int32} (h : PS B n p D0 E0 L D E s e k) : PS B n p D0 E0 L (aSI D 38 L v) E s e k := by
  obtain ⟨h1, h2, h3, h4, h5, h6⟩ := h
  have o : ∀ d, d ≠ 38 → (aSI D 38 L v).1 d = D.1 d := fun d hd => si_o hd
  have r : ∀ j, j ≠ L → (aSI D 38 L v).1 38 j = D.1 38 j := fun j hj => by rw [si_s, if_neg hj]
  generalize aSI D 38 L v = D1 at o r ⊢
  refine ⟨?_, h2, ?_, ⟨by rw [o 33 (by omega)]; exact h4.1, h4.2⟩, ⟨fun d hd => by rw [o d (by omega)]; exact h5.1 d hd, h5.2.1, by rw [o 33 (by omega)]; exact h5.2.2⟩, fun l hl h16 => ?_⟩
  · unfold TkX TpX
    rw [o 33 (by omega), o 11 (by omega), o 12 (by omega)]
    exact h1
  · unfold Flt
    rw [o 33 (by omega)]
    exact h3
  · obtain ⟨⟨m', ⟨q1, q2, q3⟩, q4⟩, q5⟩ := h6 l hl h16
    refine ⟨⟨m', ⟨by rw [r l (by omega)]; exact q1, q2, q3⟩, fun t ht => ?_⟩, ?_⟩
    · have := q4 t ht
      unfold TsR at this ⊢
      rw [o 39 (by omega), o 40 (by omega), o 41 (by omega), o 42 (by omega)]
      exact this
    · unfold LnD
      rw [o 35 (by omega), o 36 (by omega), o 37 (by omega), o 33 (by omega)]
      exact q5
theorem PS.w23 {v : Int32} (h : PS B n p D0 E0 L D E s e k) : PS B n p D0 E0 L D (aSI E 23 (min L 16) v) s e k := by
  obtain ⟨h1, h2, h3, h4, h5, h6⟩ := h
  have o : ∀ d, d ≠ 23 → (aSI E 23 (min L 16) v).1 d = E.1 d := fun d hd => si_o hd
  have r : ∀ j, j ≠ min L 16 → (aSI E 23 (min L 16) v).1 23 j = E.1 23 j := fun j hj => by rw [si_s, if_neg hj]
  have l2 : (aSI E 23 (min L 16) v).2 = E.2 := rfl
  generalize aSI E 23 (min L 16) v = E1 at o r l2 ⊢
  refine ⟨h1, ?_, ?_, ⟨h4.1, by rw [o 0 (by omega)]; exact h4.2⟩, ⟨h5.1, fun d hd => by rw [o d (by omega)]; exact h5.2.1 d hd, h5.2.2⟩, fun l hl h16 => ?_⟩
  · unfold TkM TpM Ctn
    rw [o 0 (by omega), o 1 (by omega), l2]
    exact h2
  · unfold Flt
    rw [o 0 (by omega)]
    exact h3
  · obtain ⟨⟨m', ⟨q1, q2, q3⟩, q4⟩, q5⟩ := h6 l hl h16
    refine ⟨⟨m', ⟨q1, by rw [r l (by omega)]; exact q2, q3⟩, fun t ht => ?_⟩, ?_⟩
    · have := q4 t ht
      unfold TsR at this ⊢
      rw [o 24 (by omega), o 25 (by omega), o 26 (by omega)]
      exact this
    · unfold LnD
      rw [o 27 (by omega), o 28 (by omega), o 29 (by omega)]
      exact q5
theorem sim_line (t : TB B n) (hp : p = 0 ∨ p = 1) (hL : L ≤ 500) (h : PS B n p D0 E0 L D E s e k) : Wp (fX5_readLine (nI L) D) (fun x D1 => Wp (mL1 p (nI (min L 16)) E) (fun y E1 => LnP B n p D0 E0 L s x D1 y E1)) := by
  have iL : vp_in (nI (min L 16)) 17 := vp_in_nI (by omega) (by omega)
  have cL : (nI (min L 16)).toNatClampNeg = min L 16 := nI_clamp (by omega)
  have vL : (nI L).toInt = (L : Int) := nI_toInt (by omega)
  have cLq : (nI L).toNatClampNeg = L := nI_clamp (by omega)
  rw [cL_eq]
  unfold mL1
  rw [cL]
  refine Wp.flip (Wp.idx iL (Wp.leti (fun Ea ea => Wp.flip ?_)))
  have pa : PS B n p D0 E0 L D Ea s e k := by rw [ea]; exact h.w23
  have a23 : Ea.1 23 (min L 16) = 0 := by rw [ea, si_s, if_pos rfl]
  clear ea
  have cl : Wp (fX6_clearTests 34 (nI L) D) (fun _ D1 => PS B n p D0 E0 L D1 Ea s e k ∧ CT p L D1 Ea 0) := by
    unfold fX6_clearTests
    refine Wp.bindE (eX_hasLine _ _) (Wp.lets ?_)
    rw [vL, cLq]
    by_cases hl : 0 ≤ (L : Int) ∧ (L : Int) < 16
    · rw [if_pos hl]
      refine Wp.neg (by decide) (Wp.idx (i_in (by omega) (by omega)) (Wp.lets (Wp.ret ⟨pa.w38, fun l16 => ⟨⟨?_, ?_, by decide⟩, fun t ht => absurd ht (by show ¬ t < min 0 4; omega)⟩⟩)))
      · show (aSI D 38 L 0).1 38 L = _
        rw [si_s, if_pos rfl]
        rfl
      · rw [show min L 16 = L by omega] at a23
        rw [a23]
        rfl
    · rw [if_neg hl]
      exact Wp.pos rfl (Wp.ret ⟨pa, fun l16 => by omega⟩)
  refine Wp.bind cl (fun _ D1 q1 => ?_)
  obtain ⟨h1, c1⟩ := q1
  refine Wp.bindE (eX_wordIn (by decide) t h1.1) (Wp.rr (eM_isWord wk_if t h1.2.1) ?_)
  by_cases hif : k = 1 ∧ wM B s e [105, 102]
  · rw [if_pos hif]
    refine Wp.pos (by rw [if_pos hif.1]; exact one_if.mpr hif.2) (Wp.rneg (by decide) ?_)
    refine Wp.bind (P := fun x D2 => Wp (cL2 (nI L) x D2) (fun x2 D3 => Wp (aFix aFuel (lX11_oneLine_59 p (nI (min L 16)) (mL2 p (nI (min L 16)))) (fun _ _ _ => none) 1 0 Ea) (fun y E1 => LnP B n p D0 E0 L s x2 D3 y E1))) ?_ (fun x D1 q => q)
    unfold fX5_readTests
    refine Wp.lets (Wp.lets ?_)
    have N : ∀ D' E', PF D0 E0 D' E' → Wp (cL2 (nI L) 0 D') (fun x2 D3 => Wp (some ((0 : Int32), E')) (fun y E1 => LnP B n p D0 E0 L s x2 D3 y E1)) := fun D' E' r => by
      unfold cL2
      exact Wp.pos rfl (Wp.ret (Wp.ret (Or.inl ⟨rfl, rfl, r⟩)))
    refine sim_tests (T := fun x D1 g => Wp (cL2 (nI L) x D1) (fun x2 D2 => Wp g (fun y E1 => LnP B n p D0 E0 L s x2 D2 y E1))) t hp hL (s0 := s) (fun D' E' s' e' k' h' m' lt => ?_) N aFuel 0 aFuel D1 Ea s e k (by decide) (by decide) h1 (by rw [hif.1]; decide) c1 (Nat.zero_le _) (Nat.le_refl _)
    unfold mL2
    refine Wp.twoT (T := fun x D1 g => Wp (cL2 (nI L) x D1) (fun x2 D2 => Wp g (fun y E1 => LnP B n p D0 E0 L s x2 D2 y E1))) (sim_need t h') (fun x D2 y E2 r => ?_)
    rcases r with ⟨rfl, rfl, r⟩ | ⟨rfl, rfl, s2, e2, k2, h2, lt2, fr, fn⟩
    · refine Wp.z (Or.inl rfl) (Wp.ret ?_)
      rw [if_pos rfl]
      exact N _ _ r
    · refine Wp.z (Or.inr rfl) (Wp.ret ?_)
      rw [if_neg (show ¬ ((1 : Int32) = 0) by decide)]
      show Wp (cL2 (nI L) 1 D2) _
      unfold cL2
      obtain ⟨m', c'⟩ := m'
      refine Wp.neg (by decide) ((sim_rest t hp hL h2 ⟨m', c'.fr fr.1 fn.1⟩).mono2 (fun x D y E r => ?_))
      rcases r with r | ⟨r1, r2, s1, e1, k1, r3, r4⟩
      · exact Or.inl r
      · exact Or.inr ⟨r1, r2, s1, e1, k1, r3, by omega⟩
  · rw [if_neg hif]
    refine Wp.neg (fun q => hif ?_) (Wp.rpos rfl (sim_rest t hp hL h1 ⟨0, c1⟩))
    by_cases hk : k = 1
    · rw [if_pos hk] at q
      exact ⟨hk, one_if.mp q⟩
    · rw [if_neg hk] at q
      exact absurd q (by decide)
theorem PS.base (h : PS B n p D0 E0 L D E s e k) : PS B n p D E0 L D E s e k :=
  ⟨h.1, h.2.1, h.2.2.1, h.2.2.2.1, ⟨fun _ _ => rfl, h.2.2.2.2.1.2.1, id⟩, h.2.2.2.2.2⟩
theorem Frm.back {E2 : ADD} (h : Frm D0 E0 D E2) (k : Frm D E0 D1 E1) : Frm D0 E0 D1 E1 := ⟨fun c hc => (k.1 c hc).trans (h.1 c hc), k.2.1, fun q => k.2.2 (h.2.2 q)⟩
theorem PS.back {E2 : ADD} (h : PS B n p D E0 L D1 E1 s e k) (f : Frm D0 E0 D E2) : PS B n p D0 E0 L D1 E1 s e k :=
  ⟨h.1, h.2.1, h.2.2.1, h.2.2.2.1, f.back h.2.2.2.2.1, h.2.2.2.2.2⟩
/-- all lines -/
theorem sim_read (t : TB B n) (hp : p = 0 ∨ p = 1) {j79 : Int32 → ADD → Option (Int32 × ADD)} {j82 : Int32 → ADD → Option (Int32 × ADD)} {zc zr : Int32 → ADD → Option (Int32 × ADD)}
    (K : ∀ L D' E' s' e', L ≤ 500 → PS B n p D0 E0 L D' E' s' e' 0 → (16 < L → D'.1 33 1 ≠ 0) → Wp (j79 (nI L) D') (fun x D1 => T x D1 (j82 1 E'))) (N : ∀ D' E', PF D0 E0 D' E' → T 0 D' (j82 0 E')) :
    ∀ (nf L mr : Nat) (D E : ADD) (s e : Nat) (k : Int32), 502 ≤ nf + L → 503 ≤ mr + L → PS B n p D0 E0 L D E s e k → L ≤ s → (16 < L → D.1 33 1 ≠ 0) → Wp (aFix nf (lX5_read_34 j79) zc (nI L) D) (fun x D1 => T x D1 (aFix mr (lX11_text_62 p j82) zr 1 E)) := by
  intro nf
  induction nf with
  | zero =>
    intro L mr D E s e k h1 h2 h hs
    have := h.1.2.2.2
    have := t.1
    omega
  | succ nf ih =>
    intro L mr D E s e k h1 h2 h hs h17
    have en := h.1.2.2.2
    have t1 := t.1
    match mr, h2 with
    | 0, h2 => omega
    | mr + 1, h2 =>
      show Wp (lX5_read_34 j79 (aFix nf (lX5_read_34 j79) zc) (nI L) D) (fun x D1 => T x D1 (lX11_text_62 p j82 (aFix mr (lX11_text_62 p j82) zr) 1 E))
      unfold lX5_read_34 lX11_text_62
      rw [if_neg (show ¬ ((1 : Int32) = 0) by decide), h.1.2.1.2.2, h.2.1.2.1.2.2]
      by_cases hk : k = 0
      · refine Wp.pos hk ?_
        rw [if_pos (srt_e.mpr hk)]
        subst hk
        exact K L D E s e (by omega) h h17
      · refine Wp.neg hk ?_
        rw [if_neg (fun q => hk (srt_e.mp q))]
        have se := h.1.2.2.1.ne hk
        have v5 : (500 : Int32).toInt = 500 := by decide
        have vL : (nI L).toInt = (L : Int) := nI_toInt (by omega)
        refine Wp.ile (fun q => absurd q (by omega)) (fun _ => ?_)
        -- one line
        have tail : ∀ D5 E5, PS B n p D0 E0 L D5 E5 s e k → (16 ≤ L → D5.1 33 1 ≠ 0) → Wp (aBind (fX5_readLine (nI L) D5) (fun x4 D12 => if x4 = 0 then some ((0 : Int32), D12) else aLet (nI L + 1) (fun x5 => aFix nf (lX5_read_34 j79) zc x5 D12))) (fun x D1 => T x D1 (aBind (mL1 p (nI (min L 16)) E5) (fun x11 D32 => aFix mr (lX11_text_62 p j82) zr x11 D32))) := by
          intro D5 E5 h5 f5
          refine Wp.twoT (sim_line t hp (by omega) h5.base) (fun x D6 y E6 r => ?_)
          rcases r with ⟨rfl, rfl, r⟩ | ⟨rfl, rfl, s6, e6, k6, h6, lt6⟩
          · refine Wp.pos rfl (Wp.ret ?_)
            have z : aFix mr (lX11_text_62 p j82) zr 0 E6 = j82 0 E6 := by
              match mr, h2 with
              | 0, h2 => omega
              | mr + 1, _ =>
                show lX11_text_62 p j82 _ 0 E6 = _
                unfold lX11_text_62
                rw [if_pos rfl]
            rw [z]
            exact N _ _ ⟨r.1, h5.2.2.2.2.1.back r.2⟩
          · refine Wp.neg (by decide) (Wp.lets ?_)
            rw [← nI_succ]
            exact ih (L + 1) mr D6 E6 s6 e6 k6 (by omega) (by omega) (h6.back h5.2.2.2.2.1) (by omega) (fun q => h6.2.2.2.2.1.2.2 (f5 (by omega)))
        have m0 : fX11_oneLine p E = mL0 p (nI (min L 16)) E := by
          rw [mL_eq, h.2.2.2.1.2]
          have v16 : (16 : Int32).toInt = 16 := by decide
          by_cases q : 16 ≤ L
          · have z : (16 : Int32) ≤ nI L := Int32.le_iff_toInt_le.mpr (by omega)
            rw [if_pos z, show min L 16 = 16 by omega]
            rfl
          · have z : ¬ (16 : Int32) ≤ nI L := fun y => by have := Int32.le_iff_toInt_le.mp y; omega
            rw [if_neg z, show min L 16 = L by omega]
        have q16 : (nI L = (16 : Int32)) ↔ L = 16 := by
          have : nI L = nI 16 ↔ L = 16 := nI_eq (by omega) (by omega)
          exact this
        rw [m0]
        unfold mL0
        rw [h.2.2.2.1.2]
        by_cases h16 : L = 16
        · rw [if_pos (q16.mpr h16), aBind_as]
          refine Wp.lets (Wp.pos (q16.mpr h16) (Wp.twoT (sim_mark (by decide) h) (fun _ D5 _ E5 q5 => ?_)))
          exact tail D5 E5 q5.1 (fun _ => q5.2.2.2)
        · rw [if_neg (fun q => h16 (q16.mp q))]
          exact Wp.lets (Wp.neg (fun q => h16 (q16.mp q)) (tail D E h (fun q => h17 (by omega))))
end SRs
end
section
/-! a text: both sides -/
def RTp (X M : Sl) : Prop := X 10 1 = M 2 0 ∧ ∀ j, j < 500 → aB (X 11 j) = M 1 j
def RFl (X M : Sl) : Prop := X 0 5 = M 3 0 ∧ X 0 6 = M 4 0
def RuL (X M : Sl) (o b : Nat) (wear : Prop) (l : Nat) : Prop := ∃ m : Nat, (m ≤ 4 ∧ X (o + 4) l = nI m ∧ M 16 (b + l) = nI m) ∧ (∀ t, t < m → ((0 ≤ (X (o + 5) (4 * l + t)).toInt ∧ (X (o + 5) (4 * l + t)).toInt < 8) ∧ (wear → (X (o + 5) (4 * l + t)).toInt < 7)) ∧ (X (o + 8) (4 * l + t) = 0 ∨ X (o + 8) (4 * l + t) = 1) ∧ (M 17 (4 * (b + l) + t)).toInt = (X (o + 5) (4 * l + t)).toInt + 8 * (X (o + 8) (4 * l + t)).toInt ∧ M 18 (4 * (b + l) + t) = X (o + 6) (4 * l + t) ∧ M 19 (4 * (b + l) + t) = X (o + 7) (4 * l + t)) ∧ M 20 (b + l) = X (o + 1) l ∧ (0 ≤ (X (o + 1) l).toInt ∧ (X (o + 1) l).toInt < 4) ∧ (wear → (X (o + 1) l).toInt < 3 ∧ ((X (o + 1) l).toInt < 2 → (M 21 (b + l) = X (o + 2) l ∧ M 22 (b + l) = X (o + 3) l) ∧ (0 ≤ (X (o + 2) l).toInt ∧ (X (o + 2) l).toInt ≤ 9999) ∧ (0 ≤ (X (o + 3) l).toInt ∧ (X (o + 3) l).toInt ≤ 9999) ∧ (X (o + 2) l).toInt ≤ (X (o + 3) l).toInt))
def RuS (X M : Sl) (o b q : Nat) (wear : Prop) : Prop := X o 0 = M 15 q ∧ (0 ≤ (X o 0).toInt ∧ (X o 0).toInt ≤ 16) ∧ ∀ l : Nat, (l : Int) < (X o 0).toInt → RuL X M o b wear l
def RTx (X M : Sl) : Prop := RTp X M ∧ RFl X M ∧ RuS X M 12 0 0 True ∧ RuS X M 21 16 1 False
section XTs
variable {D0 E0 D D1 E E1 : ADD} {B : Nat → Int32} {n L s e m : Nat} {k p : Int32}
/-- the class takes over what was read -/
theorem tX6_cp {o q : Nat} (ho : q ≥ o + 9 ∨ o ≥ q + 9) : Wp (fX6_copyFrom o q D) (fun _ D1 => (∀ c, (c < o ∨ o + 9 ≤ c) → D1.1 c = D.1 c) ∧ D1.1 o 0 = D.1 q 0 ∧ (∀ i j, 1 ≤ i → i ≤ 4 → j < 16 → D1.1 (o + i) j = D.1 (q + i) j) ∧ ∀ i j, 5 ≤ i → i ≤ 8 → j < 64 → D1.1 (o + i) j = D.1 (q + i) j) := by
  unfold fX6_copyFrom
  refine Wp.lets (Wp.lets (Wp.lets (Wp.lets (Wp.lets (Wp.lets (Wp.lets (Wp.lets (Wp.leti (fun D9 e9 => Wp.ret ⟨fun c hc => ?_, ?_, fun i j a b c => ?_, fun i j a b c => ?_⟩)))))))))
  · funext z
    have h0 : c ≠ o := by omega
    have h1 : c ≠ o + 1 := by omega
    have h2 : c ≠ o + 2 := by omega
    have h3 : c ≠ o + 3 := by omega
    have h4 : c ≠ o + 4 := by omega
    have h5 : c ≠ o + 5 := by omega
    have h6 : c ≠ o + 6 := by omega
    have h7 : c ≠ o + 7 := by omega
    have h8 : c ≠ o + 8 := by omega
    rw [e9]
    simp [aSI, aCp, h0, h1, h2, h3, h4, h5, h6, h7, h8]
  · rw [e9]
    simp [aSI, aCp]
  · rw [e9]
    have q0 : ∀ u v, u ≤ 8 → v ≤ 8 → ¬ (q + u = o + v) := fun u v _ _ => by omega
    have : i = 1 ∨ i = 2 ∨ i = 3 ∨ i = 4 := by omega
    rcases this with rfl | rfl | rfl | rfl <;> simp [aSI, aCp, c, q0] <;> (intros; omega)
  · rw [e9]
    have q0 : ∀ u v, u ≤ 8 → v ≤ 8 → ¬ (q + u = o + v) := fun u v _ _ => by omega
    have : i = 5 ∨ i = 6 ∨ i = 7 ∨ i = 8 := by omega
    rcases this with rfl | rfl | rfl | rfl <;> simp [aSI, aCp, c, q0] <;> (intros; omega)
/-- the reference takes over what was read -/
def CpL (b L : Nat) (E E1 : ADD) : Prop := (∀ c, (c < 16 ∨ 23 ≤ c) → E1.1 c = E.1 c) ∧ (∀ j, (j < b ∨ b + L ≤ j) → E1.1 16 j = E.1 16 j ∧ E1.1 20 j = E.1 20 j ∧ E1.1 21 j = E.1 21 j ∧ E1.1 22 j = E.1 22 j) ∧ (∀ j, (j < 4 * b ∨ 4 * (b + L) ≤ j) → E1.1 17 j = E.1 17 j ∧ E1.1 18 j = E.1 18 j ∧ E1.1 19 j = E.1 19 j) ∧ ∀ l, l < L → (E1.1 16 (b + l) = E.1 23 l ∧ E1.1 20 (b + l) = E.1 27 l ∧ E1.1 21 (b + l) = E.1 28 l ∧ E1.1 22 (b + l) = E.1 29 l) ∧ ∀ t : Nat, (t : Int) < (E.1 23 l).toInt → E1.1 17 (4 * (b + l) + t) = E.1 24 (4 * l + t) ∧ E1.1 18 (4 * (b + l) + t) = E.1 25 (4 * l + t) ∧ E1.1 19 (4 * (b + l) + t) = E.1 26 (4 * l + t)
theorem bM_lines {b L : Nat} {j344 : ADD → Option (Int32 × ADD)} {z : Int32 → ADD → Option (Int32 × ADD)} {Q : Int32 → ADD → Prop} (hb : b ≤ 16) (hL : L ≤ 16) (h32 : E.1 0 32 = nI L) (ht : ∀ l, l < L → 0 ≤ (E.1 23 l).toInt ∧ (E.1 23 l).toInt ≤ 4) (K : ∀ E1, CpL b L E E1 → Wp (j344 E1) Q) : Wp (aFix aFuel (lX11_text_166 (nI b) j344) z 0 E) Q := by
  have vL : (nI L).toInt = (L : Int) := nI_toInt (by omega)
  refine Wp.go1 (fun i D' => CpL b i E D') L (by omega) (fun g i D' hi hI K2 => ?_) (k0 := 0) rfl (Nat.zero_le _) ⟨fun _ _ => rfl, fun _ _ => ⟨rfl, rfl, rfl, rfl⟩, fun _ _ => ⟨rfl, rfl, rfl⟩, fun l hl => by omega⟩
  unfold lX11_text_166
  have vi : (nI i).toInt = (i : Int) := nI_toInt (by omega)
  have hI' := hI
  obtain ⟨i1, i2, i3, i4⟩ := hI
  rw [i1 0 (by omega), h32]
  refine Wp.ile (fun q => ?_) (fun q => ?_)
  · have : i = L := by omega
    rw [this] at hI'
    exact K D' hI'
  have il : i < L := by omega
  have ci : (nI i).toNatClampNeg = i := nI_clamp (by omega)
  have vbi : nI b + nI i = nI (b + i) := (Int32.ofNat_add b i).symm
  have cbi : (nI (b + i)).toNatClampNeg = b + i := nI_clamp (by omega)
  have ii : vp_in (nI i) 17 := vp_in_nI (by omega) (by omega)
  have ib : vp_in (nI (b + i)) 128 := vp_in_nI (by omega) (by omega)
  rw [vbi, ci, cbi]
  refine Wp.idx ii (Wp.idx ib (Wp.lets (Wp.idx ii (Wp.idx ib (Wp.lets (Wp.idx ii (Wp.idx ib (Wp.lets (Wp.idx ii (Wp.idx ib (Wp.leti (fun D5 e5 => ?_))))))))))))
  have f5 : ∀ c, c ≠ 16 → c ≠ 20 → c ≠ 21 → c ≠ 22 → D5.1 c = D'.1 c := fun c a b c' d => by rw [e5, si_o d, si_o c', si_o b, si_o a]
  have s16 : ∀ j, D5.1 16 j = if j = b + i then D'.1 23 i else D'.1 16 j := fun j => by rw [e5, si_o (by decide), si_o (by decide), si_o (by decide), si_s]
  have s20 : ∀ j, D5.1 20 j = if j = b + i then D'.1 27 i else D'.1 20 j := fun j => by rw [e5, si_o (by decide), si_o (by decide), si_s, si_o (by decide), si_o (by decide)]
  have s21 : ∀ j, D5.1 21 j = if j = b + i then D'.1 28 i else D'.1 21 j := fun j => by rw [e5, si_o (by decide), si_s, si_o (by decide), si_o (by decide), si_o (by decide), si_o (by decide)]
  have s22 : ∀ j, D5.1 22 j = if j = b + i then D'.1 29 i else D'.1 22 j := fun j => by rw [e5, si_s, si_o (by decide), si_o (by decide), si_o (by decide), si_o (by decide), si_o (by decide), si_o (by decide)]
  clear e5
  have ht := ht i il
  have e23 : D'.1 23 = E.1 23 := i1 23 (by omega)
  have et := cl_i ht.1
  refine Wp.letK (fun j => ∀ D6, (∀ c, c ≠ 17 → c ≠ 18 → c ≠ 19 → D6.1 c = D5.1 c) → (∀ j, (j < 4 * (b + i) ∨ 4 * (b + i) + 4 ≤ j) → D6.1 17 j = D5.1 17 j ∧ D6.1 18 j = D5.1 18 j ∧ D6.1 19 j = D5.1 19 j) → (∀ t : Nat, (t : Int) < (E.1 23 i).toInt → D6.1 17 (4 * (b + i) + t) = E.1 24 (4 * i + t) ∧ D6.1 18 (4 * (b + i) + t) = E.1 25 (4 * i + t) ∧ D6.1 19 (4 * (b + i) + t) = E.1 26 (4 * i + t)) → Wp (j D6) Q) (fun D6 f6 g6 t6 => ?_) (fun j K3 => Wp.lets ?_)
  · refine Wp.lets (K2 il D6 ⟨fun c hc => ?_, fun j hj => ?_, fun j hj => ?_, fun l hl => ?_⟩)
    · rw [f6 c (by omega) (by omega) (by omega), f5 c (by omega) (by omega) (by omega) (by omega), i1 c hc]
    · rw [f6 16 (by decide) (by decide) (by decide), f6 20 (by decide) (by decide) (by decide), f6 21 (by decide) (by decide) (by decide), f6 22 (by decide) (by decide) (by decide), s16, s20, s21, s22, if_neg (by omega), if_neg (by omega), if_neg (by omega), if_neg (by omega)]
      exact i2 j (by omega)
    · obtain ⟨a, b', c⟩ := g6 j (by omega)
      rw [a, b', c, f5 17 (by decide) (by decide) (by decide) (by decide), f5 18 (by decide) (by decide) (by decide) (by decide), f5 19 (by decide) (by decide) (by decide) (by decide)]
      exact i3 j (by omega)
    · rw [f6 16 (by decide) (by decide) (by decide), f6 20 (by decide) (by decide) (by decide), f6 21 (by decide) (by decide) (by decide), f6 22 (by decide) (by decide) (by decide), s16, s20, s21, s22]
      by_cases e : l = i
      · subst e
        rw [if_pos rfl, if_pos rfl, if_pos rfl, if_pos rfl, i1 23 (by omega), i1 27 (by omega), i1 28 (by omega), i1 29 (by omega)]
        exact ⟨⟨rfl, rfl, rfl, rfl⟩, t6⟩
      · rw [if_neg (by omega), if_neg (by omega), if_neg (by omega), if_neg (by omega)]
        refine ⟨(i4 l (by omega)).1, fun t htt => ?_⟩
        have h4 : (E.1 23 l).toInt ≤ 4 := (‹∀ l, l < L → 0 ≤ (E.1 23 l).toInt ∧ (E.1 23 l).toInt ≤ 4› l (by omega)).2
        obtain ⟨a, b', c⟩ := g6 (4 * (b + l) + t) (by omega)
        rw [a, b', c, f5 17 (by decide) (by decide) (by decide) (by decide), f5 18 (by decide) (by decide) (by decide) (by decide), f5 19 (by decide) (by decide) (by decide) (by decide)]
        exact (i4 l (by omega)).2 t htt
  · refine Wp.go1 (fun u D6 => (∀ c, c ≠ 17 → c ≠ 18 → c ≠ 19 → D6.1 c = D5.1 c) ∧ (∀ j, (j < 4 * (b + i) ∨ 4 * (b + i) + 4 ≤ j) → D6.1 17 j = D5.1 17 j ∧ D6.1 18 j = D5.1 18 j ∧ D6.1 19 j = D5.1 19 j) ∧ ∀ t : Nat, t < u → D6.1 17 (4 * (b + i) + t) = E.1 24 (4 * i + t) ∧ D6.1 18 (4 * (b + i) + t) = E.1 25 (4 * i + t) ∧ D6.1 19 (4 * (b + i) + t) = E.1 26 (4 * i + t)) (E.1 23 i).toNatClampNeg (by omega) (fun g2 u D6 hu hI2 K4 => ?_) (k0 := 0) rfl (Nat.zero_le _) ⟨fun _ _ _ _ => rfl, fun _ _ => ⟨rfl, rfl, rfl⟩, fun t ht => by omega⟩
    obtain ⟨u1, u2, u3⟩ := hI2
    unfold lX11_text_242
    refine Wp.idx ii ?_
    rw [ci, u1 23 (by decide) (by decide) (by decide), f5 23 (by decide) (by decide) (by decide) (by decide), e23]
    have vu : (nI u).toInt = (u : Int) := nI_toInt (by omega)
    refine Wp.ile (fun q => K3 D6 u1 u2 (fun t htt => u3 t (by omega))) (fun q => ?_)
    have e1 : ((4 : Int32) * nI i + nI u) = nI (4 * i + u) := by
      show (4 : Int32) * nI i + nI u = Int32.ofNat (4 * i + u)
      rw [Int32.ofNat_add, Int32.ofNat_mul]
      rfl
    have e2 : ((4 : Int32) * (nI b + nI i) + nI u) = nI (4 * (b + i) + u) := by
      rw [vbi]
      show (4 : Int32) * nI (b + i) + nI u = Int32.ofNat (4 * (b + i) + u)
      rw [Int32.ofNat_add (4 * (b + i)), Int32.ofNat_mul]
      rfl
    have i64 : vp_in (nI (4 * i + u)) 64 := vp_in_nI (by omega) (by omega)
    have i512 : vp_in (nI (4 * (b + i) + u)) 512 := vp_in_nI (by omega) (by omega)
    have c64 : (nI (4 * i + u)).toNatClampNeg = 4 * i + u := nI_clamp (by omega)
    have c512 : (nI (4 * (b + i) + u)).toNatClampNeg = 4 * (b + i) + u := nI_clamp (by omega)
    rw [e1, e2, c64, c512]
    refine Wp.idx i64 (Wp.idx i512 (Wp.lets (Wp.idx i64 (Wp.idx i512 (Wp.lets (Wp.idx i64 (Wp.idx i512 (Wp.leti (fun D9 e9 => Wp.lets (K4 (by omega) D9 ⟨fun c a b c' => ?_, fun j hj => ?_, fun t htt => ?_⟩))))))))))
    · rw [e9, si_o c', si_o b, si_o a, u1 c a b c']
    · obtain ⟨a, b', c⟩ := u2 j hj
      rw [e9]
      refine ⟨?_, ?_, ?_⟩
      · rw [si_o (by decide), si_o (by decide), si_s, if_neg (by omega), a]
      · rw [si_o (by decide), si_s, if_neg (by omega), si_o (by decide), b']
      · rw [si_s, if_neg (by omega), si_o (by decide), si_o (by decide), c]
    · have z : ∀ c, c = 24 ∨ c = 25 ∨ c = 26 → D6.1 c = E.1 c := fun c hc => by rw [u1 c (by omega) (by omega) (by omega), f5 c (by omega) (by omega) (by omega) (by omega), i1 c (by omega)]
      rw [e9]
      by_cases e : t = u
      · subst e
        refine ⟨?_, ?_, ?_⟩
        · rw [si_o (by decide), si_o (by decide), si_s, if_pos rfl, z 24 (by omega)]
        · rw [si_o (by decide), si_s, if_pos rfl, si_o (by decide), z 25 (by omega)]
        · rw [si_s, if_pos rfl, si_o (by decide), si_o (by decide), z 26 (by omega)]
      · obtain ⟨a, b', c⟩ := u3 t (by omega)
        refine ⟨?_, ?_, ?_⟩
        · rw [si_o (by decide), si_o (by decide), si_s, if_neg (by omega), a]
        · rw [si_o (by decide), si_s, if_neg (by omega), si_o (by decide), b']
        · rw [si_s, if_neg (by omega), si_o (by decide), si_o (by decide), c]
end XTs
end
section
/-! a text, both sides: what is kept of it -/
def cTx (a1 x1 : Int32) (D1 : ADD) : Option (Int32 × ADD) := aLet (aSI D1 1 5 (D1.1 33 1)) (fun D2 => aLet (aSI D2 1 6 (D2.1 33 2)) (fun D3 => aBind (fX9_cut (0 : Int32) D3) (fun x2 D4 => (if x1 = 0 then some ((-1 : Int32), D4) else (if a1 = 0 then aBind (fX6_copyFrom 13 34 D4) (fun _ D5 => some ((D5.1 13 0), D5)) else aBind (fX6_copyFrom 22 34 D4) (fun _ D6 => some ((D6.1 22 0), D6)))))))
theorem cTx_eq {a1 : Int32} {D : ADD} : fX10_text a1 D = aBind (fX5_read a1 D) (fun x1 D1 => cTx a1 x1 D1) := rfl
def cE (x1 : Int32) (D7 : ADD) : Option (Int32 × ADD) := aLet (aSI D7 34 0 (aMin x1 (16 : Int32))) (fun D8 => (if (D8.1 33 1) = 0 then aZ (1 : Int32) (some ((1 : Int32), D8)) else aZ (0 : Int32) (some ((0 : Int32), D8))))
theorem cRd_eq {a1 : Int32} {D : ADD} : fX5_read a1 D = aZ a1 (aBind (fX5_advance (aSI (aSI (aSI (aSI (aSI D 33 4 a1) 33 1 (0 : Int32)) 33 2 (-1 : Int32)) 34 0 (0 : Int32)) 33 7 (0 : Int32))) (fun _ D6 => aFix aFuel (lX5_read_34 cE) (fun _ _ => none) (0 : Int32) D6)) := by
  have e : cE = fun (x1 : Int32) (D7 : ADD) => aLet (aSI D7 34 0 (aMin x1 (16 : Int32))) (fun D8 => aLet (fun (x2 : Int32) (D9 : ADD) => aZ x2 (some (x2, D9))) (fun (j104 : Int32 → ADD → Option (Int32 × ADD)) => (if (D8.1 33 1) = 0 then j104 (1 : Int32) D8 else j104 (0 : Int32) D8))) := by
    funext x1 D7
    unfold cE
    simp only [aLet_nr]
  rw [e]
  unfold fX5_read
  simp only [aLet_nr]
def mF (x1 : Int32) (D12 : ADD) : Option (Int32 × ADD) := aLet (fun (x2 : Int32) (D13 : ADD) => aIn (0 : Int32) 4 (aLet (aSI D13 3 (0 : Int32).toNatClampNeg x2) (fun D14 => aLet (fun (x3 : Int32) (D15 : ADD) => aIn (0 : Int32) 4 (aLet (aSI D15 4 (0 : Int32).toNatClampNeg x3) (fun D16 => some ((-1 : Int32), D16)))) (fun (j131 : Int32 → ADD → Option (Int32 × ADD)) => (if x1 = 0 then j131 (D14.1 0 29) D14 else j131 (D14.1 0 31) D14))))) (fun (j110 : Int32 → ADD → Option (Int32 × ADD)) => (if x1 = 0 then j110 (1 : Int32) D12 else j110 (D12.1 0 30) D12))
def mE (a1 x1 : Int32) (D11 : ADD) : Option (Int32 × ADD) := (if x1 = 0 then mF x1 D11 else (if (D11.1 0 30) ≤ 0 then aLet (fun (x4 : Int32) (D17 : ADD) => aLet (fun (x5 : Int32) (D18 : ADD) => aIn x5 8 (aLet (aSI D18 15 x5.toNatClampNeg (D18.1 0 32)) (fun D19 => aFix aFuel (lX11_text_166 x4 (fun D20 => some ((D20.1 0 32), D20))) (fun _ _ => none) (0 : Int32) D19))) (fun (j158 : Int32 → ADD → Option (Int32 × ADD)) => (if a1 = 0 then j158 (0 : Int32) D17 else j158 (1 : Int32) D17))) (fun (j144 : Int32 → ADD → Option (Int32 × ADD)) => (if a1 = 0 then j144 (0 : Int32) D11 else j144 (16 : Int32) D11)) else mF x1 D11))
def mIn (D : ADD) : ADD := aSI (aSI (aSI (aSI (aSI (aSI (aSI (aSI (aSI D 0 0 (0 : Int32)) 0 24 ((aSI D 0 0 (0 : Int32)).1 2 (0 : Int32).toNatClampNeg)) 2 (0 : Int32).toNatClampNeg (0 : Int32)) 3 (0 : Int32).toNatClampNeg (0 : Int32)) 4 (0 : Int32).toNatClampNeg (-1 : Int32)) 0 23 (0 : Int32)) 0 29 (-1 : Int32)) 0 30 (0 : Int32)) 0 32 (0 : Int32)
theorem mTx_eq {a1 : Int32} {D : ADD} : fX11_text a1 D = aBind (fX11_next (mIn D)) (fun _ D10 => aFix aFuel (lX11_text_62 a1 (mE a1)) (fun _ _ => none) (1 : Int32) D10) := by
  have e : mE a1 = fun (x1 : Int32) (D11 : ADD) => mE a1 x1 D11 := rfl
  rw [e]
  unfold fX11_text mE mF mIn
  simp only [aLet_nr, in04]
section TXs
variable {D0 E0 D D1 E E1 : ADD} {B : Nat → Int32} {n L s e m : Nat} {k p : Int32} {X X1 M M1 : Sl} {o b q : Nat} {wear : Prop}
theorem RuS.fr (h : RuS X M o b q wear) (hx : ∀ i j, i ≤ 8 → X1 (o + i) j = X (o + i) j) (h15 : M1 15 q = M 15 q) (hm : ∀ l, l < 16 → (M1 16 (b + l) = M 16 (b + l) ∧ M1 20 (b + l) = M 20 (b + l) ∧ M1 21 (b + l) = M 21 (b + l) ∧ M1 22 (b + l) = M 22 (b + l)) ∧ ∀ t, t < 4 → M1 17 (4 * (b + l) + t) = M 17 (4 * (b + l) + t) ∧ M1 18 (4 * (b + l) + t) = M 18 (4 * (b + l) + t) ∧ M1 19 (4 * (b + l) + t) = M 19 (4 * (b + l) + t)) : RuS X1 M1 o b q wear := by
  obtain ⟨h1, h2, h3⟩ := h
  have x0 : X1 o 0 = X o 0 := hx 0 0 (by decide)
  unfold RuS
  rw [x0, h15]
  refine ⟨h1, h2, fun l hl => ?_⟩
  have l16 : l < 16 := by omega
  obtain ⟨m, ⟨a1, a2, a3⟩, a4, a5, a6, a7⟩ := h3 l hl
  obtain ⟨⟨b1, b2, b3, b4⟩, b5⟩ := hm l l16
  refine ⟨m, ⟨a1, by rw [hx 4 l (by decide)]; exact a2, by rw [b1]; exact a3⟩, fun t ht => ?_, by rw [b2, hx 1 l (by decide)]; exact a5, by rw [hx 1 l (by decide)]; exact a6, ?_⟩
  · obtain ⟨c1, c2, c3⟩ := b5 t (by omega)
    rw [hx 5 _ (by decide), hx 6 _ (by decide), hx 7 _ (by decide), hx 8 _ (by decide), c1, c2, c3]
    exact a4 t ht
  · rw [hx 1 l (by decide), hx 2 l (by decide), hx 3 l (by decide), b3, b4]
    exact a7
theorem RuS_new (hL : L ≤ 16) (hl : ∀ l, l < L → (∃ m, LnT p D E l m) ∧ LnD p D E l) (hf : D.1 33 1 = 0) (hw : wear → p = 0) (x0 : X o 0 = nI L) (m15 : M 15 q = nI L) (h4 : ∀ i j, 1 ≤ i → i ≤ 4 → j < 16 → X (o + i) j = D.1 (34 + i) j) (h8 : ∀ i j, 5 ≤ i → i ≤ 8 → j < 64 → X (o + i) j = D.1 (34 + i) j) (hm : ∀ l, l < L → (M 16 (b + l) = E.1 23 l ∧ M 20 (b + l) = E.1 27 l ∧ M 21 (b + l) = E.1 28 l ∧ M 22 (b + l) = E.1 29 l) ∧ ∀ t : Nat, (t : Int) < (E.1 23 l).toInt → M 17 (4 * (b + l) + t) = E.1 24 (4 * l + t) ∧ M 18 (4 * (b + l) + t) = E.1 25 (4 * l + t) ∧ M 19 (4 * (b + l) + t) = E.1 26 (4 * l + t)) : RuS X M o b q wear := by
  have vL : (nI L).toInt = (L : Int) := nI_toInt (by omega)
  unfold RuS
  rw [x0, m15, vL]
  refine ⟨rfl, by omega, fun l hl2 => ?_⟩
  obtain ⟨⟨m, ⟨a1, a2, a3⟩, a4⟩, d1, d2, d3⟩ := hl l (by omega)
  obtain ⟨⟨b1, b2, b3, b4⟩, b5⟩ := hm l (by omega)
  have vm : (nI m).toInt = (m : Int) := nI_toInt (by omega)
  have k1 : X (o + 1) l = D.1 35 l := h4 1 l (by decide) (by decide) (by omega)
  have k2 : X (o + 2) l = D.1 36 l := h4 2 l (by decide) (by decide) (by omega)
  have k3 : X (o + 3) l = D.1 37 l := h4 3 l (by decide) (by decide) (by omega)
  have k4 : X (o + 4) l = D.1 38 l := h4 4 l (by decide) (by decide) (by omega)
  refine ⟨m, ⟨a3, by rw [k4]; exact a1, by rw [b1]; exact a2⟩, fun t ht => ?_, by rw [b2, k1]; exact d1, by rw [k1]; exact d2, fun hwr => ?_⟩
  · obtain ⟨c1, c2, c3⟩ := b5 t (by rw [a2, vm]; omega)
    have k5 : X (o + 5) (4 * l + t) = D.1 39 (4 * l + t) := h8 5 _ (by decide) (by decide) (by omega)
    have k6 : X (o + 6) (4 * l + t) = D.1 40 (4 * l + t) := h8 6 _ (by decide) (by decide) (by omega)
    have k7 : X (o + 7) (4 * l + t) = D.1 41 (4 * l + t) := h8 7 _ (by decide) (by decide) (by omega)
    have k8 : X (o + 8) (4 * l + t) = D.1 42 (4 * l + t) := h8 8 _ (by decide) (by decide) (by omega)
    rw [k5, k6, k7, k8, c1, c2, c3]
    obtain ⟨z1, z2⟩ := a4 t ht
    exact ⟨⟨z1.1, fun w => z1.2 (hw w)⟩, z2⟩
  · rw [k1, k2, k3, b3, b4]
    obtain ⟨d4, d5⟩ := d3 (hw hwr)
    refine ⟨d4, fun q => ?_⟩
    obtain ⟨e1, e2, e3, e4⟩ := d5 q
    exact ⟨e1, e2, e3, e4 hf⟩
def TxO (D D1 E E1 : ADD) : Prop := RTx (xc D1) (slM E1 0) ∧ NwM E E1 ∧ (∀ c, ((2 ≤ c ∧ c ≤ 10) ∨ c = 31 ∨ 43 ≤ c) → D1.1 c = D.1 c) ∧ ∀ c, 5 ≤ c → c ≤ 14 → E1.1 c = E.1 c
theorem bX_cut (h : 0 ≤ (D.1 11 1).toInt) : Wp (fX9_cut 0 D) (fun _ D1 => D1 = aSI D 11 1 0) := by
  unfold fX9_cut
  refine Wp.lets (Wp.ilt (fun q => absurd q (by decide)) (fun _ => Wp.ile (fun _ => Wp.lets (Wp.ret rfl)) (fun q => absurd q (by rw [ti_0]; omega))))
/-- the class's end of a text -/
theorem bX_end {a x : Int32} (h : 0 ≤ (D.1 11 1).toInt) : Wp (cTx a x D) (fun r D1 => ∃ D4, (∀ c, c ≠ 1 → c ≠ 11 → D4.1 c = D.1 c) ∧ (D4.1 1 5 = D.1 33 1 ∧ D4.1 1 6 = D.1 33 2 ∧ D4.1 11 1 = 0) ∧ if x = 0 then r = -1 ∧ D1 = D4 else r = D.1 34 0 ∧ (∀ c, (c < (if a = 0 then 13 else 22) ∨ (if a = 0 then 13 else 22) + 9 ≤ c) → D1.1 c = D4.1 c) ∧ D1.1 (if a = 0 then 13 else 22) 0 = D.1 34 0 ∧ (∀ i j, 1 ≤ i → i ≤ 4 → j < 16 → D1.1 ((if a = 0 then 13 else 22) + i) j = D.1 (34 + i) j) ∧ ∀ i j, 5 ≤ i → i ≤ 8 → j < 64 → D1.1 ((if a = 0 then 13 else 22) + i) j = D.1 (34 + i) j) := by
  unfold cTx
  refine Wp.lets (Wp.leti (fun D3 e3 => Wp.bind (bX_cut (by rw [e3, si_o (by decide), si_o (by decide)]; exact h)) (fun _ D4 e4 => ?_)))
  have f4 : ∀ c, c ≠ 1 → c ≠ 11 → D4.1 c = D.1 c := fun c a b => by rw [e4, e3, si_o b, si_o a, si_o a]
  have v4 : D4.1 1 5 = D.1 33 1 ∧ D4.1 1 6 = D.1 33 2 ∧ D4.1 11 1 = 0 := by
    refine ⟨?_, ?_, by rw [e4, si_s, if_pos rfl]⟩
    · rw [e4, si_o (by decide), e3, si_s, if_neg (by decide), si_s, if_pos rfl]
    · rw [e4, si_o (by decide), e3, si_s, if_pos rfl, si_o (by decide)]
  clear e3 e4
  refine Wp.ite (fun hx => Wp.ret ⟨D4, f4, v4, by rw [if_pos hx]; exact ⟨rfl, rfl⟩⟩) (fun hx => Wp.ite (fun ha => ?_) (fun ha => ?_))
  · refine Wp.bind (tX6_cp (Or.inl (by decide))) (fun _ D5 q => Wp.ret ⟨D4, f4, v4, ?_⟩)
    obtain ⟨q1, q2, q3, q4⟩ := q
    rw [if_neg hx, if_pos ha]
    have e34 : ∀ c, 34 ≤ c → D4.1 c = D.1 c := fun c hc => f4 c (by omega) (by omega)
    exact ⟨by rw [q2, e34 34 (by decide)], q1, by rw [q2, e34 34 (by decide)], fun i j a b c => by rw [q3 i j a b c, e34 _ (by omega)], fun i j a b c => by rw [q4 i j a b c, e34 _ (by omega)]⟩
  · refine Wp.bind (tX6_cp (Or.inl (by decide))) (fun _ D5 q => Wp.ret ⟨D4, f4, v4, ?_⟩)
    obtain ⟨q1, q2, q3, q4⟩ := q
    rw [if_neg hx, if_neg ha]
    have e34 : ∀ c, 34 ≤ c → D4.1 c = D.1 c := fun c hc => f4 c (by omega) (by omega)
    exact ⟨by rw [q2, e34 34 (by decide)], q1, by rw [q2, e34 34 (by decide)], fun i j a b c => by rw [q3 i j a b c, e34 _ (by omega)], fun i j a b c => by rw [q4 i j a b c, e34 _ (by omega)]⟩
/-- the reference's end of a text that is refused -/
theorem bM_bad {x : Int32} : Wp (mF x E) (fun r E1 => r = -1 ∧ (∀ c, c ≠ 3 → c ≠ 4 → E1.1 c = E.1 c) ∧ (∀ i, E1.1 3 i = if i = 0 then (if x = 0 then 1 else E.1 0 30) else E.1 3 i) ∧ ∀ i, E1.1 4 i = if i = 0 then (if x = 0 then E.1 0 29 else E.1 0 31) else E.1 4 i) := by
  unfold mF
  refine Wp.letQ (fun Q j => ∀ v, (v = if x = 0 then 1 else E.1 0 30) → Wp (j v E) Q) (fun v hv => ?_) (fun j K => Wp.ite (fun hx => K _ (if_pos hx).symm) (fun hx => K _ (if_neg hx).symm))
  refine Wp.idd (by decide) (Wp.leti (fun E2 e2 => ?_))
  rw [cl_0] at e2
  have g0 : E2.1 0 = E.1 0 := by rw [e2, si_o (by decide)]
  rw [g0]
  refine Wp.letQ (fun Q j => ∀ u, (u = if x = 0 then E.1 0 29 else E.1 0 31) → Wp (j u E2) Q) (fun u hu => ?_) (fun j K => Wp.ite (fun hx => K _ (if_pos hx).symm) (fun hx => K _ (if_neg hx).symm))
  refine Wp.idd (by decide) (Wp.lets (Wp.ret ⟨rfl, fun c a b => ?_, fun i => ?_, fun i => ?_⟩))
  · rw [si_o b, e2, si_o a]
  · rw [si_o (by decide), e2, si_s, hv]
  · rw [cl_0, si_s, e2, si_o (by decide), hu]
end TXs
end
section
/-! a text, both sides: all of it -/
section TAs
variable {D D1 E E1 : ADD}
/-- both refuse: only tape and fault are others -/
theorem tx_bad {fl pl : Int32} {D4 E4 : ADD} (h : RTx (xc D) (slM E 0)) (fD : ∀ c, ((c < 33 ∧ c ≠ 1 ∧ c ≠ 11) ∨ 43 ≤ c) → D4.1 c = D.1 c) (v4 : D4.1 1 5 = fl ∧ D4.1 1 6 = pl ∧ D4.1 11 1 = 0) (fE : ∀ c, ((1 ≤ c ∧ c ≤ 22) ∨ 30 ≤ c) → c ≠ 2 → c ≠ 3 → c ≠ 4 → E4.1 c = E.1 c) (e2 : ∀ i, E4.1 2 i = if i = 0 then 0 else E.1 2 i) (e3 : ∀ i, E4.1 3 i = if i = 0 then fl else E.1 3 i) (e4 : ∀ i, E4.1 4 i = if i = 0 then pl else E.1 4 i) : TxO D D4 E E4 := by
  obtain ⟨⟨t1, t2⟩, f, w, p⟩ := h
  refine ⟨⟨⟨?_, fun j hj => ?_⟩, ⟨?_, ?_⟩, ?_, ?_⟩, fun c i c1 c2 c3 => ?_, fun c hc => fD c (by omega), fun c c1 c2 => fE c (by omega) (by omega) (by omega) (by omega)⟩
  · rw [sm0 (by decide) (by decide), e2, if_pos rfl]
    exact v4.2.2
  · have q := t2 j hj
    show aB (D4.1 12 j) = _
    rw [fD 12 (by omega), slM_row (fE 1 (by omega) (by decide) (by decide) (by decide))]
    exact q
  · rw [sm0 (by decide) (by decide), e3, if_pos rfl]
    exact v4.1
  · rw [sm0 (by decide) (by decide), e4, if_pos rfl]
    exact v4.2.1
  · have z : ∀ c, 15 ≤ c → c ≤ 22 → slM E4 0 c = slM E 0 c := fun c a b => slM_row (fE c (by omega) (by omega) (by omega) (by omega))
    refine w.fr (fun i j hi => ?_) (by rw [z 15 (by decide) (by decide)]) (fun l _ => ?_)
    · show D4.1 (1 + (12 + i)) j = D.1 (1 + (12 + i)) j
      rw [fD _ (by omega)]
    · rw [z 16 (by decide) (by decide), z 17 (by decide) (by decide), z 18 (by decide) (by decide), z 19 (by decide) (by decide), z 20 (by decide) (by decide), z 21 (by decide) (by decide), z 22 (by decide) (by decide)]
      exact ⟨⟨rfl, rfl, rfl, rfl⟩, fun _ _ => ⟨rfl, rfl, rfl⟩⟩
  · have z : ∀ c, 15 ≤ c → c ≤ 22 → slM E4 0 c = slM E 0 c := fun c a b => slM_row (fE c (by omega) (by omega) (by omega) (by omega))
    refine p.fr (fun i j hi => ?_) (by rw [z 15 (by decide) (by decide)]) (fun l _ => ?_)
    · show D4.1 (1 + (21 + i)) j = D.1 (1 + (21 + i)) j
      rw [fD _ (by omega)]
    · rw [z 16 (by decide) (by decide), z 17 (by decide) (by decide), z 18 (by decide) (by decide), z 19 (by decide) (by decide), z 20 (by decide) (by decide), z 21 (by decide) (by decide), z 22 (by decide) (by decide)]
      exact ⟨⟨rfl, rfl, rfl, rfl⟩, fun _ _ => ⟨rfl, rfl, rfl⟩⟩
  · by_cases h2 : c = 2
    · subst h2
      have c3 : 1 ≤ i := c3
      rw [e2, if_neg (by omega)]
    · by_cases h3 : c = 3
      · subst h3
        have c3 : 1 ≤ i := c3
        rw [e3, if_neg (by omega)]
      · by_cases h4 : c = 4
        · subst h4
          have c3 : 1 ≤ i := c3
          rw [e4, if_neg (by omega)]
        · rw [fE c (by omega) h2 h3 h4]
/-- both take the text: its rules are others, too -/
theorem tx_good {a : Int32} {L : Nat} {D' E' D4 Dn Es En : ADD} {s e n : Nat} {B : Nat → Int32} {D0 E0 : ADD} (ha : a = 0 ∨ a = 1) (h : RTx (xc D) (slM E 0)) (hL : L ≤ 16) (ps : PS B n a D0 E0 L D' E' s e 0) (hf : D'.1 33 1 = 0)
    (fD : ∀ c, ((c < 33 ∧ c ≠ 1 ∧ c ≠ 11) ∨ 43 ≤ c) → D4.1 c = D.1 c) (v4 : D4.1 1 5 = 0 ∧ D4.1 1 6 = -1 ∧ D4.1 11 1 = 0)
    (n1 : ∀ c, (c < (if a = 0 then 13 else 22) ∨ (if a = 0 then 13 else 22) + 9 ≤ c) → Dn.1 c = D4.1 c) (n2 : Dn.1 (if a = 0 then 13 else 22) 0 = nI L) (n3 : ∀ i j, 1 ≤ i → i ≤ 4 → j < 16 → Dn.1 ((if a = 0 then 13 else 22) + i) j = D'.1 (34 + i) j) (n4 : ∀ i j, 5 ≤ i → i ≤ 8 → j < 64 → Dn.1 ((if a = 0 then 13 else 22) + i) j = D'.1 (34 + i) j)
    (fE : ∀ c, ((1 ≤ c ∧ c ≤ 14) ∨ (16 ≤ c ∧ c ≤ 22) ∨ 30 ≤ c) → c ≠ 2 → c ≠ 3 → c ≠ 4 → Es.1 c = E.1 c) (fS : ∀ c, 23 ≤ c → c ≤ 29 → Es.1 c = E'.1 c) (e2 : ∀ i, Es.1 2 i = if i = 0 then 0 else E.1 2 i) (e3 : ∀ i, Es.1 3 i = if i = 0 then 0 else E.1 3 i) (e4 : ∀ i, Es.1 4 i = if i = 0 then -1 else E.1 4 i) (e15 : ∀ i, Es.1 15 i = if i = (if a = 0 then 0 else 1) then nI L else E.1 15 i)
    (cp : CpL (if a = 0 then 0 else 16) L Es En) : TxO D Dn E En := by
  obtain ⟨⟨t1, t2⟩, f, w, p⟩ := h
  obtain ⟨c1, c2, c3, c4⟩ := cp
  have lines : ∀ l, l < L → (∃ m, LnT a D' E' l m) ∧ LnD a D' E' l := fun l hl => ps.2.2.2.2.2 l hl (by omega)
  have t23 : ∀ l, l < L → Es.1 23 l = E'.1 23 l := fun l _ => by rw [fS 23 (by decide) (by decide)]
  -- what is read, as the reference keeps it
  have nw : ∀ bb, (bb = if a = 0 then 0 else 16) → ∀ l, l < L → (slM En 0 16 (bb + l) = E'.1 23 l ∧ slM En 0 20 (bb + l) = E'.1 27 l ∧ slM En 0 21 (bb + l) = E'.1 28 l ∧ slM En 0 22 (bb + l) = E'.1 29 l) ∧ ∀ t : Nat, (t : Int) < (E'.1 23 l).toInt → slM En 0 17 (4 * (bb + l) + t) = E'.1 24 (4 * l + t) ∧ slM En 0 18 (4 * (bb + l) + t) = E'.1 25 (4 * l + t) ∧ slM En 0 19 (4 * (bb + l) + t) = E'.1 26 (4 * l + t) := by
    intro bb hbb l hl
    have b16 : bb ≤ 16 := by rw [hbb]; split <;> decide
    rw [← hbb] at c4
    obtain ⟨⟨d1, d2, d3, d4⟩, d5⟩ := c4 l hl
    rw [sm0 (by decide) (by show bb + l < 32; omega), sm0 (by decide) (by show bb + l < 32; omega), sm0 (by decide) (by show bb + l < 32; omega), sm0 (by decide) (by show bb + l < 32; omega), d1, d2, d3, d4, fS 23 (by decide) (by decide), fS 27 (by decide) (by decide), fS 28 (by decide) (by decide), fS 29 (by decide) (by decide)]
    refine ⟨⟨rfl, rfl, rfl, rfl⟩, fun t ht => ?_⟩
    obtain ⟨⟨m, ⟨q1, q2, q3⟩, -⟩, -⟩ := lines l hl
    have vm : (nI m).toInt = (m : Int) := nI_toInt (by omega)
    have t4 : t < 4 := by rw [q2, vm] at ht; omega
    obtain ⟨u1, u2, u3⟩ := d5 t (by rw [fS 23 (by decide) (by decide)]; exact ht)
    rw [sm0 (by decide) (by show _ < 128; omega), sm0 (by decide) (by show _ < 128; omega), sm0 (by decide) (by show _ < 128; omega), u1, u2, u3, fS 24 (by decide) (by decide), fS 25 (by decide) (by decide), fS 26 (by decide) (by decide)]
    exact ⟨rfl, rfl, rfl⟩
  have row : ∀ c, ((1 ≤ c ∧ c ≤ 14) ∨ 30 ≤ c) → c ≠ 2 → c ≠ 3 → c ≠ 4 → En.1 c = E.1 c := fun c hc a b d => by rw [c1 c (by omega), fE c (by omega) a b d]
  have g2 : En.1 2 = Es.1 2 := c1 2 (by omega)
  have g3 : En.1 3 = Es.1 3 := c1 3 (by omega)
  have g4 : En.1 4 = Es.1 4 := c1 4 (by omega)
  have g15 : En.1 15 = Es.1 15 := c1 15 (by omega)
  have L16 : ∀ c, 16 ≤ c → c ≤ 22 → Es.1 c = E.1 c := fun c a b => fE c (by omega) (by omega) (by omega) (by omega)
  refine ⟨⟨⟨?_, fun j hj => ?_⟩, ⟨?_, ?_⟩, ?_, ?_⟩, fun c i k1 k2 k3 => ?_, fun c hc => ?_, fun c k1 k2 => row c (by omega) (by omega) (by omega) (by omega)⟩
  · rw [sm0 (by decide) (by decide), g2, e2, if_pos rfl]
    show Dn.1 11 1 = 0
    rw [n1 11 (by split <;> omega)]
    exact v4.2.2
  · have q := t2 j hj
    show aB (Dn.1 12 j) = _
    rw [n1 12 (by split <;> omega), fD 12 (by omega), slM_row (row 1 (by omega) (by decide) (by decide) (by decide))]
    exact q
  · rw [sm0 (by decide) (by decide), g3, e3, if_pos rfl]
    show Dn.1 1 5 = 0
    rw [n1 1 (by split <;> omega)]
    exact v4.1
  · rw [sm0 (by decide) (by decide), g4, e4, if_pos rfl]
    show Dn.1 1 6 = -1
    rw [n1 1 (by split <;> omega)]
    exact v4.2.1
  · -- WEAR
    rcases ha with rfl | rfl
    · rw [if_pos rfl] at n1 n2 n3 n4 c2 c3 e15
      refine RuS_new (p := 0) hL lines hf (fun _ => rfl) n2 ?_ (fun i j a b c => ?_) (fun i j a b c => ?_) (nw 0 rfl)
      · rw [sm0 (by decide) (by decide), g15, e15, if_pos rfl]
      · show Dn.1 (1 + (12 + i)) j = _
        rw [show 1 + (12 + i) = 13 + i by omega]
        exact n3 i j a b c
      · show Dn.1 (1 + (12 + i)) j = _
        rw [show 1 + (12 + i) = 13 + i by omega]
        exact n4 i j a b c
    · rw [if_neg (by decide)] at n1 c2 c3 e15
      refine w.fr (fun i j hi => ?_) ?_ (fun l hl => ⟨?_, fun t ht => ?_⟩)
      · show Dn.1 (1 + (12 + i)) j = D.1 (1 + (12 + i)) j
        rw [n1 _ (by omega), fD _ (by omega)]
      · rw [sm0 (by decide) (by decide), g15, e15, if_neg (by decide), sm0 (by decide) (by decide)]
      · obtain ⟨d1, d2, d3, d4⟩ := c2 (0 + l) (by omega)
        have b : 0 + l < 32 := by omega
        rw [sm0 (by decide) b, sm0 (by decide) b, sm0 (by decide) b, sm0 (by decide) b, sm0 (by decide) b, sm0 (by decide) b, sm0 (by decide) b, sm0 (by decide) b, d1, d2, d3, d4, L16 16 (by decide) (by decide), L16 20 (by decide) (by decide), L16 21 (by decide) (by decide), L16 22 (by decide) (by decide)]
        exact ⟨rfl, rfl, rfl, rfl⟩
      · obtain ⟨d1, d2, d3⟩ := c3 (4 * (0 + l) + t) (by omega)
        have b : 4 * (0 + l) + t < 128 := by omega
        rw [sm0 (by decide) b, sm0 (by decide) b, sm0 (by decide) b, sm0 (by decide) b, sm0 (by decide) b, sm0 (by decide) b, d1, d2, d3, L16 17 (by decide) (by decide), L16 18 (by decide) (by decide), L16 19 (by decide) (by decide)]
        exact ⟨rfl, rfl, rfl⟩
  · -- PROOF
    rcases ha with rfl | rfl
    · rw [if_pos rfl] at n1 c2 c3 e15
      refine p.fr (fun i j hi => ?_) ?_ (fun l hl => ⟨?_, fun t ht => ?_⟩)
      · show Dn.1 (1 + (21 + i)) j = D.1 (1 + (21 + i)) j
        rw [n1 _ (by omega), fD _ (by omega)]
      · rw [sm0 (by decide) (by decide), g15, e15, if_neg (by decide), sm0 (by decide) (by decide)]
      · obtain ⟨d1, d2, d3, d4⟩ := c2 (16 + l) (by omega)
        have b : 16 + l < 32 := by omega
        rw [sm0 (by decide) b, sm0 (by decide) b, sm0 (by decide) b, sm0 (by decide) b, sm0 (by decide) b, sm0 (by decide) b, sm0 (by decide) b, sm0 (by decide) b, d1, d2, d3, d4, L16 16 (by decide) (by decide), L16 20 (by decide) (by decide), L16 21 (by decide) (by decide), L16 22 (by decide) (by decide)]
        exact ⟨rfl, rfl, rfl, rfl⟩
      · obtain ⟨d1, d2, d3⟩ := c3 (4 * (16 + l) + t) (by omega)
        have b : 4 * (16 + l) + t < 128 := by omega
        rw [sm0 (by decide) b, sm0 (by decide) b, sm0 (by decide) b, sm0 (by decide) b, sm0 (by decide) b, sm0 (by decide) b, d1, d2, d3, L16 17 (by decide) (by decide), L16 18 (by decide) (by decide), L16 19 (by decide) (by decide)]
        exact ⟨rfl, rfl, rfl⟩
    · rw [if_neg (by decide)] at n1 n2 n3 n4 c2 c3 e15
      refine RuS_new (p := 1) hL lines hf (fun z => z.elim) n2 ?_ (fun i j a b c => ?_) (fun i j a b c => ?_) (nw 16 rfl)
      · rw [sm0 (by decide) (by decide), g15, e15, if_pos rfl]
      · show Dn.1 (1 + (21 + i)) j = _
        rw [show 1 + (21 + i) = 22 + i by omega]
        exact n3 i j a b c
      · show Dn.1 (1 + (21 + i)) j = _
        rw [show 1 + (21 + i) = 22 + i by omega]
        exact n4 i j a b c
  · by_cases q2 : c = 2
    · subst q2
      have k3 : 1 ≤ i := k3
      rw [g2, e2, if_neg (by omega)]
    · by_cases q3 : c = 3
      · subst q3
        have k3 : 1 ≤ i := k3
        rw [g3, e3, if_neg (by omega)]
      · by_cases q4 : c = 4
        · subst q4
          have k3 : 1 ≤ i := k3
          rw [g4, e4, if_neg (by omega)]
        · by_cases q5 : c = 15
          · subst q5
            have k3 : 2 ≤ i := k3
            rw [g15, e15, if_neg (by split <;> omega)]
          · by_cases q6 : c ≤ 14
            · rw [row c (by omega) q2 q3 q4]
            · have bb : (if a = 0 then 0 else 16) + L ≤ 32 := by split <;> omega
              have r1 : (c = 16 ∨ c = 20 ∨ c = 21 ∨ c = 22) → 32 ≤ i → En.1 c i = Es.1 c i := fun hc hi => by
                obtain ⟨d1, d2, d3, d4⟩ := c2 i (by omega)
                rcases hc with rfl | rfl | rfl | rfl <;> assumption
              have r2 : (c = 17 ∨ c = 18 ∨ c = 19) → 128 ≤ i → En.1 c i = Es.1 c i := fun hc hi => by
                obtain ⟨d1, d2, d3⟩ := c3 i (by omega)
                rcases hc with rfl | rfl | rfl <;> assumption
              have cc : (c = 16 ∨ c = 20 ∨ c = 21 ∨ c = 22) ∨ (c = 17 ∨ c = 18 ∨ c = 19) := by omega
              rcases cc with cc | cc
              · rw [r1 cc (by rcases cc with rfl | rfl | rfl | rfl <;> exact k3), L16 c (by omega) (by omega)]
              · rw [r2 cc (by rcases cc with rfl | rfl | rfl <;> exact k3), L16 c (by omega) (by omega)]
  · rw [n1 c (by split <;> omega), fD c (by omega)]
end TAs
end
section
/-! text() of both sides -/
section TRs
variable {D D1 E E1 : ADD}
theorem sim_text {a : Int32} (ha : a = 0 ∨ a = 1) (q : QXt D 1) (h : RTx (xc D) (slM E 0)) : Wp (fX10_text a D) (fun r D1 => Wp (fX11_text a E) (fun r2 E1 => r = r2 ∧ TxO D D1 E E1)) := by
  have l : 0 ≤ (D.1 11 1).toInt ∧ (D.1 11 1).toInt ≤ 500 := q.2.2.2.2.1
  obtain ⟨n, hn⟩ : ∃ n : Nat, (D.1 11 1).toInt = n := ⟨_, (cl_i l.1).symm⟩
  obtain ⟨B, tb, hB⟩ : ∃ B : Nat → Int32, TB B n ∧ ∀ j, j < n → aB (D.1 12 j) &&& 255 = B j := ⟨fun j => if j < n then aB (D.1 12 j) &&& 255 else -1, ⟨by omega, fun j hj => if_neg (by omega), fun j hj => by
    show 0 ≤ (if j < n then aB (D.1 12 j) &&& 255 else -1).toInt ∧ (if j < n then aB (D.1 12 j) &&& 255 else -1).toInt < 256
    rw [if_pos hj]
    exact and255 _⟩, fun j hj => (if_pos hj).symm⟩
  have t1 : D.1 11 1 = E.1 2 0 := h.1.1.trans (sm0 (by decide) (by decide))
  have t2 : ∀ j, j < 500 → aB (D.1 12 j) = aB (E.1 1 j) := fun j hj => by
    have z : aB (D.1 12 j) = slM E 0 1 j := h.1.2 j hj
    rw [z]
    show (if j < 500 then (if (1 : Nat) = 1 then aB (E.1 1 (500 * 0 + j)) else _) else 0) = _
    rw [if_pos hj, if_pos rfl, Nat.mul_zero, Nat.zero_add]
  rw [cTx_eq, cRd_eq, mTx_eq]
  have T5 : ∀ D5, D5 = aSI (aSI (aSI (aSI (aSI D 33 4 a) 33 1 (0 : Int32)) 33 2 (-1 : Int32)) 34 0 (0 : Int32)) 33 7 (0 : Int32) → (∀ c, c ≠ 33 → c ≠ 34 → D5.1 c = D.1 c) ∧ D5.1 33 7 = nI 0 ∧ D5.1 33 1 = 0 ∧ D5.1 33 2 = -1 ∧ D5.1 33 4 = a := by
    intro D5 e5
    refine ⟨fun c c1 c2 => by rw [e5, si_o c1, si_o c2, si_o c1, si_o c1, si_o c1], ?_, ?_, ?_, ?_⟩
    · rw [e5, si_s, if_pos rfl]; rfl
    · rw [e5, si_s, if_neg (by decide), si_o (by decide), si_s, if_neg (by decide), si_s, if_pos rfl]
    · rw [e5, si_s, if_neg (by decide), si_o (by decide), si_s, if_pos rfl]
    · rw [e5, si_s, if_neg (by decide), si_o (by decide), si_s, if_neg (by decide), si_s, if_neg (by decide), si_s, if_pos rfl]
  have T9 : ∀ E9, E9 = mIn E → (∀ c, c ≠ 0 → c ≠ 2 → c ≠ 3 → c ≠ 4 → E9.1 c = E.1 c) ∧ (∀ i, E9.1 2 i = if i = 0 then 0 else E.1 2 i) ∧ (∀ i, E9.1 3 i = if i = 0 then 0 else E.1 3 i) ∧ (∀ i, E9.1 4 i = if i = 0 then -1 else E.1 4 i) ∧ E9.1 0 24 = E.1 2 0 ∧ E9.1 0 23 = nI 0 ∧ E9.1 0 30 = 0 ∧ E9.1 0 32 = nI 0 := by
    intro E9 e9
    unfold mIn at e9
    rw [cl_0] at e9
    refine ⟨fun c c0 c2 c3 c4 => by rw [e9, si_o c0, si_o c0, si_o c0, si_o c0, si_o c4, si_o c3, si_o c2, si_o c0, si_o c0], fun i => ?_, fun i => ?_, fun i => ?_, ?_, ?_, ?_, ?_⟩
    · rw [e9, si_o (by decide), si_o (by decide), si_o (by decide), si_o (by decide), si_o (by decide), si_o (by decide), si_s, si_o (by decide), si_o (by decide)]
    · rw [e9, si_o (by decide), si_o (by decide), si_o (by decide), si_o (by decide), si_o (by decide), si_s, si_o (by decide), si_o (by decide), si_o (by decide)]
    · rw [e9, si_o (by decide), si_o (by decide), si_o (by decide), si_o (by decide), si_s, si_o (by decide), si_o (by decide), si_o (by decide), si_o (by decide)]
    · rw [e9, si_s, if_neg (by decide), si_s, if_neg (by decide), si_s, if_neg (by decide), si_s, if_neg (by decide), si_o (by decide), si_o (by decide), si_o (by decide), si_s, if_pos rfl, si_o (by decide)]
    · rw [e9, si_s, if_neg (by decide), si_s, if_neg (by decide), si_s, if_neg (by decide), si_s, if_pos rfl]; rfl
    · rw [e9, si_s, if_neg (by decide), si_s, if_pos rfl]
    · rw [e9, si_s, if_pos rfl]; rfl
  generalize hE9 : mIn E = E9
  obtain ⟨g1, g2, g3, g4, g24, g23, g30, g32⟩ := T9 E9 hE9.symm
  clear T9 hE9
  refine Wp.bind (P := fun x D1 => Wp (cTx a x D1) (fun r D2 => Wp (aBind (fX11_next E9) (fun _ D10 => aFix aFuel (lX11_text_62 a (mE a)) (fun _ _ => none) (1 : Int32) D10)) (fun r2 E1 => r = r2 ∧ TxO D D2 E E1))) ?_ (fun x D1 q => q)
  refine Wp.z ha ?_
  generalize hD5 : aSI (aSI (aSI (aSI (aSI D 33 4 a) 33 1 (0 : Int32)) 33 2 (-1 : Int32)) 34 0 (0 : Int32)) 33 7 (0 : Int32) = D5
  obtain ⟨d1, d7, d31, d32, d4⟩ := T5 D5 hD5.symm
  clear T5 hD5
  have tx5 : TpX D5 B n := by
    unfold TpX
    rw [d1 11 (by decide) (by decide), d1 12 (by decide) (by decide)]
    exact ⟨hn, hB⟩
  have tm9 : TpM E9 B n := by
    unfold TpM
    rw [g24, g1 1 (by decide) (by decide) (by decide) (by decide), ← t1]
    have n5 := tb.1
    exact ⟨hn, fun j hj => by rw [← t2 j (by omega)]; exact hB j hj⟩
  -- what the end of either reader leaves of the rest
  have fX : ∀ D' E' : ADD, Frm D5 E9 D' E' → ∀ c, (c < 33 ∨ 43 ≤ c) → D'.1 c = D.1 c := fun D' E' f c hc => by rw [f.1 c hc, d1 c (by omega) (by omega)]
  have bad : ∀ (D' E' : ADD) (x : Int32), Frm D5 E9 D' E' → (D'.1 33 1 = if x = 0 then 1 else E'.1 0 30) → (D'.1 33 2 = if x = 0 then E'.1 0 29 else E'.1 0 31) → ∀ D8, (∀ c, c ≠ 34 → D8.1 c = D'.1 c) → Wp (cTx a 0 D8) (fun r D2 => Wp (mF x E') (fun r2 E1 => r = r2 ∧ TxO D D2 E E1)) := by
    intro D' E' x f v1 v2 D8 f8
    refine (bX_end (a := a) (x := 0) (by rw [f8 11 (by decide), fX D' E' f 11 (by omega)]; exact l.1)).mono (fun r Dn z => ?_)
    obtain ⟨D4, f4, w4, z⟩ := z
    rw [if_pos rfl] at z
    obtain ⟨r1, rfl⟩ := z
    refine bM_bad.mono (fun r2 E4 y => ?_)
    obtain ⟨y1, y2, y3, y4⟩ := y
    rw [f8 33 (by decide)] at w4
    refine ⟨r1.trans y1.symm, tx_bad (fl := D'.1 33 1) (pl := D'.1 33 2) h (fun c hc => by rw [f4 c (by omega) (by omega), f8 c (by omega), fX D' E' f c (by omega)]) w4 (fun c hc c2 c3 c4 => by rw [y2 c c3 c4, f.2.1 c hc, g1 c (by omega) c2 c3 c4]) (fun i => by rw [y2 2 (by decide) (by decide), f.2.1 2 (by omega), g2]) (fun i => ?_) (fun i => ?_)⟩
    · rw [y3, v1]
      by_cases hi : i = 0
      · rw [if_pos hi, if_pos hi]
      · rw [if_neg hi, if_neg hi, f.2.1 3 (by omega), g3, if_neg hi]
    · rw [y4, v2]
      by_cases hi : i = 0
      · rw [if_pos hi, if_pos hi]
      · rw [if_neg hi, if_neg hi, f.2.1 4 (by omega), g4, if_neg hi]
  refine Wp.twoT (T := fun x D1 g => Wp (cTx a x D1) (fun r D2 => Wp g (fun r2 E2 => r = r2 ∧ TxO D D2 E E2))) (S := fun _ D6 _ E10 => ∃ s e k, PS B n a D5 E9 0 D6 E10 s e k) ?_ (fun _ D6 _ E10 hs => ?_)
  · refine (bX_advance tb tx5 d7 (Nat.zero_le _)).mono (fun _ D6 u => (bM_next tb tm9 g23 (Nat.zero_le _)).mono (fun _ E10 v => ?_))
    obtain ⟨s1, e1, k1, a1, a2, a3, a4⟩ := u
    obtain ⟨s2, e2, k2, b1, b2, b3, b4, b5⟩ := v
    have es := a1.uniq b1
    subst es
    obtain ⟨ee, ek⟩ := a2.uniq b2
    subst ee
    subst ek
    have sn := tb.run nb_blk a1 (Nat.zero_le _)
    have le := a2.le tb sn
    have f1 : D6.1 33 1 = 0 := by rw [a4.2.1 1 (by decide) (by decide) (by decide), d31]
    refine ⟨s1, e1, k1, ⟨a4.tp tx5, a3, a2, le⟩, ⟨b5.tp tm9, b3, b4, b2, le⟩, ⟨?_, ?_, fun z => absurd f1 z, fun _ => ?_⟩, ⟨?_, ?_⟩, ⟨fun c hc => a4.1 c (by omega), fun c hc => b5.1 c (by omega), fun z => absurd d31 z⟩, fun l hl => absurd hl (Nat.not_lt_zero _)⟩
    · rw [f1, b5.2 30 (by decide) (by decide) (by decide) (by decide), g30]
    · rw [b5.2 30 (by decide) (by decide) (by decide) (by decide), g30]
      decide
    · rw [a4.2.1 2 (by decide) (by decide) (by decide), d32]
    · rw [a4.2.1 4 (by decide) (by decide) (by decide), d4]
    · rw [b5.2 32 (by decide) (by decide) (by decide) (by decide), g32]
  obtain ⟨s, e, k, hps⟩ := hs
  refine sim_read (T := fun x D1 g => Wp (cTx a x D1) (fun r D2 => Wp g (fun r2 E2 => r = r2 ∧ TxO D D2 E E2))) tb ha (fun L D' E' s' e' hL ps f17 => ?_) (fun D' E' pf => ?_) aFuel 0 aFuel D6 E10 s e k (by decide) (by decide) hps (Nat.zero_le _) (fun q => by omega)
  rotate_left
  · show Wp (cTx a 0 D') (fun r D2 => Wp (mE a 0 E') _)
    unfold mE
    refine Wp.rpos rfl (bad D' E' 0 pf.2 ?_ ?_ D' (fun _ _ => rfl))
    · rw [if_pos rfl]; exact pf.1.1
    · rw [if_pos rfl]; exact pf.1.2
  unfold cE
  refine Wp.leti (fun D8 e8 => ?_)
  have f8 : ∀ c, c ≠ 34 → D8.1 c = D'.1 c := fun c hc => by rw [e8, si_o hc]
  have v8 : D8.1 34 0 = aMin (nI L) 16 := by rw [e8, si_s, if_pos rfl]
  clear e8
  obtain ⟨p1, p2, ⟨q1, q2, q3, q4⟩, p4, p5, p6⟩ := id ps
  rw [f8 33 (by decide)]
  refine Wp.ite (fun hf => Wp.z (Or.inr rfl) (Wp.ret ?_)) (fun hf => Wp.z (Or.inl rfl) (Wp.ret ?_))
  rotate_left
  · show Wp (cTx a 0 D8) (fun r D2 => Wp (mE a 1 E') _)
    unfold mE
    have np : ¬ E'.1 0 30 ≤ 0 := fun z => by
      have := Int32.le_iff_toInt_le.mp z
      rw [ti_0] at this
      exact hf (by rw [q1]; exact ti_eq (by rw [ti_0]; omega))
    refine Wp.rneg (by decide) (Wp.rneg np (bad D' E' 1 p5 ?_ ?_ D8 f8))
    · rw [if_neg (by decide)]; exact q1
    · rw [if_neg (by decide)]; exact q3 hf
  have l16 : L ≤ 16 := by
    false_or_by_contra
    exact f17 (by omega) hf
  have vL : (nI L).toInt = (L : Int) := nI_toInt (by omega)
  have v16 : (16 : Int32).toInt = 16 := by decide
  have v8 : D8.1 34 0 = nI L := by
    rw [v8]
    refine ti_eq ?_
    rw [ti_min, vL, v16]
    omega
  show Wp (cTx a 1 D8) (fun r D2 => Wp (mE a 1 E') _)
  refine (bX_end (a := a) (x := 1) (by rw [f8 11 (by decide), fX D' E' p5 11 (by omega)]; exact l.1)).mono (fun r Dn z => ?_)
  obtain ⟨D4, f4, w4, z⟩ := z
  rw [if_neg (by decide)] at z
  obtain ⟨r1, n1, n2, n3, n4⟩ := z
  unfold mE
  refine Wp.neg (by decide) (Wp.ile (fun _ => ?_) (fun z => absurd z (by rw [← q1, hf, ti_0]; omega)))
  refine Wp.letQ (fun Q j => ∀ x4, x4 = nI (if a = 0 then 0 else 16) → Wp (j x4 E') Q) (fun x4 hx4 => ?_) (fun j K => Wp.ite (fun ha0 => K _ (by rw [if_pos ha0]; rfl)) (fun ha0 => K _ (by rw [if_neg ha0]; rfl)))
  refine Wp.letQ (fun Q j => ∀ x5, x5 = nI (if a = 0 then 0 else 1) → Wp (j x5 E') Q) (fun x5 hx5 => ?_) (fun j K => Wp.ite (fun ha0 => K _ (by rw [if_pos ha0]; rfl)) (fun ha0 => K _ (by rw [if_neg ha0]; rfl)))
  have b5 : (if a = 0 then 0 else 1 : Nat) < 2 := by split <;> decide
  have b4 : (if a = 0 then 0 else 16 : Nat) ≤ 16 := by split <;> decide
  rw [hx4, hx5]
  refine Wp.idx (vp_in_nI (by omega) (by decide)) (Wp.leti (fun Es es => ?_))
  rw [nI_clamp (by omega), p4.2] at es
  have s15 : ∀ i, Es.1 15 i = if i = (if a = 0 then 0 else 1) then nI L else E'.1 15 i := fun i => by rw [es, si_s]
  have so : ∀ c, c ≠ 15 → Es.1 c = E'.1 c := fun c hc => by rw [es, si_o hc]
  clear es
  have lines : ∀ l, l < L → (∃ m, LnT a D' E' l m) ∧ LnD a D' E' l := fun l hl => p6 l hl (by omega)
  refine bM_lines b4 l16 (by rw [so 0 (by decide)]; exact p4.2) (fun l hl => ?_) (fun En cp => Wp.ret ⟨?_, ?_⟩)
  · obtain ⟨⟨m, ⟨c1, c2, c3⟩, -⟩, -⟩ := lines l hl
    have vm : (nI m).toInt = (m : Int) := nI_toInt (by omega)
    rw [so 23 (by decide), c2, vm]
    omega
  · rw [r1, v8, cp.1 0 (by omega), so 0 (by decide), p4.2]
  · have h9 : ∀ c, ((1 ≤ c ∧ c ≤ 22) ∨ 30 ≤ c) → E'.1 c = E9.1 c := p5.2.1
    rw [f8 33 (by decide), hf, q4 hf] at w4
    refine tx_good ha h l16 ps hf (fun c hc => by rw [f4 c (by omega) (by omega), f8 c (by omega), fX D' E' p5 c (by omega)]) w4 n1 (by rw [n2]; exact v8) (fun i j a b c => by rw [n3 i j a b c, f8 _ (by omega)]) (fun i j a b c => by rw [n4 i j a b c, f8 _ (by omega)]) (fun c hc c2 c3 c4 => by rw [so c (by omega), h9 c (by omega), g1 c (by omega) c2 c3 c4]) (fun c c1 c2 => so c (by omega)) (fun i => by rw [so 2 (by decide), h9 2 (by omega), g2]) (fun i => by rw [so 3 (by decide), h9 3 (by omega), g3]) (fun i => by rw [so 4 (by decide), h9 4 (by omega), g4]) (fun i => ?_) cp
    rw [s15, h9 15 (by omega), g1 15 (by decide) (by decide) (by decide) (by decide)]
end TRs
end
section
/-! the whole relation, kept by every call -/
def RCh (X M : Sl) : Prop := (X 30 0 = M 11 0 &&& 63) ∧ (X 30 1 = M 12 0 &&& 31) ∧ X 30 2 = M 13 0 ∧ X 30 3 = M 13 1 ∧ X 30 4 = M 14 0
def RF (X M : Sl) : Prop := RB X M ∧ RTx X M ∧ RCh X M
section RFa
variable {X X1 M M1 : Sl} {o b q : Nat} {wear : Prop} {D D1 E E1 : ADD}
theorem RuS.cx (h : RuS X M o b q wear) (x0 : X1 o 0 = X o 0) (h4 : ∀ i j, 1 ≤ i → i ≤ 4 → j < 16 → X1 (o + i) j = X (o + i) j) (h8 : ∀ i j, 5 ≤ i → i ≤ 8 → j < 64 → X1 (o + i) j = X (o + i) j) : RuS X1 M o b q wear := by
  obtain ⟨h1, h2, h3⟩ := h
  unfold RuS
  rw [x0]
  refine ⟨h1, h2, fun l hl => ?_⟩
  have l16 : l < 16 := by omega
  obtain ⟨m, ⟨a1, a2, a3⟩, a4, a5, a6, a7⟩ := h3 l hl
  refine ⟨m, ⟨a1, by rw [h4 4 l (by decide) (by decide) l16]; exact a2, a3⟩, fun t ht => ?_, by rw [h4 1 l (by decide) (by decide) l16]; exact a5, by rw [h4 1 l (by decide) (by decide) l16]; exact a6, ?_⟩
  · rw [h8 5 _ (by decide) (by decide) (by omega), h8 6 _ (by decide) (by decide) (by omega), h8 7 _ (by decide) (by decide) (by omega), h8 8 _ (by decide) (by decide) (by omega)]
    exact a4 t ht
  · rw [h4 1 l (by decide) (by decide) l16, h4 2 l (by decide) (by decide) l16, h4 3 l (by decide) (by decide) l16]
    exact a7
theorem sx_r (o : Nat) (ho : o = 12 ∨ o = 21) : slX D 1 o 0 = xc D o 0 ∧ (∀ i j, 1 ≤ i → i ≤ 4 → j < 16 → slX D 1 (o + i) j = xc D (o + i) j) ∧ ∀ i j, 5 ≤ i → i ≤ 8 → j < 64 → slX D 1 (o + i) j = xc D (o + i) j := by
  rcases ho with rfl | rfl
  · refine ⟨slX_fld (by decide), fun i j a b c => ?_, fun i j a b c => ?_⟩
    · have : i = 1 ∨ i = 2 ∨ i = 3 ∨ i = 4 := by omega
      rcases this with rfl | rfl | rfl | rfl <;> exact slX_arr (n := 16) (by decide) c
    · have : i = 5 ∨ i = 6 ∨ i = 7 ∨ i = 8 := by omega
      rcases this with rfl | rfl | rfl | rfl <;> exact slX_arr (n := 64) (by decide) c
  · refine ⟨slX_fld (by decide), fun i j a b c => ?_, fun i j a b c => ?_⟩
    · have : i = 1 ∨ i = 2 ∨ i = 3 ∨ i = 4 := by omega
      rcases this with rfl | rfl | rfl | rfl <;> exact slX_arr (n := 16) (by decide) c
    · have : i = 5 ∨ i = 6 ∨ i = 7 ∨ i = 8 := by omega
      rcases this with rfl | rfl | rfl | rfl <;> exact slX_arr (n := 64) (by decide) c
theorem RTx.to : RTx (slX D 1) M ↔ RTx (xc D) M := by
  have e1 : slX D 1 10 1 = xc D 10 1 := slX_fld (by decide)
  have e2 : ∀ j, j < 500 → slX D 1 11 j = xc D 11 j := fun j hj => slX_arr (n := 500) (by decide) hj
  have e3 : slX D 1 0 5 = xc D 0 5 := slX_fld (by decide)
  have e4 : slX D 1 0 6 = xc D 0 6 := slX_fld (by decide)
  obtain ⟨w1, w2, w3⟩ := sx_r (D := D) 12 (by decide)
  obtain ⟨p1, p2, p3⟩ := sx_r (D := D) 21 (by decide)
  constructor
  · rintro ⟨⟨a, b⟩, ⟨c, d⟩, w, p⟩
    exact ⟨⟨by rw [← e1]; exact a, fun j hj => by rw [← e2 j hj]; exact b j hj⟩, ⟨by rw [← e3]; exact c, by rw [← e4]; exact d⟩, w.cx w1.symm (fun i j a b c => (w2 i j a b c).symm) (fun i j a b c => (w3 i j a b c).symm), p.cx p1.symm (fun i j a b c => (p2 i j a b c).symm) (fun i j a b c => (p3 i j a b c).symm)⟩
  · rintro ⟨⟨a, b⟩, ⟨c, d⟩, w, p⟩
    exact ⟨⟨by rw [e1]; exact a, fun j hj => by rw [e2 j hj]; exact b j hj⟩, ⟨by rw [e3]; exact c, by rw [e4]; exact d⟩, w.cx w1 w2 w3, p.cx p1 p2 p3⟩
theorem RCh.to : RCh (slX D 1) M ↔ RCh (xc D) M := by
  have e0 : slX D 1 30 0 = xc D 30 0 := slX_fld (by decide)
  have e1 : slX D 1 30 1 = xc D 30 1 := slX_fld (by decide)
  have e2 : slX D 1 30 2 = xc D 30 2 := slX_fld (by decide)
  have e3 : slX D 1 30 3 = xc D 30 3 := slX_fld (by decide)
  have e4 : slX D 1 30 4 = xc D 30 4 := slX_fld (by decide)
  unfold RCh
  rw [e0, e1, e2, e3, e4]
theorem RF.to : RF (slX D 1) (slM E 0) ↔ (RBk (xc D) (mB E) ∧ RTx (xc D) (slM E 0) ∧ RCh (xc D) (slM E 0)) := by
  unfold RF
  rw [RTx.to, RCh.to]
  exact ⟨fun h => ⟨RBk.to.mp h.1, h.2⟩, fun h => ⟨RBk.to.mpr h.1, h.2⟩⟩
/-- nothing of tape, fault and texts is another -/
theorem RTx.same (h : RTx (xc D) (slM E 0)) (f : ∀ c, (c = 1 ∨ (11 ≤ c ∧ c ≤ 30)) → D1.1 c = D.1 c) (g : ∀ c, ((1 ≤ c ∧ c ≤ 4) ∨ (15 ≤ c ∧ c ≤ 22)) → E1.1 c = E.1 c) : RTx (xc D1) (slM E1 0) := by
  obtain ⟨⟨a, b⟩, ⟨c, d⟩, w, p⟩ := h
  have x : ∀ i j, (i = 0 ∨ (10 ≤ i ∧ i ≤ 29)) → xc D1 i j = xc D i j := fun i j hi => by
    show D1.1 (1 + i) j = D.1 (1 + i) j
    rw [f (1 + i) (by omega)]
  have m : ∀ c, ((1 ≤ c ∧ c ≤ 4) ∨ (15 ≤ c ∧ c ≤ 22)) → slM E1 0 c = slM E 0 c := fun c hc => slM_row (g c hc)
  refine ⟨⟨by rw [x 10 1 (by omega), m 2 (by omega)]; exact a, fun j hj => by rw [x 11 j (by omega), m 1 (by omega)]; exact b j hj⟩, ⟨by rw [x 0 5 (by omega), m 3 (by omega)]; exact c, by rw [x 0 6 (by omega), m 4 (by omega)]; exact d⟩, ?_, ?_⟩
  · refine w.fr (fun i j hi => x _ j (by omega)) (by rw [m 15 (by omega)]) (fun l _ => ?_)
    rw [m 16 (by omega), m 17 (by omega), m 18 (by omega), m 19 (by omega), m 20 (by omega), m 21 (by omega), m 22 (by omega)]
    exact ⟨⟨rfl, rfl, rfl, rfl⟩, fun _ _ => ⟨rfl, rfl, rfl⟩⟩
  · refine p.fr (fun i j hi => x _ j (by omega)) (by rw [m 15 (by omega)]) (fun l _ => ?_)
    rw [m 16 (by omega), m 17 (by omega), m 18 (by omega), m 19 (by omega), m 20 (by omega), m 21 (by omega), m 22 (by omega)]
    exact ⟨⟨rfl, rfl, rfl, rfl⟩, fun _ _ => ⟨rfl, rfl, rfl⟩⟩
theorem RCh.same (h : RCh (xc D) (slM E 0)) (f : D1.1 31 = D.1 31) (g : ∀ c, 11 ≤ c → c ≤ 14 → E1.1 c = E.1 c) : RCh (xc D1) (slM E1 0) := by
  have x : xc D1 30 = xc D 30 := by
    show D1.1 31 = D.1 31
    exact f
  unfold RCh
  rw [x, slM_row (g 11 (by decide) (by decide)), slM_row (g 12 (by decide) (by decide)), slM_row (g 13 (by decide) (by decide)), slM_row (g 14 (by decide) (by decide))]
  exact h
theorem fdF_aB {r r' : Nat → Int32} {n : Nat} {a : Int32} (h : ∀ j, j < 500 → aB (r j) = aB (r' j)) : ∀ j, j < 500 → aB (fdF r n a j) = aB (fdF r' n a j) := fun j hj => by
  unfold fdF
  by_cases c : n ≤ j ∧ j < n + 4
  · rw [if_pos c, if_pos c]
  · rw [if_neg c, if_neg c]
    exact h j hj
theorem bM_four {x : Int32} {m : Nat} (hm : (E.1 2 0).toInt = m) (h4 : m + 4 ≤ 500) : Wp (fX11_four x E) (fun _ E1 => (∀ c, c ≠ 1 → c ≠ 2 → E1.1 c = E.1 c) ∧ (∀ i, i ≠ 0 → E1.1 2 i = E.1 2 i) ∧ (E1.1 2 0).toInt = ((m + 4 : Nat) : Int) ∧ E1.1 1 = fdF (E.1 1) m x) := by
  refine (tM_four (by omega) (by omega)).mono (fun _ E1 q => ⟨q.1, q.2.2.1, ?_, ?_⟩)
  · have := q.2.2.2.1
    omega
  · funext j
    have em : (E.1 2 0).toNatClampNeg = m := cl_of hm
    rw [q.2.2.2.2 j, em, hm]
    unfold fdF
    by_cases c : m ≤ j ∧ j < m + 4
    · rw [if_pos c, if_pos (by omega)]
    · rw [if_neg c, if_neg (by omega)]
theorem bM_feed {a b c d e : Int32} {n : Nat} (h0 : (E.1 2 0).toInt = n) (h1 : n ≤ 500) : Wp (fX11_feed a b c d e E) (fun _ E1 => (∀ c, c ≠ 0 → c ≠ 1 → c ≠ 2 → E1.1 c = E.1 c) ∧ (∀ i, i ≠ 0 → E1.1 2 i = E.1 2 i) ∧ if n + 20 ≤ 500 then (E1.1 2 0).toInt = ((n + 20 : Nat) : Int) ∧ E1.1 1 = fd5 (E.1 1) n a b c d e else E1.1 2 0 = E.1 2 0 ∧ E1.1 1 = E.1 1) := by
  unfold fX11_feed
  refine Wp.leti (fun D1 e1 => Wp.idd (by decide) ?_)
  have g1 : ∀ c, c ≠ 0 → D1.1 c = E.1 c := fun c hc => by rw [e1]; exact si_o hc
  rw [cl_0, g1 2 (by decide)]
  have e20 : (E.1 2 0 + 20).toInt = (n : Int) + 20 := ti_add h0 (by decide) (by omega) (by omega)
  have e5 : (500 : Int32).toInt = 500 := by decide
  refine Wp.ile (fun hl => ?_) (fun hl => Wp.ret ⟨fun c a _ _ => g1 c a, fun i _ => by rw [g1 2 (by decide)], ?_⟩)
  · have z1 : (D1.1 2 0).toInt = n := by rw [g1 2 (by decide)]; exact h0
    refine Wp.bind (bM_four z1 (by omega)) (fun _ D2 q2 => Wp.bind (bM_four q2.2.2.1 (by omega)) (fun _ D3 q3 => Wp.bind (bM_four q3.2.2.1 (by omega)) (fun _ D4 q4 => Wp.bind (bM_four q4.2.2.1 (by omega)) (fun _ D5 q5 => Wp.bind (bM_four q5.2.2.1 (by omega)) (fun _ D6 q6 => Wp.idd (by decide) (Wp.ret ⟨fun c a b d => ?_, fun i hi => ?_, ?_⟩))))))
    · rw [q6.1 c b d, q5.1 c b d, q4.1 c b d, q3.1 c b d, q2.1 c b d, g1 c a]
    · rw [q6.2.1 i hi, q5.2.1 i hi, q4.2.1 i hi, q3.2.1 i hi, q2.2.1 i hi, g1 2 (by decide)]
    · rw [if_pos (by omega)]
      refine ⟨by have := q6.2.2.1; omega, ?_⟩
      rw [q6.2.2.2, q5.2.2.2, q4.2.2.2, q3.2.2.2, q2.2.2.2, g1 1 (by decide)]
      rfl
  · rw [if_neg (by omega)]
    exact ⟨by rw [g1 2 (by decide)], g1 1 (by decide)⟩
theorem fd5_far {r : Nat → Int32} {n j : Nat} {a b c d e : Int32} (h : n + 20 ≤ j) : fd5 r n a b c d e j = r j := by
  unfold fd5 fdF
  rw [if_neg (by omega), if_neg (by omega), if_neg (by omega), if_neg (by omega), if_neg (by omega)]
end RFa
section RFb
variable {n0 : Nat} {P : APD} {E : ADD}
theorem IR.nowF (h : IR RF n0 P E) : RBk (xc P.2) (mB E) ∧ RTx (xc P.2) (slM E 0) ∧ RCh (xc P.2) (slM E 0) := RF.to.mp h.2.1
theorem jr_stone {a b c : Int32} (h : IR RF n0 P E) : BR RF n0 P id (fX10_stone a b c P.2) (fX11_stone a b c E) := by
  obtain ⟨r1, D1, r2, D2, e1, e2, -, ia⟩ := ia_stone (a := a) (b := b) (c := c) h.1
  obtain ⟨k1, k2, k3, k4, k5⟩ := rb_stone h.nowF.1 h.1.2.1.2 h.1.2.2.1.qm e1 e2
  exact ⟨r1, D1, r2, D2, e1, e2, k1, h.keep ia (fun c hc => k4 c (by omega)) k3 (RF.to.mpr ⟨k2, h.nowF.2.1.same (fun c hc => k4 c (by omega)) (fun c hc => k5 c (by omega) (by omega) (by omega)), h.nowF.2.2.same (k4 31 (by omega)) (fun c c1 c2 => k5 c (by omega) (by omega) (by omega))⟩)⟩
theorem jr_tell {a b c : Int32} (h : IR RF n0 P E) : BR RF n0 P id (fX10_tell a b c P.2) (fX11_tell a b c E) := by
  obtain ⟨r1, D1, r2, D2, e1, e2, -, ia⟩ := ia_tell (a := a) (b := b) (c := c) h.1
  obtain ⟨k1, k2, k3, k4, k5⟩ := rb_tell h.nowF.1 h.1.2.1.2 h.1.2.2.1.qm e1 e2
  exact ⟨r1, D1, r2, D2, e1, e2, k1, h.keep ia (fun c hc => k4 c (by omega)) k3 (RF.to.mpr ⟨k2, h.nowF.2.1.same (fun c hc => k4 c (by omega)) (fun c hc => k5 c (by omega) (by omega) (by omega)), h.nowF.2.2.same (k4 31 (by omega)) (fun c c1 c2 => k5 c (by omega) (by omega) (by omega))⟩)⟩
theorem jr_day {a : Int32} (h : IR RF n0 P E) : BR RF n0 P id (fX10_day a P.2) (fX11_day a E) := by
  obtain ⟨r1, D1, r2, D2, e1, e2, e3, ia⟩ := ia_day (a := a) h.1
  obtain ⟨k2, k3, k4, k5⟩ := rb_day h.nowF.1 e1 e2
  exact ⟨r1, D1, r2, D2, e1, e2, e3, h.keep ia (fun c hc => k4 c (by omega)) k3 (RF.to.mpr ⟨k2, h.nowF.2.1.same (fun c hc => k4 c (by omega)) (fun c hc => k5 c (by omega) (by omega) (by omega)), h.nowF.2.2.same (k4 31 (by omega)) (fun c c1 c2 => k5 c (by omega) (by omega) (by omega))⟩)⟩
theorem jr_view {a : Int32} (h : IR RF n0 P E) : BR RF n0 P id (fX10_view a P.2) (fX11_view a E) := by
  obtain ⟨r1, D1, r2, D2, e1, e2, e3, ia⟩ := ia_view (a := a) h.1
  obtain ⟨k2, k3, k4, k5⟩ := rb_view h.nowF.1 h.1.2.1.2 e1 e2
  exact ⟨r1, D1, r2, D2, e1, e2, e3, h.keep ia (fun c hc => k4 c (by omega)) k3 (RF.to.mpr ⟨k2, h.nowF.2.1.same (fun c hc => k4 c (by omega)) (fun c hc => k5 c (by omega) (by omega) (by omega)), h.nowF.2.2.same (k4 31 (by omega)) (fun c c1 c2 => k5 c (by omega) (by omega) (by omega))⟩)⟩
theorem jr_text {a : Int32} (ha : a = 0 ∨ a = 1) (h : IR RF n0 P E) : BR RF n0 P id (fX10_text a P.2) (fX11_text a E) := by
  obtain ⟨r1, D1, r2, D2, e1, e2, -, ia⟩ := ia_text ha h.1
  have s := (sim_text ha h.1.2.1.2 h.nowF.2.1).same e1
  obtain ⟨k1, k2, k3, k4, k5⟩ := Wp.same e2 s
  exact ⟨r1, D1, r2, D2, e1, e2, k1, h.keep ia (fun c hc => k4 c (by omega)) k3 (RF.to.mpr ⟨h.nowF.1.same (fun c c1 c2 => k4 c (by omega)) (fun c c1 c2 => k5 c (by omega) (by omega)), k2, h.nowF.2.2.same (k4 31 (by omega)) (fun c c1 c2 => k5 c (by omega) (by omega))⟩)⟩
theorem jr_feed {a b c d e : Int32} (h : IR RF n0 P E) : BR RF n0 P id (fX10_feed a b c d e P.2) (fX11_feed a b c d e E) := by
  obtain ⟨r1, D1, r2, D2, e1, e2, e3, ia⟩ := ia_feed (a := a) (b := b) (c := c) (d := d) (e := e) h.1
  have l : 0 ≤ (P.2.1 11 1).toInt ∧ (P.2.1 11 1).toInt ≤ 500 := h.1.2.1.2.2.2.2.2.1
  obtain ⟨n, hn⟩ : ∃ n : Nat, (P.2.1 11 1).toInt = n := ⟨_, (cl_i l.1).symm⟩
  obtain ⟨⟨t1, t2⟩, fl, w, p⟩ := h.nowF.2.1
  have t1 : P.2.1 11 1 = E.1 2 0 := t1.trans (sm0 (by decide) (by decide))
  have t2 : ∀ j, j < 500 → aB (P.2.1 12 j) = aB (E.1 1 j) := fun j hj => by
    have z : aB (P.2.1 12 j) = slM E 0 1 j := t2 j hj
    rw [z]
    show (if j < 500 then (if (1 : Nat) = 1 then aB (E.1 1 (500 * 0 + j)) else _) else 0) = _
    rw [if_pos hj, if_pos rfl, Nat.mul_zero, Nat.zero_add]
  have kx := (oX_feed (a := a) (b := b) (c := c) (d := d) (e := e) hn (by omega)).same e1
  obtain ⟨m1, m2, m3⟩ := (bM_feed (a := a) (b := b) (c := c) (d := d) (e := e) (E := E) (by rw [← t1]; exact hn) (by omega)).same e2
  have fx : ∀ c, c ≠ 11 → c ≠ 12 → D1.1 c = P.2.1 c := by
    split at kx
    · exact kx.2.2.1
    · intro c _ _
      rw [kx.2]
  have nw : NwM E D2 := fun c i c1 c2 c3 => by
    by_cases q1 : c = 1
    · subst q1
      have c3 : 500 ≤ i := c3
      split at m3
      · rw [m3.2, fd5_far (by omega)]
      · rw [m3.2]
    · by_cases q2 : c = 2
      · subst q2
        have c3 : 1 ≤ i := c3
        rw [m2 i (by omega)]
      · rw [m1 c (by omega) q1 q2]
  have sl1 : ∀ j, j < 500 → slM D2 0 1 j = aB (D2.1 1 j) := fun j hj => by
    show (if j < 500 then (if (1 : Nat) = 1 then aB (D2.1 1 (500 * 0 + j)) else _) else 0) = _
    rw [if_pos hj, if_pos rfl, Nat.mul_zero, Nat.zero_add]
  have tp : RTp (xc D1) (slM D2 0) := by
    refine ⟨?_, fun j hj => ?_⟩
    · rw [sm0 (by decide) (by decide)]
      show D1.1 11 1 = D2.1 2 0
      by_cases hc : n + 20 ≤ 500
      · rw [if_pos hc] at kx m3
        refine ti_eq ?_
        rw [← kx.2.1, kx.1, m3.1]
      · rw [if_neg hc] at kx m3
        rw [kx.2, m3.1, t1]
    · rw [sl1 j hj]
      show aB (D1.1 12 j) = _
      by_cases hc : n + 20 ≤ 500
      · rw [if_pos hc] at kx m3
        rw [kx.2.2.2.2.2, m3.2]
        exact fdF_aB (fdF_aB (fdF_aB (fdF_aB (fdF_aB t2)))) j hj
      · rw [if_neg hc] at kx m3
        rw [kx.2, m3.2]
        exact t2 j hj
  have x : ∀ i j, i ≠ 10 → i ≠ 11 → xc D1 i j = xc P.2 i j := fun i j a b => by
    show D1.1 (1 + i) j = P.2.1 (1 + i) j
    rw [fx (1 + i) (by omega) (by omega)]
  have m : ∀ c, 3 ≤ c → slM D2 0 c = slM E 0 c := fun c hc => slM_row (m1 c (by omega) (by omega) (by omega))
  refine ⟨r1, D1, r2, D2, e1, e2, e3, h.keep ia (fun c hc => fx c (by omega) (by omega)) nw (RF.to.mpr ⟨h.nowF.1.same (fun c c1 c2 => fx c (by omega) (by omega)) (fun c c1 c2 => m1 c (by omega) (by omega) (by omega)), ⟨tp, ⟨by rw [x 0 5 (by decide) (by decide), m 3 (by decide)]; exact fl.1, by rw [x 0 6 (by decide) (by decide), m 4 (by decide)]; exact fl.2⟩, ?_, ?_⟩, h.nowF.2.2.same (fx 31 (by decide) (by decide)) (fun c c1 c2 => m1 c (by omega) (by omega) (by omega))⟩)⟩
  · refine w.fr (fun i j hi => x _ j (by omega) (by omega)) (by rw [m 15 (by omega)]) (fun l _ => ?_)
    rw [m 16 (by omega), m 17 (by omega), m 18 (by omega), m 19 (by omega), m 20 (by omega), m 21 (by omega), m 22 (by omega)]
    exact ⟨⟨rfl, rfl, rfl, rfl⟩, fun _ _ => ⟨rfl, rfl, rfl⟩⟩
  · refine p.fr (fun i j hi => x _ j (by omega) (by omega)) (by rw [m 15 (by omega)]) (fun l _ => ?_)
    rw [m 16 (by omega), m 17 (by omega), m 18 (by omega), m 19 (by omega), m 20 (by omega), m 21 (by omega), m 22 (by omega)]
    exact ⟨⟨rfl, rfl, rfl, rfl⟩, fun _ _ => ⟨rfl, rfl, rfl⟩⟩
theorem jr_end {a : Int32} (h : IR RF n0 P E) : BR RF n0 P id (fX10_end a P.2) (fX11_end a E) := by
  obtain ⟨r1, D1, r2, D2, e1, e2, e3, ia⟩ := ia_end (a := a) h.1
  obtain ⟨⟨t1, t2⟩, fl, w, p⟩ := h.nowF.2.1
  have t1 : P.2.1 11 1 = E.1 2 0 := t1.trans (sm0 (by decide) (by decide))
  have kx := (oX_end (a := a)).same e1
  obtain ⟨m1, m2⟩ := (fM_end (a := a) (E := E)).same e2
  obtain ⟨-, -, -, -, m3⟩ := (sM_end (a := a) h.1.2.2.1).same e2
  rw [t1] at kx
  have fx : ∀ c, c ≠ 11 → D1.1 c = P.2.1 c := by
    split at kx
    · intro c hc
      rw [kx.2]
      exact si_o hc
    · intro c _
      rw [kx.2]
  have f1 : D1.1 11 1 = D2.1 2 0 := by
    split at kx
    · rename_i hc
      rw [if_pos hc] at m3
      rw [kx.2, si_s, if_pos rfl, m3.2]
    · rename_i hc
      rw [if_neg hc] at m3
      rw [kx.2, m3.2, t1]
  have nw : NwM E D2 := fun c i c1 c2 c3 => by
    by_cases q2 : c = 2
    · subst q2
      have c3 : 1 ≤ i := c3
      rw [m2 i (by omega)]
    · rw [m1 c (by omega) q2]
  have x : ∀ i j, i ≠ 10 → xc D1 i j = xc P.2 i j := fun i j a => by
    show D1.1 (1 + i) j = P.2.1 (1 + i) j
    rw [fx (1 + i) (by omega)]
  have m : ∀ c, 1 ≤ c → c ≠ 2 → slM D2 0 c = slM E 0 c := fun c hc c2 => slM_row (m1 c (by omega) c2)
  refine ⟨r1, D1, r2, D2, e1, e2, e3, h.keep ia (fun c hc => fx c (by omega)) nw (RF.to.mpr ⟨h.nowF.1.same (fun c c1 c2 => fx c (by omega)) (fun c c1 c2 => m1 c (by omega) (by omega)), ⟨⟨?_, fun j hj => ?_⟩, ⟨by rw [x 0 5 (by decide), m 3 (by decide) (by decide)]; exact fl.1, by rw [x 0 6 (by decide), m 4 (by decide) (by decide)]; exact fl.2⟩, ?_, ?_⟩, h.nowF.2.2.same (fx 31 (by decide)) (fun c c1 c2 => m1 c (by omega) (by omega))⟩)⟩
  · rw [sm0 (by decide) (by decide)]
    exact f1
  · rw [x 11 j (by decide), m 1 (by decide) (by decide)]
    exact t2 j hj
  · refine w.fr (fun i j hi => x _ j (by omega)) (by rw [m 15 (by omega) (by omega)]) (fun l _ => ?_)
    rw [m 16 (by omega) (by omega), m 17 (by omega) (by omega), m 18 (by omega) (by omega), m 19 (by omega) (by omega), m 20 (by omega) (by omega), m 21 (by omega) (by omega), m 22 (by omega) (by omega)]
    exact ⟨⟨rfl, rfl, rfl, rfl⟩, fun _ _ => ⟨rfl, rfl, rfl⟩⟩
  · refine p.fr (fun i j hi => x _ j (by omega)) (by rw [m 15 (by omega) (by omega)]) (fun l _ => ?_)
    rw [m 16 (by omega) (by omega), m 17 (by omega) (by omega), m 18 (by omega) (by omega), m 19 (by omega) (by omega), m 20 (by omega) (by omega), m 21 (by omega) (by omega), m 22 (by omega) (by omega)]
    exact ⟨⟨rfl, rfl, rfl, rfl⟩, fun _ _ => ⟨rfl, rfl, rfl⟩⟩
theorem jr_choose {a b y z m : Int32} (h : IR RF n0 P E) : BR RF n0 P id (fX10_choose a b y z m P.2) (fX11_choose a b y z m E) := by
  obtain ⟨r1, D1, r2, D2, e1, e2, e3, ia⟩ := ia_choose (a := a) (b := b) (y := y) (z := z) (m := m) h.1
  have kx := (tX10_choose (a := a) (b := b) (y := y) (z := z) (m := m)).same e1
  have km := (tM_choose (a := a) (b := b) (y := y) (z := z) (m := m)).same e2
  by_cases hc : ChOK y z m
  · rw [if_pos hc] at kx km
    obtain ⟨-, k1, k2, k3, k4, k5, k6, k7⟩ := kx
    obtain ⟨-, m1, m2, m3, m4, m5, m6⟩ := km
    have nw : NwM E D2 := fun c i c1 c2 c3 => by
      by_cases q1 : c = 11
      · subst q1
        have c3 : 1 ≤ i := c3
        rw [m3, if_neg (by omega)]
      · by_cases q2 : c = 12
        · subst q2
          have c3 : 1 ≤ i := c3
          rw [m4, if_neg (by omega)]
        · by_cases q3 : c = 13
          · subst q3
            have c3 : 2 ≤ i := c3
            rw [m5, if_neg (by omega), if_neg (by omega)]
          · by_cases q4 : c = 14
            · subst q4
              have c3 : 1 ≤ i := c3
              rw [m6, if_neg (by omega)]
            · rw [m1 c (by omega) q1 q2 q3 q4]
    refine ⟨r1, D1, r2, D2, e1, e2, e3, h.keep ia (fun c hc => k1 c (by omega)) nw (RF.to.mpr ⟨h.nowF.1.same (fun c c1 c2 => k1 c (by omega)) (fun c c1 c2 => m1 c (by omega) (by omega) (by omega) (by omega) (by omega)), h.nowF.2.1.same (fun c hc => k1 c (by omega)) (fun c hc => m1 c (by omega) (by omega) (by omega) (by omega) (by omega)), ?_⟩)⟩
    unfold RCh
    rw [sm0 (by decide) (by decide), sm0 (by decide) (by decide), sm0 (by decide) (by decide), sm0 (by decide) (by decide), sm0 (by decide) (by decide), m3, m4, m5, m5, m6, if_pos rfl, if_pos rfl, if_neg (by decide), if_pos rfl, if_pos rfl, if_pos rfl]
    exact ⟨k3, k4, k5, k6, k7⟩
  · rw [if_neg hc] at kx km
    obtain ⟨-, rfl⟩ := kx
    have f := km.2.fm
    exact ⟨r1, P.2, r2, D2, e1, e2, e3, h.sameq ia f⟩
theorem jr_fault {a : Int32} (h : IR RF n0 P E) : BR RF n0 P id (fX10_fault a P.2) (fX11_fault a E) := by
  obtain ⟨f1, f2⟩ := h.nowF.2.1.2.1
  rw [sm0 (by decide) (by decide)] at f1 f2
  have f1 : P.2.1 1 5 = E.1 3 0 := f1
  have f2 : P.2.1 1 6 = E.1 4 0 := f2
  refine h.askE (v := if a = 0 then E.1 3 0 else if a = 1 then E.1 4 0 else -1) (fun _ => Pu.fx oX_fault) (fun _ => oM_fault) ?_ ?_
  · unfold fX10_fault
    rw [f1, f2]
    exact Wp.ite (fun q => Wp.ret (by rw [if_pos q])) (fun q => Wp.ite (fun q2 => Wp.ret (by rw [if_neg q, if_pos q2])) (fun q2 => Wp.ret (by rw [if_neg q, if_neg q2])))
  · unfold fX11_fault
    have fo : ∀ c, c ≠ 0 → (aSI E 0 0 0).1 c = E.1 c := fun c hc => si_o hc
    refine Wp.lets (Wp.lets ?_)
    rw [cl_0, fo 3 (by decide), fo 4 (by decide)]
    exact Wp.ite (fun q => Wp.idd (by decide) (Wp.ret (by rw [if_pos q]))) (fun q => Wp.ite (fun q2 => Wp.idd (by decide) (Wp.ret (by rw [if_neg q, if_pos q2]))) (fun q2 => Wp.ret (by rw [if_neg q, if_neg q2])))
theorem jr_fact {a b : Int32} (h : IR RF n0 P E) : BR RF n0 P id (fX10_fact a b P.2) (fX11_fact a b E) :=
  h.askE (fun _ => Pu.fx ⟨_, _, oX_fact, rfl⟩) (fun q => oM_fact q) ⟨_, _, oX_fact, kn_fct h.nowF.1⟩ (bM_fact h.1.2.2.1.qm)
end RFb
end
section
/-! the first states; entry -/
section RFc
variable {n0 : Nat} {P : APD} {E : ADD}
theorem jr_entry {a b : Int32} (h : IR RF n0 P E) : BR RF n0 P id (fX10_entry a b P.2) (fX11_entry a b E) := by
  have q3 : 0 ≤ (P.2.1 2 10).toInt ∧ (P.2.1 2 10).toInt ≤ 400 := h.1.2.1.2.2.2.1
  have n := h.nowF.1
  have a2 : P.2.1 2 10 = E.1 8 0 := n.1.2.1.trans mB8
  refine h.askE (fun _ => Pu.fx oX_entry) (fun q => oM_entry q) ((bX_entry q3.2).mono (fun r _ k => ?_)) (bM_entry h.1.2.2.1.qm)
  rw [k, a2]
  by_cases hc : (0 ≤ a.toInt ∧ a.toInt < (E.1 8 0).toInt) ∧ 0 ≤ b.toInt ∧ b.toInt ≤ 3
  · rw [if_pos hc, if_pos hc]
    have ea := cl_i hc.1.1
    have eb := cl_i hc.2.1
    rw [a2] at q3
    obtain ⟨b1, b2, b3, b4⟩ := n.2.1 a.toNatClampNeg (by omega)
    by_cases h0 : b.toInt = 0
    · rw [if_pos h0, show 4 * a.toNatClampNeg + b.toNatClampNeg = 4 * a.toNatClampNeg by omega]
      exact b1
    · by_cases h1 : b.toInt = 1
      · rw [if_neg h0, if_pos h1, show b.toNatClampNeg = 1 by omega]
        exact b2
      · by_cases h2 : b.toInt = 2
        · rw [if_neg h0, if_neg h1, if_pos h2, show b.toNatClampNeg = 2 by omega]
          exact b3
        · rw [if_neg h0, if_neg h1, if_neg h2, show b.toNatClampNeg = 3 by omega]
          exact b4
  · rw [if_neg hc, if_neg hc]
end RFc
theorem rf_first (n0 n1 : Nat) : RF (slX (xB n0).2 1) (slM (m0 n1).2 0) := by
  refine RF.to.mpr ⟨RBk.to.mp (rb_first n0 n1), ⟨⟨?_, fun j hj => ?_⟩, ⟨?_, ?_⟩, ⟨?_, ?_, fun l hl => ?_⟩, ⟨?_, ?_, fun l hl => ?_⟩⟩, ?_, ?_, ?_, ?_, ?_⟩
  · rw [sm0 (by decide) (by decide), mI]
    show (xB n0).2.1 11 1 = _
    rw [xI]
    decide +kernel
  · show aB ((xB n0).2.1 12 j) = if j < 500 then (if (1 : Nat) = 1 then aB ((m0 n1).2.1 1 (500 * 0 + j)) else _) else 0
    rw [if_pos hj, if_pos rfl, xI, mI, opInt_0 xOps (by decide +kernel), opInt_0 mOps (by decide +kernel)]
  · rw [sm0 (by decide) (by decide), mI]
    show (xB n0).2.1 1 5 = _
    rw [xI]
    decide +kernel
  · rw [sm0 (by decide) (by decide), mI]
    show (xB n0).2.1 1 6 = _
    rw [xI]
    decide +kernel
  · rw [sm0 (by decide) (by decide), mI]
    show (xB n0).2.1 13 0 = _
    rw [xI]
    decide +kernel
  · show 0 ≤ ((xB n0).2.1 13 0).toInt ∧ ((xB n0).2.1 13 0).toInt ≤ 16
    rw [xI]
    decide +kernel
  · have hl : (l : Int) < ((xB n0).2.1 13 0).toInt := hl
    have z : (xB n0).2.1 13 0 = 0 := by rw [xI]; decide +kernel
    rw [z, ti_0] at hl
    omega
  · rw [sm0 (by decide) (by decide), mI]
    show (xB n0).2.1 22 0 = _
    rw [xI]
    decide +kernel
  · show 0 ≤ ((xB n0).2.1 22 0).toInt ∧ ((xB n0).2.1 22 0).toInt ≤ 16
    rw [xI]
    decide +kernel
  · have hl : (l : Int) < ((xB n0).2.1 22 0).toInt := hl
    have z : (xB n0).2.1 22 0 = 0 := by rw [xI]; decide +kernel
    rw [z, ti_0] at hl
    omega
  · rw [sm0 (by decide) (by decide), mI]
    show (xB n0).2.1 31 0 = _
    rw [xI]
    decide +kernel
  · rw [sm0 (by decide) (by decide), mI]
    show (xB n0).2.1 31 1 = _
    rw [xI]
    decide +kernel
  · rw [sm0 (by decide) (by decide), mI]
    show (xB n0).2.1 31 2 = _
    rw [xI]
    decide +kernel
  · rw [sm0 (by decide) (by decide), mI]
    show (xB n0).2.1 31 3 = _
    rw [xI]
    decide +kernel
  · rw [sm0 (by decide) (by decide), mI]
    show (xB n0).2.1 31 4 = _
    rw [xI]
    decide +kernel
end
