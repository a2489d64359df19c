/-! deeds, lines, the whole text: both readers -/
def cD (a1 x1 : Int32) (D1 : ADD) : Option (Int32 × ADD) := (if x1 = (-1 : Int32) then aBind (fX5_refuse D1) (fun x3 D6 => aZ x3 (some (x3, D6))) else aBind (fX5_advance D1) (fun _ D2 => (if (D2.1 33 4) = 0 then (if x1 = (2 : Int32) then aBind (fX6_setDeed 34 a1 x1 (0 : Int32) (0 : Int32) D2) (fun _ D4 => some ((1 : Int32), D4)) else aBind (fX5_readAmounts a1 x1 D2) (fun x2 D5 => aZ x2 (some (x2, D5)))) else aBind (fX6_setDeed 34 a1 x1 (0 : Int32) (0 : Int32) D2) (fun _ D4 => some ((1 : Int32), D4)))))
theorem cD_eq {a1 : Int32} {D : ADD} : fX5_readDeed a1 D = (if (D.1 33 4) = 0 then aBind (fX5_wordIn 6 D) (fun x1 D1 => cD a1 x1 D1) else aBind (fX5_wordIn 5 D) (fun x1 D1 => cD a1 x1 D1)) := rfl
def cLe (x2 : Int32) (D4 : ADD) : Option (Int32 × ADD) := (if x2 = 0 then aZ (0 : Int32) (some ((0 : Int32), D4)) else aBind (fX5_pass (59 : Int32) D4) (fun x4 D7 => (if x4 = 0 then aZ (0 : Int32) (some ((0 : Int32), D7)) else aZ (1 : Int32) (some ((1 : Int32), D7)))))
def cL3 (a1 : Int32) (D3 : ADD) : Option (Int32 × ADD) := aBind (fX5_readDeed a1 D3) (fun x2 D4 => cLe x2 D4)
def cL2 (a1 x5 : Int32) (D8 : ADD) : Option (Int32 × ADD) := if x5 = 0 then some ((0 : Int32), D8) else cL3 a1 D8
theorem cL_eq {a1 : Int32} {D : ADD} : fX5_readLine a1 D = aBind (fX6_clearTests 34 a1 D) (fun _ D1 => aBind (fX5_wordIn 0 D1) (fun x1 D2 => (if x1 = 0 then aBind (fX5_readTests a1 D2) (fun x5 D8 => cL2 a1 x5 D8) else cL3 a1 D2))) := rfl
def mL4 (D9 : ADD) : Option (Int32 × ADD) := aLet (aSI D9 0 32 ((D9.1 0 32) + (1 : Int32))) (fun D10 => aBind (fX11_need (59 : Int32) D10) (fun x4 D11 => aZ x4 (some (x4, D11))))
def mD (a1 x1 x3 : Int32) (D6 : ADD) : Option (Int32 × ADD) := aIn x1 17 (aLet (aSI D6 27 x1.toNatClampNeg x3) (fun D7 => aIn x1 17 ((if (D7.1 27 x1.toNatClampNeg) = (-1 : Int32) then aBind (fX11_wrong D7) (fun x6 D13 => aZ x6 (some (x6, D13))) else aBind (fX11_next D7) (fun _ D8 => (if a1 = 0 then aIn x1 17 ((if (2 : Int32) ≤ (D8.1 27 x1.toNatClampNeg) then mL4 D8 else aBind (fX11_numbers x1 D8) (fun x5 D12 => (if x5 = 0 then some ((0 : Int32), D12) else mL4 D12)))) else mL4 D8))))))
def mL3 (a1 x1 : Int32) (D5 : ADD) : Option (Int32 × ADD) := aBind (fX11_actWord a1 D5) (fun x3 D6 => mD a1 x1 x3 D6)
def mL2 (a1 x1 : Int32) (D14 : ADD) : Option (Int32 × ADD) := aBind (fX11_need (58 : Int32) D14) (fun x7 D15 => (if x7 = 0 then some ((0 : Int32), D15) else mL3 a1 x1 D15))
def mL1 (a1 x1 : Int32) (D2 : ADD) : Option (Int32 × ADD) := aIn x1 17 (aLet (aSI D2 23 x1.toNatClampNeg (0 : Int32)) (fun D3 => aBind (fX11_isWord (26982 : Int64) D3) (fun x2 D4 => (if x2 = 0 then mL3 a1 x1 D4 else aFix aFuel (lX11_oneLine_59 a1 x1 (mL2 a1 x1)) (fun _ _ _ => none) (1 : Int32) (0 : Int32) D4))))
def mL0 (a1 x1 : Int32) (D1 : ADD) : Option (Int32 × ADD) := (if (D1.1 0 32) = (16 : Int32) then aBind (fX11_later (3 : Int32) (D1.1 0 25) D1) (fun _ D20 => mL1 a1 x1 D20) else mL1 a1 x1 D1)
theorem aLet_nr {α β : Type} {x : α} {G : α → Option β} : aLet x G = G x := (Eq.refl (G x)).trans (Eq.refl (G x))
theorem mL_eq {a1 : Int32} {D : ADD} : fX11_oneLine a1 D = (if (16 : Int32) ≤ (D.1 0 32) then mL0 a1 (16 : Int32) D else mL0 a1 (D.1 0 32) D) := by
  unfold fX11_oneLine mL0 mL1
  simp only [aLet_nr]
  have e3 : ∀ x1 : Int32, mL3 a1 x1 = fun D5 => aBind (fX11_actWord a1 D5) (fun x3 D6 => aIn x1 17 ((aIn x1 17 ((if ((aSI D6 27 x1.toNatClampNeg x3).1 27 x1.toNatClampNeg) = (-1 : Int32) then aBind (fX11_wrong (aSI D6 27 x1.toNatClampNeg x3)) (fun x6 D13 => aZ x6 (some (x6, D13))) else aBind (fX11_next (aSI D6 27 x1.toNatClampNeg x3)) (fun _ D8 => (if a1 = 0 then aIn x1 17 ((if (2 : Int32) ≤ (D8.1 27 x1.toNatClampNeg) then aBind (fX11_need (59 : Int32) (aSI D8 0 32 ((D8.1 0 32) + (1 : Int32)))) (fun x4 D11 => aZ x4 (some (x4, D11))) else aBind (fX11_numbers x1 D8) (fun x5 D12 => (if x5 = 0 then some ((0 : Int32), D12) else aBind (fX11_need (59 : Int32) (aSI D12 0 32 ((D12.1 0 32) + (1 : Int32)))) (fun x4 D11 => aZ x4 (some (x4, D11))))))) else aBind (fX11_need (59 : Int32) (aSI D8 0 32 ((D8.1 0 32) + (1 : Int32)))) (fun x4 D11 => aZ x4 (some (x4, D11)))))))))) := fun x1 => by
    funext D5
    unfold mL3 mD mL4
    simp only [aLet_nr]
  have e2 : ∀ x1 : Int32, mL2 a1 x1 = fun D14 => aBind (fX11_need (58 : Int32) D14) (fun x7 D15 => (if x7 = 0 then some ((0 : Int32), D15) else mL3 a1 x1 D15)) := fun x1 => rfl
  simp only [e2, e3]
theorem aLet_eq {α β : Type} {x : α} {G : α → Option β} : aLet x G = G x := rfl
section SRs
variable {D0 E0 D D1 E E1 : ADD} {B : Nat → Int32} {n L s e m : Nat} {k p : Int32} {T : Int32 → ADD → Option (Int32 × ADD) → Prop}
theorem Wp.toT {α β : Type} {f : Option (α × ADD)} {g : Option (β × ADD)} {S : α → ADD → β → ADD → Prop} {T : α → ADD → Option (β × ADD) → Prop} (h : Wp f (fun x D => Wp g (fun y E => S x D y E))) (k : ∀ x D y E, S x D y E → T x D (some (y, E))) : Wp f (fun x D => T x D g) := by
  obtain ⟨x, D, e1, y, E, e2, r⟩ := h
  refine ⟨x, D, e1, ?_⟩
  rw [e2]
  exact k x D y E r
/-- the line that is read stands -/
def LnK (p : Int32) (L : Nat) (D E : ADD) : Prop := L < 16 → (∃ m, LnT p D E L m) ∧ LnD p D E L
theorem sim_deed (t : TB B n) (hp : p = 0 ∨ p = 1) (hL : L ≤ 500) (h : PS B n p D0 E0 L D E s e k) (hm : ∃ m, CT p L D E m) (Kf : ∀ D' E', PF D0 E0 D' E' → T 0 D' (some (0, E'))) (Ks : ∀ D' E' s' e' k', PS B n p D0 E0 L D' E' s' e' k' → LnK p L D' E' → s < s' → T 1 D' (mL4 E')) : Wp (fX5_readDeed (nI L) D) (fun x D1 => T x D1 (mL3 p (nI (min L 16)) E)) := by
  have iL : vp_in (nI (min L 16)) 17 := vp_in_nI (by omega) (by omega)
  have cL : (nI (min L 16)).toNatClampNeg = min L 16 := nI_clamp (by omega)
  obtain ⟨m, hm⟩ := hm
  have l16e : L < 16 → min L 16 = L := fun q => by omega
  have main : ∀ X : Int32, (X = -1 ∨ (k = 1 ∧ ∃ kk : Nat, kk < 4 ∧ (p = 0 → kk < 3) ∧ X = nI kk)) → Wp (cD (nI L) X D) (fun x D1 => T x D1 (mD p (nI (min L 16)) X E)) := by
    intro X hX
    unfold cD mD
    rw [cL, aIn_ok iL, aLet_eq, aIn_ok iL]
    have pa : PS B n p D0 E0 L D (aSI E 27 (min L 16) X) s e k := h.wm (c := 27) (by decide)
    have a27 : (aSI E 27 (min L 16) X).1 27 (min L 16) = X := by rw [si_s, if_pos rfl]
    have fa : ∀ c, c ≠ 27 → (aSI E 27 (min L 16) X).1 c = E.1 c := fun c hc => si_o hc
    rw [a27]
    generalize aSI E 27 (min L 16) X = Ea at pa a27 fa ⊢
    by_cases x1 : X = -1
    · refine Wp.pos x1 ?_
      rw [if_pos x1]
      refine Wp.toT (sim_no pa) (fun x D y E r => ?_)
      obtain ⟨rfl, rfl, r⟩ := r
      exact Kf _ _ r
    obtain ⟨hk, kk, k4, k3, ex⟩ := hX.resolve_left x1
    have vk : (nI kk).toInt = (kk : Int) := nI_toInt (by omega)
    have se := h.1.2.2.1.ne (by rw [hk]; decide)
    refine Wp.neg x1 ?_
    rw [if_neg x1]
    refine Wp.twoT (sim_next t pa) (fun _ D2 _ E2 q => ?_)
    obtain ⟨s2, e2, k2, h2, le2, fr, fn⟩ := q
    have m2 : CT p L D2 E2 m := hm.wx (fun c hc => fr.1 c (by omega)) (fun c c1 c2 => by rw [fn.1 c (by omega), fa c (by omega)])
    have e27 : E2.1 27 (min L 16) = X := by rw [fn.1 27 (by decide)]; exact a27
    -- without amounts
    have plain : (p = 0 → kk = 2) → Wp (aBind (fX6_setDeed 34 (nI L) X (0 : Int32) (0 : Int32) D2) (fun _ D4 => some ((1 : Int32), D4))) (fun x D1 => T x D1 (mL4 E2)) := by
      intro hpk
      refine Wp.bind (bX_setDeed hL h2) (fun _ D3 q3 => Wp.ret (Ks D3 E2 s2 e2 k2 q3.2 (fun l16 => ?_) (by omega)))
      obtain ⟨w1, w2, w3⟩ := q3.1.2.2 l16
      have c3 : CT p L D3 E2 m := m2.wx (fun c hc => q3.1.1 c (by omega)) (fun _ _ _ => rfl)
      refine ⟨⟨_, c3 l16⟩, ?_⟩
      rw [l16e l16] at e27
      unfold LnD
      rw [w1, e27, ex, vk]
      refine ⟨rfl, by omega, fun hp0 => ⟨by have := k3 hp0; omega, fun q => ?_⟩⟩
      have := hpk hp0
      omega
    rw [h2.2.2.2.1.1]
    have v2 : (2 : Int32).toInt = 2 := by decide
    by_cases hp0 : p = 0
    · refine Wp.pos hp0 ?_
      rw [if_pos hp0, aIn_ok iL, e27]
      by_cases hk2 : kk = 2
      · have ex2 : X = 2 := by rw [ex, hk2]; rfl
        have z : (2 : Int32) ≤ X := by rw [ex2]; decide
        rw [if_pos z]
        exact Wp.pos ex2 (plain (fun _ => hk2))
      · have nx : ¬ X = 2 := fun q => by
          have : X.toInt = 2 := by rw [q]; decide
          rw [ex, vk] at this
          omega
        have z : ¬ (2 : Int32) ≤ X := fun q => by
          have := Int32.le_iff_toInt_le.mp q
          rw [ex, vk, v2] at this
          have := k3 hp0
          omega
        rw [if_neg z]
        refine Wp.neg nx (Wp.twoT (sim_amounts t hL h2) (fun x D5 y E5 r => ?_))
        rcases r with ⟨rfl, rfl, r⟩ | ⟨rfl, rfl, s5, e5, k5, h5, lt5, ⟨f5, g5⟩, a5⟩
        · refine Wp.z (Or.inl rfl) (Wp.ret ?_)
          rw [if_pos rfl]
          exact Kf _ _ r
        · refine Wp.z (Or.inr rfl) (Wp.ret ?_)
          rw [if_neg (show ¬ ((1 : Int32) = 0) by decide)]
          refine Ks D5 E5 s5 e5 k5 h5 (fun l16 => ?_) (by omega)
          obtain ⟨b1, b2, b3, b4, b5⟩ := a5 l16
          have c5 : CT p L D5 E5 m := m2.wx f5 (fun c c1 c2 => g5 c c1 (by omega))
          refine ⟨⟨_, c5 l16⟩, ?_⟩
          rw [l16e l16] at e27
          unfold LnD
          rw [b1, g5 27 (by decide) (by decide), e27, ex, vk]
          exact ⟨rfl, by omega, fun _ => ⟨by have := k3 hp0; omega, fun _ => ⟨b2, b3, b4, b5⟩⟩⟩
    · refine Wp.neg hp0 ?_
      rw [if_neg hp0]
      exact plain (fun q => absurd q hp0)
  have rng : ∀ si q, (wds si).length ≤ q → q ≤ 4 → (p = 0 → q ≤ 3) → ((if k = 1 then wcF B s e (wds si) 0 else -1) = -1 ∨ (k = 1 ∧ ∃ kk : Nat, kk < 4 ∧ (p = 0 → kk < 3) ∧ (if k = 1 then wcF B s e (wds si) 0 else -1) = nI kk)) := fun si q hl hq h0 => by
    by_cases hk : k = 1
    · rw [if_pos hk]
      rcases wcF_rng (B := B) (s := s) (e := e) (wds si) 0 with q1 | ⟨j, q1, q2⟩
      · exact Or.inl q1
      · exact Or.inr ⟨hk, j, by omega, fun z => by have := h0 z; omega, by rw [q2, Nat.zero_add]⟩
    · rw [if_neg hk]
      exact Or.inl rfl
  rw [cD_eq, h.2.2.2.1.1]
  unfold mL3
  rcases hp with rfl | rfl
  · exact Wp.pos rfl (Wp.bindE (eX_wordIn (by decide) t h.1) (Wp.rrT (eM_act0 t h.2.1) (main _ (rng 6 3 (by decide) (by decide) (fun _ => by decide)))))
  · exact Wp.neg (by decide) (Wp.bindE (eX_wordIn (by decide) t h.1) (Wp.rrT (eM_act1 t h.2.1) (main _ (rng 5 4 (by decide) (by decide) (fun q => absurd q (by decide))))))
/-- a line more -/
theorem PS.line (h : PS B n p D0 E0 L D E s e k) (hk : LnK p L D E) : PS B n p D0 E0 (L + 1) D (aSI E 0 32 (E.1 0 32 + 1)) s e k := by
  obtain ⟨h1, h2, h3, h4, h5, h6⟩ := h
  have o : ∀ d, d ≠ 0 → (aSI E 0 32 (E.1 0 32 + 1)).1 d = E.1 d := fun d hd => si_o hd
  have r : ∀ j, j ≠ 32 → (aSI E 0 32 (E.1 0 32 + 1)).1 0 j = E.1 0 j := fun j hj => by rw [si_s, if_neg hj]
  have r32 : (aSI E 0 32 (E.1 0 32 + 1)).1 0 32 = nI (L + 1) := by rw [si_s, if_pos rfl, h4.2, nI_succ]
  have l2 : (aSI E 0 32 (E.1 0 32 + 1)).2 = E.2 := rfl
  generalize aSI E 0 32 (E.1 0 32 + 1) = E1 at o r r32 l2 ⊢
  refine ⟨h1, ?_, ?_, ⟨h4.1, r32⟩, ⟨h5.1, fun d hd => by rw [o d (by omega)]; exact h5.2.1 d hd, h5.2.2⟩, fun l hl h16 => ?_⟩
  · unfold TkM TpM Ctn
    rw [r 24 (by decide), r 25 (by decide), r 23 (by decide), r 26 (by decide), r 27 (by decide), o 1 (by decide), l2]
    exact h2
  · unfold Flt
    rw [r 30 (by decide), r 31 (by decide)]
    exact h3
  · have q : (∃ m, LnT p D E l m) ∧ LnD p D E l := by
      by_cases e : l = L
      · rw [e]
        exact hk (by omega)
      · exact h6 l (by omega) h16
    obtain ⟨⟨m', q1⟩, q2⟩ := q
    exact ⟨⟨m', q1.fr (fun _ _ => rfl) o⟩, q2.fr (fun _ _ => rfl) o id⟩
def LnP (B : Nat → Int32) (n : Nat) (p : Int32) (D0 E0 : ADD) (L s : Nat) (x : Int32) (D1 : ADD) (y : Int32) (E1 : ADD) : Prop := (x = 0 ∧ y = 0 ∧ PF D0 E0 D1 E1) ∨ (x = 1 ∧ y = 1 ∧ ∃ s1 e1 k1, PS B n p D0 E0 (L + 1) D1 E1 s1 e1 k1 ∧ s < s1)
theorem sim_rest (t : TB B n) (hp : p = 0 ∨ p = 1) (hL : L ≤ 500) (h : PS B n p D0 E0 L D E s e k) (hm : ∃ m, CT p L D E m) : Wp (cL3 (nI L) D) (fun x D1 => Wp (mL3 p (nI (min L 16)) E) (fun y E1 => LnP B n p D0 E0 L s x D1 y E1)) := by
  unfold cL3
  refine Wp.bind (P := fun x D1 => Wp (cLe x D1) (fun x2 D2 => Wp (mL3 p (nI (min L 16)) E) (fun y E1 => LnP B n p D0 E0 L s x2 D2 y E1))) ?_ (fun x D1 q => q)
  refine sim_deed (T := fun x D1 g => Wp (cLe x D1) (fun x2 D2 => Wp g (fun y E1 => LnP B n p D0 E0 L s x2 D2 y E1))) t hp hL h hm (fun D' E' r => ?_) (fun D' E' s' e' k' h' lk lt => ?_)
  · show Wp (cLe 0 D') _
    unfold cLe
    exact Wp.pos rfl (Wp.z (Or.inl rfl) (Wp.ret (Wp.ret (Or.inl ⟨rfl, rfl, r⟩))))
  · show Wp (cLe 1 D') (fun x2 D2 => Wp (mL4 E') _)
    unfold cLe mL4
    refine Wp.neg (by decide) (Wp.flip (Wp.lets (Wp.flip (Wp.two (sim_need t (h'.line lk)) (fun x D2 y E2 r => ?_)))))
    rcases r with ⟨rfl, rfl, r⟩ | ⟨rfl, rfl, s2, e2, k2, h2, lt2, -⟩
    · exact Wp.pos rfl (Wp.z (Or.inl rfl) (Wp.ret (Wp.z (Or.inl rfl) (Wp.ret (Or.inl ⟨rfl, rfl, r⟩)))))
    · exact Wp.neg (by decide) (Wp.z (Or.inr rfl) (Wp.ret (Wp.z (Or.inr rfl) (Wp.ret (Or.inr ⟨rfl, rfl, s2, e2, k2, h2, by omega⟩)))))
theorem PS.w38 {v : Int32} (h : PS B n p D0 E0 L D E s e k) : PS B n p D0 E0 L (aSI D 38 L v) E s e k := by
  obtain ⟨h1, h2, h3, h4, h5, h6⟩ := h
  have o : ∀ d, d ≠ 38 → (aSI D 38 L v).1 d = D.1 d := fun d hd => si_o hd
  have r : ∀ j, j ≠ L → (aSI D 38 L v).1 38 j = D.1 38 j := fun j hj => by rw [si_s, if_neg hj]
  generalize aSI D 38 L v = D1 at o r ⊢
  refine ⟨?_, h2, ?_, ⟨by rw [o 33 (by omega)]; exact h4.1, h4.2⟩, ⟨fun d hd => by rw [o d (by omega)]; exact h5.1 d hd, h5.2.1, by rw [o 33 (by omega)]; exact h5.2.2⟩, fun l hl h16 => ?_⟩
  · unfold TkX TpX
    rw [o 33 (by omega), o 11 (by omega), o 12 (by omega)]
    exact h1
  · unfold Flt
    rw [o 33 (by omega)]
    exact h3
  · obtain ⟨⟨m', ⟨q1, q2, q3⟩, q4⟩, q5⟩ := h6 l hl h16
    refine ⟨⟨m', ⟨by rw [r l (by omega)]; exact q1, q2, q3⟩, fun t ht => ?_⟩, ?_⟩
    · have := q4 t ht
      unfold TsR at this ⊢
      rw [o 39 (by omega), o 40 (by omega), o 41 (by omega), o 42 (by omega)]
      exact this
    · unfold LnD
      rw [o 35 (by omega), o 36 (by omega), o 37 (by omega), o 33 (by omega)]
      exact q5
theorem PS.w23 {v : Int32} (h : PS B n p D0 E0 L D E s e k) : PS B n p D0 E0 L D (aSI E 23 (min L 16) v) s e k := by
  obtain ⟨h1, h2, h3, h4, h5, h6⟩ := h
  have o : ∀ d, d ≠ 23 → (aSI E 23 (min L 16) v).1 d = E.1 d := fun d hd => si_o hd
  have r : ∀ j, j ≠ min L 16 → (aSI E 23 (min L 16) v).1 23 j = E.1 23 j := fun j hj => by rw [si_s, if_neg hj]
  have l2 : (aSI E 23 (min L 16) v).2 = E.2 := rfl
  generalize aSI E 23 (min L 16) v = E1 at o r l2 ⊢
  refine ⟨h1, ?_, ?_, ⟨h4.1, by rw [o 0 (by omega)]; exact h4.2⟩, ⟨h5.1, fun d hd => by rw [o d (by omega)]; exact h5.2.1 d hd, h5.2.2⟩, fun l hl h16 => ?_⟩
  · unfold TkM TpM Ctn
    rw [o 0 (by omega), o 1 (by omega), l2]
    exact h2
  · unfold Flt
    rw [o 0 (by omega)]
    exact h3
  · obtain ⟨⟨m', ⟨q1, q2, q3⟩, q4⟩, q5⟩ := h6 l hl h16
    refine ⟨⟨m', ⟨q1, by rw [r l (by omega)]; exact q2, q3⟩, fun t ht => ?_⟩, ?_⟩
    · have := q4 t ht
      unfold TsR at this ⊢
      rw [o 24 (by omega), o 25 (by omega), o 26 (by omega)]
      exact this
    · unfold LnD
      rw [o 27 (by omega), o 28 (by omega), o 29 (by omega)]
      exact q5
theorem sim_line (t : TB B n) (hp : p = 0 ∨ p = 1) (hL : L ≤ 500) (h : PS B n p D0 E0 L D E s e k) : Wp (fX5_readLine (nI L) D) (fun x D1 => Wp (mL1 p (nI (min L 16)) E) (fun y E1 => LnP B n p D0 E0 L s x D1 y E1)) := by
  have iL : vp_in (nI (min L 16)) 17 := vp_in_nI (by omega) (by omega)
  have cL : (nI (min L 16)).toNatClampNeg = min L 16 := nI_clamp (by omega)
  have vL : (nI L).toInt = (L : Int) := nI_toInt (by omega)
  have cLq : (nI L).toNatClampNeg = L := nI_clamp (by omega)
  rw [cL_eq]
  unfold mL1
  rw [cL]
  refine Wp.flip (Wp.idx iL (Wp.leti (fun Ea ea => Wp.flip ?_)))
  have pa : PS B n p D0 E0 L D Ea s e k := by rw [ea]; exact h.w23
  have a23 : Ea.1 23 (min L 16) = 0 := by rw [ea, si_s, if_pos rfl]
  clear ea
  have cl : Wp (fX6_clearTests 34 (nI L) D) (fun _ D1 => PS B n p D0 E0 L D1 Ea s e k ∧ CT p L D1 Ea 0) := by
    unfold fX6_clearTests
    refine Wp.bindE (eX_hasLine _ _) (Wp.lets ?_)
    rw [vL, cLq]
    by_cases hl : 0 ≤ (L : Int) ∧ (L : Int) < 16
    · rw [if_pos hl]
      refine Wp.neg (by decide) (Wp.idx (i_in (by omega) (by omega)) (Wp.lets (Wp.ret ⟨pa.w38, fun l16 => ⟨⟨?_, ?_, by decide⟩, fun t ht => absurd ht (by show ¬ t < min 0 4; omega)⟩⟩)))
      · show (aSI D 38 L 0).1 38 L = _
        rw [si_s, if_pos rfl]
        rfl
      · rw [show min L 16 = L by omega] at a23
        rw [a23]
        rfl
    · rw [if_neg hl]
      exact Wp.pos rfl (Wp.ret ⟨pa, fun l16 => by omega⟩)
  refine Wp.bind cl (fun _ D1 q1 => ?_)
  obtain ⟨h1, c1⟩ := q1
  refine Wp.bindE (eX_wordIn (by decide) t h1.1) (Wp.rr (eM_isWord wk_if t h1.2.1) ?_)
  by_cases hif : k = 1 ∧ wM B s e [105, 102]
  · rw [if_pos hif]
    refine Wp.pos (by rw [if_pos hif.1]; exact one_if.mpr hif.2) (Wp.rneg (by decide) ?_)
    refine Wp.bind (P := fun x D2 => Wp (cL2 (nI L) x D2) (fun x2 D3 => Wp (aFix aFuel (lX11_oneLine_59 p (nI (min L 16)) (mL2 p (nI (min L 16)))) (fun _ _ _ => none) 1 0 Ea) (fun y E1 => LnP B n p D0 E0 L s x2 D3 y E1))) ?_ (fun x D1 q => q)
    unfold fX5_readTests
    refine Wp.lets (Wp.lets ?_)
    have N : ∀ D' E', PF D0 E0 D' E' → Wp (cL2 (nI L) 0 D') (fun x2 D3 => Wp (some ((0 : Int32), E')) (fun y E1 => LnP B n p D0 E0 L s x2 D3 y E1)) := fun D' E' r => by
      unfold cL2
      exact Wp.pos rfl (Wp.ret (Wp.ret (Or.inl ⟨rfl, rfl, r⟩)))
    refine sim_tests (T := fun x D1 g => Wp (cL2 (nI L) x D1) (fun x2 D2 => Wp g (fun y E1 => LnP B n p D0 E0 L s x2 D2 y E1))) t hp hL (s0 := s) (fun D' E' s' e' k' h' m' lt => ?_) N aFuel 0 aFuel D1 Ea s e k (by decide) (by decide) h1 (by rw [hif.1]; decide) c1 (Nat.zero_le _) (Nat.le_refl _)
    unfold mL2
    refine Wp.twoT (T := fun x D1 g => Wp (cL2 (nI L) x D1) (fun x2 D2 => Wp g (fun y E1 => LnP B n p D0 E0 L s x2 D2 y E1))) (sim_need t h') (fun x D2 y E2 r => ?_)
    rcases r with ⟨rfl, rfl, r⟩ | ⟨rfl, rfl, s2, e2, k2, h2, lt2, fr, fn⟩
    · refine Wp.z (Or.inl rfl) (Wp.ret ?_)
      rw [if_pos rfl]
      exact N _ _ r
    · refine Wp.z (Or.inr rfl) (Wp.ret ?_)
      rw [if_neg (show ¬ ((1 : Int32) = 0) by decide)]
      show Wp (cL2 (nI L) 1 D2) _
      unfold cL2
      obtain ⟨m', c'⟩ := m'
      refine Wp.neg (by decide) ((sim_rest t hp hL h2 ⟨m', c'.fr fr.1 fn.1⟩).mono2 (fun x D y E r => ?_))
      rcases r with r | ⟨r1, r2, s1, e1, k1, r3, r4⟩
      · exact Or.inl r
      · exact Or.inr ⟨r1, r2, s1, e1, k1, r3, by omega⟩
  · rw [if_neg hif]
    refine Wp.neg (fun q => hif ?_) (Wp.rpos rfl (sim_rest t hp hL h1 ⟨0, c1⟩))
    by_cases hk : k = 1
    · rw [if_pos hk] at q
      exact ⟨hk, one_if.mp q⟩
    · rw [if_neg hk] at q
      exact absurd q (by decide)
theorem PS.base (h : PS B n p D0 E0 L D E s e k) : PS B n p D E0 L D E s e k :=
  ⟨h.1, h.2.1, h.2.2.1, h.2.2.2.1, ⟨fun _ _ => rfl, h.2.2.2.2.1.2.1, id⟩, h.2.2.2.2.2⟩
theorem Frm.back {E2 : ADD} (h : Frm D0 E0 D E2) (k : Frm D E0 D1 E1) : Frm D0 E0 D1 E1 := ⟨fun c hc => (k.1 c hc).trans (h.1 c hc), k.2.1, fun q => k.2.2 (h.2.2 q)⟩
theorem PS.back {E2 : ADD} (h : PS B n p D E0 L D1 E1 s e k) (f : Frm D0 E0 D E2) : PS B n p D0 E0 L D1 E1 s e k :=
  ⟨h.1, h.2.1, h.2.2.1, h.2.2.2.1, f.back h.2.2.2.2.1, h.2.2.2.2.2⟩
/-- all lines -/
theorem sim_read (t : TB B n) (hp : p = 0 ∨ p = 1) {j79 : Int32 → ADD → Option (Int32 × ADD)} {j82 : Int32 → ADD → Option (Int32 × ADD)} {zc zr : Int32 → ADD → Option (Int32 × ADD)}
    (K : ∀ L D' E' s' e', L ≤ 500 → PS B n p D0 E0 L D' E' s' e' 0 → (16 < L → D'.1 33 1 ≠ 0) → Wp (j79 (nI L) D') (fun x D1 => T x D1 (j82 1 E'))) (N : ∀ D' E', PF D0 E0 D' E' → T 0 D' (j82 0 E')) :
    ∀ (nf L mr : Nat) (D E : ADD) (s e : Nat) (k : Int32), 502 ≤ nf + L → 503 ≤ mr + L → PS B n p D0 E0 L D E s e k → L ≤ s → (16 < L → D.1 33 1 ≠ 0) → Wp (aFix nf (lX5_read_34 j79) zc (nI L) D) (fun x D1 => T x D1 (aFix mr (lX11_text_62 p j82) zr 1 E)) := by
  intro nf
  induction nf with
  | zero =>
    intro L mr D E s e k h1 h2 h hs
    have := h.1.2.2.2
    have := t.1
    omega
  | succ nf ih =>
    intro L mr D E s e k h1 h2 h hs h17
    have en := h.1.2.2.2
    have t1 := t.1
    match mr, h2 with
    | 0, h2 => omega
    | mr + 1, h2 =>
      show Wp (lX5_read_34 j79 (aFix nf (lX5_read_34 j79) zc) (nI L) D) (fun x D1 => T x D1 (lX11_text_62 p j82 (aFix mr (lX11_text_62 p j82) zr) 1 E))
      unfold lX5_read_34 lX11_text_62
      rw [if_neg (show ¬ ((1 : Int32) = 0) by decide), h.1.2.1.2.2, h.2.1.2.1.2.2]
      by_cases hk : k = 0
      · refine Wp.pos hk ?_
        rw [if_pos (srt_e.mpr hk)]
        subst hk
        exact K L D E s e (by omega) h h17
      · refine Wp.neg hk ?_
        rw [if_neg (fun q => hk (srt_e.mp q))]
        have se := h.1.2.2.1.ne hk
        have v5 : (500 : Int32).toInt = 500 := by decide
        have vL : (nI L).toInt = (L : Int) := nI_toInt (by omega)
        refine Wp.ile (fun q => absurd q (by omega)) (fun _ => ?_)
        -- one line
        have tail : ∀ D5 E5, PS B n p D0 E0 L D5 E5 s e k → (16 ≤ L → D5.1 33 1 ≠ 0) → Wp (aBind (fX5_readLine (nI L) D5) (fun x4 D12 => if x4 = 0 then some ((0 : Int32), D12) else aLet (nI L + 1) (fun x5 => aFix nf (lX5_read_34 j79) zc x5 D12))) (fun x D1 => T x D1 (aBind (mL1 p (nI (min L 16)) E5) (fun x11 D32 => aFix mr (lX11_text_62 p j82) zr x11 D32))) := by
          intro D5 E5 h5 f5
          refine Wp.twoT (sim_line t hp (by omega) h5.base) (fun x D6 y E6 r => ?_)
          rcases r with ⟨rfl, rfl, r⟩ | ⟨rfl, rfl, s6, e6, k6, h6, lt6⟩
          · refine Wp.pos rfl (Wp.ret ?_)
            have z : aFix mr (lX11_text_62 p j82) zr 0 E6 = j82 0 E6 := by
              match mr, h2 with
              | 0, h2 => omega
              | mr + 1, _ =>
                show lX11_text_62 p j82 _ 0 E6 = _
                unfold lX11_text_62
                rw [if_pos rfl]
            rw [z]
            exact N _ _ ⟨r.1, h5.2.2.2.2.1.back r.2⟩
          · refine Wp.neg (by decide) (Wp.lets ?_)
            rw [← nI_succ]
            exact ih (L + 1) mr D6 E6 s6 e6 k6 (by omega) (by omega) (h6.back h5.2.2.2.2.1) (by omega) (fun q => h6.2.2.2.2.1.2.2 (f5 (by omega)))
        have m0 : fX11_oneLine p E = mL0 p (nI (min L 16)) E := by
          rw [mL_eq, h.2.2.2.1.2]
          have v16 : (16 : Int32).toInt = 16 := by decide
          by_cases q : 16 ≤ L
          · have z : (16 : Int32) ≤ nI L := Int32.le_iff_toInt_le.mpr (by omega)
            rw [if_pos z, show min L 16 = 16 by omega]
            rfl
          · have z : ¬ (16 : Int32) ≤ nI L := fun y => by have := Int32.le_iff_toInt_le.mp y; omega
            rw [if_neg z, show min L 16 = L by omega]
        have q16 : (nI L = (16 : Int32)) ↔ L = 16 := by
          have : nI L = nI 16 ↔ L = 16 := nI_eq (by omega) (by omega)
          exact this
        rw [m0]
        unfold mL0
        rw [h.2.2.2.1.2]
        by_cases h16 : L = 16
        · rw [if_pos (q16.mpr h16), aBind_as]
          refine Wp.lets (Wp.pos (q16.mpr h16) (Wp.twoT (sim_mark (by decide) h) (fun _ D5 _ E5 q5 => ?_)))
          exact tail D5 E5 q5.1 (fun _ => q5.2.2.2)
        · rw [if_neg (fun q => h16 (q16.mp q))]
          exact Wp.lets (Wp.neg (fun q => h16 (q16.mp q)) (tail D E h (fun q => h17 (by omega))))
end SRs
