/-! the tests of a line, its amounts, its end: both readers -/
theorem aBind_as {α β γ : Type} {f : Option (α × ADD)} {F : α → ADD → Option (β × ADD)} {G : β → ADD → Option (γ × ADD)} : aBind (aBind f F) G = aBind f (fun x D => aBind (F x D) G) := by
  cases f with
  | none => rfl
  | some q => rfl
section SLs
variable {D0 E0 D D1 E E1 : ADD} {B : Nat → Int32} {n L s e m : Nat} {k p : Int32} {T : Int32 → ADD → Option (Int32 × ADD) → Prop}
theorem Wp.twoT {α β γ δ : Type} {f : Option (α × ADD)} {g : Option (β × ADD)} {F : α → ADD → Option (γ × ADD)} {G : β → ADD → Option (δ × ADD)} {S : α → ADD → β → ADD → Prop} {T : γ → ADD → Option (δ × ADD) → Prop} (h : Wp f (fun x D => Wp g (fun y E => S x D y E))) (k : ∀ x D y E, S x D y E → Wp (F x D) (fun x2 D2 => T x2 D2 (G y E))) : Wp (aBind f F) (fun x D => T x D (aBind g G)) := by
  obtain ⟨x, D, e1, y, E, e2, r⟩ := h
  rw [e1, e2]
  exact k x D y E r
theorem Wp.rrT {α β γ : Type} {f : Option (α × ADD)} {g : Option (β × ADD)} {G : β → ADD → Option (γ × ADD)} {T : α → ADD → Option (γ × ADD) → Prop} {y : β} {E : ADD} (h : g = some (y, E)) (k : Wp f (fun x D => T x D (G y E))) : Wp f (fun x D => T x D (aBind g G)) := by
  rw [h]
  exact k
theorem sim_need {c : Int32} (t : TB B n) (h : PS B n p D0 E0 L D E s e k) : Wp (fX5_pass c D) (fun x D1 => Wp (fX11_need c E) (fun y E1 => (x = 0 ∧ y = 0 ∧ PF D0 E0 D1 E1) ∨ (x = 1 ∧ y = 1 ∧ ∃ s1 e1 k1, PS B n p D0 E0 L D1 E1 s1 e1 k1 ∧ s < s1 ∧ FR D D1 ∧ FN E E1))) := by
  unfold fX5_pass fX11_need
  refine Wp.bindE (eX_isSign t h.1) (Wp.rr (eM_isSign h.2.1) ?_)
  by_cases hc : k = 3 ∧ B s = c
  · rw [if_pos hc]
    refine Wp.neg (by decide) (Wp.rneg (by decide) (Wp.two (sim_next t h) (fun _ D2 _ E2 q => Wp.ret (Wp.ret ?_))))
    obtain ⟨s2, e2, k2, h2, le2, fr, fn⟩ := q
    have := h.1.2.2.1.ne (by rw [hc.1]; decide)
    exact Or.inr ⟨rfl, rfl, s2, e2, k2, h2, by omega, fr, fn⟩
  · rw [if_neg hc]
    exact Wp.pos rfl (Wp.rpos rfl ((sim_no h).mono2 (fun x D y E r => Or.inl r)))
theorem sim_tests (t : TB B n) (hp : p = 0 ∨ p = 1) (hL : L ≤ 500) {j49 j94 : ADD → Option (Int32 × ADD)} {zc : Int32 → ADD → Option (Int32 × ADD)} {zr : Int32 → Int32 → ADD → Option (Int32 × ADD)} {s0 : Nat}
    (K : ∀ D' E' s' e' k', PS B n p D0 E0 L D' E' s' e' k' → (∃ m', CT p L D' E' m') → s0 < s' → Wp (j49 D') (fun x D1 => T x D1 (j94 E'))) (N : ∀ D' E', PF D0 E0 D' E' → T 0 D' (some (0, E'))) :
    ∀ (nf m mr : Nat) (D E : ADD) (s e : Nat) (k : Int32), 502 ≤ nf + m → 502 ≤ mr + m → PS B n p D0 E0 L D E s e k → k ≠ 0 → CT p L D E m → m ≤ s → s0 ≤ s → Wp (aFix nf (lX5_readTests_2 (nI L) j49) zc (nI m) D) (fun x D1 => T x D1 (aFix mr (lX11_oneLine_59 p (nI (min L 16)) j94) zr 1 (nI m) E)) := by
  intro nf
  induction nf with
  | zero =>
    intro m mr D E s e k h1 h2 h hk hm hs
    have := h.1.2.2.2
    have := t.1
    omega
  | succ nf ih =>
    intro m mr D E s e k h1 h2 h hk hm hs hs0
    have se := h.1.2.2.1.ne hk
    have en := h.1.2.2.2.2
    have t1 := t.1
    match mr, h2 with
    | 0, h2 => omega
    | mr + 1, h2 =>
      show Wp (lX5_readTests_2 (nI L) j49 (aFix nf (lX5_readTests_2 (nI L) j49) zc) (nI m) D) (fun x D1 => T x D1 (lX11_oneLine_59 p (nI (min L 16)) j94 (aFix mr (lX11_oneLine_59 p (nI (min L 16)) j94) zr) 1 (nI m) E))
      unfold lX5_readTests_2 lX11_oneLine_59
      rw [if_neg (show ¬ ((1 : Int32) = 0) by decide)]
      refine Wp.twoT (sim_next t h) (fun _ D4 _ E4 q => ?_)
      obtain ⟨s4, e4, k4, h4, le4, fr, fn⟩ := q
      have m4 : CT p L D4 E4 m := hm.fr fr.1 fn.1
      -- a test and what comes behind it
      have tail : ∀ D5 E5, PS B n p D0 E0 L D5 E5 s4 e4 k4 → CT p L D5 E5 m → Wp (aBind (fX5_readTest (nI L) D5) (fun x3 D6 => if x3 = 0 then some ((0 : Int32), D6) else aLet (nI m + 1) (fun x4 => aBind (fX5_wordIn 4 D6) (fun x5 D7 => if x5 = 0 then (if x4 < (500 : Int32) then aFix nf (lX5_readTests_2 (nI L) j49) zc x4 D7 else j49 D7) else j49 D7)))) (fun x D1 => T x D1 (aBind (mT0 p (nI (min L 16)) (nI m) E5) (fun x10 D18 => if x10 = 0 then some ((0 : Int32), D18) else aBind (fX11_isWord (6385252 : Int64) D18) (fun x11 D19 => aLet (nI m + 1) (fun x12 => aFix mr (lX11_oneLine_59 p (nI (min L 16)) j94) zr x11 x12 D19))))) := by
        intro D5 E5 h5 m5
        refine Wp.twoT (sim_test t hp h5 m5 hL (by omega)) (fun x6 D6 y6 E6 q6 => ?_)
        rcases q6 with ⟨rfl, rfl, pf⟩ | ⟨rfl, rfl, s6, e6, k6, h6, c6, lt6⟩
        · refine Wp.pos rfl ?_
          rw [if_pos rfl]
          exact Wp.ret (N _ _ pf)
        · refine Wp.neg (by decide) ?_
          rw [if_neg (show ¬ ((1 : Int32) = 0) by decide)]
          refine (Wp.lets (Wp.bindE (eX_wordIn (by decide) t h6.1) (Wp.rrT (eM_isWord wk_and t h6.2.1) ?_)))
          have sm : nI m + 1 = nI (m + 1) := (nI_succ m).symm
          by_cases ha : k6 = 1 ∧ wM B s6 e6 [97, 110, 100]
          · rw [if_pos ha]
            have s6n := h6.1.2.2.1.ne (by rw [ha.1]; decide)
            have e6n := h6.1.2.2.2.2
            have v5 : (500 : Int32).toInt = 500 := by decide
            have vm : (nI (m + 1)).toInt = ((m + 1 : Nat) : Int) := nI_toInt (by omega)
            refine Wp.pos (by rw [if_pos ha.1]; exact one_and.mpr ha.2) ?_
            rw [sm]
            refine Wp.ilt (fun _ => ?_) (fun q => absurd q (by omega))
            exact ih (m + 1) mr D6 E6 s6 e6 k6 (by omega) (by omega) h6 (by rw [ha.1]; decide) c6 (by omega) (by omega)
          · rw [if_neg ha]
            refine Wp.neg (fun q => ha ?_) ?_
            · by_cases hk6 : k6 = 1
              · rw [if_pos hk6] at q
                exact ⟨hk6, one_and.mp q⟩
              · rw [if_neg hk6] at q
                exact absurd q (by decide)
            · have z : ∀ w, aFix mr (lX11_oneLine_59 p (nI (min L 16)) j94) zr 0 w E6 = j94 E6 := fun w => by
                match mr, h2 with
                | 0, h2 => omega
                | mr + 1, _ =>
                  show lX11_oneLine_59 p (nI (min L 16)) j94 _ 0 w E6 = _
                  unfold lX11_oneLine_59
                  rw [if_pos rfl]
              show Wp (j49 D6) (fun x D1 => T x D1 (aFix mr (lX11_oneLine_59 p (nI (min L 16)) j94) zr 0 (nI m + 1) E6))
              rw [z]
              exact K D6 E6 s6 e6 k6 h6 ⟨m + 1, c6⟩ (by omega)
      rw [mT_eq]
      have q4 : (nI m = (4 : Int32)) ↔ m = 4 := by
        have : nI m = nI 4 ↔ m = 4 := nI_eq (by omega) (by omega)
        exact this
      by_cases hm4 : m = 4
      · rw [if_pos (q4.mpr hm4), aBind_as]
        refine Wp.lets (Wp.pos (q4.mpr hm4) (Wp.twoT (sim_mark (by decide) h4) (fun _ D5 _ E5 q5 => ?_)))
        exact tail D5 E5 q5.1 (m4.fr q5.2.1 q5.2.2.1)
      · rw [if_neg (fun q => hm4 (q4.mp q))]
        exact Wp.lets (Wp.neg (fun q => hm4 (q4.mp q)) (tail D4 E4 h4 m4))
/-! writes at the line that is read -/
theorem PS.wx {c : Nat} {v : Int32} (h : PS B n p D0 E0 L D E s e k) (hc : 35 ≤ c ∧ c ≤ 37) : PS B n p D0 E0 L (aSI D c L v) E s e k := by
  obtain ⟨h1, h2, h3, h4, h5, h6⟩ := h
  have o : ∀ d, d ≠ c → (aSI D c L v).1 d = D.1 d := fun d hd => si_o hd
  have r : ∀ j, j ≠ L → (aSI D c L v).1 c j = D.1 c j := fun j hj => by rw [si_s, if_neg hj]
  generalize aSI D c L v = D1 at o r ⊢
  refine ⟨?_, h2, ?_, ⟨by rw [o 33 (by omega)]; exact h4.1, h4.2⟩, ⟨fun d hd => by rw [o d (by omega)]; exact h5.1 d hd, h5.2.1, by rw [o 33 (by omega)]; exact h5.2.2⟩, fun l hl h16 => ?_⟩
  · unfold TkX TpX
    rw [o 33 (by omega), o 11 (by omega), o 12 (by omega)]
    exact h1
  · unfold Flt
    rw [o 33 (by omega)]
    exact h3
  · obtain ⟨⟨m', ⟨q1, q2, q3⟩, q4⟩, q5⟩ := h6 l hl h16
    refine ⟨⟨m', ⟨by rw [o 38 (by omega)]; exact q1, q2, q3⟩, fun t ht => ?_⟩, ?_⟩
    · have := q4 t ht
      unfold TsR at this ⊢
      rw [o 39 (by omega), o 40 (by omega), o 41 (by omega), o 42 (by omega)]
      exact this
    · have g : ∀ d, D1.1 d l = D.1 d l := fun d => by
        by_cases e : d = c
        · rw [e, r l (by omega)]
        · rw [o d e]
      unfold LnD
      rw [g 35, g 36, g 37, o 33 (by omega)]
      exact q5
theorem PS.wm {c : Nat} {v : Int32} (h : PS B n p D0 E0 L D E s e k) (hc : 27 ≤ c ∧ c ≤ 29) : PS B n p D0 E0 L D (aSI E c (min L 16) v) s e k := by
  obtain ⟨h1, h2, h3, h4, h5, h6⟩ := h
  have o : ∀ d, d ≠ c → (aSI E c (min L 16) v).1 d = E.1 d := fun d hd => si_o hd
  have r : ∀ j, j ≠ min L 16 → (aSI E c (min L 16) v).1 c j = E.1 c j := fun j hj => by rw [si_s, if_neg hj]
  have l2 : (aSI E c (min L 16) v).2 = E.2 := rfl
  generalize aSI E c (min L 16) v = E1 at o r l2 ⊢
  refine ⟨h1, ?_, ?_, ⟨h4.1, by rw [o 0 (by omega)]; exact h4.2⟩, ⟨h5.1, fun d hd => by rw [o d (by omega)]; exact h5.2.1 d hd, h5.2.2⟩, fun l hl h16 => ?_⟩
  · unfold TkM TpM Ctn
    rw [o 0 (by omega), o 1 (by omega), l2]
    exact h2
  · unfold Flt
    rw [o 0 (by omega)]
    exact h3
  · obtain ⟨⟨m', ⟨q1, q2, q3⟩, q4⟩, q5⟩ := h6 l hl h16
    refine ⟨⟨m', ⟨q1, by rw [o 23 (by omega)]; exact q2, q3⟩, fun t ht => ?_⟩, ?_⟩
    · have := q4 t ht
      unfold TsR at this ⊢
      rw [o 24 (by omega), o 25 (by omega), o 26 (by omega)]
      exact this
    · have g : ∀ d, E1.1 d l = E.1 d l := fun d => by
        by_cases e : d = c
        · rw [e, r l (by omega)]
        · rw [o d e]
      unfold LnD
      rw [g 27, g 28, g 29]
      exact q5
/-- the class's deed -/
def SdX (L : Nat) (a b c : Int32) (D D1 : ADD) : Prop := (∀ d, (d < 35 ∨ 37 < d) → D1.1 d = D.1 d) ∧ D1.2 = D.2 ∧ (L < 16 → D1.1 35 L = a ∧ D1.1 36 L = b ∧ D1.1 37 L = c)
theorem bX_setDeed {a b c : Int32} (hL : L ≤ 500) (h : PS B n p D0 E0 L D E s e k) : Wp (fX6_setDeed 34 (nI L) a b c D) (fun _ D1 => SdX L a b c D D1 ∧ PS B n p D0 E0 L D1 E s e k) := by
  unfold fX6_setDeed
  have vL : (nI L).toInt = (L : Int) := nI_toInt (by omega)
  have cL : (nI L).toNatClampNeg = L := nI_clamp (by omega)
  refine Wp.bindE (eX_hasLine _ _) ?_
  rw [vL, cL]
  by_cases hl : 0 ≤ (L : Int) ∧ (L : Int) < 16
  · rw [if_pos hl]
    have iL : vp_in (nI L) 16 := i_in (by omega) (by omega)
    refine Wp.neg (by decide) (Wp.idx iL (Wp.lets (Wp.idx iL (Wp.lets (Wp.idx iL (Wp.lets (Wp.ret ⟨⟨fun d hd => ?_, rfl, fun _ => ⟨?_, ?_, ?_⟩⟩, ?_⟩)))))))
    · rw [si_o (by omega), si_o (by omega), si_o (by omega)]
    · rw [si_o (by decide), si_o (by decide), si_s, if_pos rfl]
    · rw [si_o (by decide), si_s, if_pos rfl]
    · rw [si_s, if_pos rfl]
    · exact ((h.wx (c := 35) (by decide)).wx (c := 36) (by decide)).wx (c := 37) (by decide)
  · rw [if_neg hl]
    exact Wp.pos rfl (Wp.ret ⟨⟨fun _ _ => rfl, rfl, fun q => by omega⟩, h⟩)
theorem CT.wx {m : Nat} (h : CT p L D E m) (f : ∀ d, 38 ≤ d → D1.1 d = D.1 d) (g : ∀ d, 23 ≤ d → d ≤ 26 → E1.1 d = E.1 d) : CT p L D1 E1 m := fun hl => by
  obtain ⟨⟨a, b, c⟩, d⟩ := h hl
  refine ⟨⟨by rw [f 38 (by omega)]; exact a, by rw [g 23 (by omega) (by omega)]; exact b, c⟩, fun t ht => ?_⟩
  have := d t ht
  unfold TsR at this ⊢
  rw [f 39 (by omega), f 40 (by omega), f 41 (by omega), f 42 (by omega), g 24 (by omega) (by omega), g 25 (by omega) (by omega), g 26 (by omega) (by omega)]
  exact this
theorem nm_rng (t : TB B n) (hT : Tok B s e 2) (he : e ≤ n) : 0 ≤ (nmF B s (e - s)).toInt ∧ (nmF B s (e - s)).toInt ≤ 9999 := by
  have hd : RunTo dig B s e ∧ e - s ≤ 4 := by
    rcases hT with h | h | h | h
    · exact absurd h.2.2 (by decide)
    · refine ⟨h.2.1, ?_⟩
      false_or_by_contra
      rename_i q
      have := h.2.2
      rw [if_neg q] at this
      exact absurd this (by decide)
    · exact absurd h.2.2 (by decide)
    · have := h.2.2
      split at this <;> exact absurd this (by decide)
  have step : ∀ m, m ≤ e - s → 0 ≤ (nmF B s m).toInt ∧ (nmF B s m).toInt < 10 ^ m := by
    intro m
    induction m with
    | zero => intro _; show 0 ≤ (0 : Int32).toInt ∧ (0 : Int32).toInt < 1; decide
    | succ m ih =>
      intro hm
      have i := ih (by omega)
      have b := hd.1.2.1 (s + m) (by omega) (by omega)
      have p4 : (10 : Int) ^ m ≤ 1000 := by
        have : m = 0 ∨ m = 1 ∨ m = 2 ∨ m = 3 := by omega
        rcases this with rfl | rfl | rfl | rfl <;> decide
      show 0 ≤ (10 * nmF B s m + B (s + m) - 48).toInt ∧ (10 * nmF B s m + B (s + m) - 48).toInt < 10 ^ (m + 1)
      have a1 := ti_mul (x := 10) (p := 10) (by decide) (rfl : (nmF B s m).toInt = _) (by omega) (by omega)
      have a2 := ti_add a1 (rfl : (B (s + m)).toInt = _) (by omega) (by omega)
      have a3 := ti_sub (y := 48) (q := 48) a2 (by decide) (by omega) (by omega)
      rw [a3, Int.pow_succ]
      omega
  have := step (e - s) (Nat.le_refl _)
  have p4 : (10 : Int) ^ (e - s) ≤ 10000 := by
    have h4 := hd.2
    have : e - s = 0 ∨ e - s = 1 ∨ e - s = 2 ∨ e - s = 3 ∨ e - s = 4 := by omega
    rcases this with q | q | q | q | q <;> rw [q] <;> decide
  omega
end SLs
