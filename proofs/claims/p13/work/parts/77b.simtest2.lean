/-! a test of both readers: the whole of it -/
section STt
variable {D0 E0 D D1 E E1 : ADD} {B : Nat → Int32} {n L s e m : Nat} {k p : Int32}
theorem Wp.mono2 {α β : Type} {f : Option (α × ADD)} {g : Option (β × ADD)} {S R : α → ADD → β → ADD → Prop} (h : Wp f (fun x D => Wp g (fun y E => S x D y E))) (q : ∀ x D y E, S x D y E → R x D y E) : Wp f (fun x D => Wp g (fun y E => R x D y E)) := h.mono (fun x D k => k.mono (fun y E r => q x D y E r))
/-- the reference's store of a test leaves the lines ahead alone -/
def StM (L m : Nat) (E E1 : ADD) : Prop := (∀ c, (c < 23 ∨ 26 < c) → E1.1 c = E.1 c) ∧ E1.2 = E.2 ∧ (∀ j, j ≠ L → E1.1 23 j = E.1 23 j) ∧ ∀ c j, 24 ≤ c → c ≤ 26 → j ≠ 4 * L + m → E1.1 c j = E.1 c j
theorem StM.ps (a : StM L m E E1) (hm : m < 4) (h : PS B n p D0 E0 L D E s e k) : PS B n p D0 E0 L D E1 s e k := by
  obtain ⟨h1, h2, h3, h4, h5, h6⟩ := h
  obtain ⟨a1, a2, a3, a4⟩ := a
  have r0 : E1.1 0 = E.1 0 := a1 0 (by omega)
  refine ⟨h1, ?_, ?_, ⟨h4.1, by rw [r0]; exact h4.2⟩, ⟨h5.1, fun c hc => by rw [a1 c (by omega)]; exact h5.2.1 c hc, h5.2.2⟩, fun l hl h16 => ?_⟩
  · unfold TkM TpM Ctn
    rw [r0, a1 1 (by omega), a2]
    exact h2
  · unfold Flt
    rw [r0]
    exact h3
  · obtain ⟨⟨m', ⟨q1, q2, q3⟩, q4⟩, q5⟩ := h6 l hl h16
    refine ⟨⟨m', ⟨q1, by rw [a3 l (by omega)]; exact q2, q3⟩, fun t ht => ?_⟩, ?_⟩
    · have := q4 t ht
      unfold TsR at this ⊢
      rw [a4 24 _ (by omega) (by omega) (by omega), a4 25 _ (by omega) (by omega) (by omega), a4 26 _ (by omega) (by omega) (by omega)]
      exact this
    · unfold LnD
      rw [a1 27 (by omega), a1 28 (by omega), a1 29 (by omega)]
      exact q5
theorem sim_t3 (t : TB B n) (h : PS B n p D0 E0 L D E s e k) (hk : k = 3) (hm : CT p L D E m) (hL : L ≤ 500) (hm5 : m ≤ 500) {nt : Int32} (hn : nt = 0 ∨ nt = 1) {kk : Nat} (hkk : kk < 8) (hk7 : p = 0 → kk < 7) : Wp (cT3 (nI L) nt (nI kk) D) (fun x D1 => Wp (mT3 (nI (min L 16)) (nI m) nt (nI kk) (E.1 0 27) E) (fun y E1 => (x = 0 ∧ y = 0 ∧ PF D0 E0 D1 E1) ∨ (x = 1 ∧ y = 1 ∧ ∃ s1 e1 k1, PS B n p D0 E0 L D1 E1 s1 e1 k1 ∧ CT p L D1 E1 (m + 1) ∧ s < s1))) := by
  unfold cT3 mT3
  have v27 : E.1 0 27 = B s := h.2.1.2.2.1.2.2 hk
  have se : s < e := h.1.2.2.1.ne (by rw [hk]; decide)
  rw [v27]
  refine Wp.bindE (h.1.by t) (Wp.two (sim_next t h) (fun _ D2 _ E2 q => ?_))
  obtain ⟨s2, e2, k2, h2, le2, fr, fn⟩ := q
  have m2 : CT p L D2 E2 m := hm.fr fr.1 fn.1
  rw [h2.1.2.1.2.2, h2.2.1.2.1.2.2]
  by_cases hk2 : k2 = 2
  · refine Wp.pos hk2 (Wp.rpos (srt_n.mpr hk2) ?_)
    have val : E2.1 0 27 = nmF B s2 (e2 - s2) := h2.2.1.2.2.1.2.1 hk2
    rw [val]
    refine Wp.bindE (eX_number t h2.1) (Wp.bind (bX_addTest (m := m) hL (fun l => (m2 l).1.1)) (fun _ D3 a3 => ?_))
    have h3 := a3.ps h2
    refine Wp.two (sim_next t h3) (fun _ D4 _ E4 q4 => ?_)
    obtain ⟨s4, e4, k4, h4, le4, fr4, fn4⟩ := q4
    refine Wp.ret ((bM_store hm5).mono (fun y E5 st => ?_))
    obtain ⟨y1, g1, g2, g3⟩ := st
    have lt : s < s4 := by
      have := h2.1.2.2.2.1
      omega
    by_cases hc : L < 16 ∧ m < 4
    · rw [if_pos hc] at g3
      obtain ⟨b1, b2, b3⟩ := a3
      rw [if_pos hc] at b3
      obtain ⟨b38, b39, b40, b41, b42⟩ := b3
      obtain ⟨g23, g24, g25, g26⟩ := g3
      have sm : StM L m E4 E5 := ⟨g1, g2, fun j hj => by rw [g23, if_neg hj], fun c j c1 c2 hj => by
        have : c = 24 ∨ c = 25 ∨ c = 26 := by omega
        rcases this with rfl | rfl | rfl
        · rw [g24, if_neg hj]
        · rw [g25, if_neg hj]
        · rw [g26, if_neg hj]⟩
      refine Or.inr ⟨rfl, y1, s4, e4, k4, sm.ps hc.2 h4, fun _ => ?_, lt⟩
      rw [show min (m + 1) 4 = m + 1 by omega]
      obtain ⟨⟨c1, c2, c3⟩, c4⟩ := m2 hc.1
      refine ⟨⟨by rw [fr4.1 38 (by decide), b38, if_pos rfl], by rw [g23, if_pos rfl], by omega⟩, fun u hu => ?_⟩
      unfold TsR
      rw [fr4.1 39 (by decide), fr4.1 40 (by decide), fr4.1 41 (by decide), fr4.1 42 (by decide), b39, b40, b41, b42, g24, g25, g26, fn4.1 24 (by decide), fn4.1 25 (by decide), fn4.1 26 (by decide)]
      by_cases e : u = m
      · subst e
        rw [if_pos rfl, if_pos rfl, if_pos rfl, if_pos rfl, if_pos rfl, if_pos rfl, if_pos rfl]
        have vk : (nI kk).toInt = (kk : Int) := nI_toInt (by omega)
        refine ⟨⟨by omega, fun z => by have := hk7 z; omega⟩, hn, ?_, rfl, rfl⟩
        rcases hn with hn | hn
        · rw [if_pos hn, hn, vk, ti_0]
          omega
        · rw [if_neg (by rw [hn]; decide), hn, ti_1]
          have := ti_add (y := 8) (q := 8) vk (by decide) (by omega) (by omega)
          omega
      · have := c4 u (by omega)
        rw [if_neg (by omega), if_neg (by omega), if_neg (by omega), if_neg (by omega), if_neg (by omega), if_neg (by omega), if_neg (by omega)]
        exact this
    · rw [if_neg hc] at g3
      have b3 := a3.2.2
      rw [if_neg hc] at b3
      have eE : E5.1 = E4.1 := funext g3
      refine Or.inr ⟨rfl, y1, s4, e4, k4, ?_, fun l16 => ?_, lt⟩
      · have e5 : E5 = E4 := Prod.ext eE g2
        rw [e5]
        exact h4
      · have m4 : ¬ m < 4 := fun q => hc ⟨l16, q⟩
        have q := m2 l16
        rw [show min m 4 = 4 by omega] at q
        rw [show min (m + 1) 4 = 4 by omega]
        exact q.fr (fun c hc => by rw [fr4.1 c hc, b3 c]) (fun c hc => by rw [g3 c, fn4.1 c hc])
  · refine Wp.neg hk2 (Wp.rneg (fun q => hk2 (srt_n.mp q)) ?_)
    exact (sim_no h2).mono2 (fun x D y E r => Or.inl r)
theorem sim_t2 (t : TB B n) (h : PS B n p D0 E0 L D E s e k) (hm : CT p L D E m) (hL : L ≤ 500) (hm5 : m ≤ 500) {nt x3 : Int32} (hn : nt = 0 ∨ nt = 1) (hx : x3 = -1 ∨ ∃ kk : Nat, kk < 8 ∧ (p = 0 → kk < 7) ∧ x3 = nI kk) : Wp (cT2 (nI L) nt x3 D) (fun x D1 => Wp (mT2 (nI (min L 16)) (nI m) nt x3 E) (fun y E1 => (x = 0 ∧ y = 0 ∧ PF D0 E0 D1 E1) ∨ (x = 1 ∧ y = 1 ∧ ∃ s1 e1 k1, PS B n p D0 E0 L D1 E1 s1 e1 k1 ∧ CT p L D1 E1 (m + 1) ∧ s < s1))) := by
  unfold cT2 mT2
  by_cases h3 : x3 = -1
  · exact Wp.pos h3 (Wp.rpos h3 ((sim_no h).mono2 (fun x D y E r => Or.inl r)))
  obtain ⟨kk, hkk, hk7, ex⟩ := hx.resolve_left h3
  refine Wp.neg h3 (Wp.rneg h3 (Wp.two (sim_next t h) (fun _ D2 _ E2 q => ?_)))
  obtain ⟨s2, e2, k2, h2, le2, fr, fn⟩ := q
  have m2 : CT p L D2 E2 m := hm.fr fr.1 fn.1
  have s12 : s ≤ s2 := by
    have := h.1.2.2.2.1
    omega
  have yes : k2 = 3 → Wp (cT3 (nI L) nt x3 D2) (fun x D1 => Wp (mT3 (nI (min L 16)) (nI m) nt x3 (E2.1 0 27) E2) (fun y E1 => (x = 0 ∧ y = 0 ∧ PF D0 E0 D1 E1) ∨ (x = 1 ∧ y = 1 ∧ ∃ s1 e1 k1, PS B n p D0 E0 L D1 E1 s1 e1 k1 ∧ CT p L D1 E1 (m + 1) ∧ s < s1))) := fun hk => by
    rw [ex]
    refine (sim_t3 t h2 hk m2 hL hm5 hn hkk hk7).mono2 (fun x D y E r => ?_)
    rcases r with r | ⟨r1, r2, s1, e1, k1, r3, r4, r5⟩
    · exact Or.inl r
    · exact Or.inr ⟨r1, r2, s1, e1, k1, r3, r4, by omega⟩
  have no := (sim_no h2).mono2 (R := fun x D1 y E1 => (x = 0 ∧ y = 0 ∧ PF D0 E0 D1 E1) ∨ (x = 1 ∧ y = 1 ∧ ∃ s1 e1 k1, PS B n p D0 E0 L D1 E1 s1 e1 k1 ∧ CT p L D1 E1 (m + 1) ∧ s < s1)) (fun x D y E r => Or.inl r)
  refine Wp.bindE (eX_isSign t h2.1) ?_
  rw [h2.2.1.2.1.2.2]
  by_cases hk : k2 = 3
  · have v27 : E2.1 0 27 = B s2 := h2.2.1.2.2.1.2.2 hk
    refine Wp.rpos (srt_s.mpr hk) ?_
    by_cases c60 : B s2 = 60
    · rw [if_pos (show k2 = 3 ∧ B s2 = 60 from ⟨hk, c60⟩)]
      exact Wp.neg (by decide) (Wp.rpos (by rw [v27]; exact c60) (yes hk))
    · rw [if_neg (show ¬ (k2 = 3 ∧ B s2 = 60) from fun q => c60 q.2)]
      refine Wp.pos rfl (Wp.rneg (fun q => c60 (by rw [← v27]; exact q)) (Wp.bindE (eX_isSign t h2.1) ?_))
      by_cases c62 : B s2 = 62
      · rw [if_pos (show k2 = 3 ∧ B s2 = 62 from ⟨hk, c62⟩)]
        exact Wp.neg (by decide) (Wp.rpos (by rw [v27]; exact c62) (yes hk))
      · rw [if_neg (show ¬ (k2 = 3 ∧ B s2 = 62) from fun q => c62 q.2)]
        refine Wp.pos rfl (Wp.rneg (fun q => c62 (by rw [← v27]; exact q)) (Wp.bindE (eX_isSign t h2.1) ?_))
        by_cases c61 : B s2 = 61
        · rw [if_pos (show k2 = 3 ∧ B s2 = 61 from ⟨hk, c61⟩)]
          exact Wp.neg (by decide) (Wp.rpos (by rw [v27]; exact c61) (yes hk))
        · rw [if_neg (show ¬ (k2 = 3 ∧ B s2 = 61) from fun q => c61 q.2)]
          exact Wp.pos rfl (Wp.rneg (fun q => c61 (by rw [← v27]; exact q)) no)
  · refine Wp.rneg (fun q => hk (srt_s.mp q)) ?_
    rw [if_neg (show ¬ (k2 = 3 ∧ B s2 = 60) from fun q => hk q.1)]
    refine Wp.pos rfl (Wp.bindE (eX_isSign t h2.1) ?_)
    rw [if_neg (show ¬ (k2 = 3 ∧ B s2 = 62) from fun q => hk q.1)]
    refine Wp.pos rfl (Wp.bindE (eX_isSign t h2.1) ?_)
    rw [if_neg (show ¬ (k2 = 3 ∧ B s2 = 61) from fun q => hk q.1)]
    exact Wp.pos rfl no
theorem sim_t1 (t : TB B n) (hp : p = 0 ∨ p = 1) (h : PS B n p D0 E0 L D E s e k) (hm : CT p L D E m) (hL : L ≤ 500) (hm5 : m ≤ 500) {nt : Int32} (hn : nt = 0 ∨ nt = 1) : Wp (cT1 (nI L) nt D) (fun x D1 => Wp (aBind (fX11_testWord p E) (fun x2 D4 => mT2 (nI (min L 16)) (nI m) nt x2 D4)) (fun y E1 => (x = 0 ∧ y = 0 ∧ PF D0 E0 D1 E1) ∨ (x = 1 ∧ y = 1 ∧ ∃ s1 e1 k1, PS B n p D0 E0 L D1 E1 s1 e1 k1 ∧ CT p L D1 E1 (m + 1) ∧ s < s1))) := by
  unfold cT1
  rw [h.2.2.2.1.1]
  have rng : ∀ si q, (wds si).length ≤ q → q ≤ 8 → (p = 0 → q ≤ 7) → ((if k = 1 then wcF B s e (wds si) 0 else -1) = -1 ∨ ∃ kk : Nat, kk < 8 ∧ (p = 0 → kk < 7) ∧ (if k = 1 then wcF B s e (wds si) 0 else -1) = nI kk) := fun si q hl hq h0 => by
    by_cases hk : k = 1
    · rw [if_pos hk]
      rcases wcF_rng (B := B) (s := s) (e := e) (wds si) 0 with q1 | ⟨j, q1, q2⟩
      · exact Or.inl q1
      · exact Or.inr ⟨j, by omega, fun z => by have := h0 z; omega, by rw [q2, Nat.zero_add]⟩
    · rw [if_neg hk]
      exact Or.inl rfl
  rcases hp with rfl | rfl
  · exact Wp.pos rfl (Wp.bindE (eX_wordIn (by decide) t h.1) (Wp.rr (eM_test0 t h.2.1) (sim_t2 t h hm hL hm5 hn (rng 3 7 (by decide) (by decide) (fun _ => by decide)))))
  · exact Wp.neg (by decide) (Wp.bindE (eX_wordIn (by decide) t h.1) (Wp.rr (eM_test1 t h.2.1) (sim_t2 t h hm hL hm5 hn (rng 2 8 (by decide) (by decide) (fun z => absurd z (by decide))))))
theorem sim_test (t : TB B n) (hp : p = 0 ∨ p = 1) (h : PS B n p D0 E0 L D E s e k) (hm : CT p L D E m) (hL : L ≤ 500) (hm5 : m ≤ 500) : Wp (fX5_readTest (nI L) D) (fun x D1 => Wp (mT0 p (nI (min L 16)) (nI m) E) (fun y E1 => (x = 0 ∧ y = 0 ∧ PF D0 E0 D1 E1) ∨ (x = 1 ∧ y = 1 ∧ ∃ s1 e1 k1, PS B n p D0 E0 L D1 E1 s1 e1 k1 ∧ CT p L D1 E1 (m + 1) ∧ s < s1))) := by
  rw [cT_eq]
  unfold mT0
  refine Wp.bindE (eX_wordIn (by decide) t h.1) (Wp.rr (eM_isWord wk_not t h.2.1) ?_)
  by_cases hn : k = 1 ∧ wM B s e [110, 111, 116]
  · rw [if_pos hn]
    refine Wp.pos (by rw [if_pos hn.1]; exact one_not.mpr hn.2) (Wp.rneg (by decide) (Wp.two (sim_next t h) (fun _ D2 _ E2 q => ?_)))
    obtain ⟨s2, e2, k2, h2, le2, fr, fn⟩ := q
    refine (sim_t1 t hp h2 (hm.fr fr.1 fn.1) hL hm5 (Or.inr rfl)).mono2 (fun x D y E r => ?_)
    rcases r with r | ⟨r1, r2, s1, e1, k1, r3, r4, r5⟩
    · exact Or.inl r
    · refine Or.inr ⟨r1, r2, s1, e1, k1, r3, r4, ?_⟩
      have := h.1.2.2.2.1
      omega
  · rw [if_neg hn]
    refine Wp.neg (fun q => hn ?_) (Wp.rpos rfl (sim_t1 t hp h hm hL hm5 (Or.inl rfl)))
    by_cases hk : k = 1
    · rw [if_pos hk] at q
      exact ⟨hk, one_not.mp q⟩
    · rw [if_neg hk] at q
      exact absurd q (by decide)
end STt
