/-! amounts, deeds, lines: both readers -/
def AmR (d : Int32) (D E : ADD) (l : Nat) : Prop := D.1 35 l = d ∧ (E.1 28 l = D.1 36 l ∧ E.1 29 l = D.1 37 l) ∧ (0 ≤ (D.1 36 l).toInt ∧ (D.1 36 l).toInt ≤ 9999) ∧ (0 ≤ (D.1 37 l).toInt ∧ (D.1 37 l).toInt ≤ 9999) ∧ (D.1 33 1 = 0 → (D.1 36 l).toInt ≤ (D.1 37 l).toInt)
section SMs
variable {D0 E0 D D1 E E1 : ADD} {B : Nat → Int32} {n L s e m : Nat} {k p : Int32}
/-- what is read of a line beside its tests -/
def AmP (B : Nat → Int32) (n : Nat) (p : Int32) (D0 E0 : ADD) (L : Nat) (d : Int32) (D E : ADD) (s : Nat) (x : Int32) (D1 : ADD) (y : Int32) (E1 : ADD) : Prop := (x = 0 ∧ y = 0 ∧ PF D0 E0 D1 E1) ∨ (x = 1 ∧ y = 1 ∧ ∃ s1 e1 k1, PS B n p D0 E0 L D1 E1 s1 e1 k1 ∧ s < s1 ∧ ((∀ c, 38 ≤ c → D1.1 c = D.1 c) ∧ ∀ c, 23 ≤ c → c ≤ 27 → E1.1 c = E.1 c) ∧ (L < 16 → AmR d D1 E1 L))
theorem sim_amounts (t : TB B n) (hL : L ≤ 500) {d : Int32} (h : PS B n p D0 E0 L D E s e k) : Wp (fX5_readAmounts (nI L) d D) (fun x D1 => Wp (fX11_numbers (nI (min L 16)) E) (fun y E1 => AmP B n p D0 E0 L d D E s x D1 y E1)) := by
  unfold fX5_readAmounts fX11_numbers
  have iL : vp_in (nI (min L 16)) 17 := vp_in_nI (by omega) (by omega)
  have cL : (nI (min L 16)).toNatClampNeg = min L 16 := nI_clamp (by omega)
  rw [cL, h.1.2.1.2.2, h.2.1.2.1.2.2]
  by_cases hk : k = 2
  rotate_left
  · exact Wp.neg hk (Wp.rneg (fun q => hk (srt_n.mp q)) ((sim_no h).mono2 (fun x D y E r => Or.inl r)))
  refine Wp.pos hk (Wp.rpos (srt_n.mpr hk) (Wp.bindE (eX_number t h.1) ?_))
  have v1 : E.1 0 27 = nmF B s (e - s) := h.2.1.2.2.1.2.1 hk
  have r1 := nm_rng t (by rw [← hk]; exact h.1.2.2.1) h.1.2.2.2.2
  have se := h.1.2.2.1.ne (by rw [hk]; decide)
  generalize hx1 : nmF B s (e - s) = x1 at v1 r1 ⊢
  refine Wp.flip (Wp.idx iL (Wp.leti (fun Ea ea => Wp.idx iL (Wp.leti (fun Eb eb => Wp.flip ?_)))))
  have pb : PS B n p D0 E0 L D Eb s e k := by
    rw [eb, ea]
    exact (h.wm (c := 28) (by decide)).wm (c := 29) (by decide)
  have b28 : Eb.1 28 (min L 16) = x1 := by rw [eb, ea, si_o (by decide), si_s, if_pos rfl, v1]
  have b29 : Eb.1 29 (min L 16) = x1 := by rw [eb, si_s, if_pos rfl, ea, si_o (by decide), v1]
  have fb : ∀ c, c ≠ 28 → c ≠ 29 → Eb.1 c = E.1 c := fun c a b => by rw [eb, ea, si_o b, si_o a]
  clear ea eb
  refine Wp.two (sim_next t pb) (fun _ D2 _ E2 q2 => ?_)
  obtain ⟨s2, e2, k2, h2, le2, fr2, fn2⟩ := q2
  -- the end: the class sets its line, the reference answers
  have fin : ∀ D5 E5 s5 e5 k5 x3, PS B n p D0 E0 L D5 E5 s5 e5 k5 → s < s5 → (∀ c, c ≠ 33 → D5.1 c = D.1 c) → (∀ c, 23 ≤ c → c ≤ 27 → E5.1 c = E.1 c) → (L < 16 → E5.1 28 L = x1 ∧ E5.1 29 L = x3) → (0 ≤ x3.toInt ∧ x3.toInt ≤ 9999) → (D5.1 33 1 = 0 → x1.toInt ≤ x3.toInt) → Wp (aBind (fX6_setDeed 34 (nI L) d x1 x3 D5) (fun _ D6 => some ((1 : Int32), D6))) (fun x D1 => Wp (some ((1 : Int32), E5)) (fun y E1 => AmP B n p D0 E0 L d D E s x D1 y E1)) := by
    intro D5 E5 s5 e5 k5 x3 h5 lt5 f5 g5 a5 rx le
    refine Wp.bind (bX_setDeed hL h5) (fun _ D6 q6 => Wp.ret (Wp.ret (Or.inr ⟨rfl, rfl, s5, e5, k5, q6.2, lt5, ⟨fun c hc => ?_, g5⟩, fun l16 => ?_⟩)))
    · rw [q6.1.1 c (by omega), f5 c (by omega)]
    · obtain ⟨w1, w2, w3⟩ := q6.1.2.2 l16
      unfold AmR
      rw [w1, w2, w3, q6.1.1 33 (by omega)]
      exact ⟨rfl, a5 l16, r1, rx, le⟩
  have l16e : L < 16 → min L 16 = L := fun q => by omega
  refine Wp.bindE (eX_wordIn (by decide) t h2.1) (Wp.rr (eM_isWord wk_to t h2.2.1) ?_)
  by_cases hto : k2 = 1 ∧ wM B s2 e2 [116, 111]
  · rw [if_pos hto]
    refine Wp.lets (Wp.pos (by rw [if_pos hto.1]; exact one_to.mpr hto.2) (Wp.flip (Wp.lets (Wp.neg (by decide) (Wp.flip (Wp.two (sim_next t h2) (fun _ D6 _ E6 q6 => ?_)))))))
    obtain ⟨s6, e6, k6, h6, le6, fr6, fn6⟩ := q6
    rw [h6.1.2.1.2.2, h6.2.1.2.1.2.2]
    by_cases hk6 : k6 = 2
    rotate_left
    · exact Wp.neg hk6 (Wp.rneg (fun q => hk6 (srt_n.mp q)) ((sim_no h6).mono2 (fun x D y E r => Or.inl r)))
    refine Wp.pos hk6 (Wp.rpos (srt_n.mpr hk6) (Wp.bindE (eX_number t h6.1) ?_))
    have v6 : E6.1 0 27 = nmF B s6 (e6 - s6) := h6.2.1.2.2.1.2.1 hk6
    have r6 := nm_rng t (by rw [← hk6]; exact h6.1.2.2.1) h6.1.2.2.2.2
    generalize hx6 : nmF B s6 (e6 - s6) = x6 at v6 r6 ⊢
    have s26 : s < s6 := by
      have := h2.1.2.2.2.1
      omega
    have e28 : E6.1 28 (min L 16) = x1 := by rw [fn6.1 28 (by decide), fn2.1 28 (by decide)]; exact b28
    -- behind the second number
    have go : ∀ D8 E8, PS B n p D0 E0 L D8 E8 s6 e6 k6 → (∀ c, c ≠ 33 → D8.1 c = D6.1 c) → (∀ c, c ≠ 0 → E8.1 c = E6.1 c) → (D8.1 33 1 = 0 → x1.toInt ≤ x6.toInt) → Wp (aBind (fX5_advance D8) (fun _ D9 => aBind (fX6_setDeed 34 (nI L) d x1 x6 D9) (fun _ D5 => some ((1 : Int32), D5)))) (fun x D1 => Wp (aIn (nI (min L 16)) 17 (aLet (aSI E8 29 (min L 16) (E8.1 0 27)) (fun D8 => aBind (fX11_next D8) (fun _ D9 => some ((1 : Int32), D9))))) (fun y E1 => AmP B n p D0 E0 L d D E s x D1 y E1)) := by
      intro D8 E8 h8 f8 g8 le
      have v8 : E8.1 0 27 = x6 := by rw [← hx6]; exact h8.2.1.2.2.1.2.1 hk6
      refine Wp.flip (Wp.idx iL (Wp.leti (fun Ec ec => Wp.flip ?_)))
      have pc : PS B n p D0 E0 L D8 Ec s6 e6 k6 := by rw [ec]; exact h8.wm (c := 29) (by decide)
      have c29 : Ec.1 29 (min L 16) = x6 := by rw [ec, si_s, if_pos rfl, v8]
      have fc : ∀ c, c ≠ 29 → Ec.1 c = E8.1 c := fun c a => by rw [ec, si_o a]
      clear ec
      refine Wp.two (sim_next t pc) (fun _ D9 _ E9 q9 => ?_)
      obtain ⟨s9, e9, k9, h9, le9, fr9, fn9⟩ := q9
      refine fin D9 E9 s9 e9 k9 x6 h9 ?_ (fun c hc => by rw [fr9.1 c hc, f8 c hc, fr6.1 c hc, fr2.1 c hc]) (fun c c1 c2 => by rw [fn9.1 c (by omega), fc c (by omega), g8 c (by omega), fn6.1 c (by omega), fn2.1 c (by omega), fb c (by omega) (by omega)]) (fun q => ?_) r6 (fun q => le (by rw [← fr9.2.1 1 (by decide) (by decide) (by decide)]; exact q))
      · have := h8.1.2.2.2.1
        omega
      · have z := l16e q
        rw [z] at c29 e28
        exact ⟨by rw [fn9.1 28 (by decide), fc 28 (by decide), g8 28 (by decide)]; exact e28, by rw [fn9.1 29 (by decide)]; exact c29⟩
    rw [e28, v6]
    refine Wp.flip (Wp.idx iL (Wp.lets (Wp.flip (Wp.lets (Wp.ile (fun q => ?_) (fun q => ?_))))))
    · have z : x1 ≤ x6 := Int32.le_iff_toInt_le.mpr q
      rw [if_pos z]
      exact go D6 E6 h6 (fun _ _ => rfl) (fun _ _ => rfl) (fun _ => q)
    · have z : ¬ x1 ≤ x6 := fun y => by have := Int32.le_iff_toInt_le.mp y; omega
      rw [if_neg z]
      refine Wp.two (sim_mark (by decide) h6) (fun _ D8 _ E8 q8 => ?_)
      exact go D8 E8 q8.1 q8.2.1 q8.2.2.1 (fun y => absurd y q8.2.2.2)
  · rw [if_neg hto]
    refine Wp.lets (Wp.neg (fun q => hto ?_) (Wp.flip (Wp.lets (Wp.pos rfl (Wp.flip ?_)))))
    · by_cases hk2 : k2 = 1
      · rw [if_pos hk2] at q
        exact ⟨hk2, one_to.mp q⟩
      · rw [if_neg hk2] at q
        exact absurd q (by decide)
    · refine fin D2 E2 s2 e2 k2 x1 h2 (by omega) (fun c hc => fr2.1 c hc) (fun c c1 c2 => by rw [fn2.1 c (by omega), fb c (by omega) (by omega)]) (fun q => ?_) r1 (fun _ => Int.le_refl _)
      have z := l16e q
      rw [z] at b28 b29
      exact ⟨by rw [fn2.1 28 (by decide)]; exact b28, by rw [fn2.1 29 (by decide)]; exact b29⟩
end SMs
