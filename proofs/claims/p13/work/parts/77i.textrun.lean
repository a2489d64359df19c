/-! text() of both sides -/
section TRs
variable {D D1 E E1 : ADD}
theorem sim_text {a : Int32} (ha : a = 0 ∨ a = 1) (q : QXt D 1) (h : RTx (xc D) (slM E 0)) : Wp (fX10_text a D) (fun r D1 => Wp (fX11_text a E) (fun r2 E1 => r = r2 ∧ TxO D D1 E E1)) := by
  have l : 0 ≤ (D.1 11 1).toInt ∧ (D.1 11 1).toInt ≤ 500 := q.2.2.2.2.1
  obtain ⟨n, hn⟩ : ∃ n : Nat, (D.1 11 1).toInt = n := ⟨_, (cl_i l.1).symm⟩
  obtain ⟨B, tb, hB⟩ : ∃ B : Nat → Int32, TB B n ∧ ∀ j, j < n → aB (D.1 12 j) &&& 255 = B j := ⟨fun j => if j < n then aB (D.1 12 j) &&& 255 else -1, ⟨by omega, fun j hj => if_neg (by omega), fun j hj => by
    show 0 ≤ (if j < n then aB (D.1 12 j) &&& 255 else -1).toInt ∧ (if j < n then aB (D.1 12 j) &&& 255 else -1).toInt < 256
    rw [if_pos hj]
    exact and255 _⟩, fun j hj => (if_pos hj).symm⟩
  have t1 : D.1 11 1 = E.1 2 0 := h.1.1.trans (sm0 (by decide) (by decide))
  have t2 : ∀ j, j < 500 → aB (D.1 12 j) = aB (E.1 1 j) := fun j hj => by
    have z : aB (D.1 12 j) = slM E 0 1 j := h.1.2 j hj
    rw [z]
    show (if j < 500 then (if (1 : Nat) = 1 then aB (E.1 1 (500 * 0 + j)) else _) else 0) = _
    rw [if_pos hj, if_pos rfl, Nat.mul_zero, Nat.zero_add]
  rw [cTx_eq, cRd_eq, mTx_eq]
  have T5 : ∀ D5, D5 = aSI (aSI (aSI (aSI (aSI D 33 4 a) 33 1 (0 : Int32)) 33 2 (-1 : Int32)) 34 0 (0 : Int32)) 33 7 (0 : Int32) → (∀ c, c ≠ 33 → c ≠ 34 → D5.1 c = D.1 c) ∧ D5.1 33 7 = nI 0 ∧ D5.1 33 1 = 0 ∧ D5.1 33 2 = -1 ∧ D5.1 33 4 = a := by
    intro D5 e5
    refine ⟨fun c c1 c2 => by rw [e5, si_o c1, si_o c2, si_o c1, si_o c1, si_o c1], ?_, ?_, ?_, ?_⟩
    · rw [e5, si_s, if_pos rfl]; rfl
    · rw [e5, si_s, if_neg (by decide), si_o (by decide), si_s, if_neg (by decide), si_s, if_pos rfl]
    · rw [e5, si_s, if_neg (by decide), si_o (by decide), si_s, if_pos rfl]
    · rw [e5, si_s, if_neg (by decide), si_o (by decide), si_s, if_neg (by decide), si_s, if_neg (by decide), si_s, if_pos rfl]
  have T9 : ∀ E9, E9 = mIn E → (∀ c, c ≠ 0 → c ≠ 2 → c ≠ 3 → c ≠ 4 → E9.1 c = E.1 c) ∧ (∀ i, E9.1 2 i = if i = 0 then 0 else E.1 2 i) ∧ (∀ i, E9.1 3 i = if i = 0 then 0 else E.1 3 i) ∧ (∀ i, E9.1 4 i = if i = 0 then -1 else E.1 4 i) ∧ E9.1 0 24 = E.1 2 0 ∧ E9.1 0 23 = nI 0 ∧ E9.1 0 30 = 0 ∧ E9.1 0 32 = nI 0 := by
    intro E9 e9
    unfold mIn at e9
    rw [cl_0] at e9
    refine ⟨fun c c0 c2 c3 c4 => by rw [e9, si_o c0, si_o c0, si_o c0, si_o c0, si_o c4, si_o c3, si_o c2, si_o c0, si_o c0], fun i => ?_, fun i => ?_, fun i => ?_, ?_, ?_, ?_, ?_⟩
    · rw [e9, si_o (by decide), si_o (by decide), si_o (by decide), si_o (by decide), si_o (by decide), si_o (by decide), si_s, si_o (by decide), si_o (by decide)]
    · rw [e9, si_o (by decide), si_o (by decide), si_o (by decide), si_o (by decide), si_o (by decide), si_s, si_o (by decide), si_o (by decide), si_o (by decide)]
    · rw [e9, si_o (by decide), si_o (by decide), si_o (by decide), si_o (by decide), si_s, si_o (by decide), si_o (by decide), si_o (by decide), si_o (by decide)]
    · rw [e9, si_s, if_neg (by decide), si_s, if_neg (by decide), si_s, if_neg (by decide), si_s, if_neg (by decide), si_o (by decide), si_o (by decide), si_o (by decide), si_s, if_pos rfl, si_o (by decide)]
    · rw [e9, si_s, if_neg (by decide), si_s, if_neg (by decide), si_s, if_neg (by decide), si_s, if_pos rfl]; rfl
    · rw [e9, si_s, if_neg (by decide), si_s, if_pos rfl]
    · rw [e9, si_s, if_pos rfl]; rfl
  generalize hE9 : mIn E = E9
  obtain ⟨g1, g2, g3, g4, g24, g23, g30, g32⟩ := T9 E9 hE9.symm
  clear T9 hE9
  refine Wp.bind (P := fun x D1 => Wp (cTx a x D1) (fun r D2 => Wp (aBind (fX11_next E9) (fun _ D10 => aFix aFuel (lX11_text_62 a (mE a)) (fun _ _ => none) (1 : Int32) D10)) (fun r2 E1 => r = r2 ∧ TxO D D2 E E1))) ?_ (fun x D1 q => q)
  refine Wp.z ha ?_
  generalize hD5 : aSI (aSI (aSI (aSI (aSI D 33 4 a) 33 1 (0 : Int32)) 33 2 (-1 : Int32)) 34 0 (0 : Int32)) 33 7 (0 : Int32) = D5
  obtain ⟨d1, d7, d31, d32, d4⟩ := T5 D5 hD5.symm
  clear T5 hD5
  have tx5 : TpX D5 B n := by
    unfold TpX
    rw [d1 11 (by decide) (by decide), d1 12 (by decide) (by decide)]
    exact ⟨hn, hB⟩
  have tm9 : TpM E9 B n := by
    unfold TpM
    rw [g24, g1 1 (by decide) (by decide) (by decide) (by decide), ← t1]
    have n5 := tb.1
    exact ⟨hn, fun j hj => by rw [← t2 j (by omega)]; exact hB j hj⟩
  -- what the end of either reader leaves of the rest
  have fX : ∀ D' E' : ADD, Frm D5 E9 D' E' → ∀ c, (c < 33 ∨ 43 ≤ c) → D'.1 c = D.1 c := fun D' E' f c hc => by rw [f.1 c hc, d1 c (by omega) (by omega)]
  have bad : ∀ (D' E' : ADD) (x : Int32), Frm D5 E9 D' E' → (D'.1 33 1 = if x = 0 then 1 else E'.1 0 30) → (D'.1 33 2 = if x = 0 then E'.1 0 29 else E'.1 0 31) → ∀ D8, (∀ c, c ≠ 34 → D8.1 c = D'.1 c) → Wp (cTx a 0 D8) (fun r D2 => Wp (mF x E') (fun r2 E1 => r = r2 ∧ TxO D D2 E E1)) := by
    intro D' E' x f v1 v2 D8 f8
    refine (bX_end (a := a) (x := 0) (by rw [f8 11 (by decide), fX D' E' f 11 (by omega)]; exact l.1)).mono (fun r Dn z => ?_)
    obtain ⟨D4, f4, w4, z⟩ := z
    rw [if_pos rfl] at z
    obtain ⟨r1, rfl⟩ := z
    refine bM_bad.mono (fun r2 E4 y => ?_)
    obtain ⟨y1, y2, y3, y4⟩ := y
    rw [f8 33 (by decide)] at w4
    refine ⟨r1.trans y1.symm, tx_bad (fl := D'.1 33 1) (pl := D'.1 33 2) h (fun c hc => by rw [f4 c (by omega) (by omega), f8 c (by omega), fX D' E' f c (by omega)]) w4 (fun c hc c2 c3 c4 => by rw [y2 c c3 c4, f.2.1 c hc, g1 c (by omega) c2 c3 c4]) (fun i => by rw [y2 2 (by decide) (by decide), f.2.1 2 (by omega), g2]) (fun i => ?_) (fun i => ?_)⟩
    · rw [y3, v1]
      by_cases hi : i = 0
      · rw [if_pos hi, if_pos hi]
      · rw [if_neg hi, if_neg hi, f.2.1 3 (by omega), g3, if_neg hi]
    · rw [y4, v2]
      by_cases hi : i = 0
      · rw [if_pos hi, if_pos hi]
      · rw [if_neg hi, if_neg hi, f.2.1 4 (by omega), g4, if_neg hi]
  refine Wp.twoT (T := fun x D1 g => Wp (cTx a x D1) (fun r D2 => Wp g (fun r2 E2 => r = r2 ∧ TxO D D2 E E2))) (S := fun _ D6 _ E10 => ∃ s e k, PS B n a D5 E9 0 D6 E10 s e k) ?_ (fun _ D6 _ E10 hs => ?_)
  · refine (bX_advance tb tx5 d7 (Nat.zero_le _)).mono (fun _ D6 u => (bM_next tb tm9 g23 (Nat.zero_le _)).mono (fun _ E10 v => ?_))
    obtain ⟨s1, e1, k1, a1, a2, a3, a4⟩ := u
    obtain ⟨s2, e2, k2, b1, b2, b3, b4, b5⟩ := v
    have es := a1.uniq b1
    subst es
    obtain ⟨ee, ek⟩ := a2.uniq b2
    subst ee
    subst ek
    have sn := tb.run nb_blk a1 (Nat.zero_le _)
    have le := a2.le tb sn
    have f1 : D6.1 33 1 = 0 := by rw [a4.2.1 1 (by decide) (by decide) (by decide), d31]
    refine ⟨s1, e1, k1, ⟨a4.tp tx5, a3, a2, le⟩, ⟨b5.tp tm9, b3, b4, b2, le⟩, ⟨?_, ?_, fun z => absurd f1 z, fun _ => ?_⟩, ⟨?_, ?_⟩, ⟨fun c hc => a4.1 c (by omega), fun c hc => b5.1 c (by omega), fun z => absurd d31 z⟩, fun l hl => absurd hl (Nat.not_lt_zero _)⟩
    · rw [f1, b5.2 30 (by decide) (by decide) (by decide) (by decide), g30]
    · rw [b5.2 30 (by decide) (by decide) (by decide) (by decide), g30]
      decide
    · rw [a4.2.1 2 (by decide) (by decide) (by decide), d32]
    · rw [a4.2.1 4 (by decide) (by decide) (by decide), d4]
    · rw [b5.2 32 (by decide) (by decide) (by decide) (by decide), g32]
  obtain ⟨s, e, k, hps⟩ := hs
  refine sim_read (T := fun x D1 g => Wp (cTx a x D1) (fun r D2 => Wp g (fun r2 E2 => r = r2 ∧ TxO D D2 E E2))) tb ha (fun L D' E' s' e' hL ps f17 => ?_) (fun D' E' pf => ?_) aFuel 0 aFuel D6 E10 s e k (by decide) (by decide) hps (Nat.zero_le _) (fun q => by omega)
  rotate_left
  · show Wp (cTx a 0 D') (fun r D2 => Wp (mE a 0 E') _)
    unfold mE
    refine Wp.rpos rfl (bad D' E' 0 pf.2 ?_ ?_ D' (fun _ _ => rfl))
    · rw [if_pos rfl]; exact pf.1.1
    · rw [if_pos rfl]; exact pf.1.2
  unfold cE
  refine Wp.leti (fun D8 e8 => ?_)
  have f8 : ∀ c, c ≠ 34 → D8.1 c = D'.1 c := fun c hc => by rw [e8, si_o hc]
  have v8 : D8.1 34 0 = aMin (nI L) 16 := by rw [e8, si_s, if_pos rfl]
  clear e8
  obtain ⟨p1, p2, ⟨q1, q2, q3, q4⟩, p4, p5, p6⟩ := id ps
  rw [f8 33 (by decide)]
  refine Wp.ite (fun hf => Wp.z (Or.inr rfl) (Wp.ret ?_)) (fun hf => Wp.z (Or.inl rfl) (Wp.ret ?_))
  rotate_left
  · show Wp (cTx a 0 D8) (fun r D2 => Wp (mE a 1 E') _)
    unfold mE
    have np : ¬ E'.1 0 30 ≤ 0 := fun z => by
      have := Int32.le_iff_toInt_le.mp z
      rw [ti_0] at this
      exact hf (by rw [q1]; exact ti_eq (by rw [ti_0]; omega))
    refine Wp.rneg (by decide) (Wp.rneg np (bad D' E' 1 p5 ?_ ?_ D8 f8))
    · rw [if_neg (by decide)]; exact q1
    · rw [if_neg (by decide)]; exact q3 hf
  have l16 : L ≤ 16 := by
    false_or_by_contra
    exact f17 (by omega) hf
  have vL : (nI L).toInt = (L : Int) := nI_toInt (by omega)
  have v16 : (16 : Int32).toInt = 16 := by decide
  have v8 : D8.1 34 0 = nI L := by
    rw [v8]
    refine ti_eq ?_
    rw [ti_min, vL, v16]
    omega
  show Wp (cTx a 1 D8) (fun r D2 => Wp (mE a 1 E') _)
  refine (bX_end (a := a) (x := 1) (by rw [f8 11 (by decide), fX D' E' p5 11 (by omega)]; exact l.1)).mono (fun r Dn z => ?_)
  obtain ⟨D4, f4, w4, z⟩ := z
  rw [if_neg (by decide)] at z
  obtain ⟨r1, n1, n2, n3, n4⟩ := z
  unfold mE
  refine Wp.neg (by decide) (Wp.ile (fun _ => ?_) (fun z => absurd z (by rw [← q1, hf, ti_0]; omega)))
  refine Wp.letQ (fun Q j => ∀ x4, x4 = nI (if a = 0 then 0 else 16) → Wp (j x4 E') Q) (fun x4 hx4 => ?_) (fun j K => Wp.ite (fun ha0 => K _ (by rw [if_pos ha0]; rfl)) (fun ha0 => K _ (by rw [if_neg ha0]; rfl)))
  refine Wp.letQ (fun Q j => ∀ x5, x5 = nI (if a = 0 then 0 else 1) → Wp (j x5 E') Q) (fun x5 hx5 => ?_) (fun j K => Wp.ite (fun ha0 => K _ (by rw [if_pos ha0]; rfl)) (fun ha0 => K _ (by rw [if_neg ha0]; rfl)))
  have b5 : (if a = 0 then 0 else 1 : Nat) < 2 := by split <;> decide
  have b4 : (if a = 0 then 0 else 16 : Nat) ≤ 16 := by split <;> decide
  rw [hx4, hx5]
  refine Wp.idx (vp_in_nI (by omega) (by decide)) (Wp.leti (fun Es es => ?_))
  rw [nI_clamp (by omega), p4.2] at es
  have s15 : ∀ i, Es.1 15 i = if i = (if a = 0 then 0 else 1) then nI L else E'.1 15 i := fun i => by rw [es, si_s]
  have so : ∀ c, c ≠ 15 → Es.1 c = E'.1 c := fun c hc => by rw [es, si_o hc]
  clear es
  have lines : ∀ l, l < L → (∃ m, LnT a D' E' l m) ∧ LnD a D' E' l := fun l hl => p6 l hl (by omega)
  refine bM_lines b4 l16 (by rw [so 0 (by decide)]; exact p4.2) (fun l hl => ?_) (fun En cp => Wp.ret ⟨?_, ?_⟩)
  · obtain ⟨⟨m, ⟨c1, c2, c3⟩, -⟩, -⟩ := lines l hl
    have vm : (nI m).toInt = (m : Int) := nI_toInt (by omega)
    rw [so 23 (by decide), c2, vm]
    omega
  · rw [r1, v8, cp.1 0 (by omega), so 0 (by decide), p4.2]
  · have h9 : ∀ c, ((1 ≤ c ∧ c ≤ 22) ∨ 30 ≤ c) → E'.1 c = E9.1 c := p5.2.1
    rw [f8 33 (by decide), hf, q4 hf] at w4
    refine tx_good ha h l16 ps hf (fun c hc => by rw [f4 c (by omega) (by omega), f8 c (by omega), fX D' E' p5 c (by omega)]) w4 n1 (by rw [n2]; exact v8) (fun i j a b c => by rw [n3 i j a b c, f8 _ (by omega)]) (fun i j a b c => by rw [n4 i j a b c, f8 _ (by omega)]) (fun c hc c2 c3 c4 => by rw [so c (by omega), h9 c (by omega), g1 c (by omega) c2 c3 c4]) (fun c c1 c2 => so c (by omega)) (fun i => by rw [so 2 (by decide), h9 2 (by omega), g2]) (fun i => by rw [so 3 (by decide), h9 3 (by omega), g3]) (fun i => by rw [so 4 (by decide), h9 4 (by omega), g4]) (fun i => ?_) cp
    rw [s15, h9 15 (by omega), g1 15 (by decide) (by decide) (by decide) (by decide)]
end TRs
