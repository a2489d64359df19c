/-! tokens -/
def RunTo (C : Int32 → Prop) (B : Nat → Int32) (p q : Nat) : Prop := p ≤ q ∧ (∀ j, p ≤ j → j < q → C (B j)) ∧ ¬ C (B q)
theorem RunTo.uniq {C : Int32 → Prop} {B : Nat → Int32} {p q r : Nat} (h : RunTo C B p q) (k : RunTo C B p r) : q = r := by
  rcases Nat.lt_trichotomy q r with l | l | l
  · exact absurd (k.2.1 q h.1 l) h.2.2
  · exact l
  · exact absurd (h.2.1 r k.1 l) k.2.2
abbrev blk (c : Int32) : Prop := c = 10 ∨ c = 32
abbrev ltr (c : Int32) : Prop := 97 ≤ c.toInt ∧ c.toInt ≤ 122
abbrev dig (c : Int32) : Prop := 48 ≤ c.toInt ∧ c.toInt ≤ 57
abbrev sgn (c : Int32) : Prop := c = 58 ∨ c = 59 ∨ c = 60 ∨ c = 62 ∨ c = 61
/-- the token from s to e, of the class's kind k -/
def Tok (B : Nat → Int32) (s e : Nat) (k : Int32) : Prop := (ltr (B s) ∧ RunTo ltr B s e ∧ k = 1) ∨ (dig (B s) ∧ RunTo dig B s e ∧ k = if e - s ≤ 4 then 2 else 4) ∨ (B s = -1 ∧ e = s ∧ k = 0) ∨ ((¬ ltr (B s) ∧ ¬ dig (B s) ∧ B s ≠ -1) ∧ e = s + 1 ∧ k = if sgn (B s) then 3 else 4)
/-- a tape's bytes, -1 behind its end -/
def TB (B : Nat → Int32) (n : Nat) : Prop := n ≤ 500 ∧ (∀ j, n ≤ j → B j = -1) ∧ ∀ j, j < n → 0 ≤ (B j).toInt ∧ (B j).toInt < 256
theorem TB.run {C : Int32 → Prop} {B : Nat → Int32} {n p q : Nat} (h : TB B n) (c : ¬ C (-1)) (k : RunTo C B p q) (hp : p ≤ n) : q ≤ n := by
  false_or_by_contra
  have := k.2.1 n hp (by omega)
  rw [h.2.1 n (Nat.le_refl _)] at this
  exact c this
theorem nb_blk : ¬ blk (-1) := by decide
theorem nb_ltr : ¬ ltr (-1) := by decide
theorem nb_dig : ¬ dig (-1) := by decide
theorem TB.lt {B : Nat → Int32} {n s : Nat} (h : TB B n) (e : B s ≠ -1) : s < n := by
  false_or_by_contra
  exact e (h.2.1 s (by omega))
theorem TB.ge {B : Nat → Int32} {n s : Nat} (h : TB B n) (e : B s = -1) : n ≤ s := by
  false_or_by_contra
  have := h.2.2 s (by omega)
  rw [e, ti_m1] at this
  omega
theorem Tok.le {B : Nat → Int32} {n s e : Nat} {k : Int32} (h : Tok B s e k) (t : TB B n) (hs : s ≤ n) : s ≤ e ∧ e ≤ n := by
  rcases h with ⟨-, h, -⟩ | ⟨-, h, -⟩ | ⟨-, h, -⟩ | ⟨h0, h, -⟩
  · exact ⟨h.1, t.run nb_ltr h hs⟩
  · exact ⟨h.1, t.run nb_dig h hs⟩
  · omega
  · have := t.lt h0.2.2
    omega
theorem ltr_dig {c : Int32} (h : ltr c) : ¬ dig c := fun k => by have := h.1; have := k.2; omega
theorem ltr_m1 {c : Int32} (h : ltr c) : c ≠ -1 := fun e => by rw [e] at h; exact nb_ltr h
theorem dig_m1 {c : Int32} (h : dig c) : c ≠ -1 := fun e => by rw [e] at h; exact nb_dig h
theorem Tok.uniq {B : Nat → Int32} {s e e' : Nat} {k k' : Int32} (h : Tok B s e k) (h' : Tok B s e' k') : e = e' ∧ k = k' := by
  rcases h with ⟨a, b, c⟩ | ⟨a, b, c⟩ | ⟨a, b, c⟩ | ⟨a, b, c⟩ <;> rcases h' with ⟨a', b', c'⟩ | ⟨a', b', c'⟩ | ⟨a', b', c'⟩ | ⟨a', b', c'⟩
  · exact ⟨b.uniq b', by rw [c, c']⟩
  · exact absurd a' (ltr_dig a)
  · exact absurd a' (ltr_m1 a)
  · exact absurd a a'.1
  · exact absurd a (ltr_dig a')
  · have := b.uniq b'
    exact ⟨this, by rw [c, c', this]⟩
  · exact absurd a' (dig_m1 a)
  · exact absurd a a'.2.1
  · exact absurd a (ltr_m1 a')
  · exact absurd a (dig_m1 a')
  · exact ⟨by omega, by rw [c, c']⟩
  · exact absurd a a'.2.2
  · exact absurd a' a.1
  · exact absurd a' a.2.1
  · exact absurd a' a.2.2
  · exact ⟨by omega, by rw [c, c']⟩
def TpX (D : ADD) (B : Nat → Int32) (n : Nat) : Prop := (D.1 11 1).toInt = n ∧ ∀ j, j < n → aB (D.1 12 j) &&& 255 = B j
def TpM (E : ADD) (B : Nat → Int32) (n : Nat) : Prop := (E.1 0 24).toInt = n ∧ ∀ j, j < n → aB (E.1 1 j) &&& 255 = B j
section TKs
variable {D D1 E : ADD} {B : Nat → Int32} {n : Nat}
theorem eX_byteAt {a : Int32} (t : TB B n) (h : TpX D B n) (ha : 0 ≤ a.toInt) : fX9_byteAt a D = some (B a.toNatClampNeg, D) := by
  have H : Wp (fX9_byteAt a D) (fun x D1 => D1 = D ∧ x = B a.toNatClampNeg) := by
    unfold fX9_byteAt
    have e5 : (500 : Int32).toInt = 500 := by decide
    have ea := cl_i ha
    have h1 := h.1
    have t1 := t.1
    refine Wp.lets (Wp.lets (Wp.ilt (fun q => absurd q (by rw [ti_0]; omega)) (fun _ => Wp.ile (fun q => Wp.ret ⟨rfl, (t.2.1 _ (by omega)).symm⟩) (fun q => Wp.ile (fun q2 => absurd q2 (by omega)) (fun q2 => Wp.idx (i_in ha (by omega)) (Wp.ret ⟨rfl, h.2 _ (by omega)⟩))))))
  obtain ⟨x, D1, e, rfl, rfl⟩ := H
  exact e
theorem eM_see2 (t : TB B n) (h : TpM E B n) (ha : 0 ≤ (E.1 0 23).toInt) : fX11_see E = some (B (E.1 0 23).toNatClampNeg, E) := by
  have H : Wp (fX11_see E) (fun x D1 => D1 = E ∧ x = B (E.1 0 23).toNatClampNeg) := by
    unfold fX11_see
    have ea := cl_i ha
    have h1 := h.1
    have t1 := t.1
    exact Wp.lets (Wp.ile (fun q => Wp.ret ⟨rfl, (t.2.1 _ (by omega)).symm⟩) (fun q => Wp.idx (i_in ha (by omega)) (Wp.ret ⟨rfl, h.2 _ (by omega)⟩)))
  obtain ⟨x, D1, e, rfl, rfl⟩ := H
  exact e
theorem eX_isBlank (a : Int32) : fX5_isBlank a D = some (if blk a then 1 else 0, D) := by
  refine eq_Bo ?_
  unfold fX5_isBlank
  exact Wp.lets (Wp.lets (Wp.ite (fun q => Wp.z (Or.inr rfl) (Wp.ret ⟨rfl, Or.inl ⟨rfl, Or.inl q⟩⟩)) (fun q => Wp.ite (fun q2 => Wp.z (Or.inr rfl) (Wp.ret ⟨rfl, Or.inl ⟨rfl, Or.inr q2⟩⟩)) (fun q2 => Wp.z (Or.inl rfl) (Wp.ret ⟨rfl, Or.inr ⟨rfl, fun k => k.elim q q2⟩⟩)))))
theorem eX_isLetter (a : Int32) : fX5_isLetter a D = some (if ltr a then 1 else 0, D) := by
  refine eq_Bo ?_
  unfold fX5_isLetter
  have l : (97 : Int32).toInt = 97 := by decide
  have u : (122 : Int32).toInt = 122 := by decide
  exact Wp.lets (Wp.lets (Wp.ilt (fun q => Wp.z (Or.inl rfl) (Wp.ret ⟨rfl, Or.inr ⟨rfl, fun k => by have := k.1; omega⟩⟩)) (fun q => Wp.ilt (fun q2 => Wp.z (Or.inl rfl) (Wp.ret ⟨rfl, Or.inr ⟨rfl, fun k => by have := k.2; omega⟩⟩)) (fun q2 => Wp.z (Or.inr rfl) (Wp.ret ⟨rfl, Or.inl ⟨rfl, by omega, by omega⟩⟩)))))
theorem eX_isDigit (a : Int32) : fX5_isDigit a D = some (if dig a then 1 else 0, D) := by
  refine eq_Bo ?_
  unfold fX5_isDigit
  have l : (48 : Int32).toInt = 48 := by decide
  have u : (57 : Int32).toInt = 57 := by decide
  exact Wp.lets (Wp.lets (Wp.ilt (fun q => Wp.z (Or.inl rfl) (Wp.ret ⟨rfl, Or.inr ⟨rfl, fun k => by have := k.1; omega⟩⟩)) (fun q => Wp.ilt (fun q2 => Wp.z (Or.inl rfl) (Wp.ret ⟨rfl, Or.inr ⟨rfl, fun k => by have := k.2; omega⟩⟩)) (fun q2 => Wp.z (Or.inr rfl) (Wp.ret ⟨rfl, Or.inl ⟨rfl, by omega, by omega⟩⟩)))))
theorem eX_isSignByte (a : Int32) : fX5_isSignByte a D = some (if sgn a then 1 else 0, D) := by
  refine eq_Bo ?_
  unfold fX5_isSignByte
  have y : ∀ {x : Int32}, sgn x → Wp (aZ 1 (some ((1 : Int32), D))) (fun r D1 => D1 = D ∧ Bo r (sgn x)) := fun hx => Wp.z (Or.inr rfl) (Wp.ret ⟨rfl, Or.inl ⟨rfl, hx⟩⟩)
  refine Wp.lets (Wp.lets (Wp.ite (fun q => y (by rw [q]; decide)) (fun q => Wp.ite (fun q2 => y (by rw [q2]; decide)) (fun q2 => Wp.ite (fun q3 => y (by rw [q3]; decide)) (fun q3 => Wp.ite (fun q4 => y (by rw [q4]; decide)) (fun q4 => Wp.ite (fun q5 => y (by rw [q5]; decide)) (fun q5 => Wp.z (Or.inl rfl) (Wp.ret ⟨rfl, Or.inr ⟨rfl, fun k => ?_⟩⟩))))))))
  rcases k with k | k | k | k | k
  · exact q k
  · exact q2 k
  · exact q3 k
  · exact q4 k
  · exact q5 k
/-- only the reader's token is another -/
def FR (D D1 : ADD) : Prop := (∀ c, c ≠ 33 → D1.1 c = D.1 c) ∧ (∀ i, i ≠ 5 → i ≠ 6 → i ≠ 7 → D1.1 33 i = D.1 33 i) ∧ D1.2 = D.2
theorem FR.refl (D : ADD) : FR D D := ⟨fun _ _ => rfl, fun _ _ _ _ => rfl, rfl⟩
theorem FR.trans {D2 : ADD} (h : FR D D1) (k : FR D1 D2) : FR D D2 := ⟨fun c hc => (k.1 c hc).trans (h.1 c hc), fun i a b c => (k.2.1 i a b c).trans (h.2.1 i a b c), k.2.2.trans h.2.2⟩
theorem FR.si {i : Nat} {v : Int32} (h : FR D D1) (hi : i = 5 ∨ i = 6 ∨ i = 7) : FR D (aSI D1 33 i v) := by
  refine ⟨fun c hc => by rw [si_o hc, h.1 c hc], fun j a b c => ?_, h.2.2⟩
  rw [si_s, if_neg (by omega), h.2.1 j a b c]
theorem FR.tp (f : FR D D1) (h : TpX D B n) : TpX D1 B n := by
  unfold TpX
  rw [f.1 11 (by decide), f.1 12 (by decide)]
  exact h
def AdX (B : Nat → Int32) (p : Nat) (D D1 : ADD) : Prop := ∃ (s e : Nat) (k : Int32), RunTo blk B p s ∧ Tok B s e k ∧ (D1.1 33 6 = nI s ∧ D1.1 33 7 = nI e ∧ D1.1 33 5 = k) ∧ FR D D1
theorem bX_advance {p : Nat} (t : TB B n) (h : TpX D B n) (hp : D.1 33 7 = nI p) (hn : p ≤ n) : Wp (fX5_advance D) (fun _ D1 => AdX B p D D1) := by
  unfold fX5_advance
  have t1 := t.1
  have e5 : (500 : Int32).toInt = 500 := by decide
  have vi : ∀ j, j ≤ 501 → (nI j).toInt = (j : Int) := fun j hj => nI_toInt (by omega)
  have vc : ∀ j, j ≤ 501 → (nI j).toNatClampNeg = j := fun j hj => nI_clamp (by omega)
  refine Wp.lets (Wp.letQ (fun Q j => ∀ D2 s, FR D D2 → D2.1 33 6 = nI s → RunTo blk B p s → Wp (j D2) Q) (fun D2 s f2 h6 hs => ?_) (fun j K => Wp.lets ?_))
  · have hsn : s ≤ n := t.run nb_blk hs hn
    refine Wp.bindE (eX_byteAt t (f2.tp h) (by rw [h6, vi s (by omega)]; omega)) ?_
    rw [h6, vc s (by omega)]
    refine Wp.leti (fun D4 e4 => ?_)
    have f4 : FR D D4 := by rw [e4]; exact f2.si (by omega)
    have h46 : D4.1 33 6 = nI s := by rw [e4, si_s, if_neg (by decide)]; exact h6
    have h47 : D4.1 33 7 = nI s := by rw [e4, si_s, if_pos rfl]
    clear e4
    refine Wp.bindE (eX_isLetter _) ?_
    refine Wp.letQ (fun Q j => ∀ D6, AdX B p D D6 → Wp (j D6) Q) (fun D6 r6 => Wp.ret r6) (fun j1 K1 => Wp.letQ (fun Q j => ∀ D6 e, FR D D6 → D6.1 33 6 = nI s → D6.1 33 7 = nI e → ltr (B s) → RunTo ltr B s e → Wp (j D6) Q) (fun D6 e f6 g6 g7 l r => Wp.lets (K1 _ ⟨s, e, 1, hs, Or.inl ⟨l, r, rfl⟩, ⟨?_, ?_, ?_⟩, f6.si (by omega)⟩)) (fun j2 K2 => Wp.lets ?_))
    · rw [si_s, if_neg (by decide)]; exact g6
    · rw [si_s, if_neg (by decide)]; exact g7
    · rw [si_s, if_pos rfl]
    by_cases hl : ltr (B s)
    · rw [if_pos hl]
      refine Wp.neg (by decide) ?_
      refine Wp.fix0 (fun m D' => FR D D' ∧ D'.1 33 6 = nI s ∧ ∃ q : Nat, D'.1 33 7 = nI q ∧ (s ≤ q ∧ q ≤ n) ∧ (∀ j, s ≤ j → j < q → ltr (B j)) ∧ 501 < m + q) ?_ ?_ aFuel 1000000 _ (Nat.le_refl _) ⟨f4, h46, s, h47, by omega, fun j a b => by omega, by omega⟩
      · intro m g hg D' hI
        obtain ⟨i1, i2, q, i3, i4, i5, i6⟩ := hI
        unfold lX5_advance_75
        have iq := vi q (by omega)
        rw [i3]
        refine Wp.ile (fun q5 => K2 D' q i1 i2 i3 hl ⟨i4.1, i5, ?_⟩) (fun q5 => Wp.bindE (eX_byteAt t (i1.tp h) (by omega)) ?_)
        · rw [t.2.1 q (by omega)]
          exact nb_ltr
        · rw [vc q (by omega)]
          refine Wp.bindE (eX_isLetter _) ?_
          by_cases hq : ltr (B q)
          · rw [if_pos hq]
            have := t.lt (ltr_m1 hq)
            refine Wp.neg (by decide) (Wp.lets (hg _ ⟨i1.si (by omega), by rw [si_s, if_neg (by decide)]; exact i2, q + 1, ?_, by omega, fun j a b => ?_, by omega⟩))
            · rw [si_s, if_pos rfl, i3, nI_succ]
            · by_cases e : j = q
              · rw [e]; exact hq
              · exact i5 j a (by omega)
          · rw [if_neg hq]
            exact Wp.pos rfl (K2 D' q i1 i2 i3 hl ⟨i4.1, i5, hq⟩)
      · intro D' hI
        obtain ⟨-, -, q, -, i4, -, i6⟩ := hI
        omega
    · rw [if_neg hl]
      refine Wp.pos rfl (Wp.bindE (eX_isDigit _) ?_)
      refine Wp.letQ (fun Q j => ∀ D6 e, FR D D6 → D6.1 33 6 = nI s → D6.1 33 7 = nI e → e ≤ n → dig (B s) → RunTo dig B s e → Wp (j D6) Q) (fun D6 e f6 g6 g7 en l r => ?_) (fun j3 K3 => Wp.lets ?_)
      · have g1 := r.1
        have e4 : (4 : Int32).toInt = 4 := by decide
        have es : (D6.1 33 7 - D6.1 33 6).toInt = (e : Int) - s := by
          rw [g6, g7]
          exact ti_sub (vi e (by omega)) (vi s (by omega)) (by omega) (by omega)
        refine Wp.lets (Wp.ilt (fun q => Wp.lets (K1 _ ⟨s, e, 4, hs, Or.inr (Or.inl ⟨l, r, (if_neg (by omega)).symm⟩), ⟨?_, ?_, ?_⟩, f6.si (by omega)⟩)) (fun q => Wp.lets (K1 _ ⟨s, e, 2, hs, Or.inr (Or.inl ⟨l, r, (if_pos (by omega)).symm⟩), ⟨?_, ?_, ?_⟩, f6.si (by omega)⟩)))
        · rw [si_s, if_neg (by decide)]; exact g6
        · rw [si_s, if_neg (by decide)]; exact g7
        · rw [si_s, if_pos rfl]
        · rw [si_s, if_neg (by decide)]; exact g6
        · rw [si_s, if_neg (by decide)]; exact g7
        · rw [si_s, if_pos rfl]
      by_cases hd : dig (B s)
      · rw [if_pos hd]
        refine Wp.neg (by decide) ?_
        refine Wp.fix0 (fun m D' => FR D D' ∧ D'.1 33 6 = nI s ∧ ∃ q : Nat, D'.1 33 7 = nI q ∧ (s ≤ q ∧ q ≤ n) ∧ (∀ j, s ≤ j → j < q → dig (B j)) ∧ 501 < m + q) ?_ ?_ aFuel 1000000 _ (Nat.le_refl _) ⟨f4, h46, s, h47, by omega, fun j a b => by omega, by omega⟩
        · intro m g hg D' hI
          obtain ⟨i1, i2, q, i3, i4, i5, i6⟩ := hI
          unfold lX5_advance_130
          have iq := vi q (by omega)
          rw [i3]
          refine Wp.ile (fun q5 => K3 D' q i1 i2 i3 i4.2 hd ⟨i4.1, i5, ?_⟩) (fun q5 => Wp.bindE (eX_byteAt t (i1.tp h) (by omega)) ?_)
          · rw [t.2.1 q (by omega)]
            exact nb_dig
          · rw [vc q (by omega)]
            refine Wp.bindE (eX_isDigit _) ?_
            by_cases hq : dig (B q)
            · rw [if_pos hq]
              have := t.lt (dig_m1 hq)
              refine Wp.neg (by decide) (Wp.lets (hg _ ⟨i1.si (by omega), by rw [si_s, if_neg (by decide)]; exact i2, q + 1, ?_, by omega, fun j a b => ?_, by omega⟩))
              · rw [si_s, if_pos rfl, i3, nI_succ]
              · by_cases e : j = q
                · rw [e]; exact hq
                · exact i5 j a (by omega)
            · rw [if_neg hq]
              exact Wp.pos rfl (K3 D' q i1 i2 i3 i4.2 hd ⟨i4.1, i5, hq⟩)
        · intro D' hI
          obtain ⟨-, -, q, -, i4, -, i6⟩ := hI
          omega
      · rw [if_neg hd]
        refine Wp.pos rfl (Wp.ite (fun q => Wp.lets (K1 _ ⟨s, s, 0, hs, Or.inr (Or.inr (Or.inl ⟨q, rfl, rfl⟩)), ⟨?_, ?_, ?_⟩, f4.si (by omega)⟩)) (fun q => ?_))
        · rw [si_s, if_neg (by decide)]; exact h46
        · rw [si_s, if_neg (by decide)]; exact h47
        · rw [si_s, if_pos rfl]
        refine Wp.leti (fun D7 e7 => ?_)
        have f7 : FR D D7 := by rw [e7]; exact f4.si (by omega)
        have h76 : D7.1 33 6 = nI s := by rw [e7, si_s, if_neg (by decide)]; exact h46
        have h77 : D7.1 33 7 = nI (s + 1) := by rw [e7, si_s, if_pos rfl, h47, nI_succ]
        refine Wp.bindE (eX_isSignByte _) (Wp.lets ?_)
        by_cases hg : sgn (B s)
        · rw [if_pos hg]
          refine Wp.neg (by decide) (Wp.lets (K1 _ ⟨s, s + 1, 3, hs, Or.inr (Or.inr (Or.inr ⟨⟨hl, hd, q⟩, rfl, (if_pos hg).symm⟩)), ⟨?_, ?_, ?_⟩, f7.si (by omega)⟩))
          · rw [si_s, if_neg (by decide)]; exact h76
          · rw [si_s, if_neg (by decide)]; exact h77
          · rw [si_s, if_pos rfl]
        · rw [if_neg hg]
          refine Wp.pos rfl (Wp.lets (K1 _ ⟨s, s + 1, 4, hs, Or.inr (Or.inr (Or.inr ⟨⟨hl, hd, q⟩, rfl, (if_neg hg).symm⟩)), ⟨?_, ?_, ?_⟩, f7.si (by omega)⟩))
          · rw [si_s, if_neg (by decide)]; exact h76
          · rw [si_s, if_neg (by decide)]; exact h77
          · rw [si_s, if_pos rfl]
  · refine Wp.fix0 (fun m D' => FR D D' ∧ ∃ q : Nat, D'.1 33 6 = nI q ∧ (p ≤ q ∧ q ≤ n) ∧ (∀ j, p ≤ j → j < q → blk (B j)) ∧ 501 < m + q) ?_ ?_ aFuel 1000000 _ (Nat.le_refl _) ⟨(FR.refl D).si (by omega), p, by rw [si_s, if_pos rfl, hp], by omega, fun j a b => by omega, by omega⟩
    · intro m g hg D' hI
      obtain ⟨i1, q, i3, i4, i5, i6⟩ := hI
      unfold lX5_advance_8
      have iq := vi q (by omega)
      rw [i3]
      refine Wp.ile (fun q5 => K D' q i1 i3 ⟨i4.1, i5, ?_⟩) (fun q5 => Wp.bindE (eX_byteAt t (i1.tp h) (by omega)) ?_)
      · rw [t.2.1 q (by omega)]
        exact nb_blk
      · rw [vc q (by omega)]
        refine Wp.bindE (eX_isBlank _) ?_
        by_cases hq : blk (B q)
        · rw [if_pos hq]
          have : q < n := t.lt (fun e => by rw [e] at hq; exact nb_blk hq)
          refine Wp.neg (by decide) (Wp.lets (hg _ ⟨i1.si (by omega), q + 1, ?_, by omega, fun j a b => ?_, by omega⟩))
          · rw [si_s, if_pos rfl, i3, nI_succ]
          · by_cases e : j = q
            · rw [e]; exact hq
            · exact i5 j a (by omega)
        · rw [if_neg hq]
          exact Wp.pos rfl (K D' q i1 i3 ⟨i4.1, i5, hq⟩)
    · intro D' hI
      obtain ⟨-, q, -, i4, -, i6⟩ := hI
      omega
end TKs
