/-! words, signs and numbers of both readers -/
section RWs
variable {D E : ADD} {B : Nat → Int32} {n s e : Nat} {k : Int32}
theorem mtF_at : ∀ (w : List Int32) (a : Nat), mtF B e w a = true ↔ ∀ i, i < w.length → a + i < e ∧ B (a + i) = w.getD i 0
  | [], a => by
    unfold mtF
    exact ⟨fun _ i hi => absurd hi (Nat.not_lt_zero _), fun _ => rfl⟩
  | c :: w, a => by
    unfold mtF
    rw [Bool.and_eq_true, decide_eq_true_eq, mtF_at w (a + 1)]
    constructor
    · rintro ⟨h1, h2⟩ i hi
      match i with
      | 0 => exact h1
      | i + 1 =>
        have := h2 i (by simpa using hi)
        rw [show a + (i + 1) = a + 1 + i by omega]
        exact this
    · intro h
      refine ⟨h 0 (by simp), fun i hi => ?_⟩
      have := h (i + 1) (by simpa using hi)
      rw [show a + (i + 1) = a + 1 + i by omega] at this
      exact this
theorem wM_iff {w : List Int32} : wM B s e w ↔ s + w.length = e ∧ ∀ i, i < w.length → B (s + i) = w.getD i 0 := by
  unfold wM
  rw [mtF_at]
  exact ⟨fun h => ⟨h.2, fun i hi => (h.1 i hi).2⟩, fun h => ⟨fun i hi => ⟨by have := h.1; omega, h.2 i hi⟩, h.1⟩⟩
/-- a packed word -/
abbrev wOK (C : Int64) (w : List Int32) : Prop := (0 < w.length ∧ w.length ≤ 8) ∧ (∀ i, i < w.length → 0 < (w.getD i 0).toInt ∧ (w.getD i 0).toInt < 256) ∧ C.toBitVec.toNat = pN (fun i => (w.getD i 0).toNatClampNeg) w.length
theorem bv_eq (x C : Int64) : x = C ↔ x.toBitVec.toNat = C.toBitVec.toNat := ⟨fun h => by rw [h], fun h => Int64.toBitVec_inj.mp (BitVec.eq_of_toNat_eq h)⟩
theorem pN_0 {f : Nat → Nat} {m : Nat} (h : 0 < m) (hf : ∀ i, i < m → 0 < f i) : pN f m ≠ 0 := by
  match m, h with
  | m + 1, _ =>
    have := hf m (by omega)
    show pN f m * 256 + f m ≠ 0
    omega
theorem pN_cg {f g : Nat → Nat} : ∀ m, (∀ i, i < m → f i = g i) → pN f m = pN g m
  | 0, _ => rfl
  | m + 1, h => by
    show pN f m * 256 + f m = pN g m * 256 + g m
    rw [pN_cg m (fun i hi => h i (by omega)), h m (by omega)]
theorem pkw_8 {C : Int64} {w : List Int32} (hC : wOK C w) (hl : RunTo ltr B s e) (h8 : e - s ≤ 8) : pkL B s (e - s) = C ↔ wM B s e w := by
  obtain ⟨⟨c1, c2⟩, c3, c4⟩ := hC
  have hse := hl.1
  have hB : ∀ i, i < e - s → 97 ≤ (B (s + i)).toInt ∧ (B (s + i)).toInt ≤ 122 := fun i hi => hl.2.1 (s + i) (by omega) (by omega)
  have hg : ∀ i, i < w.length → 0 < (w.getD i 0).toNatClampNeg ∧ (w.getD i 0).toNatClampNeg < 256 := fun i hi => by
    have q := c3 i hi
    have := cl_i (x := w.getD i 0) (by omega)
    omega
  have hf : ∀ i, i < e - s → 0 < (B (s + i)).toNatClampNeg ∧ (B (s + i)).toNatClampNeg < 256 := fun i hi => by
    have q := hB i hi
    have := cl_i (x := B (s + i)) (by omega)
    omega
  rw [wM_iff, bv_eq, pkL_N (e - s) h8 (fun i hi => by have := hB i hi; omega), c4]
  constructor
  · intro h
    obtain ⟨p1, p2⟩ := pN_inj (f := fun i => (B (s + i)).toNatClampNeg) (g := fun i => (w.getD i 0).toNatClampNeg) _ _ hf hg h
    refine ⟨by omega, fun i hi => ?_⟩
    have q : (B (s + i)).toNatClampNeg = (w.getD i 0).toNatClampNeg := p2 i (by omega)
    have q1 := cl_i (x := B (s + i)) (by have := hB i (by omega); omega)
    have q2 := cl_i (x := w.getD i 0) (by have := c3 i hi; omega)
    exact ti_eq (by omega)
  · rintro ⟨p1, p2⟩
    rw [show e - s = w.length by omega]
    exact pN_cg _ (fun i hi => by show (B (s + i)).toNatClampNeg = _; rw [p2 i hi])
theorem pkw_9 {C : Int64} {w : List Int32} (hC : wOK C w) (h8 : ¬ e - s ≤ 8) : 0 = C ↔ wM B s e w := by
  obtain ⟨⟨c1, c2⟩, c3, c4⟩ := hC
  rw [wM_iff]
  constructor
  · intro h
    have z : (0 : Int64).toBitVec.toNat = 0 := rfl
    rw [← h, z] at c4
    exact absurd c4.symm (pN_0 c1 (fun i hi => by
      have q := c3 i hi
      have := cl_i (x := w.getD i 0) (by omega)
      omega))
  · rintro ⟨p1, -⟩
    omega
theorem pkw_eq {C : Int64} {w : List Int32} (hC : wOK C w) (hl : RunTo ltr B s e) : (if e - s ≤ 8 then pkL B s (e - s) else 0) = C ↔ wM B s e w := by
  by_cases h8 : e - s ≤ 8
  · rw [if_pos h8]
    exact pkw_8 hC hl h8
  · rw [if_neg h8]
    exact pkw_9 hC h8
theorem srt_w : srt k = 2 ↔ k = 1 := by
  unfold srt
  by_cases h0 : k = 0
  · rw [if_pos h0, h0]; decide
  · by_cases h1 : k = 1
    · rw [if_neg h0, if_pos h1]; exact ⟨fun _ => h1, fun _ => rfl⟩
    · rw [if_neg h0, if_neg h1]
      refine ⟨fun h => ?_, fun h => absurd h h1⟩
      split at h
      · exact absurd h (by decide)
      · split at h <;> exact absurd h (by decide)
theorem srt_n : srt k = 3 ↔ k = 2 := by
  unfold srt
  by_cases h0 : k = 0
  · rw [if_pos h0, h0]; decide
  · by_cases h1 : k = 1
    · rw [if_neg h0, if_pos h1, h1]; decide
    · by_cases h2 : k = 2
      · rw [if_neg h0, if_neg h1, if_pos h2]; exact ⟨fun _ => h2, fun _ => rfl⟩
      · rw [if_neg h0, if_neg h1, if_neg h2]
        refine ⟨fun h => ?_, fun h => absurd h h2⟩
        split at h <;> exact absurd h (by decide)
theorem srt_s : srt k = 4 ↔ k = 3 := by
  unfold srt
  by_cases h0 : k = 0
  · rw [if_pos h0, h0]; decide
  · by_cases h1 : k = 1
    · rw [if_neg h0, if_pos h1, h1]; decide
    · by_cases h2 : k = 2
      · rw [if_neg h0, if_neg h1, if_pos h2, h2]; decide
      · by_cases h3 : k = 3
        · rw [if_neg h0, if_neg h1, if_neg h2, if_pos h3]; exact ⟨fun _ => h3, fun _ => rfl⟩
        · rw [if_neg h0, if_neg h1, if_neg h2, if_neg h3]
          exact ⟨fun h => absurd h (by decide), fun h => absurd h h3⟩
theorem srt_e : srt k = 0 ↔ k = 0 := by
  unfold srt
  by_cases h0 : k = 0
  · rw [if_pos h0]; exact ⟨fun _ => h0, fun _ => rfl⟩
  · rw [if_neg h0]
    refine ⟨fun h => ?_, fun h => absurd h h0⟩
    split at h
    · exact absurd h (by decide)
    · split at h
      · exact absurd h (by decide)
      · split at h <;> exact absurd h (by decide)
theorem Tok.l (h : Tok B s e 1) : RunTo ltr B s e := by
  rcases h with h | h | h | h
  · exact h.2.1
  · have := h.2.2
    split at this <;> exact absurd this (by decide)
  · exact absurd h.2.2 (by decide)
  · have := h.2.2
    split at this <;> exact absurd this (by decide)
theorem eM_isWord {C : Int64} {w : List Int32} (hC : wOK C w) (t : TB B n) (h : TkM B n E s e k) : fX11_isWord C E = some (if k = 1 ∧ wM B s e w then 1 else 0, E) := by
  refine eq_Bo ?_
  obtain ⟨h1, ⟨h2, h3, h4⟩, ⟨h5, -, -⟩, h6, h7, h8⟩ := h
  unfold fX11_isWord
  rw [h4]
  have no : ¬ (k = 1 ∧ wM B s e w) → Wp (aZ 0 (some ((0 : Int32), E))) (fun x D1 => D1 = E ∧ Bo x (k = 1 ∧ wM B s e w)) := fun q => Wp.z (Or.inl rfl) (Wp.ret ⟨rfl, Or.inr ⟨rfl, q⟩⟩)
  refine Wp.lets (Wp.lets (Wp.ite (fun q => ?_) (fun q => no (fun z => q (srt_w.mpr z.1)))))
  have k1 := srt_w.mp q
  have e28 := h5 k1
  subst k1
  have eq := pkw_eq hC h6.l
  rw [← e28] at eq
  exact Wp.ite (fun z => Wp.z (Or.inr rfl) (Wp.ret ⟨rfl, Or.inl ⟨rfl, rfl, eq.mp ((lg_cmp_eq _ _).mp z)⟩⟩)) (fun z => no (fun y => z ((lg_cmp_eq _ _).mpr (eq.mpr y.2))))
theorem eM_isSign {c : Int32} (h : TkM B n E s e k) : fX11_isSign c E = some (if k = 3 ∧ B s = c then 1 else 0, E) := by
  refine eq_Bo ?_
  obtain ⟨h1, ⟨h2, h3, h4⟩, ⟨-, -, h5⟩, h6, h7, h8⟩ := h
  unfold fX11_isSign
  rw [h4]
  have no : ¬ (k = 3 ∧ B s = c) → Wp (aZ 0 (some ((0 : Int32), E))) (fun x D1 => D1 = E ∧ Bo x (k = 3 ∧ B s = c)) := fun q => Wp.z (Or.inl rfl) (Wp.ret ⟨rfl, Or.inr ⟨rfl, q⟩⟩)
  refine Wp.lets (Wp.lets (Wp.ite (fun q => ?_) (fun q => no (fun z => q (srt_s.mpr z.1)))))
  have k3 := srt_s.mp q
  rw [h5 k3]
  exact Wp.ite (fun z => Wp.z (Or.inr rfl) (Wp.ret ⟨rfl, Or.inl ⟨rfl, k3, z⟩⟩)) (fun z => no (fun y => z y.2))
theorem TkX.by (t : TB B n) (h : TkX B n D s e k) : fX9_byteAt (D.1 33 6) D = some (B s, D) := by
  obtain ⟨h1, ⟨h2, h3, h4⟩, h6, h7, h8⟩ := h
  have t1 := t.1
  have v : (nI s).toInt = (s : Int) := nI_toInt (by omega)
  rw [h2, eX_byteAt t h1 (by omega), nI_clamp (by omega)]
theorem eX_isSign {c : Int32} (t : TB B n) (h : TkX B n D s e k) : fX5_isSign c D = some (if k = 3 ∧ B s = c then 1 else 0, D) := by
  refine eq_Bo ?_
  unfold fX5_isSign
  rw [h.by t, h.2.1.2.2]
  have no : ¬ (k = 3 ∧ B s = c) → Wp (aZ 0 (some ((0 : Int32), D))) (fun x D1 => D1 = D ∧ Bo x (k = 3 ∧ B s = c)) := fun q => Wp.z (Or.inl rfl) (Wp.ret ⟨rfl, Or.inr ⟨rfl, q⟩⟩)
  exact Wp.lets (Wp.lets (Wp.ite (fun q => Wp.bindE rfl (Wp.ite (fun z => Wp.z (Or.inr rfl) (Wp.ret ⟨rfl, Or.inl ⟨rfl, q, z⟩⟩)) (fun z => no (fun y => z y.2)))) (fun q => no (fun z => q z.1))))
theorem eX_number (t : TB B n) (h : TkX B n D s e k) : fX5_number D = some (nmF B s (e - s), D) := by
  have H : Wp (fX5_number D) (fun x D1 => D1 = D ∧ x = nmF B s (e - s)) := by
    obtain ⟨h1, ⟨h2, h3, h4⟩, h6, h7, h8⟩ := h
    have t1 := t.1
    unfold fX5_number
    refine Wp.lets (Wp.lets (Wp.lets (Wp.go2 (fun j y D' => D' = D ∧ s ≤ j ∧ y = nmF B s (j - s)) e (by omega) (fun g j y D' hj hI K => ?_) (k0 := s) h2 h7 ⟨rfl, Nat.le_refl _, by rw [Nat.sub_self]; rfl⟩)))
    obtain ⟨rfl, hs, rfl⟩ := hI
    unfold lX5_number_7
    have vj : (nI j).toInt = (j : Int) := nI_toInt (by omega)
    have ve : (nI e).toInt = (e : Int) := nI_toInt (by omega)
    rw [h3]
    refine Wp.ile (fun q => Wp.ret ⟨rfl, by rw [show j = e by omega]⟩) (fun q => Wp.bindE (eX_byteAt t h1 (by omega)) ?_)
    rw [nI_clamp (by omega)]
    refine Wp.lets (Wp.lets (K (by omega) _ _ ⟨rfl, by omega, ?_⟩))
    rw [show j + 1 - s = (j - s) + 1 by omega]
    show _ = 10 * nmF B s (j - s) + B (s + (j - s)) - 48
    rw [show s + (j - s) = j by omega, Int32.mul_comm]
  obtain ⟨x, D1, e, rfl, rfl⟩ := H
  exact e
theorem wcF_y {w : List Int32} {ws : List (List Int32)} {i : Nat} (h : wM B s e w) : wcF B s e (w :: ws) i = nI i := if_pos h
theorem wcF_n {w : List Int32} {ws : List (List Int32)} {i : Nat} (h : ¬ wM B s e w) : wcF B s e (w :: ws) i = wcF B s e ws (i + 1) := if_neg h
theorem wk_test0_0 : wOK 495875090022 [115, 116, 117, 102, 102] := by decide +kernel
theorem wk_test0_1 : wOK 426953502835 [99, 104, 105, 112, 115] := by decide +kernel
theorem wk_test0_2 : wOK 1818583396 [108, 101, 97, 100] := by decide +kernel
theorem wk_test0_3 : wOK 1953462126 [116, 111, 119, 110] := by decide +kernel
theorem wk_test0_4 : wOK 1835102827 [109, 97, 114, 107] := by decide +kernel
theorem wk_test0_5 : wOK 478745093490 [111, 119, 110, 101, 114] := by decide +kernel
theorem wk_test0_6 : wOK 6383461 [97, 103, 101] := by decide +kernel
theorem eM_test0 (t : TB B n) (h : TkM B n E s e k) : fX11_testWord 0 E = some (if k = 1 then wcF B s e (wds 3) 0 else -1, E) := by
  have H : Wp (fX11_testWord 0 E) (fun x D1 => D1 = E ∧ x = if k = 1 then wcF B s e [[115, 116, 117, 102, 102], [99, 104, 105, 112, 115], [108, 101, 97, 100], [116, 111, 119, 110], [109, 97, 114, 107], [111, 119, 110, 101, 114], [97, 103, 101]] 0 else -1) := by
    unfold fX11_testWord
    refine Wp.pos rfl ?_
    refine Wp.bindE (eM_isWord wk_test0_0 t h) (Wp.lets ?_)
    by_cases c0 : k = 1 ∧ wM B s e [115, 116, 117, 102, 102]
    · rw [if_pos c0]
      refine Wp.neg (by decide) (Wp.ret ⟨rfl, ?_⟩)
      rw [if_pos c0.1, wcF_y c0.2]
      rfl
    rw [if_neg c0]
    refine Wp.pos rfl ?_
    refine Wp.bindE (eM_isWord wk_test0_1 t h) ?_
    by_cases c1 : k = 1 ∧ wM B s e [99, 104, 105, 112, 115]
    · rw [if_pos c1]
      refine Wp.neg (by decide) (Wp.ret ⟨rfl, ?_⟩)
      rw [if_pos c1.1, wcF_n (fun q => c0 ⟨c1.1, q⟩), wcF_y c1.2]
      rfl
    rw [if_neg c1]
    refine Wp.pos rfl ?_
    refine Wp.bindE (eM_isWord wk_test0_2 t h) ?_
    by_cases c2 : k = 1 ∧ wM B s e [108, 101, 97, 100]
    · rw [if_pos c2]
      refine Wp.neg (by decide) (Wp.ret ⟨rfl, ?_⟩)
      rw [if_pos c2.1, wcF_n (fun q => c0 ⟨c2.1, q⟩), wcF_n (fun q => c1 ⟨c2.1, q⟩), wcF_y c2.2]
      rfl
    rw [if_neg c2]
    refine Wp.pos rfl ?_
    refine Wp.bindE (eM_isWord wk_test0_3 t h) ?_
    by_cases c3 : k = 1 ∧ wM B s e [116, 111, 119, 110]
    · rw [if_pos c3]
      refine Wp.neg (by decide) (Wp.ret ⟨rfl, ?_⟩)
      rw [if_pos c3.1, wcF_n (fun q => c0 ⟨c3.1, q⟩), wcF_n (fun q => c1 ⟨c3.1, q⟩), wcF_n (fun q => c2 ⟨c3.1, q⟩), wcF_y c3.2]
      rfl
    rw [if_neg c3]
    refine Wp.pos rfl ?_
    refine Wp.bindE (eM_isWord wk_test0_4 t h) ?_
    by_cases c4 : k = 1 ∧ wM B s e [109, 97, 114, 107]
    · rw [if_pos c4]
      refine Wp.neg (by decide) (Wp.ret ⟨rfl, ?_⟩)
      rw [if_pos c4.1, wcF_n (fun q => c0 ⟨c4.1, q⟩), wcF_n (fun q => c1 ⟨c4.1, q⟩), wcF_n (fun q => c2 ⟨c4.1, q⟩), wcF_n (fun q => c3 ⟨c4.1, q⟩), wcF_y c4.2]
      rfl
    rw [if_neg c4]
    refine Wp.pos rfl ?_
    refine Wp.bindE (eM_isWord wk_test0_5 t h) ?_
    by_cases c5 : k = 1 ∧ wM B s e [111, 119, 110, 101, 114]
    · rw [if_pos c5]
      refine Wp.neg (by decide) (Wp.ret ⟨rfl, ?_⟩)
      rw [if_pos c5.1, wcF_n (fun q => c0 ⟨c5.1, q⟩), wcF_n (fun q => c1 ⟨c5.1, q⟩), wcF_n (fun q => c2 ⟨c5.1, q⟩), wcF_n (fun q => c3 ⟨c5.1, q⟩), wcF_n (fun q => c4 ⟨c5.1, q⟩), wcF_y c5.2]
      rfl
    rw [if_neg c5]
    refine Wp.pos rfl ?_
    refine Wp.bindE (eM_isWord wk_test0_6 t h) ?_
    by_cases c6 : k = 1 ∧ wM B s e [97, 103, 101]
    · rw [if_pos c6]
      refine Wp.neg (by decide) (Wp.ret ⟨rfl, ?_⟩)
      rw [if_pos c6.1, wcF_n (fun q => c0 ⟨c6.1, q⟩), wcF_n (fun q => c1 ⟨c6.1, q⟩), wcF_n (fun q => c2 ⟨c6.1, q⟩), wcF_n (fun q => c3 ⟨c6.1, q⟩), wcF_n (fun q => c4 ⟨c6.1, q⟩), wcF_n (fun q => c5 ⟨c6.1, q⟩), wcF_y c6.2]
      rfl
    rw [if_neg c6]
    refine Wp.pos rfl ?_
    refine Wp.ret ⟨rfl, ?_⟩
    by_cases hk : k = 1
    · rw [if_pos hk, wcF_n (fun q => c0 ⟨hk, q⟩), wcF_n (fun q => c1 ⟨hk, q⟩), wcF_n (fun q => c2 ⟨hk, q⟩), wcF_n (fun q => c3 ⟨hk, q⟩), wcF_n (fun q => c4 ⟨hk, q⟩), wcF_n (fun q => c5 ⟨hk, q⟩), wcF_n (fun q => c6 ⟨hk, q⟩)]
      rfl
    · rw [if_neg hk]
  obtain ⟨x, D1, e, rfl, rfl⟩ := H
  exact e
theorem wk_test1_0 : wOK 1835101817 [109, 97, 110, 121] := by decide +kernel
theorem wk_test1_1 : wOK 1852137842 [110, 101, 97, 114] := by decide +kernel
theorem wk_test1_2 : wOK 1835360622 [109, 101, 97, 110] := by decide +kernel
theorem wk_test1_3 : wOK 109299962372965 [99, 104, 97, 110, 99, 101] := by decide +kernel
theorem wk_test1_4 : wOK 500135716196 [116, 114, 105, 101, 100] := by decide +kernel
theorem wk_test1_5 : wOK 482854658917 [112, 108, 97, 99, 101] := by decide +kernel
theorem wk_test1_6 : wOK 500086304371 [116, 111, 119, 110, 115] := by decide +kernel
theorem wk_test1_7 : wOK 469786323827 [109, 97, 114, 107, 115] := by decide +kernel
theorem eM_test1 (t : TB B n) (h : TkM B n E s e k) : fX11_testWord 1 E = some (if k = 1 then wcF B s e (wds 2) 0 else -1, E) := by
  have H : Wp (fX11_testWord 1 E) (fun x D1 => D1 = E ∧ x = if k = 1 then wcF B s e [[109, 97, 110, 121], [110, 101, 97, 114], [109, 101, 97, 110], [99, 104, 97, 110, 99, 101], [116, 114, 105, 101, 100], [112, 108, 97, 99, 101], [116, 111, 119, 110, 115], [109, 97, 114, 107, 115]] 0 else -1) := by
    unfold fX11_testWord
    refine Wp.neg (by decide) ?_
    refine Wp.bindE (eM_isWord wk_test1_0 t h) (Wp.lets ?_)
    by_cases c0 : k = 1 ∧ wM B s e [109, 97, 110, 121]
    · rw [if_pos c0]
      refine Wp.neg (by decide) (Wp.ret ⟨rfl, ?_⟩)
      rw [if_pos c0.1, wcF_y c0.2]
      rfl
    rw [if_neg c0]
    refine Wp.pos rfl ?_
    refine Wp.bindE (eM_isWord wk_test1_1 t h) ?_
    by_cases c1 : k = 1 ∧ wM B s e [110, 101, 97, 114]
    · rw [if_pos c1]
      refine Wp.neg (by decide) (Wp.ret ⟨rfl, ?_⟩)
      rw [if_pos c1.1, wcF_n (fun q => c0 ⟨c1.1, q⟩), wcF_y c1.2]
      rfl
    rw [if_neg c1]
    refine Wp.pos rfl ?_
    refine Wp.bindE (eM_isWord wk_test1_2 t h) ?_
    by_cases c2 : k = 1 ∧ wM B s e [109, 101, 97, 110]
    · rw [if_pos c2]
      refine Wp.neg (by decide) (Wp.ret ⟨rfl, ?_⟩)
      rw [if_pos c2.1, wcF_n (fun q => c0 ⟨c2.1, q⟩), wcF_n (fun q => c1 ⟨c2.1, q⟩), wcF_y c2.2]
      rfl
    rw [if_neg c2]
    refine Wp.pos rfl ?_
    refine Wp.bindE (eM_isWord wk_test1_3 t h) ?_
    by_cases c3 : k = 1 ∧ wM B s e [99, 104, 97, 110, 99, 101]
    · rw [if_pos c3]
      refine Wp.neg (by decide) (Wp.ret ⟨rfl, ?_⟩)
      rw [if_pos c3.1, wcF_n (fun q => c0 ⟨c3.1, q⟩), wcF_n (fun q => c1 ⟨c3.1, q⟩), wcF_n (fun q => c2 ⟨c3.1, q⟩), wcF_y c3.2]
      rfl
    rw [if_neg c3]
    refine Wp.pos rfl ?_
    refine Wp.bindE (eM_isWord wk_test1_4 t h) ?_
    by_cases c4 : k = 1 ∧ wM B s e [116, 114, 105, 101, 100]
    · rw [if_pos c4]
      refine Wp.neg (by decide) (Wp.ret ⟨rfl, ?_⟩)
      rw [if_pos c4.1, wcF_n (fun q => c0 ⟨c4.1, q⟩), wcF_n (fun q => c1 ⟨c4.1, q⟩), wcF_n (fun q => c2 ⟨c4.1, q⟩), wcF_n (fun q => c3 ⟨c4.1, q⟩), wcF_y c4.2]
      rfl
    rw [if_neg c4]
    refine Wp.pos rfl ?_
    refine Wp.bindE (eM_isWord wk_test1_5 t h) ?_
    by_cases c5 : k = 1 ∧ wM B s e [112, 108, 97, 99, 101]
    · rw [if_pos c5]
      refine Wp.neg (by decide) (Wp.ret ⟨rfl, ?_⟩)
      rw [if_pos c5.1, wcF_n (fun q => c0 ⟨c5.1, q⟩), wcF_n (fun q => c1 ⟨c5.1, q⟩), wcF_n (fun q => c2 ⟨c5.1, q⟩), wcF_n (fun q => c3 ⟨c5.1, q⟩), wcF_n (fun q => c4 ⟨c5.1, q⟩), wcF_y c5.2]
      rfl
    rw [if_neg c5]
    refine Wp.pos rfl ?_
    refine Wp.bindE (eM_isWord wk_test1_6 t h) ?_
    by_cases c6 : k = 1 ∧ wM B s e [116, 111, 119, 110, 115]
    · rw [if_pos c6]
      refine Wp.neg (by decide) (Wp.ret ⟨rfl, ?_⟩)
      rw [if_pos c6.1, wcF_n (fun q => c0 ⟨c6.1, q⟩), wcF_n (fun q => c1 ⟨c6.1, q⟩), wcF_n (fun q => c2 ⟨c6.1, q⟩), wcF_n (fun q => c3 ⟨c6.1, q⟩), wcF_n (fun q => c4 ⟨c6.1, q⟩), wcF_n (fun q => c5 ⟨c6.1, q⟩), wcF_y c6.2]
      rfl
    rw [if_neg c6]
    refine Wp.pos rfl ?_
    refine Wp.bindE (eM_isWord wk_test1_7 t h) ?_
    by_cases c7 : k = 1 ∧ wM B s e [109, 97, 114, 107, 115]
    · rw [if_pos c7]
      refine Wp.neg (by decide) (Wp.ret ⟨rfl, ?_⟩)
      rw [if_pos c7.1, wcF_n (fun q => c0 ⟨c7.1, q⟩), wcF_n (fun q => c1 ⟨c7.1, q⟩), wcF_n (fun q => c2 ⟨c7.1, q⟩), wcF_n (fun q => c3 ⟨c7.1, q⟩), wcF_n (fun q => c4 ⟨c7.1, q⟩), wcF_n (fun q => c5 ⟨c7.1, q⟩), wcF_n (fun q => c6 ⟨c7.1, q⟩), wcF_y c7.2]
      rfl
    rw [if_neg c7]
    refine Wp.pos rfl ?_
    refine Wp.ret ⟨rfl, ?_⟩
    by_cases hk : k = 1
    · rw [if_pos hk, wcF_n (fun q => c0 ⟨hk, q⟩), wcF_n (fun q => c1 ⟨hk, q⟩), wcF_n (fun q => c2 ⟨hk, q⟩), wcF_n (fun q => c3 ⟨hk, q⟩), wcF_n (fun q => c4 ⟨hk, q⟩), wcF_n (fun q => c5 ⟨hk, q⟩), wcF_n (fun q => c6 ⟨hk, q⟩), wcF_n (fun q => c7 ⟨hk, q⟩)]
      rfl
    · rw [if_neg hk]
  obtain ⟨x, D1, e, rfl, rfl⟩ := H
  exact e
theorem wk_act0_0 : wOK 1836020325 [109, 111, 114, 101] := by decide +kernel
theorem wk_act0_1 : wOK 1818588019 [108, 101, 115, 115] := by decide +kernel
theorem wk_act0_2 : wOK 1937010544 [115, 116, 111, 112] := by decide +kernel
theorem eM_act0 (t : TB B n) (h : TkM B n E s e k) : fX11_actWord 0 E = some (if k = 1 then wcF B s e (wds 6) 0 else -1, E) := by
  have H : Wp (fX11_actWord 0 E) (fun x D1 => D1 = E ∧ x = if k = 1 then wcF B s e [[109, 111, 114, 101], [108, 101, 115, 115], [115, 116, 111, 112]] 0 else -1) := by
    unfold fX11_actWord
    refine Wp.pos rfl ?_
    refine Wp.bindE (eM_isWord wk_act0_0 t h) (Wp.lets ?_)
    by_cases c0 : k = 1 ∧ wM B s e [109, 111, 114, 101]
    · rw [if_pos c0]
      refine Wp.neg (by decide) (Wp.ret ⟨rfl, ?_⟩)
      rw [if_pos c0.1, wcF_y c0.2]
      rfl
    rw [if_neg c0]
    refine Wp.pos rfl ?_
    refine Wp.bindE (eM_isWord wk_act0_1 t h) ?_
    by_cases c1 : k = 1 ∧ wM B s e [108, 101, 115, 115]
    · rw [if_pos c1]
      refine Wp.neg (by decide) (Wp.ret ⟨rfl, ?_⟩)
      rw [if_pos c1.1, wcF_n (fun q => c0 ⟨c1.1, q⟩), wcF_y c1.2]
      rfl
    rw [if_neg c1]
    refine Wp.pos rfl ?_
    refine Wp.bindE (eM_isWord wk_act0_2 t h) ?_
    by_cases c2 : k = 1 ∧ wM B s e [115, 116, 111, 112]
    · rw [if_pos c2]
      refine Wp.neg (by decide) (Wp.ret ⟨rfl, ?_⟩)
      rw [if_pos c2.1, wcF_n (fun q => c0 ⟨c2.1, q⟩), wcF_n (fun q => c1 ⟨c2.1, q⟩), wcF_y c2.2]
      rfl
    rw [if_neg c2]
    refine Wp.pos rfl ?_
    refine Wp.ret ⟨rfl, ?_⟩
    by_cases hk : k = 1
    · rw [if_pos hk, wcF_n (fun q => c0 ⟨hk, q⟩), wcF_n (fun q => c1 ⟨hk, q⟩), wcF_n (fun q => c2 ⟨hk, q⟩)]
      rfl
    · rw [if_neg hk]
  obtain ⟨x, D1, e, rfl, rfl⟩ := H
  exact e
theorem wk_act1_0 : wOK 1937076837 [115, 117, 114, 101] := by decide +kernel
theorem wk_act1_1 : wOK 119200029174905 [108, 105, 107, 101, 108, 121] := by decide +kernel
theorem wk_act1_2 : wOK 1869636974 [111, 112, 101, 110] := by decide +kernel
theorem wk_act1_3 : wOK 27416740819268468 [97, 103, 97, 105, 110, 115, 116] := by decide +kernel
theorem eM_act1 (t : TB B n) (h : TkM B n E s e k) : fX11_actWord 1 E = some (if k = 1 then wcF B s e (wds 5) 0 else -1, E) := by
  have H : Wp (fX11_actWord 1 E) (fun x D1 => D1 = E ∧ x = if k = 1 then wcF B s e [[115, 117, 114, 101], [108, 105, 107, 101, 108, 121], [111, 112, 101, 110], [97, 103, 97, 105, 110, 115, 116]] 0 else -1) := by
    unfold fX11_actWord
    refine Wp.neg (by decide) ?_
    refine Wp.bindE (eM_isWord wk_act1_0 t h) (Wp.lets ?_)
    by_cases c0 : k = 1 ∧ wM B s e [115, 117, 114, 101]
    · rw [if_pos c0]
      refine Wp.neg (by decide) (Wp.ret ⟨rfl, ?_⟩)
      rw [if_pos c0.1, wcF_y c0.2]
      rfl
    rw [if_neg c0]
    refine Wp.pos rfl ?_
    refine Wp.bindE (eM_isWord wk_act1_1 t h) ?_
    by_cases c1 : k = 1 ∧ wM B s e [108, 105, 107, 101, 108, 121]
    · rw [if_pos c1]
      refine Wp.neg (by decide) (Wp.ret ⟨rfl, ?_⟩)
      rw [if_pos c1.1, wcF_n (fun q => c0 ⟨c1.1, q⟩), wcF_y c1.2]
      rfl
    rw [if_neg c1]
    refine Wp.pos rfl ?_
    refine Wp.bindE (eM_isWord wk_act1_2 t h) ?_
    by_cases c2 : k = 1 ∧ wM B s e [111, 112, 101, 110]
    · rw [if_pos c2]
      refine Wp.neg (by decide) (Wp.ret ⟨rfl, ?_⟩)
      rw [if_pos c2.1, wcF_n (fun q => c0 ⟨c2.1, q⟩), wcF_n (fun q => c1 ⟨c2.1, q⟩), wcF_y c2.2]
      rfl
    rw [if_neg c2]
    refine Wp.pos rfl ?_
    refine Wp.bindE (eM_isWord wk_act1_3 t h) ?_
    by_cases c3 : k = 1 ∧ wM B s e [97, 103, 97, 105, 110, 115, 116]
    · rw [if_pos c3]
      refine Wp.neg (by decide) (Wp.ret ⟨rfl, ?_⟩)
      rw [if_pos c3.1, wcF_n (fun q => c0 ⟨c3.1, q⟩), wcF_n (fun q => c1 ⟨c3.1, q⟩), wcF_n (fun q => c2 ⟨c3.1, q⟩), wcF_y c3.2]
      rfl
    rw [if_neg c3]
    refine Wp.pos rfl ?_
    refine Wp.ret ⟨rfl, ?_⟩
    by_cases hk : k = 1
    · rw [if_pos hk, wcF_n (fun q => c0 ⟨hk, q⟩), wcF_n (fun q => c1 ⟨hk, q⟩), wcF_n (fun q => c2 ⟨hk, q⟩), wcF_n (fun q => c3 ⟨hk, q⟩)]
      rfl
    · rw [if_neg hk]
  obtain ⟨x, D1, e, rfl, rfl⟩ := H
  exact e
theorem wk_if : wOK 26982 [105, 102] := by decide +kernel
theorem one_if : wcF B s e (wds 0) 0 = 0 ↔ wM B s e [105, 102] := by
  show (if wM B s e [105, 102] then nI 0 else -1) = 0 ↔ _
  by_cases h : wM B s e [105, 102]
  · rw [if_pos h]; exact ⟨fun _ => h, fun _ => rfl⟩
  · rw [if_neg h]; exact ⟨fun q => absurd q (by decide), fun q => absurd q h⟩
theorem wk_not : wOK 7237492 [110, 111, 116] := by decide +kernel
theorem one_not : wcF B s e (wds 1) 0 = 0 ↔ wM B s e [110, 111, 116] := by
  show (if wM B s e [110, 111, 116] then nI 0 else -1) = 0 ↔ _
  by_cases h : wM B s e [110, 111, 116]
  · rw [if_pos h]; exact ⟨fun _ => h, fun _ => rfl⟩
  · rw [if_neg h]; exact ⟨fun q => absurd q (by decide), fun q => absurd q h⟩
theorem wk_and : wOK 6385252 [97, 110, 100] := by decide +kernel
theorem one_and : wcF B s e (wds 4) 0 = 0 ↔ wM B s e [97, 110, 100] := by
  show (if wM B s e [97, 110, 100] then nI 0 else -1) = 0 ↔ _
  by_cases h : wM B s e [97, 110, 100]
  · rw [if_pos h]; exact ⟨fun _ => h, fun _ => rfl⟩
  · rw [if_neg h]; exact ⟨fun q => absurd q (by decide), fun q => absurd q h⟩
theorem wk_to : wOK 29807 [116, 111] := by decide +kernel
theorem one_to : wcF B s e (wds 7) 0 = 0 ↔ wM B s e [116, 111] := by
  show (if wM B s e [116, 111] then nI 0 else -1) = 0 ↔ _
  by_cases h : wM B s e [116, 111]
  · rw [if_pos h]; exact ⟨fun _ => h, fun _ => rfl⟩
  · rw [if_neg h]; exact ⟨fun q => absurd q (by decide), fun q => absurd q h⟩
end RWs
