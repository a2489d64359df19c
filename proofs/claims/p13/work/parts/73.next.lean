/-! the reference's next token -/
def srt (k : Int32) : Int32 := if k = 0 then 0 else if k = 1 then 2 else if k = 2 then 3 else if k = 3 then 4 else 1
def pkL (B : Nat → Int32) (s : Nat) : Nat → Int64
  | 0 => 0
  | m + 1 => (pkL B s m <<< ((8 : Int32).toInt64 &&& 63)) ||| (B (s + m)).toInt64
def nmF (B : Nat → Int32) (s : Nat) : Nat → Int32
  | 0 => 0
  | m + 1 => 10 * nmF B s m + B (s + m) - 48
def Ctn (B : Nat → Int32) (s e : Nat) (k : Int32) (E : ADD) : Prop := (k = 1 → E.2 0 28 = if e - s ≤ 8 then pkL B s (e - s) else 0) ∧ (k = 2 → E.1 0 27 = nmF B s (e - s)) ∧ (k = 3 → E.1 0 27 = B s)
def FN (E E1 : ADD) : Prop := (∀ c, c ≠ 0 → E1.1 c = E.1 c) ∧ ∀ i, i ≠ 23 → i ≠ 25 → i ≠ 26 → i ≠ 27 → E1.1 0 i = E.1 0 i
section NXs
variable {E E1 : ADD} {B : Nat → Int32} {n : Nat}
theorem FN.refl (E : ADD) : FN E E := ⟨fun _ _ => rfl, fun _ _ _ _ _ => rfl⟩
theorem FN.trans {E2 : ADD} (h : FN E E1) (k : FN E1 E2) : FN E E2 := ⟨fun c hc => (k.1 c hc).trans (h.1 c hc), fun i a b c d => (k.2 i a b c d).trans (h.2 i a b c d)⟩
theorem FN.si {i : Nat} {v : Int32} (h : FN E E1) (hi : i = 23 ∨ i = 25 ∨ i = 26 ∨ i = 27) : FN E (aSI E1 0 i v) := by
  refine ⟨fun c hc => by rw [si_o hc, h.1 c hc], fun j a b c d => ?_⟩
  rw [si_s, if_neg (by omega), h.2 j a b c d]
theorem FN.sl {c i : Nat} {v : Int64} (h : FN E E1) : FN E (aSL E1 c i v) := h
theorem FN.tp (f : FN E E1) (h : TpM E B n) : TpM E1 B n := by
  unfold TpM
  rw [f.1 1 (by decide), f.2 24 (by decide) (by decide) (by decide) (by decide)]
  exact h
theorem eM_isL (a : Int32) : fX11_is a 97 122 E = some (if ltr a then 1 else 0, E) := by
  have := eM_is a 97 122 E
  have l : (97 : Int32).toInt = 97 := by decide
  have u : (122 : Int32).toInt = 122 := by decide
  rw [l, u] at this
  exact this
theorem eM_isD (a : Int32) : fX11_is a 48 57 E = some (if dig a then 1 else 0, E) := by
  have := eM_is a 48 57 E
  have l : (48 : Int32).toInt = 48 := by decide
  have u : (57 : Int32).toInt = 57 := by decide
  rw [l, u] at this
  exact this
def NxM (B : Nat → Int32) (p : Nat) (E E1 : ADD) : Prop := ∃ (s e : Nat) (k : Int32), RunTo blk B p s ∧ Tok B s e k ∧ (E1.1 0 25 = nI s ∧ E1.1 0 23 = nI e ∧ E1.1 0 26 = srt k) ∧ Ctn B s e k E1 ∧ FN E E1
theorem bM_next {p : Nat} (t : TB B n) (h : TpM E B n) (hp : E.1 0 23 = nI p) (hn : p ≤ n) : Wp (fX11_next E) (fun _ E1 => NxM B p E E1) := by
  unfold fX11_next
  have t1 := t.1
  have vi : ∀ j, j ≤ 501 → (nI j).toInt = (j : Int) := fun j hj => nI_toInt (by omega)
  have vc : ∀ j, j ≤ 501 → (nI j).toNatClampNeg = j := fun j hj => nI_clamp (by omega)
  refine Wp.lets ?_
  refine Wp.fix0 (fun m D' => FN E D' ∧ ∃ q : Nat, D'.1 0 23 = nI q ∧ (p ≤ q ∧ q ≤ n) ∧ (∀ j, p ≤ j → j < q → blk (B j)) ∧ 501 < m + q) ?_ ?_ aFuel 1000000 _ (Nat.le_refl _) ⟨FN.refl E, p, hp, by omega, fun j a b => by omega, by omega⟩
  rotate_left
  · intro D' hI
    obtain ⟨-, q, -, i4, -, i6⟩ := hI
    omega
  intro m g hg D' hI
  obtain ⟨i1, s, i3, i4, i5, i6⟩ := hI
  unfold lX11_next_0
  have iq := vi s (by omega)
  have see : ∀ D2, FN E D2 → D2.1 0 23 = nI s → fX11_see D2 = some (B s, D2) := fun D2 f2 e2 => by
    rw [eM_see2 t (f2.tp h) (by rw [e2, iq]; omega), e2, vc s (by omega)]
  refine Wp.bindE (see D' i1 i3) ?_
  refine Wp.letQ (fun Q j => blk (B s) → Wp (j D') Q) (fun hq => ?_) (fun j K => ?_)
  · have : s < n := t.lt (fun e => by rw [e] at hq; exact nb_blk hq)
    refine Wp.lets (hg _ ⟨i1.si (by omega), s + 1, ?_, by omega, fun j a b => ?_, by omega⟩)
    · rw [si_s, if_pos rfl, i3, nI_succ]
    · by_cases e : j = s
      · rw [e]; exact hq
      · exact i5 j a (by omega)
  refine Wp.ite (fun q => K (Or.inl q)) (fun q1 => Wp.bindE (see D' i1 i3) (Wp.ite (fun q => K (Or.inr q)) (fun q2 => ?_)))
  have hs : RunTo blk B p s := ⟨i4.1, i5, fun k => k.elim q1 q2⟩
  clear K
  refine Wp.leti (fun D6 e6 => ?_)
  have f6 : FN E D6 := by rw [e6]; exact i1.si (by omega)
  have h625 : D6.1 0 25 = nI s := by rw [e6, si_s, if_pos rfl, i3]
  have h623 : D6.1 0 23 = nI s := by rw [e6, si_s, if_neg (by decide)]; exact i3
  clear e6
  refine Wp.bindE (see D6 f6 h623) (Wp.leti (fun D8 e8 => Wp.leti (fun D9 e9 => ?_)))
  have f9 : FN E D9 := by rw [e9, e8]; exact (f6.si (by omega)).sl
  have h925 : D9.1 0 25 = nI s := by rw [e9, e8]; show (aSI D6 0 27 (B s)).1 0 25 = _; rw [si_s, if_neg (by decide)]; exact h625
  have h923 : D9.1 0 23 = nI s := by rw [e9, e8]; show (aSI D6 0 27 (B s)).1 0 23 = _; rw [si_s, if_neg (by decide)]; exact h623
  have h927 : D9.1 0 27 = B s := by rw [e9, e8]; show (aSI D6 0 27 (B s)).1 0 27 = _; rw [si_s, if_pos rfl]
  have h928 : D9.2 0 28 = 0 := by rw [e9]; simp [aSL]
  clear e8 e9
  refine Wp.letQ (fun Q j => ∀ D10, NxM B p E D10 → Wp (j D10) Q) (fun D10 r => Wp.ret r) (fun j K => ?_)
  refine Wp.ile (fun hx => Wp.bindE (eM_isL _) ?_) (fun hx => Wp.lets (K _ ⟨s, s, 0, hs, Or.inr (Or.inr (Or.inl ⟨?_, rfl, rfl⟩)), ⟨?_, ?_, ?_⟩, ⟨fun k => absurd k (by decide), fun k => absurd k (by decide), fun k => absurd k (by decide)⟩, f9.si (by omega)⟩))
  rotate_left
  · false_or_by_contra
    rename_i hne
    have := t.2.2 s (t.lt hne)
    rw [ti_0] at hx
    omega
  · rw [si_s, if_neg (by decide)]; exact h925
  · rw [si_s, if_neg (by decide)]; exact h923
  · rw [si_s, if_pos rfl]; rfl
  rw [ti_0] at hx
  have nm1 : B s ≠ -1 := fun e => by rw [e, ti_m1] at hx; omega
  have sn := t.lt nm1
  refine Wp.letQ (fun Q j => ∀ (x : Int32) D12 (e : Nat), FN E D12 → D12.1 0 25 = nI s → D12.1 0 23 = nI e → e ≤ n → x = nI (e - s) → D12.2 0 28 = pkL B s (e - s) → ltr (B s) → RunTo ltr B s e → Wp (j x D12) Q) (fun x D12 e f12 a1 a2 a3 a4 a5 a6 a7 => ?_) (fun j2 K2 => Wp.lets ?_)
  · have e8 : (8 : Int32).toInt = 8 := by decide
    have g1 := a7.1
    have ex : x.toInt = ((e - s : Nat) : Int) := by rw [a4]; exact vi _ (by omega)
    refine Wp.lets (Wp.ile (fun q => Wp.lets (Wp.lets (K _ ⟨s, e, 1, hs, Or.inl ⟨a6, a7, rfl⟩, ⟨?_, ?_, ?_⟩, ⟨fun _ => ?_, fun k => absurd k (by decide), fun k => absurd k (by decide)⟩, (f12.sl).si (by omega)⟩))) (fun q => Wp.lets (Wp.lets (K _ ⟨s, e, 1, hs, Or.inl ⟨a6, a7, rfl⟩, ⟨?_, ?_, ?_⟩, ⟨fun _ => ?_, fun k => absurd k (by decide), fun k => absurd k (by decide)⟩, (f12.sl).si (by omega)⟩))))
    · rw [si_s, if_neg (by decide)]; exact a1
    · rw [si_s, if_neg (by decide)]; exact a2
    · rw [si_s, if_pos rfl]; rfl
    · rw [if_pos (by omega)]
      show (aSL D12 0 28 (D12.2 0 28)).2 0 28 = _
      simp [aSL, a5]
    · rw [si_s, if_neg (by decide)]; exact a1
    · rw [si_s, if_neg (by decide)]; exact a2
    · rw [si_s, if_pos rfl]; rfl
    · rw [if_neg (by omega)]
      show (aSL D12 0 28 0).2 0 28 = _
      simp [aSL]
  by_cases hl : ltr (B s)
  · rw [if_pos hl]
    refine Wp.neg (by decide) ?_
    refine Wp.fix1 (fun m x D' => FN E D' ∧ D'.1 0 25 = nI s ∧ ∃ q : Nat, (D'.1 0 23 = nI q ∧ x = nI (q - s) ∧ D'.2 0 28 = pkL B s (q - s)) ∧ (s ≤ q ∧ q ≤ n) ∧ (∀ j, s ≤ j → j < q → ltr (B j)) ∧ 501 < m + q) ?_ ?_ aFuel 1000000 _ _ (Nat.le_refl _) ⟨f9, h925, s, ⟨h923, by rw [Nat.sub_self]; rfl, by rw [Nat.sub_self]; exact h928⟩, by omega, fun j a b => by omega, by omega⟩
    · intro m g hg x D' hI
      obtain ⟨i1, i2, q, ⟨i3, i7, i8⟩, i4, i5, i6⟩ := hI
      unfold lX11_next_79
      have iq := vi q (by omega)
      have seq : fX11_see D' = some (B q, D') := by rw [eM_see2 t (i1.tp h) (by rw [i3, iq]; omega), i3, vc q (by omega)]
      refine Wp.bindE seq (Wp.bindE (eM_isL _) ?_)
      by_cases hq : ltr (B q)
      · rw [if_pos hq]
        have := t.lt (ltr_m1 hq)
        refine Wp.neg (by decide) (Wp.bindE seq (Wp.lets (Wp.lets (Wp.lets (hg _ _ ⟨(i1.sl).si (by omega), ?_, q + 1, ⟨?_, ?_, ?_⟩, by omega, fun j a b => ?_, by omega⟩)))))
        · rw [si_s, if_neg (by decide)]; exact i2
        · rw [si_s, if_pos rfl]
          show D'.1 0 23 + 1 = _
          rw [i3, nI_succ]
        · rw [i7, show q + 1 - s = (q - s) + 1 by omega, nI_succ]
        · show (aSL D' 0 28 _).2 0 28 = _
          rw [show q + 1 - s = (q - s) + 1 by omega]
          show (aSL D' 0 28 _).2 0 28 = (pkL B s (q - s) <<< ((8 : Int32).toInt64 &&& 63)) ||| (B (s + (q - s))).toInt64
          rw [show s + (q - s) = q by omega, ← i8]
          simp [aSL]
        · by_cases e : j = q
          · rw [e]; exact hq
          · exact i5 j a (by omega)
      · rw [if_neg hq]
        exact Wp.pos rfl (K2 x D' q i1 i2 i3 i4.2 i7 i8 hl ⟨i4.1, i5, hq⟩)
    · intro x D' hI
      obtain ⟨-, -, q, -, i4, -, i6⟩ := hI
      omega
  · rw [if_neg hl]
    refine Wp.pos rfl (Wp.bindE (eM_isD _) ?_)
    by_cases hd : dig (B s)
    · rw [if_pos hd]
      refine Wp.neg (by decide) (Wp.leti (fun D27 e27 => ?_))
      have f27 : FN E D27 := by rw [e27]; exact f9.si (by omega)
      have a25 : D27.1 0 25 = nI s := by rw [e27, si_s, if_neg (by decide)]; exact h925
      have a23 : D27.1 0 23 = nI s := by rw [e27, si_s, if_neg (by decide)]; exact h923
      have a27 : D27.1 0 27 = 0 := by rw [e27, si_s, if_pos rfl]
      clear e27
      refine Wp.letQ (fun Q j => ∀ (x : Int32) D12 (e : Nat), FN E D12 → D12.1 0 25 = nI s → D12.1 0 23 = nI e → e ≤ n → x = nI (e - s) → (e - s ≤ 4 → D12.1 0 27 = nmF B s (e - s)) → RunTo dig B s e → Wp (j x D12) Q) (fun x D12 e f12 a1 a2 a3 a4 a5 a7 => ?_) (fun j3 K3 => Wp.lets ?_)
      · have e4 : (4 : Int32).toInt = 4 := by decide
        have g1 := a7.1
        have ex : x.toInt = ((e - s : Nat) : Int) := by rw [a4]; exact vi _ (by omega)
        refine Wp.lets (Wp.ile (fun q => Wp.lets (K _ ⟨s, e, 2, hs, Or.inr (Or.inl ⟨hd, a7, (if_pos (by omega)).symm⟩), ⟨?_, ?_, ?_⟩, ⟨fun k => absurd k (by decide), fun _ => ?_, fun k => absurd k (by decide)⟩, f12.si (by omega)⟩)) (fun q => Wp.lets (K _ ⟨s, e, 4, hs, Or.inr (Or.inl ⟨hd, a7, (if_neg (by omega)).symm⟩), ⟨?_, ?_, ?_⟩, ⟨fun k => absurd k (by decide), fun k => absurd k (by decide), fun k => absurd k (by decide)⟩, f12.si (by omega)⟩)))
        · rw [si_s, if_neg (by decide)]; exact a1
        · rw [si_s, if_neg (by decide)]; exact a2
        · rw [si_s, if_pos rfl]; rfl
        · rw [si_s, if_neg (by decide)]; exact a5 (by omega)
        · rw [si_s, if_neg (by decide)]; exact a1
        · rw [si_s, if_neg (by decide)]; exact a2
        · rw [si_s, if_pos rfl]; rfl
      · refine Wp.fix1 (fun m x D' => FN E D' ∧ D'.1 0 25 = nI s ∧ ∃ q : Nat, (D'.1 0 23 = nI q ∧ x = nI (q - s) ∧ (q - s ≤ 4 → D'.1 0 27 = nmF B s (q - s))) ∧ (s ≤ q ∧ q ≤ n) ∧ (∀ j, s ≤ j → j < q → dig (B j)) ∧ 501 < m + q) ?_ ?_ aFuel 1000000 _ _ (Nat.le_refl _) ⟨f27, a25, s, ⟨a23, by rw [Nat.sub_self]; rfl, fun _ => by rw [Nat.sub_self]; exact a27⟩, by omega, fun j a b => by omega, by omega⟩
        · intro m g hg x D' hI
          obtain ⟨i1, i2, q, ⟨i3, i7, i8⟩, i4, i5, i6⟩ := hI
          unfold lX11_next_168
          have iq := vi q (by omega)
          have seq : fX11_see D' = some (B q, D') := by rw [eM_see2 t (i1.tp h) (by rw [i3, iq]; omega), i3, vc q (by omega)]
          refine Wp.bindE seq (Wp.bindE (eM_isD _) ?_)
          by_cases hq : dig (B q)
          · rw [if_pos hq]
            have := t.lt (dig_m1 hq)
            have e4 : (4 : Int32).toInt = 4 := by decide
            have ex : x.toInt = ((q - s : Nat) : Int) := by rw [i7]; exact vi _ (by omega)
            refine Wp.neg (by decide) (Wp.letQ (fun Q j => ∀ y : Int32, (q + 1 - s ≤ 4 → y = nmF B s (q + 1 - s)) → Wp (j y D') Q) (fun y hy => ?_) (fun j K4 => Wp.ile (fun q4 => K4 _ (fun k => by omega)) (fun q4 => Wp.bindE seq (K4 _ (fun k => ?_)))))
            · refine Wp.lets (Wp.lets (Wp.lets (hg _ _ ⟨(i1.si (by omega)).si (by omega), ?_, q + 1, ⟨?_, ?_, fun k => ?_⟩, by omega, fun j a b => ?_, by omega⟩)))
              · rw [si_s, if_neg (by decide), si_s, if_neg (by decide)]; exact i2
              · rw [si_s, if_pos rfl, si_s, if_neg (by decide), i3, nI_succ]
              · rw [i7, show q + 1 - s = (q - s) + 1 by omega, nI_succ]
              · rw [si_s, if_neg (by decide), si_s, if_pos rfl]; exact hy k
              · by_cases e : j = q
                · rw [e]; exact hq
                · exact i5 j a (by omega)
            · rw [i8 (by omega), show q + 1 - s = (q - s) + 1 by omega]
              show _ = 10 * nmF B s (q - s) + B (s + (q - s)) - 48
              rw [show s + (q - s) = q by omega]
          · rw [if_neg hq]
            exact Wp.pos rfl (K3 x D' q i1 i2 i3 i4.2 i7 i8 ⟨i4.1, i5, hq⟩)
        · intro x D' hI
          obtain ⟨-, -, q, -, i4, -, i6⟩ := hI
          omega
    · rw [if_neg hd]
      refine Wp.pos rfl (Wp.leti (fun D23 e23 => ?_))
      have f23 : FN E D23 := by rw [e23]; exact f9.si (by omega)
      have a25 : D23.1 0 25 = nI s := by rw [e23, si_s, if_neg (by decide)]; exact h925
      have a23 : D23.1 0 23 = nI (s + 1) := by rw [e23, si_s, if_pos rfl, h923, nI_succ]
      have a27 : D23.1 0 27 = B s := by rw [e23, si_s, if_neg (by decide)]; exact h927
      clear e23
      have T : ∀ k, (k = if sgn (B s) then 3 else 4) → Tok B s (s + 1) k := fun k hk => Or.inr (Or.inr (Or.inr ⟨⟨hl, hd, nm1⟩, rfl, hk⟩))
      have fin : ∀ (x k : Int32), (k = if sgn (B s) then 3 else 4) → x = srt k → (k ≠ 1 ∧ k ≠ 2) → Wp (aLet (aSI D23 0 26 x) (fun D25 => j D25)) (fun _ E1 => NxM B p E E1) := fun x k hk hx hn => by
        refine Wp.lets (K _ ⟨s, s + 1, k, hs, T k hk, ⟨?_, ?_, ?_⟩, ⟨fun q => absurd q hn.1, fun q => absurd q hn.2, fun _ => ?_⟩, f23.si (by omega)⟩)
        · rw [si_s, if_neg (by decide)]; exact a25
        · rw [si_s, if_neg (by decide)]; exact a23
        · rw [si_s, if_pos rfl]; exact hx
        · rw [si_s, if_neg (by decide)]; exact a27
      have yes : sgn (B s) → Wp (aLet (aSI D23 0 26 4) (fun D25 => j D25)) (fun _ E1 => NxM B p E E1) := fun hg => fin 4 3 (if_pos hg).symm rfl (by decide)
      refine Wp.lets (Wp.lets (Wp.ite (fun q => yes (by rw [q]; decide)) (fun q1 => Wp.ite (fun q => yes (by rw [q]; decide)) (fun q2 => Wp.ite (fun q => yes (by rw [q]; decide)) (fun q3 => Wp.ite (fun q => yes (by rw [q]; decide)) (fun q4 => Wp.ite (fun q => yes (by rw [q]; decide)) (fun q5 => fin 1 4 (if_neg ?_).symm rfl (by decide))))))))
      intro k
      rcases k with k | k | k | k | k
      · exact q1 k
      · exact q2 k
      · exact q3 k
      · exact q4 k
      · exact q5 k
end NXs
