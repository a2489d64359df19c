/-! the class's reader: never none -/
/-- the reader's own cells alone have changed since D0; start and stop are places; no line has less than no test -/
def RdI (D0 D : ADD) : Prop := (∀ c, (c < 33 ∨ 43 ≤ c) → D.1 c = D0.1 c) ∧ (0 ≤ (D.1 33 6).toInt ∧ (D.1 33 6).toInt ≤ 501) ∧ (0 ≤ (D.1 33 7).toInt ∧ (D.1 33 7).toInt ≤ 501) ∧ ∀ l, l < 16 → 0 ≤ (D.1 38 l).toInt
theorem RdI.w {D0 D : ADD} {k : Nat} {x : Int32} (h : RdI D0 D) (hk : k = 6 ∨ k = 7 → 0 ≤ x.toInt ∧ x.toInt ≤ 501) : RdI D0 (aSI D 33 k x) := by
  obtain ⟨h1, h2, h3, h4⟩ := h
  refine ⟨fun c hc => ?_, ?_, ?_, fun l hl => ?_⟩
  · rw [← h1 c hc]
    funext z
    have : c ≠ 33 := by omega
    simp [aSI, this]
  · show 0 ≤ (if (33 : Nat) = 33 ∧ 6 = k then x else D.1 33 6).toInt ∧ (if (33 : Nat) = 33 ∧ 6 = k then x else D.1 33 6).toInt ≤ 501
    by_cases hk6 : 6 = k
    · rw [if_pos ⟨rfl, hk6⟩]
      exact hk (Or.inl hk6.symm)
    · rw [if_neg (fun q => hk6 q.2)]
      exact h2
  · show 0 ≤ (if (33 : Nat) = 33 ∧ 7 = k then x else D.1 33 7).toInt ∧ (if (33 : Nat) = 33 ∧ 7 = k then x else D.1 33 7).toInt ≤ 501
    by_cases hk7 : 7 = k
    · rw [if_pos ⟨rfl, hk7⟩]
      exact hk (Or.inr hk7.symm)
    · rw [if_neg (fun q => hk7 q.2)]
      exact h3
  · show 0 ≤ (if (38 : Nat) = 33 ∧ l = k then x else D.1 38 l).toInt
    rw [if_neg (by omega)]
    exact h4 l hl
theorem RdI.w2 {D0 D : ADD} {c j : Nat} {x : Int32} (h : RdI D0 D) (hc : 34 ≤ c ∧ c ≤ 42) (hx : c = 38 → 0 ≤ x.toInt) : RdI D0 (aSI D c j x) := by
  obtain ⟨h1, h2, h3, h4⟩ := h
  refine ⟨fun b hb => ?_, ?_, ?_, fun l hl => ?_⟩
  · rw [← h1 b hb]
    funext z
    have : b ≠ c := by omega
    simp [aSI, this]
  · show 0 ≤ (if (33 : Nat) = c ∧ 6 = j then x else D.1 33 6).toInt ∧ _
    rw [if_neg (by omega)]
    refine ⟨h2.1, ?_⟩
    show (if (33 : Nat) = c ∧ 6 = j then x else D.1 33 6).toInt ≤ 501
    rw [if_neg (by omega)]
    exact h2.2
  · show 0 ≤ (if (33 : Nat) = c ∧ 7 = j then x else D.1 33 7).toInt ∧ _
    rw [if_neg (by omega)]
    refine ⟨h3.1, ?_⟩
    show (if (33 : Nat) = c ∧ 7 = j then x else D.1 33 7).toInt ≤ 501
    rw [if_neg (by omega)]
    exact h3.2
  · show 0 ≤ (if (38 : Nat) = c ∧ l = j then x else D.1 38 l).toInt
    by_cases h38 : 38 = c ∧ l = j
    · rw [if_pos h38]
      exact hx h38.1.symm
    · rw [if_neg h38]
      exact h4 l hl
section RD
variable {D0 D : ADD}
theorem tX9_byteAt {a : Int32} : Wp (fX9_byteAt a D) (fun x D1 => D1 = D ∧ (x = -1 ∨ (0 ≤ a.toInt ∧ a.toInt < 500))) := by
  unfold fX9_byteAt
  have e5 : (500 : Int32).toInt = 500 := by decide
  refine Wp.lets (Wp.lets (Wp.ilt (fun _ => Wp.ret ⟨rfl, Or.inl rfl⟩) (fun h => Wp.ite (fun _ => Wp.ret ⟨rfl, Or.inl rfl⟩) (fun _ => Wp.ile (fun _ => Wp.ret ⟨rfl, Or.inl rfl⟩) (fun h2 => ?_)))))
  rw [ti_0] at h
  exact Wp.idx (i_in h (by omega)) (Wp.ret ⟨rfl, Or.inr ⟨h, by omega⟩⟩)
theorem tX5_isBlank {a : Int32} : Pu (fX5_isBlank a D) D := by
  unfold fX5_isBlank
  exact Wp.lets (Wp.lets (Wp.ite (fun _ => Wp.z (Or.inr rfl) (Wp.ret rfl)) (fun _ => Wp.ite (fun _ => Wp.z (Or.inr rfl) (Wp.ret rfl)) (fun _ => Wp.z (Or.inl rfl) (Wp.ret rfl)))))
theorem tX5_isLetter {a : Int32} : Pu (fX5_isLetter a D) D := by
  unfold fX5_isLetter
  exact Wp.lets (Wp.lets (Wp.ite (fun _ => Wp.z (Or.inl rfl) (Wp.ret rfl)) (fun _ => Wp.ite (fun _ => Wp.z (Or.inl rfl) (Wp.ret rfl)) (fun _ => Wp.z (Or.inr rfl) (Wp.ret rfl)))))
theorem tX5_isDigit {a : Int32} : Pu (fX5_isDigit a D) D := by
  unfold fX5_isDigit
  exact Wp.lets (Wp.lets (Wp.ite (fun _ => Wp.z (Or.inl rfl) (Wp.ret rfl)) (fun _ => Wp.ite (fun _ => Wp.z (Or.inl rfl) (Wp.ret rfl)) (fun _ => Wp.z (Or.inr rfl) (Wp.ret rfl)))))
theorem tX5_isSignByte {a : Int32} : Pu (fX5_isSignByte a D) D := by
  unfold fX5_isSignByte
  exact Wp.lets (Wp.lets (Wp.ite (fun _ => Wp.z (Or.inr rfl) (Wp.ret rfl)) (fun _ => Wp.ite (fun _ => Wp.z (Or.inr rfl) (Wp.ret rfl)) (fun _ => Wp.ite (fun _ => Wp.z (Or.inr rfl) (Wp.ret rfl)) (fun _ => Wp.ite (fun _ => Wp.z (Or.inr rfl) (Wp.ret rfl)) (fun _ => Wp.ite (fun _ => Wp.z (Or.inr rfl) (Wp.ret rfl)) (fun _ => Wp.z (Or.inl rfl) (Wp.ret rfl))))))))
theorem tX5_advance (h : RdI D0 D) : Wp (fX5_advance D) (fun _ D1 => RdI D0 D1) := by
  unfold fX5_advance
  have e5 : (500 : Int32).toInt = 500 := by decide
  have h1 : RdI D0 (aSI D 33 6 (D.1 33 7)) := h.w (fun _ => h.2.2.1)
  refine Wp.lets (Wp.letQ (fun Q j => ∀ D2, RdI D0 D2 → Wp (j D2) Q) (fun D2 r2 => ?_) (fun j K => Wp.lets ?_))
  · refine Wp.bind tX9_byteAt (fun x D3 q3 => ?_)
    obtain ⟨rfl, q3⟩ := q3
    refine Wp.leti (fun D4 e4 => ?_)
    have r4 : RdI D0 D4 := by rw [e4]; exact r2.w (fun _ => r2.2.1)
    have s4 : x = -1 ∨ (D4.1 33 7).toInt < 500 := by
      rcases q3 with q3 | q3
      · exact Or.inl q3
      · right
        rw [e4]
        exact q3.2
    refine Wp.bind tX5_isLetter (fun y D5 q5 => ?_)
    subst q5
    refine Wp.letQ (fun Q j => ∀ D6, RdI D0 D6 → Wp (j D6) Q) (fun D6 r6 => Wp.ret r6) (fun j1 K1 => Wp.letQ (fun Q j => ∀ D6, RdI D0 D6 → Wp (j D6) Q) (fun D6 r6 => Wp.lets (K1 _ (r6.w (by omega)))) (fun j2 K2 => Wp.lets ?_))
    refine Wp.ite (fun _ => Wp.bind tX5_isDigit (fun z D6 q6 => ?_)) (fun _ => ?_)
    · subst q6
      refine Wp.letQ (fun Q j => ∀ D6, RdI D0 D6 → Wp (j D6) Q) (fun D7 r7 => Wp.lets (Wp.ite (fun _ => Wp.lets (K1 _ (r7.w (by omega)))) (fun _ => Wp.lets (K1 _ (r7.w (by omega)))))) (fun j3 K3 => Wp.lets (Wp.ite (fun _ => Wp.ite (fun _ => Wp.lets (K1 _ (r4.w (by omega)))) (fun hx => ?_)) (fun _ => ?_)))
      · have s5 : (D6.1 33 7).toInt < 500 := s4.resolve_left hx
        have c1 : (D6.1 33 7 + 1).toInt = (D6.1 33 7).toInt + 1 := ti_add rfl ti_1 (by have := r4.2.2.1; omega) (by omega)
        refine Wp.leti (fun D7 e7 => ?_)
        have r7 : RdI D0 D7 := by rw [e7]; exact r4.w (fun _ => by have := r4.2.2.1; omega)
        refine Wp.bind tX5_isSignByte (fun w D8 q8 => ?_)
        subst q8
        exact Wp.lets (Wp.ite (fun _ => Wp.lets (K1 _ (r7.w (by omega)))) (fun _ => Wp.lets (K1 _ (r7.w (by omega)))))
      · refine Wp.fix0 (fun n D' => RdI D0 D' ∧ 501 - (D'.1 33 7).toInt < (n : Int)) ?_ ?_ aFuel 1000000 _ (Nat.le_refl _) ⟨r4, by have := r4.2.2.1; omega⟩
        · intro n g hg D' hI
          obtain ⟨i1, i2⟩ := hI
          have i3 := i1.2.2.1
          unfold lX5_advance_130
          refine Wp.ile (fun _ => K3 _ i1) (fun h2 => Wp.bind tX9_byteAt (fun x D1 q1 => ?_))
          obtain ⟨rfl, -⟩ := q1
          refine Wp.bind tX5_isDigit (fun y D2 q2 => ?_)
          subst q2
          have c1 : (D2.1 33 7 + 1).toInt = (D2.1 33 7).toInt + 1 := ti_add rfl ti_1 (by omega) (by omega)
          refine Wp.ite (fun _ => K3 _ i1) (fun _ => Wp.lets (hg _ ⟨i1.w (fun _ => by omega), ?_⟩))
          show 501 - (D2.1 33 7 + 1).toInt < _
          omega
        · intro D' hI
          have := hI.1.2.2.1
          have := hI.2
          omega
    · refine Wp.fix0 (fun n D' => RdI D0 D' ∧ 501 - (D'.1 33 7).toInt < (n : Int)) ?_ ?_ aFuel 1000000 _ (Nat.le_refl _) ⟨r4, by have := r4.2.2.1; omega⟩
      · intro n g hg D' hI
        obtain ⟨i1, i2⟩ := hI
        have i3 := i1.2.2.1
        unfold lX5_advance_75
        refine Wp.ile (fun _ => K2 _ i1) (fun h2 => Wp.bind tX9_byteAt (fun x D1 q1 => ?_))
        obtain ⟨rfl, -⟩ := q1
        refine Wp.bind tX5_isLetter (fun y D2 q2 => ?_)
        subst q2
        have c1 : (D2.1 33 7 + 1).toInt = (D2.1 33 7).toInt + 1 := ti_add rfl ti_1 (by omega) (by omega)
        refine Wp.ite (fun _ => K2 _ i1) (fun _ => Wp.lets (hg _ ⟨i1.w (fun _ => by omega), ?_⟩))
        show 501 - (D2.1 33 7 + 1).toInt < _
        omega
      · intro D' hI
        have := hI.1.2.2.1
        have := hI.2
        omega
  · refine Wp.fix0 (fun n D' => RdI D0 D' ∧ 501 - (D'.1 33 6).toInt < (n : Int)) ?_ ?_ aFuel 1000000 _ (Nat.le_refl _) ⟨h1, by have := h1.2.1; omega⟩
    · intro n g hg D' hI
      obtain ⟨i1, i2⟩ := hI
      have i3 := i1.2.1
      unfold lX5_advance_8
      refine Wp.ile (fun _ => K _ i1) (fun h2 => Wp.bind tX9_byteAt (fun x D1 q1 => ?_))
      obtain ⟨rfl, -⟩ := q1
      refine Wp.bind tX5_isBlank (fun y D2 q2 => ?_)
      subst q2
      have c1 : (D2.1 33 6 + 1).toInt = (D2.1 33 6).toInt + 1 := ti_add rfl ti_1 (by omega) (by omega)
      refine Wp.ite (fun _ => K _ i1) (fun _ => Wp.lets (hg _ ⟨i1.w (fun _ => by omega), ?_⟩))
      show 501 - (D2.1 33 6 + 1).toInt < _
      omega
    · intro D' hI
      have := hI.1.2.1
      have := hI.2
      omega
theorem tl_ok : ∀ si, si < 8 → aTl si ≤ 50 := by decide +kernel
theorem tl_sh : ∀ si, si < 8 → Int32.ofNat (aTl si) >>> ((0 : Int32) &&& 31) = Int32.ofNat (aTl si) := by decide +kernel
theorem tc_ch : ∀ si, si < 8 → ∀ j, j < aTl si → narrow .char (.int (aTc si j &&& 255)) = .int (aTc si j &&& 255) := by decide +kernel
theorem eJ_len {si : Nat} (h : si < 8) : fJ0_length_8abf5 si D = some (nI (aTl si), D) := by
  unfold fJ0_length_8abf5 fJ0_coder aBind
  show some (Int32.ofNat (aTl si) >>> ((0 : Int32) &&& 31), D) = _
  rw [tl_sh si h]
  rfl
theorem eJ_charAt {si : Nat} {j : Int32} (h : si < 8) (h0 : 0 ≤ j.toInt) (h1 : j.toInt < (aTl si : Int)) : fJ0_charAt_5068e si j D = some (aTc si j.toNatClampNeg &&& 255, D) := by
  have hl := tl_ok si h
  have el : (Int32.ofNat (aTl si)).toInt = (aTl si : Int) := ti_nI (by omega)
  have ej := cl_i h0
  have l0 : ¬ j < 0 := fun q => by have := Int32.lt_iff_toInt_lt.mp q; rw [ti_0] at this; omega
  have l1 : j < Int32.ofNat (aTl si) := Int32.lt_iff_toInt_lt.mpr (by omega)
  unfold fJ0_charAt_5068e fJ0_isLatin1 fJ1_charAt fJ0_checkIndex fJ3_checkIndex
  simp only [aBind, if_neg l0, if_pos l1, aIn_ok (i_in (n := aTl si) h0 h1), if_neg b01, aCh]
  rw [if_pos (tc_ch si h j.toNatClampNeg (by omega))]
theorem tX5_wordIn {si : Nat} (h : si < 8) : Pu (fX5_wordIn si D) D := by
  unfold fX5_wordIn
  have hl := tl_ok si h
  have el : (nI (aTl si)).toInt = (aTl si : Int) := ti_nI (by omega)
  refine Wp.ite (fun _ => Wp.lets (Wp.lets (Wp.lets ?_))) (fun _ => Wp.ret rfl)
  refine Wp.up4 (D := D) (aTl si + 1) (by omega) 0 (by decide) (fun g a b c x i0 k => ?_) (by decide) (by decide)
  unfold lX5_wordIn_23
  refine Wp.bindE (eJ_len h) (Wp.ilt (fun _ => Wp.ret rfl) (fun h1 => Wp.bindE (eJ_len h) ?_))
  refine Wp.letQ (fun Q j => ∀ a b c, Wp (j a b c D) Q) (fun a b c => Wp.lets (k (by omega) _ _ _)) (fun j1 K1 => Wp.letQ (fun Q j => Wp (j D) Q) (Wp.lets (Wp.ite (fun _ => Wp.lets (Wp.lets (K1 _ _ _))) (fun _ => Wp.ite (fun _ => Wp.ret rfl) (fun _ => Wp.lets (Wp.lets (K1 _ _ _)))))) (fun j2 K2 => Wp.ite (fun _ => K2) (fun hx => ?_)))
  have hx := ti_ne hx
  have cc := eJ_charAt (D := D) h i0 (by omega)
  refine Wp.bindE cc (Wp.ite (fun _ => K2) (fun _ => Wp.lets (Wp.lets (Wp.ite (fun _ => Wp.lets (K1 _ _ _)) (fun _ => Wp.ite (fun _ => Wp.lets (K1 _ _ _)) (fun _ => Wp.bind tX9_byteAt (fun y D1 q => ?_)))))))
  obtain ⟨rfl, -⟩ := q
  exact Wp.bindE cc (Wp.ite (fun _ => Wp.lets (K1 _ _ _)) (fun _ => Wp.lets (K1 _ _ _)))
theorem tX5_number (h : RdI D0 D) : Pu (fX5_number D) D := by
  unfold fX5_number
  obtain ⟨-, h6, h7, -⟩ := h
  refine Wp.lets (Wp.lets (Wp.lets (Wp.up2 (D := D) 501 (by decide) (fun g a x i0 k => ?_) h6.1 (by omega))))
  unfold lX5_number_7
  refine Wp.ile (fun _ => Wp.ret rfl) (fun h1 => Wp.bind tX9_byteAt (fun y D1 q => ?_))
  obtain ⟨rfl, -⟩ := q
  exact Wp.lets (Wp.lets (k (by omega) _))
theorem tX5_refuse (h : RdI D0 D) : Wp (fX5_refuse D) (fun x D1 => x = 0 ∧ RdI D0 D1) := by
  unfold fX5_refuse
  exact Wp.lets (Wp.lets (Wp.ret ⟨rfl, (h.w (by omega)).w (by omega)⟩))
theorem tX5_remark {a b : Int32} (h : RdI D0 D) : Wp (fX5_remark a b D) (fun _ D1 => RdI D0 D1) := by
  unfold fX5_remark
  exact Wp.lets (Wp.ite (fun _ => Wp.lets (Wp.lets (Wp.ret ((h.w (by omega)).w (by omega))))) (fun _ => Wp.ret h))
theorem tX5_isSign {a : Int32} : Pu (fX5_isSign a D) D := by
  unfold fX5_isSign
  refine Wp.lets (Wp.lets (Wp.ite (fun _ => Wp.bind tX9_byteAt (fun y D1 q => ?_)) (fun _ => Wp.z (Or.inl rfl) (Wp.ret rfl))))
  obtain ⟨rfl, -⟩ := q
  exact Wp.ite (fun _ => Wp.z (Or.inr rfl) (Wp.ret rfl)) (fun _ => Wp.z (Or.inl rfl) (Wp.ret rfl))
/-- a refusal's answer -/
theorem tX5_ref {K : Option (Int32 × ADD)} (h : RdI D0 D) : Wp (aBind (fX5_refuse D) (fun x D1 => aZ x (some (x, D1)))) (fun x D1 => (x = 0 ∨ x = 1) ∧ RdI D0 D1) := by
  refine Wp.bind (tX5_refuse h) (fun x D1 q => ?_)
  exact Wp.z (Or.inl q.1) (Wp.ret ⟨Or.inl q.1, q.2⟩)
theorem tX5_pass {a : Int32} (h : RdI D0 D) : Wp (fX5_pass a D) (fun x D1 => (x = 0 ∨ x = 1) ∧ RdI D0 D1) := by
  unfold fX5_pass
  refine Wp.bind tX5_isSign (fun y D1 q => ?_)
  subst q
  exact Wp.ite (fun _ => tX5_ref (K := none) h) (fun _ => Wp.bind (tX5_advance h) (fun _ D2 q2 => Wp.ret ⟨Or.inr rfl, q2⟩))
theorem tX6_setDeed {l a b c : Int32} (h : RdI D0 D) : Wp (fX6_setDeed 34 l a b c D) (fun _ D1 => RdI D0 D1) := by
  unfold fX6_setDeed
  refine Wp.bindE (eX_hasLine _ _) ?_
  by_cases hl : 0 ≤ l.toInt ∧ l.toInt < 16
  · rw [if_pos hl]
    have ii : vp_in l 16 := i_in hl.1 hl.2
    exact Wp.neg (by decide) (Wp.idx ii (Wp.lets (Wp.idx ii (Wp.lets (Wp.idx ii (Wp.lets (Wp.ret (((h.w2 (by omega) (by omega)).w2 (by omega) (by omega)).w2 (by omega) (by omega)))))))))
  · rw [if_neg hl]
    exact Wp.pos rfl (Wp.ret h)
theorem tX6_clear {l : Int32} (h : RdI D0 D) : Wp (fX6_clearTests 34 l D) (fun _ D1 => RdI D0 D1) := by
  unfold fX6_clearTests
  refine Wp.bindE (eX_hasLine _ _) (Wp.lets ?_)
  by_cases hl : 0 ≤ l.toInt ∧ l.toInt < 16
  · rw [if_pos hl]
    exact Wp.neg (by decide) (Wp.idx (i_in hl.1 hl.2) (Wp.lets (Wp.ret (h.w2 (by omega) (fun _ => by decide)))))
  · rw [if_neg hl]
    exact Wp.pos rfl (Wp.ret h)
theorem tX6_addTest {l a b c d : Int32} (h : RdI D0 D) : Wp (fX6_addTest 34 l a b c d D) (fun _ D1 => RdI D0 D1) := by
  unfold fX6_addTest
  simp only [Nat.reduceAdd]
  have e4 : (4 : Int32).toInt = 4 := by decide
  refine Wp.bindE (eX_hasLine _ _) (Wp.lets ?_)
  by_cases hl : 0 ≤ l.toInt ∧ l.toInt < 16
  · rw [if_pos hl]
    have ii : vp_in l 16 := i_in hl.1 hl.2
    have el := cl_i hl.1
    have h4 := h.2.2.2 l.toNatClampNeg (by omega)
    refine Wp.neg (by decide) (Wp.idx ii (Wp.ilt (fun h5 => Wp.idx ii ?_) (fun _ => Wp.ret h)))
    have h5 : (D.1 38 l.toNatClampNeg).toInt < 4 := by omega
    have e1 : (l * 4).toInt = l.toInt * 4 := ti_mul rfl e4 (by omega) (by omega)
    have e2 : (l * 4 + D.1 38 l.toNatClampNeg).toInt = l.toInt * 4 + (D.1 38 l.toNatClampNeg).toInt := ti_add e1 rfl (by omega) (by omega)
    have ix : vp_in (l * 4 + D.1 38 l.toNatClampNeg) 64 := i_in (by omega) (by omega)
    have r6 : ∀ j, RdI D0 (aSI (aSI (aSI (aSI D 42 j a) 39 j b) 40 j c) 41 j d) := fun j => (((h.w2 (by omega) (by omega)).w2 (by omega) (by omega)).w2 (by omega) (by omega)).w2 (by omega) (by omega)
    refine Wp.lets (Wp.idx ix (Wp.lets (Wp.idx ix (Wp.lets (Wp.idx ix (Wp.lets (Wp.idx ix (Wp.lets (Wp.idx ii (Wp.idx ii (Wp.lets (Wp.ret ((r6 _).w2 (by omega) (fun _ => ?_)))))))))))))) 
    show 0 ≤ (D.1 38 l.toNatClampNeg + 1).toInt
    rw [ti_add rfl ti_1 (by omega) (by omega)]
    omega
  · rw [if_neg hl]
    exact Wp.pos rfl (Wp.ret h)
end RD
