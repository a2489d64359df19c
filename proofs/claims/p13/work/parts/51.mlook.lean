/-! the reference: looking -/
/-- what the reference's questions ask of the state -/
def QM (D : ADD) : Prop := (0 ≤ (D.1 5 0).toInt ∧ (D.1 5 0).toInt ≤ 32) ∧ (0 ≤ (D.1 8 0).toInt ∧ (D.1 8 0).toInt ≤ 400) ∧ (∀ k : Nat, (k : Int) < (D.1 8 0).toInt → (0 ≤ (D.1 9 (4 * k + 1)).toInt ∧ (D.1 9 (4 * k + 1)).toInt < 32) ∧ -1 ≤ (D.1 9 (4 * k + 2)).toInt ∧ (D.1 9 (4 * k + 2)).toInt ≤ 10) ∧ ((D.1 15 0).toInt ≤ 16 ∧ (D.1 15 1).toInt ≤ 16) ∧ ∀ l, l < 32 → (D.1 16 l).toInt ≤ 4
/-- what is told to the reference is the same -/
def FmM (D D1 : ADD) : Prop := ∀ c, ((1 ≤ c ∧ c ≤ 29) ∨ c = 39) → D1.1 c = D.1 c
theorem FmM.refl (D : ADD) : FmM D D := fun _ _ => rfl
theorem FmM.trans {D D1 D2 : ADD} (h : FmM D D1) (k : FmM D1 D2) : FmM D D2 := fun c hc => (k c hc).trans (h c hc)
theorem QM.fr {D D1 : ADD} (h : QM D) (f : FmM D D1) : QM D1 := by
  unfold QM
  rw [f 5 (by omega), f 8 (by omega), f 9 (by omega), f 15 (by omega), f 16 (by omega)]
  exact h
theorem FmM.code {D : ADD} {x : Int32} : FmM D (aSI D 0 0 x) := fun c hc => by
  funext z
  have : c ≠ 0 := by omega
  simp [aSI, this]
section MK
variable {D : ADD}
theorem and7 (x : Int32) : 0 ≤ (x &&& 7).toInt ∧ (x &&& 7).toInt < 8 := by
  obtain ⟨j, hj, ej⟩ := pk_andE x (m := 7) 3 (by decide)
  have hj : j < 8 := hj
  rw [ej]
  have e : (Int32.ofNat j).toInt = (j : Int) := ti_nI (by omega)
  have e2 : (nI j).toInt = (j : Int) := ti_nI (by omega)
  first | (rw [e]; omega) | (rw [e2]; omega)
theorem tM_holds {l : Int32} (hl : 0 ≤ l.toInt ∧ l.toInt < 32) (ht : (D.1 16 l.toNatClampNeg).toInt ≤ 4) : Pu (fX11_holds l D) D := by
  unfold fX11_holds
  have e1 : ((4 : Int32) * l).toInt = 4 * l.toInt := ti_mul (by decide) rfl (by omega) (by omega)
  have tlo := ti_lo (D.1 16 l.toNatClampNeg)
  have e2 : ((4 : Int32) * l + D.1 16 l.toNatClampNeg).toInt = 4 * l.toInt + (D.1 16 l.toNatClampNeg).toInt := ti_add e1 rfl (by omega) (by omega)
  have il : vp_in l 128 := i_in hl.1 (by omega)
  refine Wp.lets (Wp.lets (Wp.lets (Wp.up1 (D := D) 200 (by decide) (fun g x h0 k => ?_) (by omega) (by omega))))
  unfold lX11_holds_4
  refine Wp.idx il (Wp.ile (fun _ => Wp.ret rfl) (fun h => ?_))
  have ix : vp_in x 512 := i_in h0 (by omega)
  have i7 := and7 (D.1 17 x.toNatClampNeg)
  refine Wp.idx ix (Wp.idx (i_in i7.1 i7.2) (Wp.lets (Wp.idx ix (Wp.lets (Wp.idx ix (Wp.letQ (fun Q j => ∀ y, Wp (j y D) Q) (fun y => Wp.idx ix (Wp.lets (Wp.ite (fun _ => Wp.ite (fun _ => Wp.ret rfl) (fun _ => Wp.lets (k (by omega)))) (fun _ => Wp.ite (fun _ => Wp.ret rfl) (fun _ => Wp.lets (k (by omega))))))) (fun j K => Wp.ite (fun _ => Wp.ite (fun _ => K _) (fun _ => K _)) (fun _ => Wp.idx ix (Wp.ite (fun _ => Wp.ite (fun _ => K _) (fun _ => K _)) (fun _ => Wp.ite (fun _ => K _) (fun _ => K _)))))))))))
theorem tM_findSpan {k : Int32} (hk : 0 ≤ k.toInt ∧ k.toInt < 32) (hl : (D.1 15 0).toInt ≤ 16) (ht : ∀ l, l < 32 → (D.1 16 l).toInt ≤ 4) : Wp (fX11_findSpan k D) (fun _ D1 => ∀ c, c ≠ 30 → c ≠ 33 → c ≠ 34 → D1.1 c = D.1 c) := by
  unfold fX11_findSpan
  have ik : vp_in k 32 := i_in hk.1 hk.2
  refine Wp.bindE (eM_f hk ⟨by decide, by decide⟩) (Wp.idd (by decide) (Wp.lets (Wp.bindE (eM_f hk ⟨by decide, by decide⟩) (Wp.idd (by decide) (Wp.lets (Wp.bindE (eM_f hk ⟨by decide, by decide⟩) (Wp.idd (by decide) (Wp.lets (Wp.bindE (eM_f hk ⟨by decide, by decide⟩) (Wp.idd (by decide) (Wp.lets (Wp.bindE (eM_f hk ⟨by decide, by decide⟩) (Wp.idd (by decide) (Wp.lets (Wp.bindE (eM_f hk ⟨by decide, by decide⟩) (Wp.idd (by decide) (Wp.lets (Wp.bindE (eM_f hk ⟨by decide, by decide⟩) (Wp.idd (by decide) (Wp.leti (fun E e => ?_)))))))))))))))))))))
  have fE : ∀ c, c ≠ 30 → E.1 c = D.1 c := by
    intro c hc
    funext z
    rw [e]
    simp [aSI, hc]
  refine Wp.letQ (fun Q j => ∀ x y, Wp (j x y E) Q) (fun x y => ?_) (fun j K => Wp.lets ?_)
  · refine Wp.bindE (eM_f hk ⟨by decide, by decide⟩) (Wp.bindE (eM_f hk ⟨by decide, by decide⟩) (Wp.lets (Wp.bindE (eM_held _) (Wp.nz (by decide) (Wp.lets (Wp.bindE (eM_held _) (Wp.nz (by decide) (Wp.lets (Wp.letQ (fun Q j => ∀ x, Wp (j x E) Q) (fun x => ?_) (fun j K => Wp.ite (fun _ => K _) (fun _ => K _)))))))))))
    refine Wp.idx ik (Wp.leti (fun E1 e1 => Wp.letQ (fun Q j => ∀ x, Wp (j x E1) Q) (fun y => Wp.idx ik (Wp.lets (Wp.ret (fun c c30 c33 c34 => ?_)))) (fun j K => Wp.ite (fun _ => K _) (fun _ => K _))))
    rw [← fE c c30]
    funext z
    rw [e1]
    simp [aSI, c33, c34]
  · refine Wp.up4 (D := E) 16 (by decide) 0 (by decide) (fun g a b c x h0 kk => ?_) (by decide) (by decide)
    unfold lX11_findSpan_102
    refine Wp.idd (by decide) ?_
    rw [cl_0, fE 15 (by decide)]
    refine Wp.ile (fun _ => K _ _) (fun h => Wp.ite (fun _ => K _ _) (fun _ => ?_))
    have ex := cl_i h0
    have ix : vp_in x 128 := i_in h0 (by omega)
    refine Wp.bind (tM_holds ⟨h0, by omega⟩ (by rw [fE 16 (by decide)]; exact ht _ (by omega))) (fun y D1 q => ?_)
    subst q
    refine Wp.letQ (fun Q j => ∀ a b c, Wp (j a b c D1) Q) (fun a b c => Wp.lets (kk (by omega) _ _ _)) (fun j2 K2 => Wp.ite (fun _ => K2 _ _ _) (fun _ => Wp.idx ix (Wp.letQ (fun Q j => ∀ w, Wp (j w D1) Q) (fun w => Wp.ite (fun _ => K2 _ _ _) (fun _ => Wp.idx ix (Wp.letQ (fun Q j => ∀ w, Wp (j w D1) Q) (fun v => Wp.lets (Wp.idx ix (Wp.lets (Wp.ite (fun _ => Wp.idx ix (Wp.lets (K2 _ _ _))) (fun _ => Wp.idx ix (Wp.lets (K2 _ _ _))))))) (fun j4 K4 => Wp.ite (fun _ => Wp.idx ix (K4 _)) (fun _ => Wp.idx ix (K4 _)))))) (fun j3 K3 => Wp.ite (fun _ => K3 _) (fun _ => K3 _)))))
theorem tM_isChosen {k : Int32} (hk : 0 ≤ k.toInt ∧ k.toInt < 32) : Wp (fX11_isChosen k D) (fun x D1 => D1 = D ∧ (x = 0 ∨ x = 1)) := by
  unfold fX11_isChosen
  refine Wp.bindE (eM_f hk ⟨by decide, by decide⟩) (Wp.idd (by decide) (Wp.letQ (fun Q j => ∀ x, Wp (j x D) Q) (fun x => ?_) (fun j K => Wp.lets (Wp.ite (fun _ => K _) (fun _ => Wp.bindE (eM_f hk ⟨by decide, by decide⟩) (Wp.idd (by decide) (Wp.ite (fun _ => K _) (fun _ => K _))))))))
  refine Wp.idd (by decide) (Wp.letQ (fun Q j => ∀ x, Wp (j x D) Q) (fun y => ?_) (fun j K => Wp.lets (Wp.ite (fun _ => K _) (fun _ => Wp.idd (by decide) (Wp.letQ (fun Q j => ∀ x, Wp (j x D) Q) (fun z => Wp.bindE (eM_f hk ⟨by decide, by decide⟩) (Wp.lets (Wp.ite (fun _ => Wp.ite (fun _ => K _) (fun _ => K _)) (fun _ => Wp.ite (fun _ => K _) (fun _ => K _))))) (fun j2 K2 => Wp.ite (fun _ => K2 _) (fun _ => K2 _)))))))
  have z0 : Wp (aZ 0 (some ((0 : Int32), D))) (fun x D1 => D1 = D ∧ (x = 0 ∨ x = 1)) := Wp.z (Or.inl rfl) (Wp.ret ⟨rfl, Or.inl rfl⟩)
  have z1 : Wp (aZ 1 (some ((1 : Int32), D))) (fun x D1 => D1 = D ∧ (x = 0 ∨ x = 1)) := Wp.z (Or.inr rfl) (Wp.ret ⟨rfl, Or.inr rfl⟩)
  exact Wp.bindE (eM_f hk ⟨by decide, by decide⟩) (Wp.lets (Wp.lets (Wp.ite (fun _ => Wp.idd (by decide) (Wp.bindE (eM_f hk ⟨by decide, by decide⟩) (Wp.ite (fun _ => z0) (fun _ => Wp.idd (by decide) (Wp.bindE (eM_f hk ⟨by decide, by decide⟩) (Wp.ite (fun _ => z0) (fun _ => Wp.ite (fun _ => z0) (fun _ => Wp.ite (fun _ => z0) (fun _ => z1))))))))) (fun _ => z0))))
theorem tM_day : Pu (fX11_dayOfView D) D := by
  unfold fX11_dayOfView
  exact Wp.idd (by decide) (Wp.lets (Wp.ite (fun _ => Wp.idd (by decide) (Wp.ret rfl)) (fun _ => Wp.idd (by decide) (Wp.ret rfl))))
/-- the reference's looking writes its own rows alone -/
abbrev LkF (D D1 : ADD) : Prop := ∀ c, (1 ≤ c ∧ c ≤ 29) ∨ 36 ≤ c → D1.1 c = D.1 c
theorem tM_look (h : QM D) : Wp (fX11_look D) (fun _ D1 => LkF D D1 ∧ D1.1 0 41 = D.1 5 0) := by
  obtain ⟨h5, h8, h9, h15, h16⟩ := h
  unfold fX11_look
  refine Wp.bind tM_day (fun dy D1 q => ?_)
  subst q
  refine Wp.idd (by decide) ?_
  rw [cl_0]
  refine Wp.leti (fun D2 e2 => ?_)
  have f2 : LkF D1 D2 := by
    intro c hc
    funext z
    rw [e2]
    have : c ≠ 0 := by omega
    simp [aSI, this]
  have m2 : D2.1 0 41 = D1.1 5 0 := by rw [e2]; rfl
  refine Wp.letQ (fun Q j => ∀ D3, LkF D1 D3 → D3.1 0 41 = D1.1 5 0 → Wp (j D3) Q) (fun D3 f3 m3 => ?_) (fun j K => Wp.lets ?_)
  · refine Wp.letQ (fun Q j => ∀ D4, LkF D1 D4 → D4.1 0 41 = D1.1 5 0 → Wp (j D4) Q) (fun D4 f4 m4 => ?_) (fun j K => Wp.lets ?_)
    · refine Wp.lets (Wp.lets ?_)
      refine Wp.fix1 (fun n x D' => (0 ≤ x.toInt ∧ x.toInt ≤ 32 ∧ 32 - x.toInt < (n : Int)) ∧ LkF D1 D' ∧ D'.1 0 41 = D1.1 5 0) ?_ ?_ aFuel 1000000 _ _ (Nat.le_refl _) ⟨⟨by decide, by decide, by decide⟩, f4, m4⟩
      · intro n g hg x D' hI
        obtain ⟨⟨i0, i1, i2⟩, i3, i4⟩ := hI
        unfold lX11_look_288
        rw [i4]
        refine Wp.ile (fun _ => Wp.ret ⟨i3, i4⟩) (fun h => ?_)
        have ix : vp_in x 32 := i_in i0 (by omega)
        have c2 : (x + 1).toInt = x.toInt + 1 := ti_add rfl ti_1 (by omega) (by omega)
        refine Wp.idx ix (Wp.leti (fun D7 e7 => Wp.idx ix ?_))
        have f7 : LkF D1 D7 := by
          intro c hc
          rw [← i3 c hc]
          funext z
          rw [e7]
          have : c ≠ 35 := by omega
          simp [aSI, this]
        have m7 : D7.1 0 41 = D1.1 5 0 := by rw [e7]; exact i4
        refine Wp.letQ (fun Q j => ∀ D8, LkF D1 D8 → D8.1 0 41 = D1.1 5 0 → Wp (j D8) Q) (fun D8 f8 m8 => Wp.lets (hg _ _ ⟨⟨by omega, by omega, by omega⟩, f8, m8⟩)) (fun j2 K2 => Wp.ite (fun _ => K2 _ f7 m7) (fun _ => ?_))
        refine Wp.bind (tM_findSpan ⟨i0, by omega⟩ (by rw [f7 15 (by omega)]; exact h15.1) (by rw [f7 16 (by omega)]; exact h16)) (fun _ D9 q9 => ?_)
        have f9 : LkF D1 D9 := fun c hc => by rw [q9 c (by omega) (by omega) (by omega), f7 c hc]
        have m9 : D9.1 0 41 = D1.1 5 0 := by rw [q9 0 (by decide) (by decide) (by decide), m7]
        refine Wp.bind (tM_isChosen ⟨i0, by omega⟩) (fun y D10 q10 => ?_)
        obtain ⟨rfl, -⟩ := q10
        refine Wp.idx ix (Wp.lets (K2 _ ?_ ?_))
        · intro c hc
          rw [← f9 c hc]
          funext z
          have : c ≠ 35 := by omega
          simp [aSI, this]
        · exact m9
      · intro x D' hI
        obtain ⟨⟨i0, i1, i2⟩, -⟩ := hI
        omega
    · refine Wp.fix1 (fun n x D' => (0 ≤ x.toInt ∧ x.toInt ≤ 400 ∧ 400 - x.toInt < (n : Int)) ∧ LkF D1 D' ∧ D'.1 0 41 = D1.1 5 0) ?_ ?_ aFuel 1000000 _ _ (Nat.le_refl _) ⟨⟨by decide, by decide, by decide⟩, f3, m3⟩
      · intro n g hg x D' hI
        obtain ⟨⟨i0, i1, i2⟩, i3, i4⟩ := hI
        unfold lX11_look_203
        refine Wp.idd (by decide) ?_
        rw [cl_0, i3 8 (by omega)]
        refine Wp.ile (fun _ => K _ i3 i4) (fun h => ?_)
        have ex := cl_i i0
        have c2 : (x + 1).toInt = x.toInt + 1 := ti_add rfl ti_1 (by omega) (by omega)
        have e4 : ((4 : Int32) * x).toInt = 4 * x.toInt := ti_mul (by decide) rfl (by omega) (by omega)
        have cell : ∀ (i : Int32) (n : Nat), i.toInt = n → n < 4 → vp_in ((4 : Int32) * x + i) 6400 ∧ ((4 : Int32) * x + i).toNatClampNeg = 4 * x.toNatClampNeg + n := by
          intro i n hi hn
          have e : ((4 : Int32) * x + i).toInt = 4 * x.toInt + n := ti_add e4 hi (by omega) (by omega)
          exact ⟨i_in (by omega) (by omega), cl_of (by omega)⟩
        obtain ⟨v1, w1⟩ := cell 1 1 (by decide) (by decide)
        obtain ⟨v2, w2⟩ := cell 2 2 (by decide) (by decide)
        obtain ⟨v3, w3⟩ := cell 3 3 (by decide) (by decide)
        have hk := h9 x.toNatClampNeg (by omega)
        refine Wp.lets (Wp.idx (i_in (by omega) (by omega)) (Wp.letQ (fun Q j => ∀ D8, LkF D1 D8 → D8.1 0 41 = D1.1 5 0 → Wp (j D8) Q) (fun D8 f8 m8 => Wp.lets (hg _ _ ⟨⟨by omega, by omega, by omega⟩, f8, m8⟩)) (fun j2 K2 => Wp.ite (fun _ => K2 _ i3 i4) (fun _ => Wp.idx v2 (Wp.letQ (fun Q j => ∀ y, (0 ≤ y.toInt ∧ y.toInt ≤ 10) → Wp (j y D') Q) (fun y hy => ?_) (fun j3 K3 => Wp.ite (fun _ => K3 _ ⟨by decide, by decide⟩) (fun hne => Wp.idx v2 (K3 _ ?_))))))))
        · have hs : (0 ≤ (D'.1 9 ((4 : Int32) * x + 1).toNatClampNeg).toInt ∧ (D'.1 9 ((4 : Int32) * x + 1).toNatClampNeg).toInt < 32) := by
            rw [w1, i3 9 (by omega)]
            exact hk.1
          have e1 : ((11 : Int32) * D'.1 9 ((4 : Int32) * x + 1).toNatClampNeg).toInt = 11 * (D'.1 9 ((4 : Int32) * x + 1).toNatClampNeg).toInt := ti_mul (by decide) rfl (by omega) (by omega)
          have e2 : ((11 : Int32) * D'.1 9 ((4 : Int32) * x + 1).toNatClampNeg + y).toInt = 11 * (D'.1 9 ((4 : Int32) * x + 1).toNatClampNeg).toInt + y.toInt := ti_add e1 rfl (by omega) (by omega)
          refine Wp.idx v1 (Wp.idx v3 (Wp.idx (i_in (by omega) (by omega)) (Wp.lets (K2 _ ?_ i4))))
          intro c hc
          rw [← i3 c hc]
          funext z
          have : c ≠ 32 := by omega
          simp [aSI, this]
        · have hne := ti_ne hne
          rw [w2, i3 9 (by omega), tn_1] at hne
          rw [w2, i3 9 (by omega)]
          omega
      · intro x D' hI
        obtain ⟨⟨i0, i1, i2⟩, -⟩ := hI
        omega
  · refine Wp.fix1 (fun n x D' => (0 ≤ x.toInt ∧ x.toInt ≤ 32 ∧ 32 - x.toInt < (n : Int)) ∧ LkF D1 D' ∧ D'.1 0 41 = D1.1 5 0) ?_ ?_ aFuel 1000000 _ _ (Nat.le_refl _) ⟨⟨by decide, by decide, by decide⟩, f2, m2⟩
    · intro n g hg x D' hI
      obtain ⟨⟨i0, i1, i2⟩, i3, i4⟩ := hI
      unfold lX11_look_17
      rw [i4]
      refine Wp.ile (fun _ => K _ i3 i4) (fun h => ?_)
      have ix : vp_in x 32 := i_in i0 (by omega)
      have c2 : (x + 1).toInt = x.toInt + 1 := ti_add rfl ti_1 (by omega) (by omega)
      have e3 : ((3 : Int32) * x).toInt = 3 * x.toInt := ti_mul (by decide) rfl (by omega) (by omega)
      have e11 : ((11 : Int32) * x).toInt = 11 * x.toInt := ti_mul (by decide) rfl (by omega) (by omega)
      have t3 : ∀ (i : Int32) (n : Nat), i.toInt = n → n < 3 → vp_in ((3 : Int32) * x + i) 384 := by
        intro i n hi hn
        have e : ((3 : Int32) * x + i).toInt = 3 * x.toInt + n := ti_add e3 hi (by omega) (by omega)
        exact i_in (by omega) (by omega)
      have t11 : ∀ (i : Int32) (n : Nat), i.toInt = n → n < 11 → vp_in ((11 : Int32) * x + i) 352 := by
        intro i n hi hn
        have e : ((11 : Int32) * x + i).toInt = 11 * x.toInt + n := ti_add e11 hi (by omega) (by omega)
        exact i_in (by omega) (by omega)
      refine Wp.idx (i_in (by omega) (by omega)) (Wp.letQ (fun Q j => ∀ y, Wp (j y D') Q) (fun y => ?_) (fun j2 K2 => Wp.ite (fun _ => K2 _) (fun _ => K2 _)))
      refine Wp.idx ix (Wp.lets (Wp.idx (t3 1 1 (by decide) (by decide)) (Wp.idx (t11 1 1 (by decide) (by decide)) (Wp.lets (Wp.idx (t3 2 2 (by decide) (by decide)) (Wp.idx (t11 4 4 (by decide) (by decide)) (Wp.lets (Wp.idx (t11 2 2 (by decide) (by decide)) (Wp.lets (Wp.idx (t11 3 3 (by decide) (by decide)) (Wp.lets (Wp.idx (t11 5 5 (by decide) (by decide)) (Wp.lets (Wp.idx (t11 6 6 (by decide) (by decide)) (Wp.lets (Wp.idx (t11 7 7 (by decide) (by decide)) (Wp.lets (Wp.idx (t11 8 8 (by decide) (by decide)) (Wp.lets (Wp.idx (t11 9 9 (by decide) (by decide)) (Wp.lets (Wp.idx (t11 10 10 (by decide) (by decide)) (Wp.leti (fun E e => Wp.lets (hg _ _ ⟨⟨by omega, by omega, by omega⟩, fun c hc => ?_, ?_⟩)))))))))))))))))))))))))
      · rw [← i3 c hc]
        funext z
        rw [e]
        have h31 : c ≠ 31 := by omega
        have h32 : c ≠ 32 := by omega
        simp [aSI, h31, h32]
      · rw [e]
        exact i4
    · intro x D' hI
      obtain ⟨⟨i0, i1, i2⟩, -⟩ := hI
      omega
end MK
