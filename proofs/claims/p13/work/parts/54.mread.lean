/-! the reference: reading -/
def RM (D : ADD) : Prop := (0 ≤ (D.1 0 23).toInt ∧ (D.1 0 23).toInt ≤ (D.1 0 24).toInt) ∧ (D.1 0 24).toInt ≤ 500
def TM (D : ADD) : Prop := ∀ i, i < 17 → (D.1 23 i).toInt ≤ 4
def seF (D : ADD) : Int32 := if D.1 0 24 ≤ D.1 0 23 then -1 else aB (D.1 1 (D.1 0 23).toNatClampNeg) &&& 255
theorem and255 (x : Int32) : 0 ≤ (x &&& 255).toInt ∧ (x &&& 255).toInt < 256 := by
  obtain ⟨j, hj, ej⟩ := pk_andE x (m := 255) 8 (by decide)
  have hj : j < 256 := hj
  rw [ej]
  have e : (Int32.ofNat j).toInt = (j : Int) := ti_nI (by omega)
  have e2 : (nI j).toInt = (j : Int) := ti_nI (by omega)
  first | (rw [e]; omega) | (rw [e2]; omega)
section MR
variable {D : ADD}
theorem eM_see (h : RM D) : fX11_see D = some (seF D, D) := by
  refine eq_Pu ?_
  unfold fX11_see seF
  obtain ⟨⟨h0, h1⟩, h2⟩ := h
  by_cases hc : D.1 0 24 ≤ D.1 0 23
  · rw [if_pos hc]
    exact Wp.lets (Wp.pos hc (Wp.ret ⟨rfl, rfl⟩))
  · rw [if_neg hc]
    have hc2 : ¬ (D.1 0 24).toInt ≤ (D.1 0 23).toInt := fun q => hc (Int32.le_iff_toInt_le.mpr q)
    exact Wp.lets (Wp.neg hc (Wp.idx (i_in h0 (by omega)) (Wp.ret ⟨rfl, rfl⟩)))
theorem tM_is2 {a l u : Int32} : Wp (fX11_is a l u D) (fun x D1 => D1 = D ∧ (x ≠ 0 → l.toInt ≤ a.toInt ∧ a.toInt ≤ u.toInt) ∧ (x = 0 → ¬ (l.toInt ≤ a.toInt ∧ a.toInt ≤ u.toInt))) := by
  rw [eM_is]
  by_cases h : l.toInt ≤ a.toInt ∧ a.toInt ≤ u.toInt
  · rw [if_pos h]
    exact Wp.ret ⟨rfl, fun _ => h, fun k => absurd k (by decide)⟩
  · rw [if_neg h]
    exact Wp.ret ⟨rfl, fun k => absurd rfl k, fun _ => h⟩
theorem seF_lt (h : 0 ≤ (seF D).toInt) : (D.1 0 23).toInt < (D.1 0 24).toInt := by
  unfold seF at h
  by_cases hc : D.1 0 24 ≤ D.1 0 23
  · rw [if_pos hc, ti_m1] at h
    omega
  · have hc2 : ¬ (D.1 0 24).toInt ≤ (D.1 0 23).toInt := fun q => hc (Int32.le_iff_toInt_le.mpr q)
    omega
/-- the reader went on -/
def NP (D D1 : ADD) : Prop := (∀ c, c ≠ 0 → D1.1 c = D.1 c) ∧ D1.1 0 24 = D.1 0 24 ∧ (D1.1 0 32 = D.1 0 32 ∧ D1.1 0 30 = D.1 0 30) ∧ (D.1 0 23).toInt ≤ (D1.1 0 23).toInt ∧ (D1.1 0 23).toInt ≤ (D.1 0 24).toInt
theorem NP.refl (h : RM D) : NP D D := ⟨fun _ _ => rfl, rfl, ⟨rfl, rfl⟩, Int.le_refl _, h.1.2⟩
theorem NP.trans {D1 D2 : ADD} (h : NP D D1) (k : NP D1 D2) : NP D D2 := by
  obtain ⟨h1, h2, h3, h4, h5⟩ := h
  obtain ⟨k1, k2, k3, k4, k5⟩ := k
  exact ⟨fun c hc => (k1 c hc).trans (h1 c hc), k2.trans h2, ⟨k3.1.trans h3.1, k3.2.trans h3.2⟩, by omega, by rw [h2] at k5; exact k5⟩
theorem NP.rm {D1 : ADD} (h : NP D D1) (r : RM D) : RM D1 := by
  obtain ⟨h1, h2, h3, h4, h5⟩ := h
  obtain ⟨⟨r0, r1⟩, r2⟩ := r
  unfold RM
  rw [h2]
  exact ⟨⟨by omega, h5⟩, r2⟩
theorem NP.set {D1 : ADD} (h : NP D D1) {i : Nat} {v : Int32} (a : i ≠ 23) (b : i ≠ 24) (c : i ≠ 32) (d : i ≠ 30) : NP D (aSI D1 0 i v) := by
  obtain ⟨h1, h2, h3, h4, h5⟩ := h
  have e : ∀ j, i ≠ j → (aSI D1 0 i v).1 0 j = D1.1 0 j := fun j hj => by
    have : ¬ j = i := fun q => hj q.symm
    simp [aSI, this]
  refine ⟨fun k hk => ?_, by rw [e 24 b, h2], ⟨by rw [e 32 c, h3.1], by rw [e 30 d, h3.2]⟩, by rw [e 23 a]; exact h4, by rw [e 23 a]; exact h5⟩
  rw [← h1 k hk]
  funext z
  simp [aSI, hk]
theorem NP.setL {D1 : ADD} (h : NP D D1) {c i : Nat} {v : Int64} : NP D (aSL D1 c i v) := h
theorem up_ti {x : Int32} (h0 : 0 ≤ x.toInt) (h1 : x.toInt < 500) : (x + 1).toInt = x.toInt + 1 := ti_add rfl ti_1 (by omega) (by omega)
theorem NP.up {D1 : ADD} (h : NP D D1) (r : RM D) (l : (D1.1 0 23).toInt < (D1.1 0 24).toInt) : NP D (aSI D1 0 23 (D1.1 0 23 + 1)) ∧ ((aSI D1 0 23 (D1.1 0 23 + 1)).1 0 23).toInt = (D1.1 0 23).toInt + 1 := by
  have r1 := h.rm r
  obtain ⟨h1, h2, h3, h4, h5⟩ := h
  obtain ⟨⟨r0, r1⟩, r2⟩ := r1
  have e : ((aSI D1 0 23 (D1.1 0 23 + 1)).1 0 23).toInt = (D1.1 0 23).toInt + 1 := by
    have : (aSI D1 0 23 (D1.1 0 23 + 1)).1 0 23 = D1.1 0 23 + 1 := by simp [aSI]
    rw [this]
    exact up_ti r0 (by omega)
  refine ⟨⟨fun k hk => ?_, ?_, ?_, by rw [e]; omega, by rw [e, ← h2]; omega⟩, e⟩
  · rw [← h1 k hk]
    funext z
    simp [aSI, hk]
  · rw [← h2]
    simp [aSI]
  · rw [← h3.1, ← h3.2]
    exact ⟨by simp [aSI], by simp [aSI]⟩
theorem NP.see {D1 : ADD} (h : NP D D1) (e : (D1.1 0 23).toInt = (D.1 0 23).toInt) : seF D1 = seF D := by
  obtain ⟨h1, h2, h3, h4, h5⟩ := h
  have e := Int32.toInt_inj.mp e
  unfold seF
  rw [h2, e, h1 1 (by decide)]
def NX (D D1 : ADD) : Prop := NP D D1 ∧ (D1.1 0 26 = 0 ∨ (D.1 0 23).toInt < (D1.1 0 23).toInt)
theorem tM_next (h : RM D) : Wp (fX11_next D) (fun _ D1 => NX D D1) := by
  unfold fX11_next
  refine Wp.lets ?_
  refine Wp.fix0 (fun n D' => NP D D' ∧ (D.1 0 24).toInt - (D'.1 0 23).toInt < (n : Int)) ?_ ?_ aFuel 1000000 _ (Nat.le_refl _) ⟨NP.refl h, by have := h.1; have := h.2; omega⟩
  · intro n g hg D1 hI
    obtain ⟨i0, i1⟩ := hI
    have r1 := i0.rm h
    unfold lX11_next_0
    refine Wp.bindE (eM_see r1) (Wp.letQ (fun Q j => (D1.1 0 23).toInt < (D1.1 0 24).toInt → Wp (j D1) Q) (fun l => ?_) (fun j18 K18 => ?_))
    · obtain ⟨u1, u2⟩ := i0.up h l
      exact Wp.lets (hg _ ⟨u1, by rw [u2]; omega⟩)
    · refine Wp.ite (fun q => K18 (seF_lt (by rw [q]; decide))) (fun _ => Wp.bindE (eM_see r1) (Wp.ite (fun q => K18 (seF_lt (by rw [q]; decide))) (fun _ => Wp.leti (fun D6 e6 => ?_))))
      have n6 : NP D1 D6 := by rw [e6]; exact (NP.refl r1).set (by decide) (by decide) (by decide) (by decide)
      have s6 : D6.1 0 23 = D1.1 0 23 := by rw [e6]; simp [aSI]
      have r6 := n6.rm r1
      refine Wp.bindE (eM_see r6) (Wp.leti (fun D8 e8 => Wp.leti (fun D9 e9 => ?_)))
      have n9 : NP D6 D9 := by rw [e9, e8]; exact ((NP.refl r6).set (by decide) (by decide) (by decide) (by decide)).setL
      have s9 : D9.1 0 23 = D6.1 0 23 := by rw [e9, e8]; simp [aSI, aSL]
      have r9 := n9.rm r6
      have nn : NP D D9 := (i0.trans n6).trans n9
      have se9 : seF D9 = seF D6 := n9.see (by rw [s9])
      refine Wp.letQ (fun Q j => ∀ D1, NX D D1 → Wp (j D1) Q) (fun D10 q10 => Wp.ret q10) (fun j295 K295 => ?_)
      refine Wp.ile (fun hx => ?_) (fun _ => ?_)
      · rw [ti_0] at hx
        rw [← se9] at hx
        have l9 := seF_lt hx
        refine Wp.bind tM_is (fun x4 D11 q11 => ?_)
        obtain ⟨rfl, q11⟩ := q11
        -- the words
        refine Wp.letQ (fun Q j => ∀ x D12, NP D11 D12 → (D11.1 0 23).toInt < (D12.1 0 23).toInt → Wp (j x D12) Q) (fun x5 D12 n12 l12 => ?_) (fun j126 K126 => ?_)
        · refine Wp.letQ (fun Q j => ∀ x, Wp (j x D12) Q) (fun x6 => Wp.leti (fun D14 e14 => Wp.leti (fun D15 e15 => K295 _ ⟨?_, Or.inr ?_⟩))) (fun j K => Wp.ite (fun _ => K _) (fun _ => K _))
          · rw [e15, e14]
            exact ((nn.trans n12).setL).set (by decide) (by decide) (by decide) (by decide)
          · have : D15.1 0 23 = D12.1 0 23 := by rw [e15, e14]; simp [aSI, aSL]
            rw [this]
            have := nn.2.2.2.1
            omega
        · refine Wp.letQ (fun Q j => x4 ≠ 0 → Wp (j 0 D11) Q) (fun hx4 => ?_) (fun j79 K79 => ?_)
          · have q11 := q11 hx4
            rw [← se9] at q11
            refine Wp.fix1 (fun n x D' => NP D11 D' ∧ (D11.1 0 24).toInt - (D'.1 0 23).toInt < (n : Int)) ?_ ?_ aFuel 1000000 _ _ (Nat.le_refl _) ⟨NP.refl r9, by have := r9.1; have := r9.2; omega⟩
            · intro n g2 hg2 x D' hI
              obtain ⟨k0, k1⟩ := hI
              have rk := k0.rm r9
              unfold lX11_next_79
              refine Wp.bindE (eM_see rk) (Wp.bind tM_is2 (fun x9 D18 q18 => ?_))
              obtain ⟨rfl, q18, w18⟩ := q18
              refine Wp.ite (fun hz => K126 _ _ k0 ?_) (fun hz => Wp.bindE (eM_see rk) (Wp.leti (fun D20 e20 => Wp.leti (fun D21 e21 => Wp.lets (hg2 _ _ ?_)))))
              · false_or_by_contra
                rename_i hno
                have es := k0.see (by have := k0.2.2.2.1; omega)
                rw [es] at w18
                exact w18 hz q11
              · have q18 := q18 hz
                have e97 : (97 : Int32).toInt = 97 := by decide
                have lk := seF_lt (D := D18) (by omega)
                have k20 : NP D11 D20 := by rw [e20]; exact k0.setL
                have s20 : D20.1 = D18.1 := by rw [e20]; rfl
                obtain ⟨u1, u2⟩ := k20.up r9 (by rw [s20]; exact lk)
                rw [e21]
                refine ⟨u1, ?_⟩
                rw [u2, s20]
                omega
            · intro x D' hI
              obtain ⟨k0, k1⟩ := hI
              have := k0.2.2.2.2
              omega
          · refine Wp.ite (fun _ => Wp.bind tM_is (fun x12 D22 q22 => ?_)) (fun hz => K79 hz)
            obtain ⟨rfl, q22⟩ := q22
            refine Wp.ite (fun _ => Wp.leti (fun D23 e23 => ?_)) (fun hz => Wp.leti (fun D27 e27 => ?_))
            · obtain ⟨u1, u2⟩ := nn.up h l9
              rw [← e23] at u1 u2
              refine Wp.letQ (fun Q j => ∀ x, Wp (j x D23) Q) (fun x13 => Wp.leti (fun D25 e25 => K295 _ ⟨?_, Or.inr ?_⟩)) (fun j K => Wp.lets (Wp.ite (fun _ => K _) (fun _ => Wp.ite (fun _ => K _) (fun _ => Wp.ite (fun _ => K _) (fun _ => Wp.ite (fun _ => K _) (fun _ => Wp.ite (fun _ => K _) (fun _ => K _)))))))
              · rw [e25]
                exact u1.set (by decide) (by decide) (by decide) (by decide)
              · have : D25.1 0 23 = D23.1 0 23 := by rw [e25]; simp [aSI]
                rw [this, u2]
                have := nn.2.2.2.1
                omega
            · have q22 := q22 hz
              rw [← se9] at q22
              have n27 : NP D22 D27 := by rw [e27]; exact (NP.refl r9).set (by decide) (by decide) (by decide) (by decide)
              have s27 : D27.1 0 23 = D22.1 0 23 := by rw [e27]; simp [aSI]
              have se27 : seF D27 = seF D22 := n27.see (by rw [s27])
              rw [← se27] at q22
              have r27 := n27.rm r9
              refine Wp.letQ (fun Q j => ∀ x D12, NP D27 D12 → (D27.1 0 23).toInt < (D12.1 0 23).toInt → Wp (j x D12) Q) (fun x14 D28 n28 l28 => ?_) (fun j229 K229 => Wp.lets ?_)
              · refine Wp.letQ (fun Q j => ∀ x, Wp (j x D28) Q) (fun x15 => Wp.leti (fun D30 e30 => K295 _ ⟨?_, Or.inr ?_⟩)) (fun j K => Wp.ite (fun _ => K _) (fun _ => K _))
                · rw [e30]
                  exact ((nn.trans n27).trans n28).set (by decide) (by decide) (by decide) (by decide)
                · have : D30.1 0 23 = D28.1 0 23 := by rw [e30]; simp [aSI]
                  rw [this]
                  have := nn.2.2.2.1
                  rw [s27] at l28
                  omega
              · refine Wp.fix1 (fun n x D' => NP D27 D' ∧ (D27.1 0 24).toInt - (D'.1 0 23).toInt < (n : Int)) ?_ ?_ aFuel 1000000 _ _ (Nat.le_refl _) ⟨NP.refl r27, by have := r27.1; have := r27.2; omega⟩
                · intro n g2 hg2 x D' hI
                  obtain ⟨k0, k1⟩ := hI
                  have rk := k0.rm r27
                  unfold lX11_next_168
                  refine Wp.bindE (eM_see rk) (Wp.bind tM_is2 (fun x9 D18 q18 => ?_))
                  obtain ⟨rfl, q18, w18⟩ := q18
                  refine Wp.ite (fun hz => K229 _ _ k0 ?_) (fun hz => ?_)
                  · false_or_by_contra
                    rename_i hno
                    have es := k0.see (by have := k0.2.2.2.1; omega)
                    rw [es] at w18
                    exact w18 hz q22
                  · have q18 := q18 hz
                    have e48 : (48 : Int32).toInt = 48 := by decide
                    have lk := seF_lt (D := D18) (by omega)
                    refine Wp.letQ (fun Q j => ∀ x, Wp (j x D18) Q) (fun x19 => Wp.leti (fun D35 e35 => Wp.leti (fun D36 e36 => Wp.lets (hg2 _ _ ?_)))) (fun j K => Wp.ite (fun _ => K _) (fun _ => Wp.bindE (eM_see rk) (K _)))
                    have k35 : NP D27 D35 := by rw [e35]; exact k0.set (by decide) (by decide) (by decide) (by decide)
                    have s35 : D35.1 0 23 = D18.1 0 23 := by rw [e35]; simp [aSI]
                    have t35 : D35.1 0 24 = D18.1 0 24 := by rw [e35]; simp [aSI]
                    obtain ⟨u1, u2⟩ := k35.up r27 (by rw [s35, t35]; exact lk)
                    rw [e36]
                    refine ⟨u1, ?_⟩
                    rw [u2, s35]
                    omega
                · intro x D' hI
                  obtain ⟨k0, k1⟩ := hI
                  have := k0.2.2.2.2
                  omega
      · refine Wp.leti (fun D38 e38 => K295 _ ⟨?_, Or.inl ?_⟩)
        · rw [e38]
          exact nn.set (by decide) (by decide) (by decide) (by decide)
        · rw [e38]
          simp [aSI]
  · intro D' hI
    obtain ⟨k0, k1⟩ := hI
    have := k0.2.2.2.2
    omega
end MR
