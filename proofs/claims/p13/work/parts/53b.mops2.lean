/-! the reference's questions, the longer ones -/
section F5
variable {ρ σ τ υ κ μ : Type} {Q : ρ → ADD → Prop}
theorem Wp.fix5 {F : (σ → τ → υ → κ → μ → ADD → Option (ρ × ADD)) → σ → τ → υ → κ → μ → ADD → Option (ρ × ADD)} {z : σ → τ → υ → κ → μ → ADD → Option (ρ × ADD)} (I : Nat → σ → τ → υ → κ → μ → ADD → Prop) (h : ∀ n g, (∀ x y w v u D, I n x y w v u D → Wp (g x y w v u D) Q) → ∀ x y w v u D, I (n + 1) x y w v u D → Wp (F g x y w v u D) Q) (h0 : ∀ x y w v u D, ¬ I 0 x y w v u D) : ∀ m n x y w v u D, n ≤ m → I n x y w v u D → Wp (aFix m F z x y w v u D) Q
  | 0, n, x, y, w, v, u, D, hn, hI => by
    have e : n = 0 := by omega
    rw [e] at hI
    exact absurd hI (h0 x y w v u D)
  | m + 1, 0, x, y, w, v, u, D, hn, hI => absurd hI (h0 x y w v u D)
  | m + 1, n + 1, x, y, w, v, u, D, hn, hI => h n (aFix m F z) (fun x' y' w' v' u' D' hI' => Wp.fix5 I h h0 m n x' y' w' v' u' D' (by omega) hI') x y w v u D hI
theorem Wp.up5 {D : ADD} (B : Int) (hB : B ≤ 100000) {F : (σ → τ → υ → κ → Int32 → ADD → Option (ρ × ADD)) → σ → τ → υ → κ → Int32 → ADD → Option (ρ × ADD)} {z : σ → τ → υ → κ → Int32 → ADD → Option (ρ × ADD)}
    (hF : ∀ (g : σ → τ → υ → κ → Int32 → ADD → Option (ρ × ADD)) (a : σ) (b : τ) (c : υ) (d : κ) (x : Int32), 0 ≤ x.toInt → (x.toInt < B → ∀ a b c d, Wp (g a b c d (x + 1) D) Q) → Wp (F g a b c d x D) Q) {a : σ} {b : τ} {c : υ} {d : κ} {x0 : Int32} (h0 : 0 ≤ x0.toInt) (h1 : x0.toInt ≤ 100000) : Wp (aFix aFuel F z a b c d x0 D) Q := by
  refine Wp.fix5 (fun n a b c d x D' => (0 ≤ x.toInt ∧ x.toInt ≤ 100001 ∧ 100001 - x.toInt < (n : Int)) ∧ D' = D) ?_ ?_ aFuel 1000000 _ _ _ _ _ _ (Nat.le_refl _) ⟨⟨h0, by omega, by omega⟩, rfl⟩
  · intro n g hg a b c d x D' hI
    obtain ⟨⟨i0, i1, i2⟩, i3⟩ := hI
    subst i3
    refine hF g a b c d x i0 (fun hx a b c d => hg _ _ _ _ _ _ ⟨?_, rfl⟩)
    have c2 : (x + 1).toInt = x.toInt + 1 := ti_add rfl ti_1 (by omega) (by omega)
    omega
  · intro a b c d x D' hI
    obtain ⟨⟨i0, i1, i2⟩, -⟩ := hI
    omega
end F5
section MP
variable {D : ADD}
theorem mul_nz {a x : Int32} (ha : 1 ≤ a.toInt ∧ a.toInt ≤ 2000) (hx : x ≠ 0) : a.toInt64 * x.toInt64 ≠ 0 := by
  intro e
  have e1 : (a.toInt64 * x.toInt64).toInt = 0 := by rw [e]; rfl
  rw [Int64.toInt_mul, Int32.toInt_toInt64, Int32.toInt_toInt64] at e1
  have lo := ti_lo x
  have hi := ti_hi x
  have hn : (a.toInt * x.toInt).natAbs ≤ 2000 * 2147483648 := by
    rw [Int.natAbs_mul]
    exact Nat.mul_le_mul (by omega) (by omega)
  have hb : (a.toInt * x.toInt).bmod (2 ^ 64) = a.toInt * x.toInt := by
    generalize a.toInt * x.toInt = p at hn ⊢
    exact Int.bmod_eq_of_le (by omega) (by omega)
  rw [hb] at e1
  rcases Int.mul_eq_zero.mp e1 with h | h
  · omega
  · exact hx (Int32.toInt_inj.mp (by rw [h]; rfl))
theorem oM_peak {a b c : Int32} (h : QM D) : Wp (fX11_peak a b c D) (fun _ D1 => FmM D D1) := by
  unfold fX11_peak
  have f1 : FmM D (aSI D 0 0 0) := FmM.code
  refine Wp.lets (Wp.bind tM_ar (fun x D2 q => ?_))
  obtain ⟨rfl, q⟩ := q
  refine Wp.ite (fun _ => Wp.ret f1) (fun hx => Wp.bind (tM_lk (h.fr f1)) (fun _ D3 q3 => Wp.bind (tM_those q3.2) (fun y D4 q4 => ?_)))
  subst q4
  have f3 := f1.trans q3.1
  refine Wp.lets (Wp.ite (fun _ => Wp.ret f3) (fun _ => Wp.bind tM_is (fun x2 D5 q5 => ?_)))
  obtain ⟨rfl, -⟩ := q5
  have hU := q hx
  obtain ⟨u0, u1, u2, u3⟩ := id hU
  refine Wp.ite (fun _ => Wp.ret f3) (fun _ => Wp.bind (tM_fs q3.2 hU) (fun _ D6 q6 => Wp.lets (Wp.lets ?_)))
  have f6 := f3.trans q6.fm
  refine Wp.fix1 (fun n x D' => (a.toInt ≤ x.toInt ∧ x.toInt ≤ b.toInt + 1 ∧ b.toInt + 1 - x.toInt < (n : Int)) ∧ D' = D6) ?_ ?_ aFuel 1000000 _ _ (Nat.le_refl _) ⟨⟨by omega, by omega, by omega⟩, rfl⟩
  · intro n g hg x D' hI
    obtain ⟨⟨i0, i1, i2⟩, i3⟩ := hI
    subst i3
    unfold lX11_peak_48
    refine Wp.ilt (fun _ => Wp.ret f6) (fun hb => Wp.bind (tM_placeOf hU i0 hb) (fun z D7 q7 => ?_))
    subst q7
    have c2 : (x + 1).toInt = x.toInt + 1 := ti_add rfl ti_1 (by omega) (by omega)
    exact Wp.ite (fun _ => Wp.ret f6) (fun _ => Wp.lets (hg _ _ ⟨⟨by omega, by omega, by omega⟩, rfl⟩))
  · intro x D' hI
    obtain ⟨⟨i0, i1, i2⟩, -⟩ := hI
    omega
theorem tM_fp {u a b : Int32} (hm : MN D) (hU : UR a b 300) (h1 : a.toInt ≤ u.toInt) (h2 : u.toInt ≤ b.toInt) : Wp (fX11_findProof u a b D) (fun _ D1 => GM D D1) := by
  unfold fX11_findProof
  obtain ⟨u0, u1, u2, u3⟩ := id hU
  refine Wp.bind (tM_those hm) (fun x1 D1 q1 => ?_)
  subst q1
  refine Wp.bind (tM_chanceOf hm (by omega)) (fun x2 D2 q2 => Wp.lets ?_)
  have g2 : GM D1 D2 := fun c _ => by rw [q2]
  have m2 := g2.mn hm
  refine Wp.letQ (fun Q j => ∀ x y, Wp (j x y D2) Q) (fun x4 x5 => ?_) (fun j K => Wp.lets ?_)
  · refine Wp.letQ (fun Q j => ∀ x, Wp (j x D2) Q) (fun x6 => ?_) (fun j K => Wp.lets ?_)
    · refine Wp.bind (tM_fs m2 hU) (fun _ D5 q5 => Wp.idd (by decide) (Wp.leti (fun D6 e6 => ?_)))
      have g6 : GM D1 D6 := by rw [e6]; exact (g2.trans q5).si (by decide) (by decide)
      refine Wp.bind (tM_nearOf (g6.mn hm) (by omega)) (fun x7 D7 q7 => ?_)
      obtain ⟨rfl, -⟩ := q7
      refine Wp.idd (by decide) (Wp.leti (fun D8 e8 => ?_))
      have g8 : GM D1 D8 := by rw [e8]; exact g6.si (by decide) (by decide)
      have es : (u - a).toInt = u.toInt - a.toInt := ti_sub rfl rfl (by omega) (by omega)
      refine Wp.letQ (fun Q j => ∀ x, Wp (j x D8) Q) (fun x8 => ?_) (fun j K => Wp.ite (fun _ => K _) (fun hx => Wp.idx (i_in (by omega) (by omega)) (Wp.nzl (mul_nz (by omega) hx) (K _))))
      refine Wp.idd (by decide) (Wp.leti (fun D10 e10 => ?_))
      have g10 : GM D1 D10 := by rw [e10]; exact g8.si (by decide) (by decide)
      refine Wp.bind tM_thousands (fun x9 D11 q11 => ?_)
      subst q11
      refine Wp.idd (by decide) (Wp.leti (fun D12 e12 => ?_))
      have g12 : GM D1 D12 := by rw [e12]; exact g10.si (by decide) (by decide)
      refine Wp.letQ (fun Q j => ∀ x, Wp (j x D12) Q) (fun x10 => ?_) (fun j K => Wp.ite (fun _ => K _) (fun _ => K _))
      refine Wp.bind tM_thousands (fun x11 D14 q14 => ?_)
      subst q14
      refine Wp.idd (by decide) (Wp.leti (fun D15 e15 => ?_))
      have g15 : GM D1 D15 := by rw [e15]; exact g12.si (by decide) (by decide)
      refine Wp.letQ (fun Q j => ∀ x, Wp (j x D15) Q) (fun x12 => ?_) (fun j K => Wp.ite (fun _ => K _) (fun _ => Wp.bind (tM_placeOf hU h1 h2) (fun z D16 q16 => by subst q16; exact K _)))
      refine Wp.idd (by decide) (Wp.leti (fun D17 e17 => Wp.idd (by decide) (Wp.leti (fun D18 e18 => Wp.idd (by decide) (Wp.leti (fun D19 e19 => Wp.ret ?_))))))
      rw [e19, e18, e17]
      exact ((g15.si (by decide) (by decide)).si (by decide) (by decide)).si (by decide) (by decide)
    · refine Wp.up2 (D := D2) 6 (by decide) (fun g y x h0 k => ?_) (by decide) (by decide)
      unfold lX11_findProof_113
      have e6 : (6 : Int32).toInt = 6 := by decide
      exact Wp.ile (fun _ => K _) (fun hl => Wp.lets (Wp.lets (k (by omega) _)))
  · refine Wp.up3 (D := D2) 32 (by decide) (fun g p r x h0 k => ?_) (by decide) (by decide)
    unfold lX11_findProof_33
    refine Wp.ile (fun _ => K _ _) (fun hl => ?_)
    have k := k (by omega)
    refine Wp.idx (i_in h0 (by omega)) (Wp.letQ (fun Q j => ∀ a b, Wp (j a b D2) Q) (fun a b => Wp.lets (k _ _)) (fun j K2 => Wp.ite (fun _ => K2 _ _) (fun _ => Wp.bindE (eM_off ⟨h0, by omega⟩ (u_ne (by omega))) (Wp.ite (fun _ => K2 _ _) (fun _ => Wp.bindE (eM_f ⟨h0, by omega⟩ ⟨by decide, by decide⟩) (Wp.lets (Wp.bindE (eM_f ⟨h0, by omega⟩ ⟨by decide, by decide⟩) (Wp.lets (Wp.ite (fun _ => Wp.lets (K2 _ _)) (fun _ => Wp.lets (K2 _ _)))))))))))
theorem oM_verdict {u a b : Int32} (h : QM D) : Wp (fX11_verdict u a b D) (fun _ D1 => FmM D D1) := by
  unfold fX11_verdict
  have f1 : FmM D (aSI D 0 0 0) := FmM.code
  refine Wp.lets (Wp.bind tM_ar (fun x D2 q => ?_))
  obtain ⟨rfl, q⟩ := q
  refine Wp.lets (Wp.ite (fun _ => Wp.ret f1) (fun hx => Wp.bind tM_is (fun x2 D5 q5 => ?_)))
  obtain ⟨rfl, q5⟩ := q5
  refine Wp.ite (fun _ => Wp.ret f1) (fun hy => Wp.bind (tM_lk (h.fr f1)) (fun _ D3 q3 => Wp.bind (tM_fp q3.2 (q hx) (q5 hy).1 (q5 hy).2) (fun _ D6 q6 => Wp.lets (Wp.lets ?_))))
  have f6 := (f1.trans q3.1).trans q6.fm
  have h6 := h.fr f6
  have l1 := h6.2.2.2.1
  have l2 := h6.2.2.2.2
  refine Wp.up1 (D := D6) 16 (by decide) (fun g x i0 k => ?_) (by decide) (by decide)
  unfold lX11_verdict_38
  have c1 : (1 : Int32).toNatClampNeg = 1 := rfl
  refine Wp.idd (by decide) ?_
  rw [c1]
  refine Wp.ile (fun _ => Wp.ret f6) (fun hl => ?_)
  have e16 : ((16 : Int32) + x).toInt = 16 + x.toInt := ti_add (by decide) rfl (by omega) (by omega)
  have ec := cl_i (x := (16 : Int32) + x) (by omega)
  refine Wp.bind (tM_holds ⟨by omega, by omega⟩ (l2 _ (by omega))) (fun y D7 q7 => ?_)
  subst q7
  exact Wp.ite (fun _ => Wp.lets (k (by omega))) (fun _ => Wp.idx (i_in (by omega) (by omega)) (Wp.ret f6))
theorem tM_ofSet {k s : Int32} (hk : 0 ≤ k.toInt ∧ k.toInt < 32) : Pu (fX11_isOfSet k s D) D := by
  unfold fX11_isOfSet
  have z0 : Wp (aZ 0 (some ((0 : Int32), D))) (fun _ D1 => D1 = D) := Wp.z (Or.inl rfl) (Wp.ret rfl)
  have z1 : Wp (aZ 1 (some ((1 : Int32), D))) (fun _ D1 => D1 = D) := Wp.z (Or.inr rfl) (Wp.ret rfl)
  exact Wp.idx (i_in hk.1 hk.2) (Wp.lets (Wp.lets (Wp.ite (fun _ => z0) (fun _ => Wp.bindE (eM_f hk ⟨by decide, by decide⟩) (Wp.ite (fun _ => Wp.bindE (eM_f hk ⟨by decide, by decide⟩) (Wp.ite (fun _ => z1) (fun _ => z0))) (fun _ => z0))))))
theorem oM_set {a b c : Int32} (h : QM D) : Wp (fX11_set a b c D) (fun _ D1 => FmM D D1) := by
  unfold fX11_set
  have f1 : FmM D (aSI D 0 0 0) := FmM.code
  refine Wp.lets (Wp.bind tM_is (fun x D2 q => ?_))
  obtain ⟨rfl, -⟩ := q
  refine Wp.lets (Wp.ite (fun _ => Wp.ret f1) (fun hx => Wp.bind tM_un (fun x2 D5 q5 => ?_)))
  obtain ⟨rfl, q5⟩ := q5
  refine Wp.ite (fun _ => Wp.ret f1) (fun hy => Wp.bind tM_is (fun x3 D6 q6 => ?_))
  obtain ⟨rfl, -⟩ := q6
  refine Wp.ite (fun _ => Wp.ret f1) (fun hz => Wp.bind (tM_lk (h.fr f1)) (fun _ D3 q3 => ?_))
  have f3 := f1.trans q3.1
  have m := q3.2
  have nu := u_ne (u := b) (by have := q5 hy; omega)
  have e6 : (6 : Int32).toInt = 6 := by decide
  refine Wp.letQ (fun Q j => ∀ x y z w, Wp (j x y z w D3) Q) (fun x4 x5 x6 x7 => ?_) (fun j K => Wp.lets ?_)
  · refine Wp.letQ (fun Q j => ∀ x, Wp (j x D3) Q) (fun x8 => Wp.lets (Wp.ite (fun _ => Wp.ret f3) (fun _ => Wp.ite (fun _ => Wp.ret f3) (fun _ => Wp.ite (fun _ => Wp.ret f3) (fun _ => Wp.ret f3))))) (fun j K => Wp.lets ?_)
    refine Wp.up2 (D := D3) 6 (by decide) (fun g y x h0 k => ?_) (by decide) (by decide)
    unfold lX11_set_218
    refine Wp.ile (fun _ => K _) (fun hl => ?_)
    have k := k (by omega)
    exact Wp.letQ (fun Q j => ∀ x, Wp (j x D3) Q) (fun x => Wp.lets (Wp.lets (k _))) (fun j K2 => Wp.lets (Wp.ite (fun _ => K2 _) (fun _ => Wp.ite (fun _ => K2 _) (fun _ => K2 _))))
  · refine Wp.up5 (D := D3) 32 (by decide) (fun g p r s t x h0 k => ?_) (by decide) (by decide)
    unfold lX11_set_52
    refine Wp.ile (fun _ => K _ _ _ _) (fun hl => ?_)
    have k := k (by omega)
    refine Wp.bind (tM_ofSet ⟨h0, by omega⟩) (fun y D4 q4 => ?_)
    subst q4
    refine Wp.letQ (fun Q j => ∀ x y z w, Wp (j x y z w D4) Q) (fun _ _ _ _ => Wp.lets (k _ _ _ _)) (fun j K2 => Wp.ite (fun _ => K2 _ _ _ _) (fun _ => Wp.lets (Wp.bindE (eM_timesOf ⟨h0, by omega⟩ nu) ?_)))
    refine Wp.letQ (fun Q j => ∀ x, Wp (j x D4) Q) (fun x28 => ?_) (fun j K3 => Wp.ite (fun _ => K3 _) (fun _ => K3 _))
    refine Wp.letQ (fun Q j => ∀ x, Wp (j x D4) Q) (fun x29 => ?_) (fun j K3 => Wp.lets ?_)
    · refine Wp.letQ (fun Q j => ∀ x, Wp (j x D4) Q) (fun x30 => Wp.lets (Wp.lets ?_)) (fun j K3 => Wp.ite (fun _ => K3 _) (fun _ => K3 _))
      refine Wp.up2 (D := D4) 6 (by decide) (fun g y x h0 k => ?_) (by decide) (by decide)
      unfold lX11_set_171
      refine Wp.ile (fun _ => K2 _ _ _ _) (fun hl => ?_)
      have k := k (by omega)
      exact Wp.letQ (fun Q j => ∀ x, Wp (j x D4) Q) (fun x => Wp.lets (Wp.lets (k _))) (fun j K2 => Wp.ite (fun _ => K2 _) (fun _ => K2 _))
    · refine Wp.up2 (D := D4) 32 (by decide) (fun g y w h1 k => ?_) (by decide) (by decide)
      unfold lX11_set_108
      refine Wp.ile (fun _ => K3 _) (fun hl2 => ?_)
      have k := k (by omega)
      refine Wp.bind (tM_ofSet ⟨h1, by omega⟩) (fun z D5 q5 => ?_)
      subst q5
      exact Wp.letQ (fun Q j => ∀ x, Wp (j x D5) Q) (fun x => Wp.lets (Wp.lets (k _))) (fun j K4 => Wp.lets (Wp.ite (fun _ => K4 _) (fun _ => Wp.bindE (eM_timesOf ⟨h1, by omega⟩ nu) (Wp.ite (fun _ => K4 _) (fun _ => K4 _)))))
/-- the loops that choose anew among those kept -/
theorem tM_town {t a b : Int32} (hm : MN D) (hU : UR a b 300) : Wp (fX11_bestOfTown t a b D) (fun _ D1 => GM D D1) := by
  unfold fX11_bestOfTown
  refine Wp.letQ (fun Q j => ∀ D1, GM D D1 → Wp (j D1) Q) (fun D1 g1 => Wp.bind (tM_those (g1.mn hm)) (fun x D2 q2 => ?_)) (fun j K => Wp.lets ?_)
  · subst q2
    exact Wp.lets (Wp.ite (fun _ => Wp.ret g1) (fun _ => Wp.bind (tM_bo (g1.mn hm) hU) (fun y D3 q3 => Wp.ret (g1.trans q3))))
  · refine Wp.fix1 (fun n x D' => (0 ≤ x.toInt ∧ x.toInt ≤ 32 ∧ 32 - x.toInt < (n : Int)) ∧ GM D D') ?_ ?_ aFuel 1000000 _ _ (Nat.le_refl _) ⟨⟨by decide, by decide, by decide⟩, GM.refl D⟩
    · intro n g hg x D' hI
      obtain ⟨⟨i0, i1, i2⟩, i3⟩ := hI
      have m := i3.mn hm
      unfold lX11_bestOfTown_3
      refine Wp.ile (fun _ => K _ i3) (fun hl => ?_)
      have c2 : (x + 1).toInt = x.toInt + 1 := ti_add rfl ti_1 (by omega) (by omega)
      have ix : vp_in x 32 := i_in i0 (by omega)
      exact Wp.idx ix (Wp.letQ (fun Q j => ∀ y, Wp (j y D') Q) (fun y => Wp.idx ix (Wp.lets (Wp.lets (hg _ _ ⟨⟨by omega, by omega, by omega⟩, i3.si (by decide) (by decide)⟩)))) (fun j K2 => Wp.lets (Wp.ite (fun _ => K2 _) (fun _ => Wp.bindE (eM_f ⟨i0, by omega⟩ ⟨by decide, by decide⟩) (Wp.ite (fun _ => K2 _) (fun _ => K2 _))))))
    · intro x D' hI
      obtain ⟨⟨i0, i1, i2⟩, -⟩ := hI
      omega
theorem oM_drift {a b c : Int32} (h : QM D) : Wp (fX11_drift a b c D) (fun _ D1 => FmM D D1) := by
  unfold fX11_drift
  have f1 : FmM D (aSI D 0 0 0) := FmM.code
  refine Wp.lets (Wp.bind tM_is (fun x D2 q => ?_))
  obtain ⟨rfl, -⟩ := q
  refine Wp.lets (Wp.ite (fun _ => Wp.ret f1) (fun hx => Wp.bind tM_ar (fun x2 D5 q5 => ?_)))
  obtain ⟨rfl, q5⟩ := q5
  refine Wp.ite (fun _ => Wp.ret f1) (fun hy => Wp.bind (tM_lk (h.fr f1)) (fun _ D3 q3 => Wp.bind (tM_keep q3.2) (fun _ D6 q6 => ?_)))
  have hU := q5 hy
  have f3 := f1.trans q3.1
  have g6 : GM D3 D6 := fun c hc => q6 c (by omega)
  have hm := q3.2
  refine Wp.letQ (fun Q j => ∀ D1, GM D3 D1 → Wp (j D1) Q) (fun D7 g7 => Wp.bind (tM_those (g7.mn hm)) (fun x D8 q8 => ?_)) (fun j K => Wp.lets ?_)
  · subst q8
    refine Wp.letQ (fun Q j => ∀ x D1, GM D3 D1 → Wp (j x D1) Q) (fun x4 D9 g9 => ?_) (fun j K => Wp.ite (fun _ => K _ _ g7) (fun _ => Wp.bind (tM_bo (g7.mn hm) hU) (fun y D3 q3 => K _ _ (g7.trans q3))))
    refine Wp.letQ (fun Q j => ∀ D1, GM D3 D1 → Wp (j D1) Q) (fun D10 g10 => Wp.bind (tM_those (g10.mn hm)) (fun x D11 q11 => ?_)) (fun j K => Wp.lets ?_)
    · subst q11
      refine Wp.letQ (fun Q j => ∀ x D1, GM D3 D1 → Wp (j x D1) Q) (fun x6 D12 g12 => ?_) (fun j K => Wp.ite (fun _ => K _ _ g10) (fun _ => Wp.bind (tM_bo (g10.mn hm) hU) (fun y D3 q3 => K _ _ (g10.trans q3))))
      have f12 := f3.trans g12.fm
      exact Wp.lets (Wp.lets (Wp.ite (fun _ => Wp.ret f12) (fun _ => Wp.ite (fun _ => Wp.ret f12) (fun _ => Wp.ret f12))))
    · refine Wp.fix1 (fun n x D' => (0 ≤ x.toInt ∧ x.toInt ≤ 32 ∧ 32 - x.toInt < (n : Int)) ∧ GM D3 D') ?_ ?_ aFuel 1000000 _ _ (Nat.le_refl _) ⟨⟨by decide, by decide, by decide⟩, g9⟩
      · intro n g hg x D' hI
        obtain ⟨⟨i0, i1, i2⟩, i3⟩ := hI
        have m := i3.mn hm
        unfold lX11_drift_110
        refine Wp.ile (fun _ => K _ i3) (fun hl => ?_)
        have c2 : (x + 1).toInt = x.toInt + 1 := ti_add rfl ti_1 (by omega) (by omega)
        have ix : vp_in x 32 := i_in i0 (by omega)
        exact Wp.idx ix (Wp.letQ (fun Q j => ∀ y, Wp (j y D') Q) (fun y => Wp.idx ix (Wp.lets (Wp.lets (hg _ _ ⟨⟨by omega, by omega, by omega⟩, i3.si (by decide) (by decide)⟩)))) (fun j K2 => Wp.lets (Wp.ite (fun _ => K2 _) (fun _ => Wp.bindE (eM_f ⟨i0, by omega⟩ ⟨by decide, by decide⟩) (Wp.ite (fun _ => K2 _) (fun _ => K2 _))))))
      · intro x D' hI
        obtain ⟨⟨i0, i1, i2⟩, -⟩ := hI
        omega
  · refine Wp.fix1 (fun n x D' => (0 ≤ x.toInt ∧ x.toInt ≤ 32 ∧ 32 - x.toInt < (n : Int)) ∧ GM D3 D') ?_ ?_ aFuel 1000000 _ _ (Nat.le_refl _) ⟨⟨by decide, by decide, by decide⟩, g6⟩
    · intro n g hg x D' hI
      obtain ⟨⟨i0, i1, i2⟩, i3⟩ := hI
      have m := i3.mn hm
      unfold lX11_drift_40
      refine Wp.ile (fun _ => K _ i3) (fun hl => ?_)
      have c2 : (x + 1).toInt = x.toInt + 1 := ti_add rfl ti_1 (by omega) (by omega)
      have ix : vp_in x 32 := i_in i0 (by omega)
      exact Wp.idx ix (Wp.letQ (fun Q j => ∀ y, Wp (j y D') Q) (fun y => Wp.idx ix (Wp.lets (Wp.lets (hg _ _ ⟨⟨by omega, by omega, by omega⟩, i3.si (by decide) (by decide)⟩)))) (fun j K2 => Wp.lets (Wp.ite (fun _ => K2 _) (fun _ => Wp.bindE (eM_f ⟨i0, by omega⟩ ⟨by decide, by decide⟩) (Wp.ite (fun _ => K2 _) (fun _ => K2 _))))))
    · intro x D' hI
      obtain ⟨⟨i0, i1, i2⟩, -⟩ := hI
      omega
theorem gcd_step : ∀ x, x < 13 → ∀ y, y < 13 → y ≠ 0 → 0 ≤ (nI x - nI x / nI y * nI y).toInt ∧ (nI x - nI x / nI y * nI y).toInt < y := by decide +kernel
theorem tM_gcd {a b : Int32} (ha : 0 ≤ a.toInt ∧ a.toInt ≤ 12) (hb : 0 ≤ b.toInt ∧ b.toInt ≤ 12) : Pu (fX11_gcd a b D) D := by
  unfold fX11_gcd
  refine Wp.lets (Wp.lets ?_)
  refine Wp.fix2 (fun n x y D' => (0 ≤ x.toInt ∧ x.toInt ≤ 12) ∧ (0 ≤ y.toInt ∧ y.toInt ≤ 12 ∧ y.toInt < (n : Int)) ∧ D' = D) ?_ ?_ aFuel 1000000 _ _ _ (Nat.le_refl _) ⟨ha, ⟨hb.1, hb.2, by omega⟩, rfl⟩
  · intro n g hg x y D' hI
    obtain ⟨hx, ⟨y0, y1, y2⟩, rfl⟩ := hI
    unfold lX11_gcd_4
    refine Wp.ite (fun _ => Wp.ret rfl) (fun hy => Wp.nz hy (Wp.lets (hg _ _ _ ⟨⟨y0, y1⟩, ?_, rfl⟩)))
    have ex := cl_i hx.1
    have ey := cl_i y0
    have yn : y.toNatClampNeg ≠ 0 := fun e => hy (by rw [nI_val y0, e]; rfl)
    have s := gcd_step x.toNatClampNeg (by omega) y.toNatClampNeg (by omega) yn
    rw [← nI_val hx.1, ← nI_val y0] at s
    omega
  · intro x y D' hI
    have := hI.2.1
    omega
theorem oM_rate {a b c d e : Int32} (h : QM D) : Wp (fX11_rate a b c d e D) (fun _ D1 => FmM D D1) := by
  unfold fX11_rate
  have f1 : FmM D (aSI D 0 0 0) := FmM.code
  refine Wp.lets (Wp.bind tM_is (fun x D2 q => ?_))
  obtain ⟨rfl, -⟩ := q
  refine Wp.lets (Wp.ite (fun _ => Wp.ret f1) (fun hx => Wp.bind tM_is (fun x2 D5 q5 => ?_)))
  obtain ⟨rfl, -⟩ := q5
  refine Wp.ite (fun _ => Wp.ret f1) (fun hx => Wp.ite (fun _ => Wp.ret f1) (fun _ => Wp.bind tM_ar (fun x2 D5 q5 => ?_)))
  obtain ⟨rfl, q5⟩ := q5
  refine Wp.ite (fun _ => Wp.ret f1) (fun hy => Wp.bind tM_is (fun x2 D4 q4 => ?_))
  obtain ⟨rfl, -⟩ := q4
  refine Wp.ite (fun _ => Wp.ret f1) (fun _ => Wp.bind (tM_lk (h.fr f1)) (fun _ D3 q3 => Wp.bind (tM_keep q3.2) (fun _ D6 q6 => ?_)))
  have hU := q5 hy
  have hm := q3.2
  have g6 : GM D3 D6 := fun c hc => q6 c (by omega)
  refine Wp.bind (tM_town (g6.mn hm) hU) (fun x5 D7 g7 => Wp.bind (tM_town (g7.mn (g6.mn hm)) hU) (fun x6 D8 g8 => ?_))
  have f8 : FmM D D8 := (f1.trans q3.1).trans ((g6.trans g7).trans g8).fm
  refine Wp.lets (Wp.ite (fun _ => Wp.ret f8) (fun _ => Wp.ite (fun _ => Wp.ret f8) (fun _ => Wp.lets (Wp.lets ?_))))
  have e24 : (24 : Int32).toInt = 24 := by decide
  have e13 : (13 : Int32).toInt = 13 := by decide
  refine Wp.up1 (D := D8) 25 (by decide) (fun g x h0 k => ?_) (by decide) (by decide)
  unfold lX11_rate_96
  refine Wp.ilt (fun _ => Wp.ret f8) (fun hl => Wp.letQ (fun Q j => Wp (j D8) Q) (Wp.lets (k (by omega))) (fun j K => Wp.lets ?_))
  refine Wp.fix1 (fun n y D' => (1 ≤ y.toInt ∧ y.toInt ≤ 100001 ∧ 100001 - y.toInt < (n : Int)) ∧ D' = D8) ?_ ?_ aFuel 1000000 _ _ (Nat.le_refl _) ⟨⟨by decide, by decide, by decide⟩, rfl⟩
  · intro n g hg y D' hI
    obtain ⟨⟨i0, i1, i2⟩, rfl⟩ := hI
    unfold lX11_rate_106
    refine Wp.ile (fun _ => K) (fun hy => Wp.leti (fun w ew => Wp.lets ?_))
    have c2 : (y + 1).toInt = y.toInt + 1 := ti_add rfl ti_1 (by omega) (by omega)
    have e1 : w.toInt = x.toInt - y.toInt := by rw [ew]; exact ti_sub rfl rfl (by omega) (by omega)
    refine Wp.letQ (fun Q j => ∀ y, Wp (j y D') Q) (fun v => ?_) (fun j K2 => Wp.ite (fun _ => K2 _) (fun _ => K2 _))
    refine Wp.letQ (fun Q j => Wp (j D') Q) (Wp.lets (hg _ _ ⟨⟨by omega, by omega, by omega⟩, rfl⟩)) (fun j K3 => Wp.ile (fun _ => K3) (fun h1 => Wp.ile (fun _ => K3) (fun h2 => Wp.bind (tM_gcd (by omega) (by omega)) (fun s D9 q9 => ?_))))
    subst q9
    exact Wp.ite (fun _ => Wp.ite (fun _ => K3) (fun _ => Wp.ret f8)) (fun _ => K3)
  · intro x D' hI
    obtain ⟨⟨i0, i1, i2⟩, -⟩ := hI
    omega
theorem oM_owner {a b c : Int32} (h : QM D) : Wp (fX11_owner a b c D) (fun _ D1 => FmM D D1) := by
  unfold fX11_owner
  have f1 : FmM D (aSI D 0 0 0) := FmM.code
  refine Wp.lets (Wp.bind tM_is (fun x D2 q => ?_))
  obtain ⟨rfl, -⟩ := q
  refine Wp.lets (Wp.ite (fun _ => Wp.ret f1) (fun hx => Wp.bind tM_un (fun x2 D5 q5 => ?_)))
  obtain ⟨rfl, q5⟩ := q5
  refine Wp.ite (fun _ => Wp.ret f1) (fun hy => Wp.bind tM_is (fun x2 D4 q4 => ?_))
  obtain ⟨rfl, -⟩ := q4
  refine Wp.ite (fun _ => Wp.ret f1) (fun _ => Wp.bind (tM_lk (h.fr f1)) (fun _ D3 q3 => Wp.bind tM_begin (fun _ D6 q6 => ?_)))
  have hm := q3.2
  have nu := u_ne (u := b) (by have := q5 hy; omega)
  have f3 := f1.trans q3.1
  refine Wp.letQ (fun Q j => ∀ x y D1, (0 ≤ y.toInt ∧ y.toInt ≤ 32) → D1.1 = D3.1 → Wp (j x y D1) Q) (fun x4 x5 D8 hy q8 => ?_) (fun j K => Wp.lets ?_)
  · have f8 : FmM D D8 := fun c hc => by rw [q8]; exact f3 c hc
    refine Wp.lets (Wp.ite (fun _ => Wp.ret f8) (fun _ => Wp.ite (fun _ => Wp.ret f8) (fun _ => Wp.bind (tM_from hy.1 (by omega)) (fun s D9 q9 => ?_))))
    obtain ⟨rfl, -⟩ := q9
    exact Wp.ret f8
  · refine Wp.fix3 (fun n p r x D' => (0 ≤ x.toInt ∧ x.toInt ≤ 32 ∧ 32 - x.toInt < (n : Int)) ∧ (0 ≤ r.toInt ∧ r.toInt ≤ x.toInt) ∧ D'.1 = D3.1) ?_ ?_ aFuel 1000000 _ _ _ _ (Nat.le_refl _) ⟨⟨by decide, by decide, by decide⟩, ⟨by decide, by decide⟩, q6.1⟩
    · intro n g hg p r x D' hI
      obtain ⟨⟨i0, i1, i2⟩, i3, i4⟩ := hI
      unfold lX11_owner_50
      rw [i4]
      refine Wp.ile (fun _ => K _ _ _ (by omega) i4) (fun hl => ?_)
      have hl : x.toInt < (D3.1 0 41).toInt := hl
      have c2 : (x + 1).toInt = x.toInt + 1 := ti_add rfl ti_1 (by omega) (by omega)
      have r1 : (r + 1).toInt = r.toInt + 1 := ti_add rfl ti_1 (by omega) (by omega)
      have r0 : (r + 0).toInt = r.toInt := by rw [Int32.add_zero]
      refine Wp.idx (i_in i0 (by omega)) (Wp.letQ (fun Q j => ∀ a b D1, (0 ≤ b.toInt ∧ b.toInt ≤ x.toInt + 1) → D1.1 = D3.1 → Wp (j a b D1) Q) (fun a b D1 hb e1 => Wp.lets (hg _ _ _ _ ⟨⟨by omega, by omega, by omega⟩, ⟨hb.1, by omega⟩, e1⟩)) (fun j K2 => Wp.ite (fun _ => K2 _ _ _ (by omega) i4) (fun _ => Wp.bindE (eM_f ⟨i0, by omega⟩ ⟨by decide, by decide⟩) (Wp.ite (fun _ => Wp.lets (Wp.bind (tM_shortOf ⟨i0, by omega⟩ nu) (fun y D5 q5 => ?_))) (fun _ => K2 _ _ _ (by omega) i4)))))
      subst q5
      exact Wp.lets (Wp.ite (fun _ => Wp.lets (Wp.bind (tM_draw (by decide)) (fun _ D7 q7 => K2 _ _ _ (by omega) (by rw [q7.1, i4])))) (fun _ => Wp.lets (Wp.bind (tM_draw (by decide)) (fun _ D7 q7 => K2 _ _ _ (by omega) (by rw [q7.1, i4])))))
    · intro p r x D' hI
      obtain ⟨⟨i0, i1, i2⟩, -⟩ := hI
      omega
end MP
