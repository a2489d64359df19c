section
/-! the reference's book by its slot -/
def trB (M : Sl) : Sl := fun c i => if 5 ≤ c ∧ c ≤ 10 then M c i else 0
abbrev mB (E : ADD) : Sl := trB (slM E 0)
theorem trB_fr {M M1 : Sl} (h : ∀ c, 5 ≤ c → c ≤ 10 → M1 c = M c) : trB M1 = trB M := by
  funext c i
  unfold trB
  by_cases hc : 5 ≤ c ∧ c ≤ 10
  · rw [if_pos hc, if_pos hc, h c hc.1 hc.2]
  · rw [if_neg hc, if_neg hc]
theorem sm0 {E : ADD} {c i : Nat} (h : c ≠ 1) (hi : i < szM c) : slM E 0 c i = E.1 c i := by
  unfold slM
  rw [if_pos hi, if_neg h, Nat.mul_zero, Nat.zero_add]
theorem smO {E : ADD} {t c i : Nat} (hi : szM c ≤ i) : slM E t c i = 0 := if_neg (by omega)
theorem smF {E E1 : ADD} {c : Nat} (h : E1.1 c = E.1 c) : slM E1 0 c = slM E 0 c := by
  funext i
  unfold slM
  by_cases h1 : c = 1
  · subst h1
    rw [h]
  · rw [if_neg h1, if_neg h1, h]
section MBs
variable {E E1 : ADD}
theorem mB_at {c i : Nat} (h : 5 ≤ c ∧ c ≤ 10) (hi : i < szM c) : mB E c i = E.1 c i := by
  show (if 5 ≤ c ∧ c ≤ 10 then slM E 0 c i else 0) = _
  rw [if_pos h, sm0 (by omega) hi]
theorem mB_out {c i : Nat} (hi : szM c ≤ i) : mB E c i = 0 := by
  show (if 5 ≤ c ∧ c ≤ 10 then slM E 0 c i else 0) = _
  rw [smO hi]
  split <;> rfl
theorem mB_fr {c : Nat} (h : 5 ≤ c → c ≤ 10 → E1.1 c = E.1 c) : mB E1 c = mB E c := by
  funext i
  show (if 5 ≤ c ∧ c ≤ 10 then slM E1 0 c i else 0) = if 5 ≤ c ∧ c ≤ 10 then slM E 0 c i else 0
  by_cases hc : 5 ≤ c ∧ c ≤ 10
  · rw [if_pos hc, if_pos hc, smF (h hc.1 hc.2)]
  · rw [if_neg hc, if_neg hc]
theorem mB5 : mB E 5 0 = E.1 5 0 := mB_at (by decide) (by decide)
theorem mB6 : mB E 6 0 = E.1 6 0 := mB_at (by decide) (by decide)
theorem mB7 : mB E 7 0 = E.1 7 0 := mB_at (by decide) (by decide)
theorem mB8 : mB E 8 0 = E.1 8 0 := mB_at (by decide) (by decide)
theorem mB9 {j : Nat} (h : j < 1600) : mB E 9 j = E.1 9 j := mB_at (by decide) h
theorem mB10 {j : Nat} (h : j < 96) : mB E 10 j = E.1 10 j := mB_at (by decide) h
theorem mBn : nE (mB E) = (E.1 8 0).toNatClampNeg := by show (mB E 8 0).toNatClampNeg = _; rw [mB8]
theorem mBs : nS (mB E) = (E.1 5 0).toNatClampNeg := by show (mB E 5 0).toNatClampNeg = _; rw [mB5]
theorem WrM.sl {s f v : Int32} (w : WrM E E1 s f v) (h : 0 ≤ (E.1 8 0).toInt ∧ (E.1 8 0).toInt < 400) : WrS (mB E) (mB E1) s f v ∧ NwM E E1 := by
  obtain ⟨w1, w2, w3, w4⟩ := w
  have en := cl_i h.1
  refine ⟨⟨fun c a b => mB_fr (fun _ _ => w1 c a b), by rw [mB8, mB8, w3 0, if_pos rfl], fun j => ?_⟩, fun c i h1 h2 h3 => ?_⟩
  · rw [mBn, mB6]
    by_cases hj : j < 1600
    · rw [mB9 hj, mB9 hj, w4 j]
    · rw [mB_out (c := 9) (i := j) (by show 1600 ≤ j; omega), if_neg (by omega), if_neg (by omega), if_neg (by omega), if_neg (by omega), mB_out (c := 9) (i := j) (by show 1600 ≤ j; omega)]
  · by_cases e8 : c = 8
    · subst e8
      have h3 : 1 ≤ i := h3
      rw [w3 i, if_neg (by omega)]
    · by_cases e9 : c = 9
      · subst e9
        have h3 : 1600 ≤ i := h3
        rw [w4 i, if_neg (by omega), if_neg (by omega), if_neg (by omega), if_neg (by omega)]
      · rw [w1 c e8 e9]
theorem LsM.sl {w st tw : Int32} (l : LsM E E1 w st tw) (h : 0 ≤ (E.1 8 0).toInt ∧ (E.1 8 0).toInt < 400) (hs : 0 ≤ (E.1 5 0).toInt ∧ (E.1 5 0).toInt < 32) : LsS (mB E) (mB E1) w st tw ∧ NwM E E1 ∧ ∀ c, c ≠ 0 → c ≠ 5 → c ≠ 8 → c ≠ 9 → c ≠ 10 → E1.1 c = E.1 c := by
  obtain ⟨D7, k1, k2, k3, k4, k5⟩ := l
  have es := cl_i hs.1
  have e8 : D7.1 8 = E.1 8 := k1 8 (by decide) (by decide) (by decide)
  obtain ⟨wr, nw⟩ := k5.sl (by rw [e8]; exact h)
  refine ⟨⟨mB D7, fun c a b => mB_fr (fun _ _ => k1 c (by omega) a b), by rw [mB5, mB5, k3 0, if_pos rfl], fun j => ?_, by rw [mB5]; exact wr⟩, fun c i h1 h2 h3 => ?_, fun c a b c' d e => ?_⟩
  · rw [mBs, mB6]
    by_cases hj : j < 96
    · rw [mB10 hj, mB10 hj, k4 j]
    · rw [mB_out (c := 10) (i := j) (by show 96 ≤ j; omega), if_neg (by omega), if_neg (by omega), if_neg (by omega), mB_out (c := 10) (i := j) (by show 96 ≤ j; omega)]
  · rw [nw c i h1 h2 h3]
    by_cases e5 : c = 5
    · subst e5
      have h3 : 1 ≤ i := h3
      rw [k3 i, if_neg (by omega)]
    · by_cases e10 : c = 10
      · subst e10
        have h3 : 96 ≤ i := h3
        rw [k4 i, if_neg (by omega), if_neg (by omega), if_neg (by omega)]
      · rw [k1 c (by omega) e5 e10]
  · rw [k5.1 c c' d, k1 c a b e]
theorem eM_day : fX11_dayOfView E = some (dvF (mB E), E) := by
  have h : Wp (fX11_dayOfView E) (fun x D1 => D1 = E ∧ x = dvF (mB E)) := by
    unfold fX11_dayOfView dvF
    rw [mB6, mB7]
    refine Wp.idd (by decide) (Wp.lets (Wp.ite (fun q => Wp.idd (by decide) (Wp.ret ⟨rfl, ?_⟩)) (fun q => Wp.idd (by decide) (Wp.ret ⟨rfl, ?_⟩))))
    · exact (if_pos q).symm
    · exact (if_neg q).symm
  obtain ⟨x, D1, e, rfl, rfl⟩ := h
  exact e
abbrev stM (E : ADD) (a : Int32) : Prop := (0 ≤ a.toInt ∧ a.toInt < (E.1 5 0).toInt) ∧ (lD (mB E) a.toNatClampNeg).toInt ≤ (dvF (mB E)).toInt
theorem eM_isStone {a : Int32} (h : QM E) : fX11_isStone a E = some (if stM E a then 1 else 0, E) := by
  refine eq_Bo ?_
  unfold fX11_isStone
  refine Wp.idd (by decide) ?_
  rw [cl_0]
  have h5 := h.1
  have e1 : (E.1 5 0 - 1).toInt = (E.1 5 0).toInt - 1 := ti_sub rfl ti_1 (by omega) (by omega)
  refine Wp.bindE (eM_is _ _ _ _) (Wp.lets (Wp.lets ?_))
  rw [ti_0, e1]
  by_cases hc : 0 ≤ a.toInt ∧ a.toInt ≤ (E.1 5 0).toInt - 1
  · rw [if_pos hc]
    have e3 : ((3 : Int32) * a).toInt = 3 * a.toInt := ti_mul (by decide) rfl (by omega) (by omega)
    have ea := cl_i hc.1
    have e30 : ((3 : Int32) * a).toNatClampNeg = 3 * a.toNatClampNeg := cl_of (by omega)
    refine Wp.neg (by decide) (Wp.idx (i_in (by omega) (by omega)) (Wp.bindE eM_day ?_))
    rw [e30, ← mB10 (E := E) (by omega)]
    refine Wp.ilt (fun q => Wp.z (Or.inl rfl) (Wp.ret ⟨rfl, Or.inr ⟨rfl, fun k => ?_⟩⟩)) (fun q => Wp.z (Or.inr rfl) (Wp.ret ⟨rfl, Or.inl ⟨rfl, ⟨hc.1, by omega⟩, q⟩⟩))
    have k2 : (mB E 10 (3 * a.toNatClampNeg)).toInt ≤ (dvF (mB E)).toInt := k.2
    omega
  · rw [if_neg hc]
    exact Wp.pos rfl (Wp.z (Or.inl rfl) (Wp.ret ⟨rfl, Or.inr ⟨rfl, fun k => hc ⟨k.1.1, by have := k.1.2; omega⟩⟩⟩))
theorem eM_factOn {a b d : Int32} (h : QM E) (ha : 0 ≤ a.toInt ∧ a.toInt < 32) (hb : 0 ≤ b.toInt ∧ b.toInt < 11) : fX11_factOn a b d E = some (fct (mB E) d a.toNatClampNeg b.toNatClampNeg, E) := by
  have H : Wp (fX11_factOn a b d E) (fun x D1 => D1 = E ∧ x = fct (mB E) d a.toNatClampNeg b.toNatClampNeg) := by
    unfold fX11_factOn
    have h8 := h.2.1
    have e8 := cl_i h8.1
    have ea := cl_i ha.1
    have eb := cl_i hb.1
    have va : a = nI a.toNatClampNeg := nI_val ha.1
    have vb : b = nI b.toNatClampNeg := nI_val hb.1
    have e3 : ((3 : Int32) * a).toInt = 3 * a.toInt := ti_mul (by decide) rfl (by omega) (by omega)
    have e31 : ((3 : Int32) * a + 1).toInt = 3 * a.toInt + 1 := ti_add e3 ti_1 (by omega) (by omega)
    have e32 : ((3 : Int32) * a + 2).toInt = 3 * a.toInt + 2 := ti_add e3 (by decide) (by omega) (by omega)
    have w31 : ((3 : Int32) * a + 1).toNatClampNeg = 3 * a.toNatClampNeg + 1 := cl_of (by omega)
    have w32 : ((3 : Int32) * a + 2).toNatClampNeg = 3 * a.toNatClampNeg + 2 := cl_of (by omega)
    have bq : ∀ (c : Int32) (n : Nat), c.toInt = n → (b = c ↔ b.toNatClampNeg = n) := fun c n hc => ⟨fun e => by rw [e] at eb ⊢; omega, fun e => ti_eq (by omega)⟩
    refine Wp.letQ (fun Q j => Wp (j (dfF (mB E) a.toNatClampNeg b.toNatClampNeg) E) Q) ?_ (fun j K => ?_)
    · refine Wp.lets (Wp.lets (Wp.go2 (fun k y D' => D' = E ∧ y = fcF (mB E) d a.toNatClampNeg b.toNatClampNeg (dfF (mB E) a.toNatClampNeg b.toNatClampNeg) k) (nE (mB E)) (by rw [mBn]; omega) (fun g k y D' hk hI K => ?_) (k0 := 0) rfl (Nat.zero_le _) ⟨rfl, rfl⟩))
      obtain ⟨rfl, hy⟩ := hI
      rw [mBn] at hk
      unfold lX11_factOn_75
      refine Wp.idd (by decide) ?_
      rw [cl_0]
      have ek : (nI k).toInt = k := nI_toInt (by omega)
      refine Wp.ile (fun hl => Wp.ret ⟨rfl, ?_⟩) (fun hl => ?_)
      · have : k = nE (mB D') := by rw [mBn]; omega
        rw [hy, this]
        rfl
      · have kn : k < nE (mB D') := by rw [mBn]; omega
        have e4 : ((4 : Int32) * nI k).toInt = ((4 * k : Nat) : Int) := by
          have := ti_mul (x := 4) (y := nI k) (p := 4) (by decide) ek (by omega) (by omega)
          omega
        refine Wp.leti (fun w ew => ?_)
        rw [← ew] at e4
        have c0 : w.toNatClampNeg = 4 * k := cl_of e4
        have e41 : (w + 1).toInt = ((4 * k + 1 : Nat) : Int) := by
          have := ti_add e4 ti_1 (by omega) (by omega)
          omega
        have e42 : (w + 2).toInt = ((4 * k + 2 : Nat) : Int) := by
          have := ti_add (y := 2) (q := 2) e4 (by decide) (by omega) (by omega)
          omega
        have e43 : (w + 3).toInt = ((4 * k + 3 : Nat) : Int) := by
          have := ti_add (y := 3) (q := 3) e4 (by decide) (by omega) (by omega)
          omega
        have c1 : (w + 1).toNatClampNeg = 4 * k + 1 := cl_of e41
        have c2 : (w + 2).toNatClampNeg = 4 * k + 2 := cl_of e42
        have c3 : (w + 3).toNatClampNeg = 4 * k + 3 := cl_of e43
        have i1 : vp_in (w + 1) 6400 := i_in (by omega) (by omega)
        have i2 : vp_in (w + 2) 6400 := i_in (by omega) (by omega)
        have i3 : vp_in (w + 3) 6400 := i_in (by omega) (by omega)
        have i0 : vp_in w 6400 := i_in (by omega) (by omega)
        rw [c0, c1, c2, c3, ← mB9 (E := D') (j := 4 * k + 1) (by omega), ← mB9 (E := D') (j := 4 * k) (by omega)]
        have K := K kn
        have yes : hitF (mB D') d a.toNatClampNeg b.toNatClampNeg k → ∀ x, x = eV (mB D') k → Wp (g x (nI k + 1) D') (fun x D1 => D1 = D' ∧ x = fct (mB D') d a.toNatClampNeg b.toNatClampNeg) := fun hit x hx => K x D' ⟨rfl, by rw [hx]; exact (if_pos hit).symm⟩
        have no : ¬ hitF (mB D') d a.toNatClampNeg b.toNatClampNeg k → Wp (g y (nI k + 1) D') (fun x D1 => D1 = D' ∧ x = fct (mB D') d a.toNatClampNeg b.toNatClampNeg) := fun hit => K y D' ⟨rfl, by rw [hy]; exact (if_neg hit).symm⟩
        refine Wp.idx i1 (Wp.letQ (fun Q j => ∀ x, (x = 0 → ¬ ((mB D') 9 (4 * k + 1) = a ∧ ((mB D') 9 (4 * k)).toInt ≤ d.toInt)) → (x ≠ 0 → ((mB D') 9 (4 * k + 1) = a ∧ ((mB D') 9 (4 * k)).toInt ≤ d.toInt)) → Wp (j x D') Q) (fun x n y1 => ?_) (fun j K2 => Wp.lets (Wp.ite (fun q => Wp.idx i0 (Wp.ilt (fun q2 => K2 _ (fun _ k2 => by have := k2.2; omega) (fun q3 => absurd rfl q3)) (fun q2 => K2 _ (fun q3 => absurd q3 (by decide)) (fun _ => ⟨q, q2⟩)))) (fun q => K2 _ (fun _ k2 => q k2.1) (fun q3 => absurd rfl q3)))))
        refine Wp.lets (Wp.ite (fun x0 => Wp.lets (no (fun hit => n x0 ⟨by rw [va]; exact hit.1, hit.2.1⟩))) (fun x0 => ?_))
        obtain ⟨q1, q2⟩ := y1 x0
        rw [va] at q1
        rw [← mB9 (E := D') (j := 4 * k + 2) (by omega)]
        refine Wp.idx i2 (Wp.lets (Wp.ite (fun q3 => Wp.idx i3 (Wp.lets (Wp.lets (yes ⟨q1, q2, Or.inl (by rw [← vb]; exact q3)⟩ _ (mB9 (by omega)).symm)))) (fun q3 => Wp.idx i2 (Wp.ite (fun q4 => Wp.ite (fun q5 => Wp.idx i3 (Wp.lets (Wp.lets (yes ⟨q1, q2, Or.inr ⟨q4, ?_⟩⟩ _ (mB9 (by omega)).symm)))) (fun q5 => Wp.lets (no ?_))) (fun q4 => Wp.lets (no ?_))))))
        · exact (bq 0 0 (by decide)).mp q5
        · rintro ⟨-, -, q6⟩
          rcases q6 with q6 | q6
          · exact q3 (by rw [vb]; exact q6)
          · exact q5 ((bq 0 0 (by decide)).mpr q6.2)
        · rintro ⟨-, -, q6⟩
          rcases q6 with q6 | q6
          · exact q3 (by rw [vb]; exact q6)
          · exact q4 q6.1
    · unfold dfF at K
      rw [w31, w32, ← mB10 (E := E) (j := 3 * a.toNatClampNeg + 1) (by omega), ← mB10 (E := E) (j := 3 * a.toNatClampNeg + 2) (by omega)]
      refine Wp.ite (fun q => Wp.idx (i_in (by omega) (by omega)) ?_) (fun n1 => Wp.ite (fun q => Wp.idx (i_in (by omega) (by omega)) ?_) (fun n4 => Wp.ite (fun q => ?_) (fun n5 => Wp.ite (fun q => ?_) (fun n6 => Wp.ite (fun q => ?_) (fun n9 => ?_)))))
      · rw [if_pos ((bq 1 1 (by decide)).mp q)] at K
        exact K
      · rw [if_neg (fun e => n1 ((bq 1 1 (by decide)).mpr e)), if_pos ((bq 4 4 (by decide)).mp q)] at K
        exact K
      · rw [if_neg (fun e => n1 ((bq 1 1 (by decide)).mpr e)), if_neg (fun e => n4 ((bq 4 4 (by decide)).mpr e)), if_pos ((bq 5 5 (by decide)).mp q)] at K
        exact K
      · rw [if_neg (fun e => n1 ((bq 1 1 (by decide)).mpr e)), if_neg (fun e => n4 ((bq 4 4 (by decide)).mpr e)), if_neg (fun e => n5 ((bq 5 5 (by decide)).mpr e)), if_pos ((bq 6 6 (by decide)).mp q)] at K
        exact K
      · rw [if_neg (fun e => n1 ((bq 1 1 (by decide)).mpr e)), if_neg (fun e => n4 ((bq 4 4 (by decide)).mpr e)), if_neg (fun e => n5 ((bq 5 5 (by decide)).mpr e)), if_neg (fun e => n6 ((bq 6 6 (by decide)).mpr e)), if_pos ((bq 9 9 (by decide)).mp q)] at K
        exact K
      · rw [if_neg (fun e => n1 ((bq 1 1 (by decide)).mpr e)), if_neg (fun e => n4 ((bq 4 4 (by decide)).mpr e)), if_neg (fun e => n5 ((bq 5 5 (by decide)).mpr e)), if_neg (fun e => n6 ((bq 6 6 (by decide)).mpr e)), if_neg (fun e => n9 ((bq 9 9 (by decide)).mpr e))] at K
        exact K
  obtain ⟨x, D1, e, rfl, rfl⟩ := H
  exact e
end MBs
end
section
/-! the book's calls, both sides -/
section MCs
variable {E E1 : ADD}
theorem bM_canBe {s f v : Int32} (h : QM E) (hs : 0 ≤ s.toInt ∧ s.toInt < 32) (hg : Gd (fct (mB E) (E.1 6 0) s.toNatClampNeg)) : Wp (fX11_canBe s f v E) (fun x D1 => D1 = E ∧ Bo x (InR f v ∧ Ag (fct (mB E) (E.1 6 0) s.toNatClampNeg) f v)) := by
  unfold fX11_canBe
  refine Wp.tab (fun i K hK hc => ?_) (fun hc => Wp.ret ⟨rfl, Or.inr ⟨rfl, fun k => ?_⟩⟩)
  rotate_left
  · have := k.1.1
    have hc : f.toInt < 0 ∨ 0 + 11 ≤ f.toInt := hc
    omega
  have hi : i < 11 := by
    have := List.getElem?_eq_some_iff.mp hK
    obtain ⟨hlt, -⟩ := this
    exact hlt
  have hf : 0 ≤ f.toInt ∧ f.toInt < 11 := by omega
  have fc : f.toNatClampNeg = i := cl_of (by omega)
  generalize hgg : fct (mB E) (E.1 6 0) s.toNatClampNeg = G at hg ⊢
  have fo : ∀ (g : Int32) (n : Nat), g.toInt = n → n < 11 → fX11_factOn s g (E.1 6 (0 : Int32).toNatClampNeg) E = some (G n, E) := fun g n e hn => by
    rw [cl_0, eM_factOn h hs (by omega), hgg, cl_of e]
  have is01 : ∀ (l u : Int32) (C : Prop), (l.toInt ≤ v.toInt ∧ v.toInt ≤ u.toInt ↔ C) → Wp (aBind (fX11_is v l u E) (fun x D1 => aZ x (some (x, D1)))) (fun x D1 => D1 = E ∧ Bo x C) := fun l u C e => by
    refine Wp.bindE (eM_is _ _ _ _) ?_
    by_cases hc : l.toInt ≤ v.toInt ∧ v.toInt ≤ u.toInt
    · rw [if_pos hc]
      exact Wp.z (Or.inr rfl) (Wp.ret ⟨rfl, Or.inl ⟨rfl, e.mp hc⟩⟩)
    · rw [if_neg hc]
      exact Wp.z (Or.inl rfl) (Wp.ret ⟨rfl, Or.inr ⟨rfl, fun q => hc (e.mpr q)⟩⟩)
  have pl : ∀ (a b : Int), FL i = a → FM i = b → (i ≠ 0 ∧ i ≠ 3 ∧ i ≠ 5 ∧ i ≠ 6) → ∀ l u : Int32, l.toInt = a → u.toInt = b → (l.toInt ≤ v.toInt ∧ v.toInt ≤ u.toInt ↔ (InR f v ∧ Ag G f v)) := fun a b ea eb hn l u el eu => by
    unfold InR Ag
    rw [fc, ea, eb, el, eu, if_neg (by omega), if_neg (by omega), if_neg (by omega), if_neg (by omega)]
    exact ⟨fun q => ⟨⟨hf, q⟩, trivial⟩, fun q => q.1.2⟩
  match i, hK, hc, hi, fc, pl with
  | 0, hK, hc, hi, fc, pl =>
    cases hK
    refine Wp.bindE (eM_is _ _ _ _) (Wp.lets (Wp.lets ?_))
    have L : (1 : Int32).toInt = 1 := by decide
    have U : (30000 : Int32).toInt = 30000 := by decide
    rw [L, U]
    have eq : (InR f v ∧ Ag G f v) ↔ ((1 ≤ v.toInt ∧ v.toInt ≤ 30000) ∧ (G 3).toInt < v.toInt) := by
      unfold InR Ag
      rw [fc, if_pos (by omega)]
      exact ⟨fun q => ⟨q.1.2, q.2⟩, fun q => ⟨⟨hf, q.1⟩, q.2⟩⟩
    by_cases c1 : 1 ≤ v.toInt ∧ v.toInt ≤ 30000
    · rw [if_pos c1]
      refine Wp.neg (by decide) (Wp.idd (by decide) (Wp.bindE (fo 3 3 (by decide) (by decide)) ?_))
      exact Wp.ile (fun q => Wp.z (Or.inl rfl) (Wp.ret ⟨rfl, Or.inr ⟨rfl, fun k => by have := (eq.mp k).2; omega⟩⟩)) (fun q => Wp.z (Or.inr rfl) (Wp.ret ⟨rfl, Or.inl ⟨rfl, eq.mpr ⟨c1, q⟩⟩⟩))
    · rw [if_neg c1]
      exact Wp.pos rfl (Wp.z (Or.inl rfl) (Wp.ret ⟨rfl, Or.inr ⟨rfl, fun k => c1 (eq.mp k).1⟩⟩))
  | 1, hK, hc, hi, fc, pl => cases hK; exact is01 _ _ _ (pl 0 4 rfl rfl (by decide) _ _ (by decide) (by decide))
  | 2, hK, hc, hi, fc, pl => cases hK; exact is01 _ _ _ (pl 0 3 rfl rfl (by decide) _ _ (by decide) (by decide))
  | 3, hK, hc, hi, fc, pl =>
    cases hK
    refine Wp.bindE (eM_is _ _ _ _) (Wp.lets (Wp.lets ?_))
    have L : (0 : Int32).toInt = 0 := by decide
    have U : (2000 : Int32).toInt = 2000 := by decide
    rw [L, U]
    have eq : (InR f v ∧ Ag G f v) ↔ ((0 ≤ v.toInt ∧ v.toInt ≤ 2000) ∧ v.toInt < (G 0).toInt) := by
      unfold InR Ag
      rw [fc, if_neg (by omega), if_pos (by omega)]
      exact ⟨fun q => ⟨q.1.2, q.2⟩, fun q => ⟨⟨hf, q.1⟩, q.2⟩⟩
    by_cases c1 : 0 ≤ v.toInt ∧ v.toInt ≤ 2000
    · rw [if_pos c1]
      refine Wp.neg (by decide) (Wp.idd (by decide) (Wp.bindE (fo 0 0 (by decide) (by decide)) ?_))
      exact Wp.ile (fun q => Wp.z (Or.inl rfl) (Wp.ret ⟨rfl, Or.inr ⟨rfl, fun k => by have := (eq.mp k).2; omega⟩⟩)) (fun q => Wp.z (Or.inr rfl) (Wp.ret ⟨rfl, Or.inl ⟨rfl, eq.mpr ⟨c1, q⟩⟩⟩))
    · rw [if_neg c1]
      exact Wp.pos rfl (Wp.z (Or.inl rfl) (Wp.ret ⟨rfl, Or.inr ⟨rfl, fun k => c1 (eq.mp k).1⟩⟩))
  | 4, hK, hc, hi, fc, pl => cases hK; exact is01 _ _ _ (pl 0 5 rfl rfl (by decide) _ _ (by decide) (by decide))
  | 5, hK, hc, hi, fc, pl =>
    cases hK
    refine Wp.idd (by decide) (Wp.bindE (fo 6 6 (by decide) (by decide)) (is01 _ _ _ ?_))
    have L : (-3000 : Int32).toInt = -3000 := by decide
    have g6 : (G 6).toInt ≤ 1900 := (hg.1 6 (by decide)).2
    unfold InR Ag
    rw [fc, L, if_neg (by omega), if_neg (by omega), if_pos (by omega)]
    exact ⟨fun q => ⟨⟨hf, q.1, by show v.toInt ≤ 1900; omega⟩, q.2⟩, fun q => ⟨q.1.2.1, q.2⟩⟩
  | 6, hK, hc, hi, fc, pl =>
    cases hK
    refine Wp.idd (by decide) (Wp.bindE (fo 5 5 (by decide) (by decide)) (is01 _ _ _ ?_))
    have U : (1900 : Int32).toInt = 1900 := by decide
    have g5 : -3000 ≤ (G 5).toInt := (hg.1 5 (by decide)).1
    unfold InR Ag
    rw [fc, U, if_neg (by omega), if_neg (by omega), if_neg (by omega), if_pos (by omega)]
    exact ⟨fun q => ⟨⟨hf, by show -3000 ≤ v.toInt; omega, q.2⟩, q.1⟩, fun q => ⟨q.2, q.1.2.2⟩⟩
  | 7, hK, hc, hi, fc, pl => cases hK; exact is01 _ _ _ (pl 0 60 rfl rfl (by decide) _ _ (by decide) (by decide))
  | 8, hK, hc, hi, fc, pl => cases hK; exact is01 _ _ _ (pl 0 9 rfl rfl (by decide) _ _ (by decide) (by decide))
  | 9, hK, hc, hi, fc, pl => cases hK; exact is01 _ _ _ (pl 0 1 rfl rfl (by decide) _ _ (by decide) (by decide))
  | 10, hK, hc, hi, fc, pl => cases hK; exact is01 _ _ _ (pl 0 8 rfl rfl (by decide) _ _ (by decide) (by decide))
  | i + 11, hK, hc, hi, fc, pl => omega
theorem FmM.mb (f : FmM E E1) : mB E1 = mB E := by
  show trB (slM E1 0) = trB (slM E 0)
  rw [slM_fm f]
abbrev TlM (E : ADD) (s f v : Int32) : Prop := (0 ≤ s.toInt ∧ s.toInt < (E.1 5 0).toInt) ∧ (E.1 8 0).toInt < 400 ∧ InR f v ∧ Ag (fct (mB E) (E.1 6 0) s.toNatClampNeg) f v
theorem bM_tell {s f v : Int32} (h : QM E) (hg : ∀ i, i < nS (mB E) → Gd (fct (mB E) (E.1 6 0) i)) : Wp (fX11_tell s f v E) (fun r E1 => if TlM E s f v then r = 1 ∧ WrS (mB E) (mB E1) s f v ∧ NwM E E1 ∧ (∀ c, c ≠ 0 → c ≠ 8 → c ≠ 9 → E1.1 c = E.1 c) else r = 0 ∧ FmM E E1) := by
  unfold fX11_tell
  have f1 : FmM E (aSI E 0 0 0) := FmM.code
  have fo : ∀ c, c ≠ 0 → (aSI E 0 0 0).1 c = E.1 c := fun c hc => si_o hc
  have q := h.fr f1
  refine Wp.lets (Wp.idd (by decide) ?_)
  generalize aSI E 0 0 0 = D1 at f1 q fo ⊢
  have q0 := h.1
  have q8 := h.2.1
  have e1 : (E.1 5 0 - 1).toInt = (E.1 5 0).toInt - 1 := ti_sub rfl ti_1 (by omega) (by omega)
  rw [cl_0]
  refine Wp.bindE (eM_is _ _ _ _) (Wp.lets ?_)
  rw [fo 5 (by decide), ti_0, e1]
  by_cases hc : 0 ≤ s.toInt ∧ s.toInt ≤ (E.1 5 0).toInt - 1
  · rw [if_pos hc]
    have es := cl_i hc.1
    have en := cl_i q0.1
    refine Wp.neg (by decide) (Wp.idd (by decide) ?_)
    rw [fo 8 (by decide)]
    refine Wp.ite (fun k => Wp.ret ?_) (fun k => ?_)
    · rw [if_neg (fun z => by have := z.2.1; rw [k] at this; exact absurd this (by decide))]
      exact ⟨rfl, f1⟩
    · have n4 : (E.1 8 0).toInt ≠ 400 := fun e => k (Int32.toInt_inj.mp (by rw [e]; rfl))
      have gi := hg s.toNatClampNeg (by rw [mBs]; omega)
      refine Wp.bind (bM_canBe q ⟨hc.1, by omega⟩ (by rw [f1.mb, fo 6 (by decide)]; exact gi)) (fun y D4 q4 => ?_)
      obtain ⟨rfl, q4⟩ := q4
      rw [f1.mb, fo 6 (by decide)] at q4
      refine Wp.ite (fun hy => Wp.ret ?_) (fun hy => Wp.bind (tM_enter (by rw [fo 8 (by decide)]; omega)) (fun _ D5 w => Wp.ret ?_))
      · rw [if_neg]
        · exact ⟨rfl, f1⟩
        · intro z
          rcases q4 with ⟨a, -⟩ | ⟨-, a⟩
          · rw [a] at hy
            exact absurd hy (by decide)
          · exact a z.2.2
      · rcases q4 with ⟨-, a⟩ | ⟨a, -⟩
        · rw [if_pos ⟨⟨hc.1, by omega⟩, by omega, a⟩]
          obtain ⟨w1, w2⟩ := w.sl (by rw [fo 8 (by decide)]; omega)
          rw [f1.mb] at w1
          exact ⟨rfl, w1, (NwM.fm f1).trans w2, fun c a b d => by rw [w.1 c b d, fo c a]⟩
        · exact absurd a hy
  · rw [if_neg hc]
    refine Wp.pos rfl (Wp.ret ?_)
    rw [if_neg (fun z => hc ⟨z.1.1, by have := z.1.2; omega⟩)]
    exact ⟨rfl, f1⟩
theorem bM_fact {a b : Int32} (h : QM E) : Wp (fX11_fact a b E) (fun r _ => r = if stM E a ∧ 0 ≤ b.toInt ∧ b.toInt ≤ 10 then fct (mB E) (dvF (mB E)) a.toNatClampNeg b.toNatClampNeg else -100000) := by
  unfold fX11_fact
  have f1 : FmM E (aSI E 0 0 0) := FmM.code
  have q := h.fr f1
  have h5 := h.1
  have eS : ∀ a, stM (aSI E 0 0 0) a ↔ stM E a := fun a => by
    unfold stM
    rw [f1.mb, f1 5 (by omega)]
  refine Wp.lets (Wp.bindE (eM_isStone q) (Wp.lets (Wp.lets ?_)))
  have L10 : (10 : Int32).toInt = 10 := by decide
  by_cases hs : stM E a
  · rw [if_pos ((eS a).mpr hs)]
    refine Wp.neg (by decide) (Wp.bindE (eM_is _ _ _ _) ?_)
    rw [ti_0, L10]
    by_cases hb : 0 ≤ b.toInt ∧ b.toInt ≤ 10
    · rw [if_pos hb]
      refine Wp.neg (by decide) (Wp.bindE eM_day (Wp.bindE (eM_factOn q ⟨hs.1.1, by have := hs.1.2; omega⟩ ⟨hb.1, by omega⟩) (Wp.ret ?_)))
      rw [f1.mb, if_pos ⟨hs, hb⟩]
    · rw [if_neg hb]
      exact Wp.pos rfl (Wp.ret (if_neg (fun k => hb k.2)).symm)
  · rw [if_neg (fun k => hs ((eS a).mp k))]
    exact Wp.pos rfl (Wp.ret (if_neg (fun k => hs k.1)).symm)
theorem bM_entry {a b : Int32} (h : QM E) : Wp (fX11_entry a b E) (fun r _ => r = if (0 ≤ a.toInt ∧ a.toInt < (E.1 8 0).toInt) ∧ 0 ≤ b.toInt ∧ b.toInt ≤ 3 then mB E 9 (4 * a.toNatClampNeg + b.toNatClampNeg) else -100000) := by
  unfold fX11_entry
  have f1 : FmM E (aSI E 0 0 0) := FmM.code
  have h8 := h.2.1
  have e1 : (E.1 8 0 - 1).toInt = (E.1 8 0).toInt - 1 := ti_sub rfl ti_1 (by omega) (by omega)
  have L3 : (3 : Int32).toInt = 3 := by decide
  refine Wp.lets (Wp.idd (by decide) (Wp.bindE (eM_is _ _ _ _) (Wp.lets (Wp.lets ?_))))
  rw [cl_0, f1 8 (by omega), ti_0, e1]
  by_cases hc : 0 ≤ a.toInt ∧ a.toInt ≤ (E.1 8 0).toInt - 1
  · rw [if_pos hc]
    refine Wp.neg (by decide) (Wp.bindE (eM_is _ _ _ _) ?_)
    rw [ti_0, L3]
    by_cases hb : 0 ≤ b.toInt ∧ b.toInt ≤ 3
    · rw [if_pos hb]
      have ea := cl_i hc.1
      have eb := cl_i hb.1
      have e4 : ((4 : Int32) * a).toInt = 4 * a.toInt := ti_mul (by decide) rfl (by omega) (by omega)
      have e5 : ((4 : Int32) * a + b).toInt = 4 * a.toInt + b.toInt := ti_add e4 rfl (by omega) (by omega)
      refine Wp.neg (by decide) (Wp.idx (i_in (by omega) (by omega)) (Wp.ret ?_))
      rw [if_pos ⟨⟨hc.1, by omega⟩, hb⟩, f1 9 (by omega), mB9 (by omega), cl_of (x := (4 : Int32) * a + b) (n := 4 * a.toNatClampNeg + b.toNatClampNeg) (by omega)]
    · rw [if_neg hb]
      exact Wp.pos rfl (Wp.ret (if_neg (fun k => hb k.2)).symm)
  · rw [if_neg hc]
    exact Wp.pos rfl (Wp.ret (if_neg (fun k => hc ⟨k.1.1, by have := k.1.2; omega⟩)).symm)
theorem bM_day {a : Int32} : Wp (fX11_day a E) (fun _ E1 => (∀ c, c ≠ 0 → c ≠ 6 → E1.1 c = E.1 c) ∧ ∀ i, E1.1 6 i = if i = 0 ∧ (E.1 6 0).toInt ≤ a.toInt ∧ a.toInt ≤ 9999 then a else E.1 6 i) := by
  unfold fX11_day
  have fo : ∀ c, c ≠ 0 → (aSI E 0 0 0).1 c = E.1 c := fun c hc => si_o hc
  have e9 : (9999 : Int32).toInt = 9999 := by decide
  refine Wp.lets (Wp.idd (by decide) (Wp.bindE (eM_is _ _ _ _) ?_))
  generalize aSI E 0 0 0 = D1 at fo ⊢
  rw [cl_0, fo 6 (by decide), e9]
  by_cases hc : (E.1 6 0).toInt ≤ a.toInt ∧ a.toInt ≤ 9999
  · rw [if_pos hc]
    refine Wp.neg (by decide) (Wp.idd (by decide) (Wp.lets (Wp.ret ⟨fun c a b => by rw [si_o b, fo c a], fun i => ?_⟩)))
    rw [si_s, fo 6 (by decide)]
    by_cases hi : i = 0
    · rw [if_pos hi, if_pos ⟨hi, hc⟩]
    · rw [if_neg hi, if_neg (fun q => hi q.1)]
  · rw [if_neg hc]
    refine Wp.pos rfl (Wp.ret ⟨fun c a _ => fo c a, fun i => ?_⟩)
    rw [if_neg (fun q => hc q.2), fo 6 (by decide)]
theorem bM_view {a : Int32} : Wp (fX11_view a E) (fun _ E1 => (∀ c, c ≠ 0 → c ≠ 7 → E1.1 c = E.1 c) ∧ ∀ i, E1.1 7 i = if i = 0 ∧ -1 ≤ a.toInt ∧ a.toInt ≤ (E.1 6 0).toInt then a else E.1 7 i) := by
  unfold fX11_view
  have fo : ∀ c, c ≠ 0 → (aSI E 0 0 0).1 c = E.1 c := fun c hc => si_o hc
  refine Wp.lets (Wp.idd (by decide) (Wp.bindE (eM_is _ _ _ _) ?_))
  generalize aSI E 0 0 0 = D1 at fo ⊢
  rw [cl_0, fo 6 (by decide), ti_m1]
  by_cases hc : -1 ≤ a.toInt ∧ a.toInt ≤ (E.1 6 0).toInt
  · rw [if_pos hc]
    refine Wp.neg (by decide) (Wp.idd (by decide) (Wp.lets (Wp.ret ⟨fun c a b => by rw [si_o b, fo c a], fun i => ?_⟩)))
    rw [si_s, fo 7 (by decide)]
    by_cases hi : i = 0
    · rw [if_pos hi, if_pos ⟨hi, hc⟩]
    · rw [if_neg hi, if_neg (fun q => hi q.1)]
  · rw [if_neg hc]
    refine Wp.pos rfl (Wp.ret ⟨fun c a _ => fo c a, fun i => ?_⟩)
    rw [if_neg (fun q => hc q.2), fo 7 (by decide)]
end MCs
end
section
/-! the class's book keeps step with the reference's -/
section B2s
variable {D D1 : ADD} {M M1 : Sl}
theorem dv_td (h : BW M) : (M 7 0 = -1 ∨ (M 6 0).toInt ≤ (M 7 0).toInt) ↔ (M 6 0).toInt ≤ (dvF M).toInt := by
  unfold dvF
  by_cases e : M 7 0 = -1
  · rw [if_pos e]
    exact ⟨fun _ => Int.le_refl _, fun _ => Or.inl e⟩
  · rw [if_neg e]
    exact ⟨fun q => q.resolve_left e, fun q => Or.inr q⟩
theorem dv_le (h : BW M) : (dvF M).toInt ≤ (M 6 0).toInt := by
  unfold dvF
  split
  · exact Int.le_refl _
  · rename_i e
    exact (h.1.2.2.2.resolve_left e).2
theorem RBk.tell {s f v : Int32} (h : RBk (xc D) M) (w : WrX D D1 s f v) (u : WrS M M1 s f v) (bw : BW M1) (he : (M 8 0).toInt < 400) (hs : 0 ≤ s.toInt ∧ s.toInt < (M 5 0).toInt) (hf : 0 ≤ f.toInt ∧ f.toInt < 11) : RBk (xc D1) M1 := by
  obtain ⟨⟨a1, a2, a3, a4⟩, b, c, w0, s0, t0, u0, v0⟩ := h
  have a1 : D.1 2 8 = M 5 0 := a1
  have a2 : D.1 2 10 = M 8 0 := a2
  have a3 : D.1 2 11 = M 6 0 := a3
  have a4 : D.1 2 12 = M 7 0 := a4
  have b : ∀ k, k < 400 → D.1 7 k = eD M k ∧ D.1 8 k = eS M k ∧ D.1 9 k = eF M k ∧ D.1 10 k = eV M k := b
  have s0 : 0 ≤ (D.1 2 9).toInt ∧ (D.1 2 9).toInt ≤ (M 5 0).toInt := s0
  have t0 : ∀ s : Nat, s < nS M → ((s : Int) < (D.1 2 9).toInt ↔ (lD M s).toInt ≤ (dvF M).toInt) := t0
  have u0 : ∀ s f : Nat, s < nS M → f < 11 → D.1 3 (11 * s + f) = fct M (M 6 0) s f := u0
  have v0 : ∀ s f : Nat, (s : Int) < (D.1 2 9).toInt → f < 11 → D.1 4 (11 * s + f) = fct M (dvF M) s f := v0
  obtain ⟨w1, w2, w3, w4, w5, w6, w7, w8, w9, w10, w11⟩ := w
  have m8 : 0 ≤ (M 8 0).toInt ∧ (M 8 0).toInt < 400 := ⟨w0.1.1.1, he⟩
  have fn : f ≠ -1 := fun e => by
    have := hf.1
    rw [e, ti_m1] at this
    omega
  have c5 : M1 5 = M 5 := u.1 5 (by decide) (by decide)
  have c6 : M1 6 = M 6 := u.1 6 (by decide) (by decide)
  have c7 : M1 7 = M 7 := u.1 7 (by decide) (by decide)
  have c10 : M1 10 = M 10 := u.1 10 (by decide) (by decide)
  have dv : dvF M1 = dvF M := by unfold dvF; rw [c6, c7]
  have ns : nS M1 = nS M := by show (M1 5 0).toNatClampNeg = _; rw [c5]
  have e9 : D1.1 2 9 = D.1 2 9 := by rw [w5, if_neg (fun q => fn q.2)]
  have sn : seenX D ↔ (M 6 0).toInt ≤ (dvF M).toInt := by
    unfold seenX
    rw [a3, a4]
    exact dv_td w0
  have es := cl_i hs.1
  have ef := cl_i hf.1
  have e5 : ((nS M : Nat) : Int) = (M 5 0).toInt := cl_i w0.1.2.1.1
  have vs : s = nI s.toNatClampNeg := nI_val hs.1
  have vf : f = nI f.toNatClampNeg := nI_val hf.1
  have h32 := w0.1.2.1.2
  -- one place
  have pl : ∀ i j : Nat, i < 1000 → j < 11 → (11 * i + j = 11 * s.toNatClampNeg + f.toNatClampNeg ↔ s = nI i ∧ (f = nI j ∨ (f = -1 ∧ j = 0))) := fun i j hi hj => by
    constructor
    · intro q
      have q1 : i = s.toNatClampNeg := by omega
      have q2 : j = f.toNatClampNeg := by omega
      rw [q1, q2]
      exact ⟨vs, Or.inl vf⟩
    · rintro ⟨q1, q2⟩
      have q2 := q2.resolve_right (fun q => fn q.1)
      rw [q1, nI_clamp (by omega), q2, nI_clamp (by omega)]
  refine ⟨⟨?_, ?_, ?_, ?_⟩, fun k hk => ?_, fun i hi => ?_, bw, ?_, fun i hi => ?_, fun i j hi hj => ?_, fun i j hi hj => ?_⟩
  · show D1.1 2 8 = _
    rw [w3 8 (by decide) (by decide), c5]
    exact a1
  · show D1.1 2 10 = _
    rw [w4, u.2.1, a2]
  · show D1.1 2 11 = _
    rw [w3 11 (by decide) (by decide), c6]
    exact a3
  · show D1.1 2 12 = _
    rw [w3 12 (by decide) (by decide), c7]
    exact a4
  · show D1.1 7 k = _ ∧ D1.1 8 k = _ ∧ D1.1 9 k = _ ∧ D1.1 10 k = _
    rw [w6, w7, w8, w9, a2, a3]
    by_cases e : k = nE M
    · obtain ⟨q1, q2, q3, q4⟩ := u.new
      rw [if_pos e, if_pos e, if_pos e, if_pos e, e, q1, q2, q3, q4]
      exact ⟨rfl, rfl, rfl, rfl⟩
    · obtain ⟨q1, q2, q3, q4⟩ := u.old e
      rw [if_neg e, if_neg e, if_neg e, if_neg e, q1, q2, q3, q4]
      exact b k hk
  · show D1.1 5 i = _ ∧ D1.1 6 i = _
    rw [w1 5 (by decide) (by decide) (by decide) (by decide) (by decide) (by decide) (by decide), w1 6 (by decide) (by decide) (by decide) (by decide) (by decide) (by decide) (by decide), c10]
    exact c i hi
  · show 0 ≤ (D1.1 2 9).toInt ∧ (D1.1 2 9).toInt ≤ (M1 5 0).toInt
    rw [e9, c5]
    exact s0
  · show (i : Int) < (D1.1 2 9).toInt ↔ (M1 10 (3 * i)).toInt ≤ _
    rw [e9, dv, c10]
    exact t0 i (by rw [← ns]; exact hi)
  · rw [ns] at hi
    show D1.1 3 (11 * i + j) = _
    rw [w10, apF_1 hf, u.fcN m8, c6]
    by_cases e : 11 * i + j = 11 * s.toNatClampNeg + f.toNatClampNeg
    · obtain ⟨q1, q2⟩ := (pl i j (by omega) hj).mp e
      rw [if_pos e, if_pos ⟨q1, Int.le_refl _, q2⟩]
    · rw [if_neg e, if_neg (fun q => e ((pl i j (by omega) hj).mpr ⟨q.1, q.2.2⟩))]
      exact u0 i j hi hj
  · have hi : (i : Int) < (D1.1 2 9).toInt := hi
    rw [e9] at hi
    show D1.1 4 (11 * i + j) = _
    rw [w11, dv, u.fcN m8]
    by_cases hsn : seenX D
    · rw [if_pos hsn, apF_1 hf]
      by_cases e : 11 * i + j = 11 * s.toNatClampNeg + f.toNatClampNeg
      · obtain ⟨q1, q2⟩ := (pl i j (by omega) hj).mp e
        rw [if_pos e, if_pos ⟨q1, sn.mp hsn, q2⟩]
      · rw [if_neg e, if_neg (fun q => e ((pl i j (by omega) hj).mpr ⟨q.1, q.2.2⟩))]
        exact v0 i j hi hj
    · rw [if_neg hsn, if_neg (fun q => hsn (sn.mpr q.2.1))]
      exact v0 i j hi hj
theorem RBk.stone {w st tw : Int32} (h : RBk (xc D) M) (l : LsX D D1 w st tw) (u : LsS M M1 w st tw) (bw : BW M1) (he : (M 8 0).toInt < 400) (hs : (M 5 0).toInt < 32) : RBk (xc D1) M1 := by
  obtain ⟨⟨a1, a2, a3, a4⟩, b, c, w0, s0, t0, u0, v0⟩ := h
  have a1 : D.1 2 8 = M 5 0 := a1
  have a2 : D.1 2 10 = M 8 0 := a2
  have a3 : D.1 2 11 = M 6 0 := a3
  have a4 : D.1 2 12 = M 7 0 := a4
  have b : ∀ k, k < 400 → D.1 7 k = eD M k ∧ D.1 8 k = eS M k ∧ D.1 9 k = eF M k ∧ D.1 10 k = eV M k := b
  have c : ∀ s, s < 32 → D.1 5 s = M 10 (3 * s + 1) ∧ D.1 6 s = M 10 (3 * s + 2) := c
  have s0 : 0 ≤ (D.1 2 9).toInt ∧ (D.1 2 9).toInt ≤ (M 5 0).toInt := s0
  have t0 : ∀ s : Nat, s < nS M → ((s : Int) < (D.1 2 9).toInt ↔ (lD M s).toInt ≤ (dvF M).toInt) := t0
  have u0 : ∀ s f : Nat, s < nS M → f < 11 → D.1 3 (11 * s + f) = fct M (M 6 0) s f := u0
  have v0 : ∀ s f : Nat, (s : Int) < (D.1 2 9).toInt → f < 11 → D.1 4 (11 * s + f) = fct M (dvF M) s f := v0
  obtain ⟨D7, k1, k2, k3, k4, k5, w1, w2, w3, w4, w5, w6, w7, w8, w9, w10, w11⟩ := l
  obtain ⟨p1, ⟨p2, p3, nv⟩, ⟨p4, p5, p6⟩, p7, p8, ⟨p9, p10, p11, p12⟩, p13, p14⟩ := u.all w0 he hs
  have d2 : ∀ i, i ≠ 8 → D7.1 2 i = D.1 2 i := fun i hi => by rw [k3 i, if_neg hi]
  have c6 : M1 6 = M 6 := p1 6 (by decide) (by decide) (by decide) (by decide)
  have c7 : M1 7 = M 7 := p1 7 (by decide) (by decide) (by decide) (by decide)
  have dv : dvF M1 = dvF M := by unfold dvF; rw [c6, c7]
  have h5 := w0.1.2.1
  have en : ((nS M : Nat) : Int) = (M 5 0).toInt := cl_i h5.1
  have e58 : (D.1 2 8).toNatClampNeg = nS M := by rw [a1]
  have sn : seenX D7 ↔ (M 6 0).toInt ≤ (dvF M).toInt := by
    unfold seenX
    rw [d2 12 (by decide), d2 11 (by decide), a3, a4]
    exact dv_td w0
  have s51 : (D.1 2 8 + 1).toInt = (M 5 0).toInt + 1 := by rw [a1]; exact ti_add rfl ti_1 (by omega) (by omega)
  have e9 : D1.1 2 9 = if (M 6 0).toInt ≤ (dvF M).toInt then D.1 2 8 + 1 else D.1 2 9 := by
    rw [w5, d2 9 (by decide)]
    by_cases q : seenX D7
    · rw [if_pos ⟨q, rfl⟩, if_pos (sn.mp q)]
    · rw [if_neg (fun z => q z.1), if_neg (fun z => q (sn.mpr z))]
  have st5 : D7.1 5 (D.1 2 8).toNatClampNeg = st := by rw [k4, if_pos rfl]
  have tw6 : D7.1 6 (D.1 2 8).toNatClampNeg = tw := by rw [k5, if_pos rfl]
  have lo : ∀ i, i < nS M → lD M1 i = lD M i := fun i hi => by
    show M1 10 _ = M 10 _
    rw [p7, if_neg (by omega), if_neg (by omega), if_neg (by omega)]
  have ln : lD M1 (nS M) = M 6 0 := by
    show M1 10 _ = _
    rw [p7, if_pos rfl]
  have w0' := w0
  obtain ⟨-, -, -, h7, -⟩ := w0'
  have dle := dv_le w0
  refine ⟨⟨?_, ?_, ?_, ?_⟩, fun k hk => ?_, fun i hi => ?_, bw, ?_, fun i hi => ?_, fun i j hi hj => ?_, fun i j hi hj => ?_⟩
  · show D1.1 2 8 = _
    refine ti_eq ?_
    rw [w3 8 (by decide) (by decide), k3 8, if_pos rfl, p3]
    exact s51
  · show D1.1 2 10 = _
    rw [w4, d2 10 (by decide), p5, a2]
  · show D1.1 2 11 = _
    rw [w3 11 (by decide) (by decide), d2 11 (by decide), c6]
    exact a3
  · show D1.1 2 12 = _
    rw [w3 12 (by decide) (by decide), d2 12 (by decide), c7]
    exact a4
  · show D1.1 7 k = _ ∧ D1.1 8 k = _ ∧ D1.1 9 k = _ ∧ D1.1 10 k = _
    rw [w6, w7, w8, w9, d2 10 (by decide), d2 11 (by decide), a2, a3]
    by_cases e : k = nE M
    · rw [if_pos e, if_pos e, if_pos e, if_pos e, e, p9, p10, p11, p12]
      exact ⟨rfl, a1, rfl, rfl⟩
    · obtain ⟨q1, q2, q3, q4⟩ := p8 k e
      rw [if_neg e, if_neg e, if_neg e, if_neg e, q1, q2, q3, q4, k1 7 (by decide) (by decide) (by decide), k1 8 (by decide) (by decide) (by decide), k1 9 (by decide) (by decide) (by decide), k1 10 (by decide) (by decide) (by decide)]
      exact b k hk
  · show D1.1 5 i = _ ∧ D1.1 6 i = _
    rw [w1 5 (by decide) (by decide) (by decide) (by decide) (by decide) (by decide) (by decide), w1 6 (by decide) (by decide) (by decide) (by decide) (by decide) (by decide) (by decide), k4, k5, e58, p7, p7]
    by_cases e : i = nS M
    · rw [if_pos e, if_pos e, if_neg (by omega), if_pos (by omega), if_neg (by omega), if_neg (by omega), if_pos (by omega)]
      exact ⟨rfl, rfl⟩
    · rw [if_neg e, if_neg e, if_neg (by omega), if_neg (by omega), if_neg (by omega), if_neg (by omega), if_neg (by omega), if_neg (by omega)]
      exact c i hi
  · show 0 ≤ (D1.1 2 9).toInt ∧ (D1.1 2 9).toInt ≤ (M1 5 0).toInt
    rw [e9]
    split <;> omega
  · show (i : Int) < (D1.1 2 9).toInt ↔ _
    rw [e9, dv]
    by_cases e : i = nS M
    · rw [e, ln]
      by_cases q : (M 6 0).toInt ≤ (dvF M).toInt
      · rw [if_pos q, s51]
        exact ⟨fun _ => q, fun _ => by omega⟩
      · rw [if_neg q]
        exact ⟨fun z => by omega, fun z => absurd z q⟩
    · have hi2 : i < nS M := by omega
      rw [lo i hi2]
      by_cases q : (M 6 0).toInt ≤ (dvF M).toInt
      · rw [if_pos q, s51]
        have := h7 i hi2
        exact ⟨fun _ => by omega, fun _ => by omega⟩
      · rw [if_neg q]
        exact t0 i hi2
  · show D1.1 3 (11 * i + j) = _
    rw [w10, apF_2 (Or.inl (by decide)), st5, tw6, e58, c6, k1 3 (by decide) (by decide) (by decide)]
    by_cases e : i = nS M
    · rw [if_pos (by omega), e, p14 _ j (Int.le_refl _) hj]
      congr 1
      omega
    · rw [if_neg (by omega), p13 _ i j (by omega)]
      exact u0 i j (by omega) hj
  · have hi : (i : Int) < (D1.1 2 9).toInt := hi
    rw [e9] at hi
    show D1.1 4 (11 * i + j) = _
    rw [w11, dv, k1 4 (by decide) (by decide) (by decide)]
    by_cases q : seenX D7
    · have q2 := sn.mp q
      rw [if_pos q2, s51] at hi
      rw [if_pos q, apF_2 (Or.inl (by decide)), st5, tw6, e58]
      by_cases e : i = nS M
      · rw [if_pos (by omega), e, p14 _ j q2 hj]
        congr 1
        omega
      · have hi2 : i < nS M := by omega
        rw [if_neg (by omega), p13 _ i j hi2]
        refine v0 i j ((t0 i hi2).mpr ?_) hj
        have := h7 i hi2
        omega
    · have q2 : ¬ (M 6 0).toInt ≤ (dvF M).toInt := fun z => q (sn.mpr z)
      rw [if_neg q2] at hi
      have hi2 : i < nS M := by omega
      rw [if_neg q, p13 _ i j hi2]
      exact v0 i j hi hj
end B2s
end
section
/-! another day, another view; the book's calls of both sides -/
section B3s
variable {D D1 : ADD} {M M1 : Sl}
theorem RBk.day {a : Int32} (h : RBk (xc D) M) (hD : ∀ c, c ≠ 2 → D1.1 c = D.1 c) (h2 : ∀ i, D1.1 2 i = if i = 11 then a else D.1 2 i) (e : ∀ c, c ≠ 6 → M1 c = M c) (e6 : M1 6 0 = a) (le : (M 6 0).toInt ≤ a.toInt) (l9 : a.toInt ≤ 9999) : RBk (xc D1) M1 := by
  obtain ⟨⟨a1, a2, a3, a4⟩, b, c, w0, s0, t0, u0, v0⟩ := h
  obtain ⟨bw, fc⟩ := w0.day e (by rw [e6]; exact le) (by rw [e6]; exact l9)
  have ei : ∀ i, i ≠ 11 → D1.1 2 i = D.1 2 i := fun i hi => by rw [h2, if_neg hi]
  have e5 : M1 5 = M 5 := e 5 (by decide)
  have e7 : M1 7 = M 7 := e 7 (by decide)
  have e8 : M1 8 = M 8 := e 8 (by decide)
  have e9 : M1 9 = M 9 := e 9 (by decide)
  have e10 : M1 10 = M 10 := e 10 (by decide)
  have ns : nS M1 = nS M := by show (M1 5 0).toNatClampNeg = _; rw [e5]
  have h7 := w0.2.2.2.1
  refine ⟨⟨?_, ?_, ?_, ?_⟩, fun k hk => ?_, fun i hi => ?_, bw, ?_, fun i hi => ?_, fun i j hi hj => ?_, fun i j hi hj => ?_⟩
  · show D1.1 2 8 = _
    rw [ei 8 (by decide), e5]
    exact a1
  · show D1.1 2 10 = _
    rw [ei 10 (by decide), e8]
    exact a2
  · show D1.1 2 11 = _
    rw [h2, if_pos rfl, e6]
  · show D1.1 2 12 = _
    rw [ei 12 (by decide), e7]
    exact a4
  · show D1.1 7 k = M1 9 _ ∧ D1.1 8 k = M1 9 _ ∧ D1.1 9 k = M1 9 _ ∧ D1.1 10 k = M1 9 _
    rw [hD 7 (by decide), hD 8 (by decide), hD 9 (by decide), hD 10 (by decide), e9]
    exact b k hk
  · show D1.1 5 i = _ ∧ D1.1 6 i = _
    rw [hD 5 (by decide), hD 6 (by decide), e10]
    exact c i hi
  · show 0 ≤ (D1.1 2 9).toInt ∧ (D1.1 2 9).toInt ≤ _
    rw [ei 9 (by decide), e5]
    exact s0
  · rw [ns] at hi
    show (i : Int) < (D1.1 2 9).toInt ↔ (M1 10 _).toInt ≤ _
    rw [ei 9 (by decide), e10]
    refine (t0 i hi).trans ?_
    unfold dvF
    rw [e7, e6]
    by_cases q : M 7 0 = -1
    · rw [if_pos q, if_pos q]
      have := h7 i hi
      exact ⟨fun _ => by show (lD M i).toInt ≤ _; omega, fun _ => this⟩
    · rw [if_neg q, if_neg q]
  · rw [ns] at hi
    show D1.1 3 _ = _
    rw [hD 3 (by decide), fc, e6]
    refine (u0 i j hi hj).trans ?_
    exact w0.late le (Int.le_refl _)
  · have hi : (i : Int) < (D1.1 2 9).toInt := hi
    rw [ei 9 (by decide)] at hi
    show D1.1 4 _ = _
    rw [hD 4 (by decide), fc]
    refine (v0 i j hi hj).trans ?_
    unfold dvF
    rw [e7, e6]
    by_cases q : M 7 0 = -1
    · rw [if_pos q, if_pos q]
      exact w0.late le (Int.le_refl _)
    · rw [if_neg q, if_neg q]
theorem rp_all {vw d : Int32} (hb : ∀ k, k < nE M → D.1 7 k = eD M k ∧ D.1 8 k = eS M k ∧ D.1 9 k = eF M k ∧ D.1 10 k = eV M k) (hc : ∀ s, s < 32 → D.1 5 s = M 10 (3 * s + 1) ∧ D.1 6 s = M 10 (3 * s + 2)) (w : BW M) (hv : ∀ k, k < nE M → ((vw = -1 ∨ (D.1 7 k).toInt ≤ vw.toInt) ↔ (eD M k).toInt ≤ d.toInt)) : ∀ n, n ≤ nE M →
    (0 ≤ (rpS D vw n).2.toInt ∧ (rpS D vw n).2.toInt ≤ cnL M n) ∧ ((∀ k, k < n → (eD M k).toInt ≤ d.toInt) → (rpS D vw n).2.toInt = cnL M n) ∧ (∀ s f : Nat, (s : Int) < (rpS D vw n).2.toInt → f < 11 → (rpS D vw n).1 (11 * s + f) = fcF M d s f (dfF M s f) n) ∧ ∀ s : Nat, s < cnL M n → ((s : Int) < (rpS D vw n).2.toInt ↔ (lD M s).toInt ≤ d.toInt)
  | 0, _ => by
    refine ⟨by show 0 ≤ (0 : Int32).toInt ∧ (0 : Int32).toInt ≤ ((0 : Nat) : Int); decide, fun _ => by show (0 : Int32).toInt = ((0 : Nat) : Int); decide, fun s f hs _ => ?_, fun s hs => absurd hs (by show ¬ s < 0; omega)⟩
    have hs : (s : Int) < (0 : Int32).toInt := hs
    rw [ti_0] at hs
    omega
  | n + 1, hn => by
    obtain ⟨i1, i2, i3, i4⟩ := rp_all hb hc w hv n (by omega)
    obtain ⟨b1, b2, b3, b4⟩ := hb n (by omega)
    obtain ⟨o1, o2, o3⟩ := w.2.1 n (by omega)
    have cm : cnL M (n + 1) ≤ nS M := by rw [← w.2.2.1]; exact cnL_mono hn
    have c0 : cnL M n ≤ cnL M (n + 1) := cnL_mono (by omega)
    have h32 := w.1.2.1
    have e5 : ((nS M : Nat) : Int) = (M 5 0).toInt := cl_i h32.1
    have nS32 : nS M ≤ 32 := by omega
    have cs : cnL M (n + 1) = if eF M n = -1 then cnL M n + 1 else cnL M n := rfl
    have fs : ∀ s f z, fcF M d s f z (n + 1) = if hitF M d s f n then eV M n else fcF M d s f z n := fun s f z => rfl
    have rs : rpS D vw (n + 1) = if vw = -1 ∨ (D.1 7 n).toInt ≤ vw.toInt then (apF (rpS D vw n).1 (D.1 8 n).toNatClampNeg (D.1 9 n) (D.1 10 n) (D.1 5 (D.1 8 n).toNatClampNeg) (D.1 6 (D.1 8 n).toNatClampNeg), if D.1 9 n = -1 then D.1 8 n + 1 else (rpS D vw n).2) else rpS D vw n := rfl
    by_cases hd : (eD M n).toInt ≤ d.toInt
    · have cnt := i2 (fun k hk => by have := o3 k hk; omega)
      rw [if_pos ((hv n (by omega)).mpr hd), b2, b3, b4] at rs
      rcases o1 with ⟨q1, q2, q3⟩ | ⟨q1, q2, q3⟩
      · -- a listing
        rw [if_pos q1] at cs
        have es : (eS M n).toNatClampNeg = cnL M n := by rw [q2]; exact nI_clamp (by omega)
        have e2 : (eS M n + 1).toInt = cnL M n + 1 := by rw [q2]; exact ti_add (nI_toInt (by omega)) ti_1 (by omega) (by omega)
        rw [if_pos q1, es, q1] at rs
        obtain ⟨st, tw⟩ := hc (cnL M n) (by omega)
        rw [rs]
        refine ⟨?_, fun _ => ?_, fun s f hs hf => ?_, fun s hs => ?_⟩
        · show 0 ≤ (eS M n + 1).toInt ∧ (eS M n + 1).toInt ≤ _
          omega
        · show (eS M n + 1).toInt = _
          omega
        · have hs : (s : Int) < (eS M n + 1).toInt := hs
          show apF (rpS D vw n).1 (cnL M n) (-1) (eV M n) _ _ (11 * s + f) = _
          rw [apF_2 (Or.inl (by decide)), st, tw, fs]
          by_cases e : s = cnL M n
          · have nf : ¬ (-1 : Int32) = nI f := fun e => by
              have : (-1 : Int32).toInt = (nI f).toInt := by rw [e]
              rw [ti_m1, nI_toInt (by omega)] at this
              omega
            rw [if_pos (by omega), show 11 * s + f - 11 * cnL M n = f by omega, fcF_new (by omega) (fun k hk => (w.2.1 k (by omega)).1) (by omega)]
            unfold lsF dfF
            by_cases f0 : f = 0
            · rw [if_pos f0, if_pos ⟨by rw [q2, e], hd, Or.inr ⟨q1, f0⟩⟩]
            · have hn : ¬ hitF M d s f n := fun q => q.2.2.elim (fun q => nf (by rw [← q1]; exact q)) (fun q => f0 q.2)
              rw [if_neg f0, if_neg hn, e]
          · rw [if_neg (by omega), if_neg, i3 s f (by omega) hf]
            rintro ⟨q, -⟩
            rw [q2, nI_eq (by omega) (by omega)] at q
            omega
        · show (s : Int) < (eS M n + 1).toInt ↔ _
          by_cases e : s = cnL M n
          · rw [e, q3]
            exact ⟨fun _ => hd, fun _ => by omega⟩
          · have := i4 s (by omega)
            rw [← this]
            omega
      · -- a fact
        have fn : ¬ eF M n = -1 := fun e => by rw [e, ti_m1] at q1; omega
        rw [if_neg fn] at cs
        have es := cl_i q2
        have ef := cl_i q1.1
        have vs : eS M n = nI (eS M n).toNatClampNeg := nI_val q2
        have vf : eF M n = nI (eF M n).toNatClampNeg := nI_val q1.1
        rw [if_neg fn] at rs
        rw [rs, cs]
        refine ⟨i1, fun _ => cnt, fun s f hs hf => ?_, i4⟩
        have hs : (s : Int) < (rpS D vw n).2.toInt := hs
        show apF (rpS D vw n).1 (eS M n).toNatClampNeg (eF M n) (eV M n) _ _ (11 * s + f) = _
        rw [apF_1 q1, fs]
        by_cases e : 11 * s + f = 11 * (eS M n).toNatClampNeg + (eF M n).toNatClampNeg
        · have k1 : s = (eS M n).toNatClampNeg := by omega
          have k2 : f = (eF M n).toNatClampNeg := by omega
          rw [if_pos e, if_pos ⟨by rw [k1]; exact vs, hd, Or.inl (by rw [k2]; exact vf)⟩]
        · rw [if_neg e, if_neg, i3 s f hs hf]
          rintro ⟨k1, -, k2⟩
          have k2 := k2.resolve_right (fun q => fn q.1)
          rw [k1, k2, nI_clamp (by omega), nI_clamp (by omega)] at e
          exact e rfl
    · -- not seen
      rw [if_neg (fun q => hd ((hv n (by omega)).mp q))] at rs
      rw [rs]
      refine ⟨⟨i1.1, by omega⟩, fun q => absurd (q n (by omega)) hd, fun s f hs hf => ?_, fun s hs => ?_⟩
      · rw [fs, if_neg (fun q => hd q.2.1), i3 s f hs hf]
      · by_cases e : s < cnL M n
        · exact i4 s e
        · rcases o1 with ⟨q1, q2, q3⟩ | ⟨q1, q2, q3⟩
          · rw [if_pos q1] at cs
            have : s = cnL M n := by omega
            rw [this, q3]
            exact ⟨fun q => by omega, fun q => absurd q hd⟩
          · have fn : ¬ eF M n = -1 := fun e => by rw [e, ti_m1] at q1; omega
            rw [if_neg fn] at cs
            omega
theorem RBk.view {a : Int32} (h : RBk (xc D) M) (v : VwX D D1 a) (e : ∀ c, c ≠ 7 → M1 c = M c) (e7 : M1 7 0 = a) (ok : a = -1 ∨ (0 ≤ a.toInt ∧ a.toInt ≤ (M 6 0).toInt)) : RBk (xc D1) M1 := by
  obtain ⟨⟨a1, a2, a3, a4⟩, b, c, w0, s0, t0, u0, v0⟩ := h
  obtain ⟨bw, fc⟩ := w0.view e (by rw [e7]; exact ok)
  obtain ⟨k1, k2, k3, k4, k5, k6⟩ := v
  have a2 : D.1 2 10 = M 8 0 := a2
  have b : ∀ k, k < 400 → D.1 7 k = eD M k ∧ D.1 8 k = eS M k ∧ D.1 9 k = eF M k ∧ D.1 10 k = eV M k := b
  have e5 : M1 5 = M 5 := e 5 (by decide)
  have e6 : M1 6 = M 6 := e 6 (by decide)
  have e8 : M1 8 = M 8 := e 8 (by decide)
  have e9 : M1 9 = M 9 := e 9 (by decide)
  have e10 : M1 10 = M 10 := e 10 (by decide)
  have ns : nS M1 = nS M := by show (M1 5 0).toNatClampNeg = _; rw [e5]
  have h8 := w0.1.1
  have en : ((nE M : Nat) : Int) = (M 8 0).toInt := cl_i h8.1
  have dv : dvF M1 = if a = -1 then M 6 0 else a := by unfold dvF; rw [e7, e6]
  have nE4 : nE M ≤ 400 := by omega
  have hv : ∀ k, k < nE M → ((a = -1 ∨ (D.1 7 k).toInt ≤ a.toInt) ↔ (eD M k).toInt ≤ (dvF M1).toInt) := fun k hk => by
    rw [dv, (b k (by omega)).1]
    by_cases q : a = -1
    · rw [if_pos q]
      exact ⟨fun _ => (w0.2.1 k hk).2.1, fun _ => Or.inl q⟩
    · rw [if_neg q]
      exact ⟨fun z => z.resolve_left q, fun z => Or.inr z⟩
  obtain ⟨r1, r2, r3, r4⟩ := rp_all (D := D) (M := M) (vw := a) (d := dvF M1) (fun k hk => b k (by omega)) c w0 hv (nE M) (Nat.le_refl _)
  have n10 : (D.1 2 10).toNatClampNeg = nE M := by rw [a2]
  rw [n10] at k5 k6
  rw [w0.2.2.1] at r1 r4
  rw [← k5] at r1 r3 r4
  have e52 : ((nS M : Nat) : Int) = (M 5 0).toInt := cl_i w0.1.2.1.1
  refine ⟨⟨?_, ?_, ?_, ?_⟩, fun k hk => ?_, fun i hi => ?_, bw, ?_, fun i hi => ?_, fun i j hi hj => ?_, fun i j hi hj => ?_⟩
  · show D1.1 2 8 = _
    rw [k3 8 (by decide) (by decide), e5]
    exact a1
  · show D1.1 2 10 = _
    rw [k3 10 (by decide) (by decide), e8]
    exact a2
  · show D1.1 2 11 = _
    rw [k3 11 (by decide) (by decide), e6]
    exact a3
  · show D1.1 2 12 = _
    rw [k4, e7]
  · show D1.1 7 k = M1 9 _ ∧ D1.1 8 k = M1 9 _ ∧ D1.1 9 k = M1 9 _ ∧ D1.1 10 k = M1 9 _
    rw [k1 7 (by decide) (by decide), k1 8 (by decide) (by decide), k1 9 (by decide) (by decide), k1 10 (by decide) (by decide), e9]
    exact b k hk
  · show D1.1 5 i = _ ∧ D1.1 6 i = _
    rw [k1 5 (by decide) (by decide), k1 6 (by decide) (by decide), e10]
    exact c i hi
  · show 0 ≤ (D1.1 2 9).toInt ∧ (D1.1 2 9).toInt ≤ (M1 5 0).toInt
    rw [e5]
    have := r1.2
    exact ⟨r1.1, by omega⟩
  · rw [ns] at hi
    show (i : Int) < (D1.1 2 9).toInt ↔ (M1 10 _).toInt ≤ _
    rw [e10]
    exact r4 i hi
  · rw [ns] at hi
    show D1.1 3 _ = _
    rw [k1 3 (by decide) (by decide), fc, e6]
    exact u0 i j hi hj
  · have hi : (i : Int) < (D1.1 2 9).toInt := hi
    show D1.1 4 _ = _
    rw [k6, fc]
    exact r3 i j hi hj
end B3s
section B4s
variable {D D1 E E1 : ADD}
theorem rb_stone {w st tw r1 r2 : Int32} (h : RBk (xc D) (mB E)) (q : QXt D 1) (q2 : QM E) (e1 : fX10_stone w st tw D = some (r1, D1)) (e2 : fX11_stone w st tw E = some (r2, E1)) : r1 = r2 ∧ RBk (xc D1) (mB E1) ∧ NwM E E1 ∧ (∀ c, (c = 1 ∨ 11 ≤ c) → D1.1 c = D.1 c) ∧ ∀ c, 1 ≤ c → c < 23 → (c < 5 ∨ 10 < c) → E1.1 c = E.1 c := by
  have h1 : 0 ≤ (D.1 2 8).toInt ∧ (D.1 2 8).toInt ≤ 32 := q.1
  have h3 : 0 ≤ (D.1 2 10).toInt ∧ (D.1 2 10).toInt ≤ 400 := q.2.2.1
  have k1 := (tX10_stone (w := w) (st := st) (tw := tw) h1 h3).same e1
  have k2 := (tM_stone (w := w) (st := st) (tw := tw) q2.1 q2.2.1).same e2
  have a1 : D.1 2 8 = E.1 5 0 := h.1.1.trans mB5
  have a2 : D.1 2 10 = E.1 8 0 := h.1.2.1.trans mB8
  rw [a1, a2] at k1
  by_cases hc : (E.1 5 0).toInt < 32 ∧ (E.1 8 0).toInt < 400 ∧ LsOK w st tw
  · rw [if_pos hc] at k1 k2
    obtain ⟨p1, p2⟩ := k1
    obtain ⟨s1, s2⟩ := k2
    obtain ⟨l1, l2, l3⟩ := s2.sl ⟨q2.2.1.1, hc.2.1⟩ ⟨q2.1.1, hc.1⟩
    have he : (mB E 8 0).toInt < 400 := by rw [mB8]; exact hc.2.1
    have hs : (mB E 5 0).toInt < 32 := by rw [mB5]; exact hc.1
    refine ⟨p1.trans s1.symm, h.stone p2 l1 (BW.stone h.2.2.2.1 l1 he hs hc.2.2) he hs, l2, fun c hc => ?_, fun c c1 c2 c3 => l3 c (by omega) (by omega) (by omega) (by omega) (by omega)⟩
    obtain ⟨D7, z1, z2, z3, z4, z5, z6, z7, z8⟩ := p2
    rw [z6 c (by omega) (by omega) (by omega) (by omega) (by omega) (by omega) (by omega), z1 c (by omega) (by omega) (by omega)]
  · rw [if_neg hc] at k1 k2
    obtain ⟨p1, rfl⟩ := k1
    have f := k2.2.fm
    exact ⟨p1.trans k2.1.symm, by rw [f.mb]; exact h, NwM.fm f, fun _ _ => rfl, fun c c1 c2 _ => f c (by omega)⟩
theorem rb_tell {s f v r1 r2 : Int32} (h : RBk (xc D) (mB E)) (q : QXt D 1) (q2 : QM E) (e1 : fX10_tell s f v D = some (r1, D1)) (e2 : fX11_tell s f v E = some (r2, E1)) : r1 = r2 ∧ RBk (xc D1) (mB E1) ∧ NwM E E1 ∧ (∀ c, (c = 1 ∨ 11 ≤ c) → D1.1 c = D.1 c) ∧ ∀ c, 1 ≤ c → c < 23 → (c < 5 ∨ 10 < c) → E1.1 c = E.1 c := by
  have h1 : 0 ≤ (D.1 2 8).toInt ∧ (D.1 2 8).toInt ≤ 32 := q.1
  have h3 : 0 ≤ (D.1 2 10).toInt ∧ (D.1 2 10).toInt ≤ 400 := q.2.2.1
  have a1 : D.1 2 8 = E.1 5 0 := h.1.1.trans mB5
  have a2 : D.1 2 10 = E.1 8 0 := h.1.2.1.trans mB8
  have bw := h.2.2.2.1
  have e6 : mB E 6 0 = E.1 6 0 := mB6
  have hg : ∀ i, i < nS (mB E) → Gd (fct (mB E) (E.1 6 0) i) := fun i hi => by
    have := bw.2.2.2.2 (mB E 6 0) i hi (bw.2.2.2.1 i hi)
    rw [e6] at this
    exact this
  have k1 := (oX_tell (s := s) (f := f) (v := v) h1.2 h3.1).same e1
  have k2 := (bM_tell (s := s) (f := f) (v := v) q2 hg).same e2
  have n5 := cl_i q2.1.1
  have eq : TlX D s f v ↔ TlM E s f v := by
    unfold TlX TlM
    rw [a1, a2]
    by_cases hs : 0 ≤ s.toInt ∧ s.toInt < (E.1 5 0).toInt
    · have es := cl_i hs.1
      have u0 : ∀ j, j < 11 → D.1 3 (11 * s.toNatClampNeg + j) = fct (mB E) (E.1 6 0) s.toNatClampNeg j := fun j hj => by
        have := h.2.2.2.2.2.2.1 s.toNatClampNeg j (by rw [mBs]; omega) hj
        rw [e6] at this
        exact this
      have ag : AgX D s.toNatClampNeg f v ↔ Ag (fct (mB E) (E.1 6 0) s.toNatClampNeg) f v := by
        unfold AgX Ag
        have z := u0 0 (by decide)
        rw [Nat.add_zero] at z
        rw [u0 3 (by decide), z, u0 6 (by decide), u0 5 (by decide)]
      rw [ag]
    · exact ⟨fun k => absurd k.1 hs, fun k => absurd k.1 hs⟩
  by_cases hc : TlM E s f v
  · rw [if_pos (eq.mpr hc)] at k1
    rw [if_pos hc] at k2
    obtain ⟨p1, p2⟩ := k1
    obtain ⟨s1, s2, s3, s4⟩ := k2
    have he : (mB E 8 0).toInt < 400 := by rw [mB8]; exact hc.2.1
    have hs : 0 ≤ s.toInt ∧ s.toInt < (mB E 5 0).toInt := by rw [mB5]; exact hc.1
    refine ⟨p1.trans s1.symm, h.tell p2 s2 (bw.tell s2 he hs hc.2.2.1 (by rw [e6]; exact hc.2.2.2)) he hs hc.2.2.1.1, s3, fun c hc => ?_, fun c c1 c2 c3 => s4 c (by omega) (by omega) (by omega)⟩
    exact p2.1 c (by omega) (by omega) (by omega) (by omega) (by omega) (by omega) (by omega)
  · rw [if_neg (fun k => hc (eq.mp k))] at k1
    rw [if_neg hc] at k2
    obtain ⟨p1, rfl⟩ := k1
    have f := k2.2
    exact ⟨p1.trans k2.1.symm, by rw [f.mb]; exact h, NwM.fm f, fun _ _ => rfl, fun c c1 c2 _ => f c (by omega)⟩
theorem rb_day {a r1 r2 : Int32} (h : RBk (xc D) (mB E)) (e1 : fX10_day a D = some (r1, D1)) (e2 : fX11_day a E = some (r2, E1)) : RBk (xc D1) (mB E1) ∧ NwM E E1 ∧ (∀ c, (c = 1 ∨ 11 ≤ c) → D1.1 c = D.1 c) ∧ ∀ c, 1 ≤ c → c < 23 → (c < 5 ∨ 10 < c) → E1.1 c = E.1 c := by
  have k1 := (oX_day (a := a)).same e1
  obtain ⟨k2, k3⟩ := (bM_day (a := a)).same e2
  have a3 : D.1 2 11 = E.1 6 0 := h.1.2.2.1.trans mB6
  rw [a3] at k1
  have nw : NwM E E1 := fun c i c1 c2 c3 => by
    by_cases e : c = 6
    · subst e
      have c3 : 1 ≤ i := c3
      rw [k3, if_neg (by omega)]
    · rw [k2 c (by omega) e]
  by_cases hc : (E.1 6 0).toInt ≤ a.toInt ∧ a.toInt ≤ 9999
  · rw [if_pos hc] at k1
    obtain ⟨-, rfl⟩ := k1
    refine ⟨h.day (a := a) (fun c hc => si_o hc) (fun i => si_s) (fun c hc => ?_) ?_ (by rw [mB6]; exact hc.1) hc.2, nw, fun c hc => si_o (by omega), fun c c1 c2 c3 => k2 c (by omega) (by omega)⟩
    · by_cases e : c = 0
      · subst e
        funext i
        exact (mB_out (Nat.zero_le i)).trans (mB_out (Nat.zero_le i)).symm
      · exact mB_fr (fun _ _ => k2 c e hc)
    · rw [mB6, k3, if_pos ⟨rfl, hc⟩]
  · rw [if_neg hc] at k1
    obtain ⟨-, rfl⟩ := k1
    have e6 : E1.1 6 = E.1 6 := by
      funext i
      rw [k3, if_neg (fun q => hc q.2)]
    refine ⟨?_, nw, fun _ _ => rfl, fun c c1 c2 c3 => k2 c (by omega) (by omega)⟩
    have : mB E1 = mB E := trB_fr (fun c c1 c2 => smF (by
      by_cases e : c = 6
      · rw [e]; exact e6
      · exact k2 c (by omega) e))
    rw [this]
    exact h
theorem rb_view {a r1 r2 : Int32} (h : RBk (xc D) (mB E)) (q : QXt D 1) (e1 : fX10_view a D = some (r1, D1)) (e2 : fX11_view a E = some (r2, E1)) : RBk (xc D1) (mB E1) ∧ NwM E E1 ∧ (∀ c, (c = 1 ∨ 11 ≤ c) → D1.1 c = D.1 c) ∧ ∀ c, 1 ≤ c → c < 23 → (c < 5 ∨ 10 < c) → E1.1 c = E.1 c := by
  have a3 : D.1 2 11 = E.1 6 0 := h.1.2.2.1.trans mB6
  have q3 : 0 ≤ (D.1 2 10).toInt ∧ (D.1 2 10).toInt ≤ 400 := q.2.2.1
  have k1 := (oX_view (a := a) q3 q.2.2.2.1).same e1
  obtain ⟨k2, k3⟩ := (bM_view (a := a)).same e2
  rw [a3] at k1
  have td0 : 0 ≤ (E.1 6 0).toInt := by have := h.2.2.2.1.1.2.2.1.1; rw [mB6] at this; exact this
  have eq : (a = -1 ∨ (0 ≤ a.toInt ∧ a.toInt ≤ (E.1 6 0).toInt)) ↔ (-1 ≤ a.toInt ∧ a.toInt ≤ (E.1 6 0).toInt) := by
    have am : a = -1 ↔ a.toInt = -1 := ⟨fun e => by rw [e]; decide, fun e => Int32.toInt_inj.mp (by rw [e]; decide)⟩
    rw [am]
    omega
  have nw : NwM E E1 := fun c i c1 c2 c3 => by
    by_cases e : c = 7
    · subst e
      have c3 : 1 ≤ i := c3
      rw [k3, if_neg (by omega)]
    · rw [k2 c (by omega) e]
  by_cases hc : a = -1 ∨ (0 ≤ a.toInt ∧ a.toInt ≤ (E.1 6 0).toInt)
  · rw [if_pos hc] at k1
    obtain ⟨-, v⟩ := k1
    refine ⟨h.view v (fun c hc => ?_) ?_ (by rw [mB6]; exact hc), nw, fun c hc => v.1 c (by omega) (by omega), fun c c1 c2 c3 => k2 c (by omega) (by omega)⟩
    · by_cases e : c = 0
      · subst e
        funext i
        exact (mB_out (Nat.zero_le i)).trans (mB_out (Nat.zero_le i)).symm
      · exact mB_fr (fun _ _ => k2 c e hc)
    · rw [mB7, k3, if_pos ⟨rfl, eq.mp hc⟩]
  · rw [if_neg hc] at k1
    obtain ⟨-, rfl⟩ := k1
    have e7 : E1.1 7 = E.1 7 := by
      funext i
      rw [k3, if_neg (fun q => hc (eq.mpr q.2))]
    refine ⟨?_, nw, fun _ _ => rfl, fun c c1 c2 c3 => k2 c (by omega) (by omega)⟩
    have : mB E1 = mB E := trB_fr (fun c c1 c2 => smF (by
      by_cases e : c = 7
      · rw [e]; exact e7
      · exact k2 c (by omega) e))
    rw [this]
    exact h
end B4s
end
section
/-! the book's relation, kept by every call -/
def RB (X M : Sl) : Prop := RBk X (trB M)
section RBs
variable {n0 : Nat} {P : APD} {E : ADD}
theorem IR.now (h : IR RB n0 P E) : RBk (xc P.2) (mB E) := RBk.to.mp h.2.1
theorem IR.keepB (h : IR RB n0 P E) {D1 E1 : ADD} (ia : IA n0 (P.1, D1) E1) (kx : ∀ c, 98 ≤ c → D1.1 c = P.2.1 c) (nm : ∀ t, 1 ≤ t → trB (slM E1 t) = trB (slM E t)) (r : RBk (xc D1) (mB E1)) : IR RB n0 (P.1, D1) E1 := by
  refine ⟨ia, RBk.to.mpr r, fun im him j z hj hz => ?_⟩
  have far := (h.1.1.far him).1 j z hj hz
  have e1 : slX D1 z = slX P.2 z := slX_fr (fun c hc _ => kx c (by omega))
  show RBk (slX D1 z) (trB (slM E1 (j + 1)))
  rw [e1, nm (j + 1) (by omega)]
  exact h.2.2 im him j z hj hz
theorem slM_row {E E1 : ADD} {t c : Nat} (h : E1.1 c = E.1 c) : slM E1 t c = slM E t c := by
  funext i
  unfold slM
  by_cases h1 : c = 1
  · subst h1
    rw [h]
  · rw [if_neg h1, if_neg h1, h]
theorem RBk.same {D D1 E E1 : ADD} (h : RBk (xc D) (mB E)) (f : ∀ c, 2 ≤ c → c ≤ 10 → D1.1 c = D.1 c) (g : ∀ c, 5 ≤ c → c ≤ 10 → E1.1 c = E.1 c) : RBk (xc D1) (mB E1) := by
  have e : mB E1 = mB E := trB_fr (fun c a b => slM_row (g c a b))
  rw [e]
  have e2 : ∀ d i, 1 ≤ d → d ≤ 9 → xc D1 d i = xc D d i := fun d i a b => by
    show D1.1 (1 + d) i = D.1 (1 + d) i
    rw [f (1 + d) (by omega) (by omega)]
  exact h.cx (fun i _ _ => e2 1 i (by omega) (by omega)) (fun d i a _ => e2 d i (by omega) (by omega)) (fun d i a _ => e2 d i (by omega) (by omega)) (fun d i a b _ => e2 d i (by omega) (by omega))
theorem IR.free {ρ : Type} {R : Prop → Prop} {f g : Option (ρ × ADD)} (h : IR RB n0 P E) (b : Bt n0 P R f g) (hf : Wp f (fun _ D1 => ∀ c, ((2 ≤ c ∧ c ≤ 10) ∨ 98 ≤ c) → D1.1 c = P.2.1 c)) (hg : Wp g (fun _ E1 => ∀ c, 5 ≤ c → c ≤ 10 → E1.1 c = E.1 c)) : BR RB n0 P R f g := by
  obtain ⟨r1, D1, r2, D2, h1, h2, h3, h4⟩ := b
  have n1 := hf.same h1
  have n2 := hg.same h2
  exact ⟨r1, D1, r2, D2, h1, h2, h3, h.keepB h4 (fun c hc => n1 c (by omega)) (fun t _ => trB_fr (fun c a b => slM_row (n2 c a b))) (h.now.same (fun c a b => n1 c (by omega)) n2)⟩
theorem ir_stone {a b c : Int32} (h : IR RB n0 P E) : BR RB n0 P id (fX10_stone a b c P.2) (fX11_stone a b c E) := by
  obtain ⟨r1, D1, r2, D2, e1, e2, -, ia⟩ := ia_stone (a := a) (b := b) (c := c) h.1
  obtain ⟨k1, k2, k3, k4, k5⟩ := rb_stone h.now h.1.2.1.2 h.1.2.2.1.qm e1 e2
  exact ⟨r1, D1, r2, D2, e1, e2, k1, h.keepB ia (fun c hc => k4 c (by omega)) (fun t ht => by rw [k3.sl ht]) k2⟩
theorem ir_tell {a b c : Int32} (h : IR RB n0 P E) : BR RB n0 P id (fX10_tell a b c P.2) (fX11_tell a b c E) := by
  obtain ⟨r1, D1, r2, D2, e1, e2, -, ia⟩ := ia_tell (a := a) (b := b) (c := c) h.1
  obtain ⟨k1, k2, k3, k4, k5⟩ := rb_tell h.now h.1.2.1.2 h.1.2.2.1.qm e1 e2
  exact ⟨r1, D1, r2, D2, e1, e2, k1, h.keepB ia (fun c hc => k4 c (by omega)) (fun t ht => by rw [k3.sl ht]) k2⟩
theorem ir_day {a : Int32} (h : IR RB n0 P E) : BR RB n0 P id (fX10_day a P.2) (fX11_day a E) := by
  obtain ⟨r1, D1, r2, D2, e1, e2, e3, ia⟩ := ia_day (a := a) h.1
  obtain ⟨k2, k3, k4, k5⟩ := rb_day h.now e1 e2
  exact ⟨r1, D1, r2, D2, e1, e2, e3, h.keepB ia (fun c hc => k4 c (by omega)) (fun t ht => by rw [k3.sl ht]) k2⟩
theorem ir_view {a : Int32} (h : IR RB n0 P E) : BR RB n0 P id (fX10_view a P.2) (fX11_view a E) := by
  obtain ⟨r1, D1, r2, D2, e1, e2, e3, ia⟩ := ia_view (a := a) h.1
  obtain ⟨k2, k3, k4, k5⟩ := rb_view h.now h.1.2.1.2 e1 e2
  exact ⟨r1, D1, r2, D2, e1, e2, e3, h.keepB ia (fun c hc => k4 c (by omega)) (fun t ht => by rw [k3.sl ht]) k2⟩
theorem fX_feed {a b c d e : Int32} {D : ADD} (q : QXt D 1) : Wp (fX10_feed a b c d e D) (fun _ D1 => ∀ c, c ≠ 11 → c ≠ 12 → D1.1 c = D.1 c) := by
  have l : 0 ≤ (D.1 11 1).toInt ∧ (D.1 11 1).toInt ≤ 500 := q.2.2.2.2.1
  have el := cl_i l.1
  refine (oX_feed (n := (D.1 11 1).toNatClampNeg) (by omega) (by omega)).mono (fun r D1 k => ?_)
  split at k
  · exact k.2.2.1
  · intro c _ _
    rw [k.2]
theorem ir_feed {a b c d e : Int32} (h : IR RB n0 P E) : BR RB n0 P id (fX10_feed a b c d e P.2) (fX11_feed a b c d e E) := by
  have l := h.1.2.2.1.len
  have el := cl_i l.1
  exact h.free (ia_feed h.1) ((fX_feed h.1.2.1.2).mono (fun _ D1 k c hc => k c (by omega) (by omega))) ((tM_feed (n := (E.1 2 0).toNatClampNeg) (by omega) (by omega)).mono (fun _ E1 k c a b => k.1 c (by omega) (by omega) (by omega)))
theorem fX_end {a : Int32} {D : ADD} : Wp (fX10_end a D) (fun _ D1 => ∀ c, c ≠ 11 → D1.1 c = D.1 c) := by
  refine oX_end.mono (fun r D1 k => ?_)
  split at k
  · intro c hc
    rw [k.2]
    exact si_o hc
  · intro c _
    rw [k.2]
theorem fM_end {a : Int32} : Wp (fX11_end a E) (fun _ E1 => (∀ c, c ≠ 0 → c ≠ 2 → E1.1 c = E.1 c) ∧ ∀ i, i ≠ 0 → E1.1 2 i = E.1 2 i) := by
  unfold fX11_end
  have fo : ∀ c, c ≠ 0 → (aSI E 0 0 0).1 c = E.1 c := fun c hc => si_o hc
  refine Wp.lets (Wp.idd (by decide) (Wp.bindE (eM_is _ _ _ _) ?_))
  generalize aSI E 0 0 0 = D1 at fo ⊢
  refine Wp.ite (fun _ => Wp.ret ⟨fun c a _ => fo c a, fun i _ => by rw [fo 2 (by decide)]⟩) (fun _ => Wp.idd (by decide) (Wp.lets (Wp.ret ⟨fun c a b => by rw [si_o b, fo c a], fun i hi => ?_⟩)))
  rw [cl_0, si_s, if_neg hi, fo 2 (by decide)]
theorem ir_end {a : Int32} (h : IR RB n0 P E) : BR RB n0 P id (fX10_end a P.2) (fX11_end a E) :=
  h.free (ia_end h.1) (fX_end.mono (fun _ D1 k c hc => k c (by omega))) (fM_end.mono (fun _ E1 k c a b => k.1 c (by omega) (by omega)))
theorem ir_text {a : Int32} (ha : a = 0 ∨ a = 1) (h : IR RB n0 P E) : BR RB n0 P (fun _ => True) (fX10_text a P.2) (fX11_text a E) := by
  obtain ⟨a1, a2, a3, a4, a5, a6, a7, a8⟩ := h.1.2.1.2
  exact h.free (ia_text ha h.1) ((oX_text ha h.1.2.1.1 a5.1 ⟨a6, a7⟩).mono (fun _ D1 k c hc => k.1 c (by omega))) ((oM_text h.1.2.2.1.qm h.1.2.2.1.2 h.1.2.2.1.len).mono (fun _ E1 k c a b => k.1 c (by omega)))
theorem ir_choose {a b y z m : Int32} (h : IR RB n0 P E) : BR RB n0 P id (fX10_choose a b y z m P.2) (fX11_choose a b y z m E) := by
  refine h.free (ia_choose h.1) (tX10_choose.mono (fun _ D1 k c hc => ?_)) (tM_choose.mono (fun _ E1 k c a b => ?_))
  · split at k
    · exact k.2.1 c (by omega)
    · rw [k.2]
  · split at k
    · exact k.2.1 c (by omega) (by omega) (by omega) (by omega) (by omega)
    · exact k.2.1 c (by omega)
theorem seen_iff {D : ADD} (h : RBk (xc D) (mB E)) {a : Int32} : (0 ≤ a.toInt ∧ a.toInt < (D.1 2 9).toInt ∧ a.toInt < 32) ↔ stM E a := by
  obtain ⟨-, -, -, w, s0, t0, -, -⟩ := h
  have s0 : 0 ≤ (D.1 2 9).toInt ∧ (D.1 2 9).toInt ≤ (mB E 5 0).toInt := s0
  have t0 : ∀ s : Nat, s < nS (mB E) → ((s : Int) < (D.1 2 9).toInt ↔ (lD (mB E) s).toInt ≤ (dvF (mB E)).toInt) := t0
  have n5 : ((nS (mB E) : Nat) : Int) = (mB E 5 0).toInt := cl_i w.1.2.1.1
  have h32 := w.1.2.1.2
  rw [mB5] at n5 s0 h32
  unfold stM
  constructor
  · rintro ⟨k1, k2, k3⟩
    have ea := cl_i k1
    exact ⟨⟨k1, by omega⟩, (t0 a.toNatClampNeg (by omega)).mp (by omega)⟩
  · rintro ⟨⟨k1, k2⟩, k3⟩
    have ea := cl_i k1
    have := (t0 a.toNatClampNeg (by omega)).mpr k3
    exact ⟨k1, by omega, by omega⟩
theorem kn_fct {D : ADD} (h : RBk (xc D) (mB E)) {a b : Int32} : knX D a b = if stM E a ∧ 0 ≤ b.toInt ∧ b.toInt ≤ 10 then fct (mB E) (dvF (mB E)) a.toNatClampNeg b.toNatClampNeg else -100000 := by
  unfold knX
  by_cases hs : stM E a
  · have s3 := (seen_iff h).mpr hs
    have ea := cl_i s3.1
    by_cases hb : 0 ≤ b.toInt ∧ b.toInt < 11
    · have eb := cl_i hb.1
      rw [if_pos ⟨s3, hb⟩, if_pos ⟨hs, hb.1, by omega⟩]
      exact h.2.2.2.2.2.2.2 a.toNatClampNeg b.toNatClampNeg (by show (a.toNatClampNeg : Int) < (D.1 2 9).toInt; omega) (by omega)
    · rw [if_neg (fun k => hb k.2), if_neg (fun k => hb ⟨k.2.1, by omega⟩)]
  · rw [if_neg (fun k => hs ((seen_iff h).mp k.1)), if_neg (fun k => hs k.1)]
theorem ir_fact {a b : Int32} (h : IR RB n0 P E) : BR RB n0 P id (fX10_fact a b P.2) (fX11_fact a b E) :=
  h.askE (fun _ => Pu.fx ⟨_, _, oX_fact, rfl⟩) (fun q => oM_fact q) ⟨_, _, oX_fact, kn_fct h.now⟩ (bM_fact h.1.2.2.1.qm)
theorem bX_entry {a b : Int32} {D : ADD} (hn : (D.1 2 10).toInt ≤ 400) : Wp (fX10_entry a b D) (fun r _ => r = if (0 ≤ a.toInt ∧ a.toInt < (D.1 2 10).toInt) ∧ 0 ≤ b.toInt ∧ b.toInt ≤ 3 then (if b.toInt = 0 then D.1 7 a.toNatClampNeg else if b.toInt = 1 then D.1 8 a.toNatClampNeg else if b.toInt = 2 then D.1 9 a.toNatClampNeg else D.1 10 a.toNatClampNeg) else -100000) := by
  unfold fX10_entry
  refine Wp.bind (P := fun r _ => r = if (0 ≤ a.toInt ∧ a.toInt < (D.1 2 10).toInt) ∧ 0 ≤ b.toInt ∧ b.toInt ≤ 3 then (if b.toInt = 0 then D.1 7 a.toNatClampNeg else if b.toInt = 1 then D.1 8 a.toNatClampNeg else if b.toInt = 2 then D.1 9 a.toNatClampNeg else D.1 10 a.toNatClampNeg) else -100000) ?_ (fun x D1 q => Wp.ret q)
  unfold fX0_written
  have e4 : (400 : Int32).toInt = 400 := by decide
  refine Wp.lets (Wp.ilt (fun h => Wp.ret (if_neg (by rw [ti_0] at h; omega)).symm) (fun h => Wp.ile (fun h1 => Wp.ret (if_neg (by omega)).symm) (fun h1 => Wp.ilt (fun h2 => ?_) (fun h2 => absurd h1 (by omega)))))
  rw [ti_0] at h
  have ii : vp_in a 400 := i_in h (by omega)
  refine Wp.tab4 (fun h3 => Wp.idx ii (Wp.ret ?_)) (fun h3 => Wp.idx ii (Wp.ret ?_)) (fun h3 => Wp.idx ii (Wp.ret ?_)) (fun h3 => Wp.idx ii (Wp.ret ?_)) (fun h3 => Wp.ret (if_neg (by omega)).symm)
  · rw [if_pos ⟨⟨h, h1⟩, by omega⟩, if_pos h3]
  · rw [if_pos ⟨⟨h, h1⟩, by omega⟩, if_neg (by omega), if_pos h3]
  · rw [if_pos ⟨⟨h, h1⟩, by omega⟩, if_neg (by omega), if_neg (by omega), if_pos h3]
  · rw [if_pos ⟨⟨h, h1⟩, by omega⟩, if_neg (by omega), if_neg (by omega), if_neg (by omega)]
theorem ir_entry {a b : Int32} (h : IR RB n0 P E) : BR RB n0 P id (fX10_entry a b P.2) (fX11_entry a b E) := by
  have q3 : 0 ≤ (P.2.1 2 10).toInt ∧ (P.2.1 2 10).toInt ≤ 400 := h.1.2.1.2.2.2.1
  have n := h.now
  have a2 : P.2.1 2 10 = E.1 8 0 := n.1.2.1.trans mB8
  refine h.askE (fun _ => Pu.fx oX_entry) (fun q => oM_entry q) ((bX_entry q3.2).mono (fun r _ k => ?_)) (bM_entry h.1.2.2.1.qm)
  rw [k, a2]
  by_cases hc : (0 ≤ a.toInt ∧ a.toInt < (E.1 8 0).toInt) ∧ 0 ≤ b.toInt ∧ b.toInt ≤ 3
  · rw [if_pos hc, if_pos hc]
    have ea := cl_i hc.1.1
    have eb := cl_i hc.2.1
    rw [a2] at q3
    obtain ⟨b1, b2, b3, b4⟩ := n.2.1 a.toNatClampNeg (by omega)
    by_cases h0 : b.toInt = 0
    · rw [if_pos h0, show 4 * a.toNatClampNeg + b.toNatClampNeg = 4 * a.toNatClampNeg by omega]
      exact b1
    · by_cases h1 : b.toInt = 1
      · rw [if_neg h0, if_pos h1, show b.toNatClampNeg = 1 by omega]
        exact b2
      · by_cases h2 : b.toInt = 2
        · rw [if_neg h0, if_neg h1, if_pos h2, show b.toNatClampNeg = 2 by omega]
          exact b3
        · rw [if_neg h0, if_neg h1, if_neg h2, show b.toNatClampNeg = 3 by omega]
          exact b4
  · rw [if_neg hc, if_neg hc]
end RBs
/-! the first states -/
theorem opInt_0 {q : Nat} : ∀ ops : List aOp, (ops.all fun o => o.1 == 0 || o.1 == 1 || !(o.2.1 == q)) = true → ∀ f, opInt ops q f = 0
  | [], _, _ => rfl
  | o :: r, h, f => by
    rw [List.all_cons, Bool.and_eq_true] at h
    have ih := opInt_0 r h.2 f
    have h1 := h.1
    show (if o.1 = 0 then (if q = opCnt r then 0 else opInt r q f) else if o.1 = 1 then opInt r q f else if q = o.2.1 ∧ f = o.2.2.1 then o.2.2.2.2 else opInt r q f) = 0
    rw [ih]
    by_cases a : o.1 = 0
    · rw [if_pos a]
      split <;> rfl
    · by_cases b : o.1 = 1
      · rw [if_neg a, if_pos b]
      · rw [if_neg a, if_neg b, if_neg]
        rintro ⟨c, -⟩
        simp [a, b, c] at h1
theorem rb_first (n0 n1 : Nat) : RB (slX (xB n0).2 1) (slM (m0 n1).2 0) := by
  refine RBk.to.mpr ?_
  show RBk (xc (xB n0).2) (mB (m0 n1).2)
  have m8 : (m0 n1).2.1 8 0 = 0 := by rw [mI]; decide +kernel
  have m5 : (m0 n1).2.1 5 0 = 0 := by rw [mI]; decide +kernel
  have m6 : (m0 n1).2.1 6 0 = 0 := by rw [mI]; decide +kernel
  have m7 : (m0 n1).2.1 7 0 = -1 := by rw [mI]; decide +kernel
  have m9 : ∀ j, mB (m0 n1).2 9 j = 0 := fun j => by
    by_cases h : j < 1600
    · rw [mB9 h, mI]
      exact opInt_0 mOps (by decide +kernel) j
    · exact mB_out (by show 1600 ≤ j; omega)
  have m10 : ∀ j, mB (m0 n1).2 10 j = 0 := fun j => by
    by_cases h : j < 96
    · rw [mB10 h, mI]
      exact opInt_0 mOps (by decide +kernel) j
    · exact mB_out (by show 96 ≤ j; omega)
  have x8 : (xB n0).2.1 2 8 = 0 := by rw [xI]; decide +kernel
  have x9 : (xB n0).2.1 2 9 = 0 := by rw [xI]; decide +kernel
  have x10 : (xB n0).2.1 2 10 = 0 := by rw [xI]; decide +kernel
  have x11 : (xB n0).2.1 2 11 = 0 := by rw [xI]; decide +kernel
  have x12 : (xB n0).2.1 2 12 = -1 := by rw [xI]; decide +kernel
  have xz : ∀ c, (c = 5 ∨ c = 6 ∨ c = 7 ∨ c = 8 ∨ c = 9 ∨ c = 10) → ∀ j, (xB n0).2.1 c j = 0 := fun c hc j => by
    rw [xI]
    rcases hc with rfl | rfl | rfl | rfl | rfl | rfl <;> exact opInt_0 xOps (by decide +kernel) j
  have nS0 : nS (mB (m0 n1).2) = 0 := by rw [mBs, m5]; rfl
  have nE0 : nE (mB (m0 n1).2) = 0 := by rw [mBn, m8]; rfl
  refine ⟨⟨?_, ?_, ?_, ?_⟩, fun k hk => ?_, fun s hs => ?_, ⟨⟨?_, ?_, ?_, ?_⟩, fun k hk => ?_, ?_, fun s hs => ?_, fun d s hs => ?_⟩, ?_, fun s hs => ?_, fun s f hs => ?_, fun s f hs => ?_⟩
  · rw [mB5, m5]; exact x8
  · rw [mB8, m8]; exact x10
  · rw [mB6, m6]; exact x11
  · rw [mB7, m7]; exact x12
  · show (xB n0).2.1 7 k = mB _ 9 _ ∧ (xB n0).2.1 8 k = mB _ 9 _ ∧ (xB n0).2.1 9 k = mB _ 9 _ ∧ (xB n0).2.1 10 k = mB _ 9 _
    rw [m9, m9, m9, m9, xz 7 (by omega), xz 8 (by omega), xz 9 (by omega), xz 10 (by omega)]
    exact ⟨rfl, rfl, rfl, rfl⟩
  · show (xB n0).2.1 5 s = _ ∧ (xB n0).2.1 6 s = _
    rw [m10, m10, xz 5 (by omega), xz 6 (by omega)]
    exact ⟨rfl, rfl⟩
  · rw [mB8, m8]; decide
  · rw [mB5, m5]; decide
  · rw [mB6, m6]; decide
  · rw [mB7, m7]; exact Or.inl rfl
  · rw [nE0] at hk; omega
  · rw [nE0, nS0]; rfl
  · rw [nS0] at hs; omega
  · rw [nS0] at hs; omega
  · show 0 ≤ ((xB n0).2.1 2 9).toInt ∧ ((xB n0).2.1 2 9).toInt ≤ _
    rw [x9, mB5, m5]; decide
  · rw [nS0] at hs; omega
  · rw [nS0] at hs; omega
  · have hs : (s : Int) < ((xB n0).2.1 2 9).toInt := hs
    rw [x9, ti_0] at hs
    omega
theorem ir_first {Rl : Sl → Sl → Prop} (n0 n1 : Nat) (r : Rl (slX (xB n0).2 1) (slM (m0 n1).2 0)) : IR Rl n0 (xB n0) (m0 n1).2 :=
  ⟨ia_first n0 n1, r, fun im him j z hj hz => by
    rw [im_uniq him (xB_im n0)] at hz
    cases hz⟩
end
section
/-! tokens -/
def RunTo (C : Int32 → Prop) (B : Nat → Int32) (p q : Nat) : Prop := p ≤ q ∧ (∀ j, p ≤ j → j < q → C (B j)) ∧ ¬ C (B q)
theorem RunTo.uniq {C : Int32 → Prop} {B : Nat → Int32} {p q r : Nat} (h : RunTo C B p q) (k : RunTo C B p r) : q = r := by
  rcases Nat.lt_trichotomy q r with l | l | l
  · exact absurd (k.2.1 q h.1 l) h.2.2
  · exact l
  · exact absurd (h.2.1 r k.1 l) k.2.2
abbrev blk (c : Int32) : Prop := c = 10 ∨ c = 32
abbrev ltr (c : Int32) : Prop := 97 ≤ c.toInt ∧ c.toInt ≤ 122
abbrev dig (c : Int32) : Prop := 48 ≤ c.toInt ∧ c.toInt ≤ 57
abbrev sgn (c : Int32) : Prop := c = 58 ∨ c = 59 ∨ c = 60 ∨ c = 62 ∨ c = 61
/-- the token from s to e, of the class's kind k -/
def Tok (B : Nat → Int32) (s e : Nat) (k : Int32) : Prop := (ltr (B s) ∧ RunTo ltr B s e ∧ k = 1) ∨ (dig (B s) ∧ RunTo dig B s e ∧ k = if e - s ≤ 4 then 2 else 4) ∨ (B s = -1 ∧ e = s ∧ k = 0) ∨ ((¬ ltr (B s) ∧ ¬ dig (B s) ∧ B s ≠ -1) ∧ e = s + 1 ∧ k = if sgn (B s) then 3 else 4)
/-- a tape's bytes, -1 behind its end -/
def TB (B : Nat → Int32) (n : Nat) : Prop := n ≤ 500 ∧ (∀ j, n ≤ j → B j = -1) ∧ ∀ j, j < n → 0 ≤ (B j).toInt ∧ (B j).toInt < 256
theorem TB.run {C : Int32 → Prop} {B : Nat → Int32} {n p q : Nat} (h : TB B n) (c : ¬ C (-1)) (k : RunTo C B p q) (hp : p ≤ n) : q ≤ n := by
  false_or_by_contra
  have := k.2.1 n hp (by omega)
  rw [h.2.1 n (Nat.le_refl _)] at this
  exact c this
theorem nb_blk : ¬ blk (-1) := by decide
theorem nb_ltr : ¬ ltr (-1) := by decide
theorem nb_dig : ¬ dig (-1) := by decide
theorem TB.lt {B : Nat → Int32} {n s : Nat} (h : TB B n) (e : B s ≠ -1) : s < n := by
  false_or_by_contra
  exact e (h.2.1 s (by omega))
theorem TB.ge {B : Nat → Int32} {n s : Nat} (h : TB B n) (e : B s = -1) : n ≤ s := by
  false_or_by_contra
  have := h.2.2 s (by omega)
  rw [e, ti_m1] at this
  omega
theorem Tok.le {B : Nat → Int32} {n s e : Nat} {k : Int32} (h : Tok B s e k) (t : TB B n) (hs : s ≤ n) : s ≤ e ∧ e ≤ n := by
  rcases h with ⟨-, h, -⟩ | ⟨-, h, -⟩ | ⟨-, h, -⟩ | ⟨h0, h, -⟩
  · exact ⟨h.1, t.run nb_ltr h hs⟩
  · exact ⟨h.1, t.run nb_dig h hs⟩
  · omega
  · have := t.lt h0.2.2
    omega
theorem ltr_dig {c : Int32} (h : ltr c) : ¬ dig c := fun k => by have := h.1; have := k.2; omega
theorem ltr_m1 {c : Int32} (h : ltr c) : c ≠ -1 := fun e => by rw [e] at h; exact nb_ltr h
theorem dig_m1 {c : Int32} (h : dig c) : c ≠ -1 := fun e => by rw [e] at h; exact nb_dig h
theorem Tok.uniq {B : Nat → Int32} {s e e' : Nat} {k k' : Int32} (h : Tok B s e k) (h' : Tok B s e' k') : e = e' ∧ k = k' := by
  rcases h with ⟨a, b, c⟩ | ⟨a, b, c⟩ | ⟨a, b, c⟩ | ⟨a, b, c⟩ <;> rcases h' with ⟨a', b', c'⟩ | ⟨a', b', c'⟩ | ⟨a', b', c'⟩ | ⟨a', b', c'⟩
  · exact ⟨b.uniq b', by rw [c, c']⟩
  · exact absurd a' (ltr_dig a)
  · exact absurd a' (ltr_m1 a)
  · exact absurd a a'.1
  · exact absurd a (ltr_dig a')
  · have := b.uniq b'
    exact ⟨this, by rw [c, c', this]⟩
  · exact absurd a' (dig_m1 a)
  · exact absurd a a'.2.1
  · exact absurd a (ltr_m1 a')
  · exact absurd a (dig_m1 a')
  · exact ⟨by omega, by rw [c, c']⟩
  · exact absurd a a'.2.2
  · exact absurd a' a.1
  · exact absurd a' a.2.1
  · exact absurd a' a.2.2
  · exact ⟨by omega, by rw [c, c']⟩
def TpX (D : ADD) (B : Nat → Int32) (n : Nat) : Prop := (D.1 11 1).toInt = n ∧ ∀ j, j < n → aB (D.1 12 j) &&& 255 = B j
def TpM (E : ADD) (B : Nat → Int32) (n : Nat) : Prop := (E.1 0 24).toInt = n ∧ ∀ j, j < n → aB (E.1 1 j) &&& 255 = B j
section TKs
variable {D D1 E : ADD} {B : Nat → Int32} {n : Nat}
theorem eX_byteAt {a : Int32} (t : TB B n) (h : TpX D B n) (ha : 0 ≤ a.toInt) : fX9_byteAt a D = some (B a.toNatClampNeg, D) := by
  have H : Wp (fX9_byteAt a D) (fun x D1 => D1 = D ∧ x = B a.toNatClampNeg) := by
    unfold fX9_byteAt
    have e5 : (500 : Int32).toInt = 500 := by decide
    have ea := cl_i ha
    have h1 := h.1
    have t1 := t.1
    refine Wp.lets (Wp.lets (Wp.ilt (fun q => absurd q (by rw [ti_0]; omega)) (fun _ => Wp.ile (fun q => Wp.ret ⟨rfl, (t.2.1 _ (by omega)).symm⟩) (fun q => Wp.ile (fun q2 => absurd q2 (by omega)) (fun q2 => Wp.idx (i_in ha (by omega)) (Wp.ret ⟨rfl, h.2 _ (by omega)⟩))))))
  obtain ⟨x, D1, e, rfl, rfl⟩ := H
  exact e
theorem eM_see2 (t : TB B n) (h : TpM E B n) (ha : 0 ≤ (E.1 0 23).toInt) : fX11_see E = some (B (E.1 0 23).toNatClampNeg, E) := by
  have H : Wp (fX11_see E) (fun x D1 => D1 = E ∧ x = B (E.1 0 23).toNatClampNeg) := by
    unfold fX11_see
    have ea := cl_i ha
    have h1 := h.1
    have t1 := t.1
    exact Wp.lets (Wp.ile (fun q => Wp.ret ⟨rfl, (t.2.1 _ (by omega)).symm⟩) (fun q => Wp.idx (i_in ha (by omega)) (Wp.ret ⟨rfl, h.2 _ (by omega)⟩)))
  obtain ⟨x, D1, e, rfl, rfl⟩ := H
  exact e
theorem eX_isBlank (a : Int32) : fX5_isBlank a D = some (if blk a then 1 else 0, D) := by
  refine eq_Bo ?_
  unfold fX5_isBlank
  exact Wp.lets (Wp.lets (Wp.ite (fun q => Wp.z (Or.inr rfl) (Wp.ret ⟨rfl, Or.inl ⟨rfl, Or.inl q⟩⟩)) (fun q => Wp.ite (fun q2 => Wp.z (Or.inr rfl) (Wp.ret ⟨rfl, Or.inl ⟨rfl, Or.inr q2⟩⟩)) (fun q2 => Wp.z (Or.inl rfl) (Wp.ret ⟨rfl, Or.inr ⟨rfl, fun k => k.elim q q2⟩⟩)))))
theorem eX_isLetter (a : Int32) : fX5_isLetter a D = some (if ltr a then 1 else 0, D) := by
  refine eq_Bo ?_
  unfold fX5_isLetter
  have l : (97 : Int32).toInt = 97 := by decide
  have u : (122 : Int32).toInt = 122 := by decide
  exact Wp.lets (Wp.lets (Wp.ilt (fun q => Wp.z (Or.inl rfl) (Wp.ret ⟨rfl, Or.inr ⟨rfl, fun k => by have := k.1; omega⟩⟩)) (fun q => Wp.ilt (fun q2 => Wp.z (Or.inl rfl) (Wp.ret ⟨rfl, Or.inr ⟨rfl, fun k => by have := k.2; omega⟩⟩)) (fun q2 => Wp.z (Or.inr rfl) (Wp.ret ⟨rfl, Or.inl ⟨rfl, by omega, by omega⟩⟩)))))
theorem eX_isDigit (a : Int32) : fX5_isDigit a D = some (if dig a then 1 else 0, D) := by
  refine eq_Bo ?_
  unfold fX5_isDigit
  have l : (48 : Int32).toInt = 48 := by decide
  have u : (57 : Int32).toInt = 57 := by decide
  exact Wp.lets (Wp.lets (Wp.ilt (fun q => Wp.z (Or.inl rfl) (Wp.ret ⟨rfl, Or.inr ⟨rfl, fun k => by have := k.1; omega⟩⟩)) (fun q => Wp.ilt (fun q2 => Wp.z (Or.inl rfl) (Wp.ret ⟨rfl, Or.inr ⟨rfl, fun k => by have := k.2; omega⟩⟩)) (fun q2 => Wp.z (Or.inr rfl) (Wp.ret ⟨rfl, Or.inl ⟨rfl, by omega, by omega⟩⟩)))))
theorem eX_isSignByte (a : Int32) : fX5_isSignByte a D = some (if sgn a then 1 else 0, D) := by
  refine eq_Bo ?_
  unfold fX5_isSignByte
  have y : ∀ {x : Int32}, sgn x → Wp (aZ 1 (some ((1 : Int32), D))) (fun r D1 => D1 = D ∧ Bo r (sgn x)) := fun hx => Wp.z (Or.inr rfl) (Wp.ret ⟨rfl, Or.inl ⟨rfl, hx⟩⟩)
  refine Wp.lets (Wp.lets (Wp.ite (fun q => y (by rw [q]; decide)) (fun q => Wp.ite (fun q2 => y (by rw [q2]; decide)) (fun q2 => Wp.ite (fun q3 => y (by rw [q3]; decide)) (fun q3 => Wp.ite (fun q4 => y (by rw [q4]; decide)) (fun q4 => Wp.ite (fun q5 => y (by rw [q5]; decide)) (fun q5 => Wp.z (Or.inl rfl) (Wp.ret ⟨rfl, Or.inr ⟨rfl, fun k => ?_⟩⟩))))))))
  rcases k with k | k | k | k | k
  · exact q k
  · exact q2 k
  · exact q3 k
  · exact q4 k
  · exact q5 k
/-- only the reader's token is another -/
def FR (D D1 : ADD) : Prop := (∀ c, c ≠ 33 → D1.1 c = D.1 c) ∧ (∀ i, i ≠ 5 → i ≠ 6 → i ≠ 7 → D1.1 33 i = D.1 33 i) ∧ D1.2 = D.2
theorem FR.refl (D : ADD) : FR D D := ⟨fun _ _ => rfl, fun _ _ _ _ => rfl, rfl⟩
theorem FR.trans {D2 : ADD} (h : FR D D1) (k : FR D1 D2) : FR D D2 := ⟨fun c hc => (k.1 c hc).trans (h.1 c hc), fun i a b c => (k.2.1 i a b c).trans (h.2.1 i a b c), k.2.2.trans h.2.2⟩
theorem FR.si {i : Nat} {v : Int32} (h : FR D D1) (hi : i = 5 ∨ i = 6 ∨ i = 7) : FR D (aSI D1 33 i v) := by
  refine ⟨fun c hc => by rw [si_o hc, h.1 c hc], fun j a b c => ?_, h.2.2⟩
  rw [si_s, if_neg (by omega), h.2.1 j a b c]
theorem FR.tp (f : FR D D1) (h : TpX D B n) : TpX D1 B n := by
  unfold TpX
  rw [f.1 11 (by decide), f.1 12 (by decide)]
  exact h
def AdX (B : Nat → Int32) (p : Nat) (D D1 : ADD) : Prop := ∃ (s e : Nat) (k : Int32), RunTo blk B p s ∧ Tok B s e k ∧ (D1.1 33 6 = nI s ∧ D1.1 33 7 = nI e ∧ D1.1 33 5 = k) ∧ FR D D1
theorem bX_advance {p : Nat} (t : TB B n) (h : TpX D B n) (hp : D.1 33 7 = nI p) (hn : p ≤ n) : Wp (fX5_advance D) (fun _ D1 => AdX B p D D1) := by
  unfold fX5_advance
  have t1 := t.1
  have e5 : (500 : Int32).toInt = 500 := by decide
  have vi : ∀ j, j ≤ 501 → (nI j).toInt = (j : Int) := fun j hj => nI_toInt (by omega)
  have vc : ∀ j, j ≤ 501 → (nI j).toNatClampNeg = j := fun j hj => nI_clamp (by omega)
  refine Wp.lets (Wp.letQ (fun Q j => ∀ D2 s, FR D D2 → D2.1 33 6 = nI s → RunTo blk B p s → Wp (j D2) Q) (fun D2 s f2 h6 hs => ?_) (fun j K => Wp.lets ?_))
  · have hsn : s ≤ n := t.run nb_blk hs hn
    refine Wp.bindE (eX_byteAt t (f2.tp h) (by rw [h6, vi s (by omega)]; omega)) ?_
    rw [h6, vc s (by omega)]
    refine Wp.leti (fun D4 e4 => ?_)
    have f4 : FR D D4 := by rw [e4]; exact f2.si (by omega)
    have h46 : D4.1 33 6 = nI s := by rw [e4, si_s, if_neg (by decide)]; exact h6
    have h47 : D4.1 33 7 = nI s := by rw [e4, si_s, if_pos rfl]
    clear e4
    refine Wp.bindE (eX_isLetter _) ?_
    refine Wp.letQ (fun Q j => ∀ D6, AdX B p D D6 → Wp (j D6) Q) (fun D6 r6 => Wp.ret r6) (fun j1 K1 => Wp.letQ (fun Q j => ∀ D6 e, FR D D6 → D6.1 33 6 = nI s → D6.1 33 7 = nI e → ltr (B s) → RunTo ltr B s e → Wp (j D6) Q) (fun D6 e f6 g6 g7 l r => Wp.lets (K1 _ ⟨s, e, 1, hs, Or.inl ⟨l, r, rfl⟩, ⟨?_, ?_, ?_⟩, f6.si (by omega)⟩)) (fun j2 K2 => Wp.lets ?_))
    · rw [si_s, if_neg (by decide)]; exact g6
    · rw [si_s, if_neg (by decide)]; exact g7
    · rw [si_s, if_pos rfl]
    by_cases hl : ltr (B s)
    · rw [if_pos hl]
      refine Wp.neg (by decide) ?_
      refine Wp.fix0 (fun m D' => FR D D' ∧ D'.1 33 6 = nI s ∧ ∃ q : Nat, D'.1 33 7 = nI q ∧ (s ≤ q ∧ q ≤ n) ∧ (∀ j, s ≤ j → j < q → ltr (B j)) ∧ 501 < m + q) ?_ ?_ aFuel 1000000 _ (Nat.le_refl _) ⟨f4, h46, s, h47, by omega, fun j a b => by omega, by omega⟩
      · intro m g hg D' hI
        obtain ⟨i1, i2, q, i3, i4, i5, i6⟩ := hI
        unfold lX5_advance_75
        have iq := vi q (by omega)
        rw [i3]
        refine Wp.ile (fun q5 => K2 D' q i1 i2 i3 hl ⟨i4.1, i5, ?_⟩) (fun q5 => Wp.bindE (eX_byteAt t (i1.tp h) (by omega)) ?_)
        · rw [t.2.1 q (by omega)]
          exact nb_ltr
        · rw [vc q (by omega)]
          refine Wp.bindE (eX_isLetter _) ?_
          by_cases hq : ltr (B q)
          · rw [if_pos hq]
            have := t.lt (ltr_m1 hq)
            refine Wp.neg (by decide) (Wp.lets (hg _ ⟨i1.si (by omega), by rw [si_s, if_neg (by decide)]; exact i2, q + 1, ?_, by omega, fun j a b => ?_, by omega⟩))
            · rw [si_s, if_pos rfl, i3, nI_succ]
            · by_cases e : j = q
              · rw [e]; exact hq
              · exact i5 j a (by omega)
          · rw [if_neg hq]
            exact Wp.pos rfl (K2 D' q i1 i2 i3 hl ⟨i4.1, i5, hq⟩)
      · intro D' hI
        obtain ⟨-, -, q, -, i4, -, i6⟩ := hI
        omega
    · rw [if_neg hl]
      refine Wp.pos rfl (Wp.bindE (eX_isDigit _) ?_)
      refine Wp.letQ (fun Q j => ∀ D6 e, FR D D6 → D6.1 33 6 = nI s → D6.1 33 7 = nI e → e ≤ n → dig (B s) → RunTo dig B s e → Wp (j D6) Q) (fun D6 e f6 g6 g7 en l r => ?_) (fun j3 K3 => Wp.lets ?_)
      · have g1 := r.1
        have e4 : (4 : Int32).toInt = 4 := by decide
        have es : (D6.1 33 7 - D6.1 33 6).toInt = (e : Int) - s := by
          rw [g6, g7]
          exact ti_sub (vi e (by omega)) (vi s (by omega)) (by omega) (by omega)
        refine Wp.lets (Wp.ilt (fun q => Wp.lets (K1 _ ⟨s, e, 4, hs, Or.inr (Or.inl ⟨l, r, (if_neg (by omega)).symm⟩), ⟨?_, ?_, ?_⟩, f6.si (by omega)⟩)) (fun q => Wp.lets (K1 _ ⟨s, e, 2, hs, Or.inr (Or.inl ⟨l, r, (if_pos (by omega)).symm⟩), ⟨?_, ?_, ?_⟩, f6.si (by omega)⟩)))
        · rw [si_s, if_neg (by decide)]; exact g6
        · rw [si_s, if_neg (by decide)]; exact g7
        · rw [si_s, if_pos rfl]
        · rw [si_s, if_neg (by decide)]; exact g6
        · rw [si_s, if_neg (by decide)]; exact g7
        · rw [si_s, if_pos rfl]
      by_cases hd : dig (B s)
      · rw [if_pos hd]
        refine Wp.neg (by decide) ?_
        refine Wp.fix0 (fun m D' => FR D D' ∧ D'.1 33 6 = nI s ∧ ∃ q : Nat, D'.1 33 7 = nI q ∧ (s ≤ q ∧ q ≤ n) ∧ (∀ j, s ≤ j → j < q → dig (B j)) ∧ 501 < m + q) ?_ ?_ aFuel 1000000 _ (Nat.le_refl _) ⟨f4, h46, s, h47, by omega, fun j a b => by omega, by omega⟩
        · intro m g hg D' hI
          obtain ⟨i1, i2, q, i3, i4, i5, i6⟩ := hI
          unfold lX5_advance_130
          have iq := vi q (by omega)
          rw [i3]
          refine Wp.ile (fun q5 => K3 D' q i1 i2 i3 i4.2 hd ⟨i4.1, i5, ?_⟩) (fun q5 => Wp.bindE (eX_byteAt t (i1.tp h) (by omega)) ?_)
          · rw [t.2.1 q (by omega)]
            exact nb_dig
          · rw [vc q (by omega)]
            refine Wp.bindE (eX_isDigit _) ?_
            by_cases hq : dig (B q)
            · rw [if_pos hq]
              have := t.lt (dig_m1 hq)
              refine Wp.neg (by decide) (Wp.lets (hg _ ⟨i1.si (by omega), by rw [si_s, if_neg (by decide)]; exact i2, q + 1, ?_, by omega, fun j a b => ?_, by omega⟩))
              · rw [si_s, if_pos rfl, i3, nI_succ]
              · by_cases e : j = q
                · rw [e]; exact hq
                · exact i5 j a (by omega)
            · rw [if_neg hq]
              exact Wp.pos rfl (K3 D' q i1 i2 i3 i4.2 hd ⟨i4.1, i5, hq⟩)
        · intro D' hI
          obtain ⟨-, -, q, -, i4, -, i6⟩ := hI
          omega
      · rw [if_neg hd]
        refine Wp.pos rfl (Wp.ite (fun q => Wp.lets (K1 _ ⟨s, s, 0, hs, Or.inr (Or.inr (Or.inl ⟨q, rfl, rfl⟩)), ⟨?_, ?_, ?_⟩, f4.si (by omega)⟩)) (fun q => ?_))
        · rw [si_s, if_neg (by decide)]; exact h46
        · rw [si_s, if_neg (by decide)]; exact h47
        · rw [si_s, if_pos rfl]
        refine Wp.leti (fun D7 e7 => ?_)
        have f7 : FR D D7 := by rw [e7]; exact f4.si (by omega)
        have h76 : D7.1 33 6 = nI s := by rw [e7, si_s, if_neg (by decide)]; exact h46
        have h77 : D7.1 33 7 = nI (s + 1) := by rw [e7, si_s, if_pos rfl, h47, nI_succ]
        refine Wp.bindE (eX_isSignByte _) (Wp.lets ?_)
        by_cases hg : sgn (B s)
        · rw [if_pos hg]
          refine Wp.neg (by decide) (Wp.lets (K1 _ ⟨s, s + 1, 3, hs, Or.inr (Or.inr (Or.inr ⟨⟨hl, hd, q⟩, rfl, (if_pos hg).symm⟩)), ⟨?_, ?_, ?_⟩, f7.si (by omega)⟩))
          · rw [si_s, if_neg (by decide)]; exact h76
          · rw [si_s, if_neg (by decide)]; exact h77
          · rw [si_s, if_pos rfl]
        · rw [if_neg hg]
          refine Wp.pos rfl (Wp.lets (K1 _ ⟨s, s + 1, 4, hs, Or.inr (Or.inr (Or.inr ⟨⟨hl, hd, q⟩, rfl, (if_neg hg).symm⟩)), ⟨?_, ?_, ?_⟩, f7.si (by omega)⟩))
          · rw [si_s, if_neg (by decide)]; exact h76
          · rw [si_s, if_neg (by decide)]; exact h77
          · rw [si_s, if_pos rfl]
  · refine Wp.fix0 (fun m D' => FR D D' ∧ ∃ q : Nat, D'.1 33 6 = nI q ∧ (p ≤ q ∧ q ≤ n) ∧ (∀ j, p ≤ j → j < q → blk (B j)) ∧ 501 < m + q) ?_ ?_ aFuel 1000000 _ (Nat.le_refl _) ⟨(FR.refl D).si (by omega), p, by rw [si_s, if_pos rfl, hp], by omega, fun j a b => by omega, by omega⟩
    · intro m g hg D' hI
      obtain ⟨i1, q, i3, i4, i5, i6⟩ := hI
      unfold lX5_advance_8
      have iq := vi q (by omega)
      rw [i3]
      refine Wp.ile (fun q5 => K D' q i1 i3 ⟨i4.1, i5, ?_⟩) (fun q5 => Wp.bindE (eX_byteAt t (i1.tp h) (by omega)) ?_)
      · rw [t.2.1 q (by omega)]
        exact nb_blk
      · rw [vc q (by omega)]
        refine Wp.bindE (eX_isBlank _) ?_
        by_cases hq : blk (B q)
        · rw [if_pos hq]
          have : q < n := t.lt (fun e => by rw [e] at hq; exact nb_blk hq)
          refine Wp.neg (by decide) (Wp.lets (hg _ ⟨i1.si (by omega), q + 1, ?_, by omega, fun j a b => ?_, by omega⟩))
          · rw [si_s, if_pos rfl, i3, nI_succ]
          · by_cases e : j = q
            · rw [e]; exact hq
            · exact i5 j a (by omega)
        · rw [if_neg hq]
          exact Wp.pos rfl (K D' q i1 i3 ⟨i4.1, i5, hq⟩)
    · intro D' hI
      obtain ⟨-, q, -, i4, -, i6⟩ := hI
      omega
end TKs
end
section
/-! the reference's next token -/
def srt (k : Int32) : Int32 := if k = 0 then 0 else if k = 1 then 2 else if k = 2 then 3 else if k = 3 then 4 else 1
def pkL (B : Nat → Int32) (s : Nat) : Nat → Int64
  | 0 => 0
  | m + 1 => (pkL B s m <<< ((8 : Int32).toInt64 &&& 63)) ||| (B (s + m)).toInt64
def nmF (B : Nat → Int32) (s : Nat) : Nat → Int32
  | 0 => 0
  | m + 1 => 10 * nmF B s m + B (s + m) - 48
def Ctn (B : Nat → Int32) (s e : Nat) (k : Int32) (E : ADD) : Prop := (k = 1 → E.2 0 28 = if e - s ≤ 8 then pkL B s (e - s) else 0) ∧ (k = 2 → E.1 0 27 = nmF B s (e - s)) ∧ (k = 3 → E.1 0 27 = B s)
def FN (E E1 : ADD) : Prop := (∀ c, c ≠ 0 → E1.1 c = E.1 c) ∧ ∀ i, i ≠ 23 → i ≠ 25 → i ≠ 26 → i ≠ 27 → E1.1 0 i = E.1 0 i
section NXs
variable {E E1 : ADD} {B : Nat → Int32} {n : Nat}
theorem FN.refl (E : ADD) : FN E E := ⟨fun _ _ => rfl, fun _ _ _ _ _ => rfl⟩
theorem FN.trans {E2 : ADD} (h : FN E E1) (k : FN E1 E2) : FN E E2 := ⟨fun c hc => (k.1 c hc).trans (h.1 c hc), fun i a b c d => (k.2 i a b c d).trans (h.2 i a b c d)⟩
theorem FN.si {i : Nat} {v : Int32} (h : FN E E1) (hi : i = 23 ∨ i = 25 ∨ i = 26 ∨ i = 27) : FN E (aSI E1 0 i v) := by
  refine ⟨fun c hc => by rw [si_o hc, h.1 c hc], fun j a b c d => ?_⟩
  rw [si_s, if_neg (by omega), h.2 j a b c d]
theorem FN.sl {c i : Nat} {v : Int64} (h : FN E E1) : FN E (aSL E1 c i v) := h
theorem FN.tp (f : FN E E1) (h : TpM E B n) : TpM E1 B n := by
  unfold TpM
  rw [f.1 1 (by decide), f.2 24 (by decide) (by decide) (by decide) (by decide)]
  exact h
theorem eM_isL (a : Int32) : fX11_is a 97 122 E = some (if ltr a then 1 else 0, E) := by
  have := eM_is a 97 122 E
  have l : (97 : Int32).toInt = 97 := by decide
  have u : (122 : Int32).toInt = 122 := by decide
  rw [l, u] at this
  exact this
theorem eM_isD (a : Int32) : fX11_is a 48 57 E = some (if dig a then 1 else 0, E) := by
  have := eM_is a 48 57 E
  have l : (48 : Int32).toInt = 48 := by decide
  have u : (57 : Int32).toInt = 57 := by decide
  rw [l, u] at this
  exact this
def NxM (B : Nat → Int32) (p : Nat) (E E1 : ADD) : Prop := ∃ (s e : Nat) (k : Int32), RunTo blk B p s ∧ Tok B s e k ∧ (E1.1 0 25 = nI s ∧ E1.1 0 23 = nI e ∧ E1.1 0 26 = srt k) ∧ Ctn B s e k E1 ∧ FN E E1
theorem bM_next {p : Nat} (t : TB B n) (h : TpM E B n) (hp : E.1 0 23 = nI p) (hn : p ≤ n) : Wp (fX11_next E) (fun _ E1 => NxM B p E E1) := by
  unfold fX11_next
  have t1 := t.1
  have vi : ∀ j, j ≤ 501 → (nI j).toInt = (j : Int) := fun j hj => nI_toInt (by omega)
  have vc : ∀ j, j ≤ 501 → (nI j).toNatClampNeg = j := fun j hj => nI_clamp (by omega)
  refine Wp.lets ?_
  refine Wp.fix0 (fun m D' => FN E D' ∧ ∃ q : Nat, D'.1 0 23 = nI q ∧ (p ≤ q ∧ q ≤ n) ∧ (∀ j, p ≤ j → j < q → blk (B j)) ∧ 501 < m + q) ?_ ?_ aFuel 1000000 _ (Nat.le_refl _) ⟨FN.refl E, p, hp, by omega, fun j a b => by omega, by omega⟩
  rotate_left
  · intro D' hI
    obtain ⟨-, q, -, i4, -, i6⟩ := hI
    omega
  intro m g hg D' hI
  obtain ⟨i1, s, i3, i4, i5, i6⟩ := hI
  unfold lX11_next_0
  have iq := vi s (by omega)
  have see : ∀ D2, FN E D2 → D2.1 0 23 = nI s → fX11_see D2 = some (B s, D2) := fun D2 f2 e2 => by
    rw [eM_see2 t (f2.tp h) (by rw [e2, iq]; omega), e2, vc s (by omega)]
  refine Wp.bindE (see D' i1 i3) ?_
  refine Wp.letQ (fun Q j => blk (B s) → Wp (j D') Q) (fun hq => ?_) (fun j K => ?_)
  · have : s < n := t.lt (fun e => by rw [e] at hq; exact nb_blk hq)
    refine Wp.lets (hg _ ⟨i1.si (by omega), s + 1, ?_, by omega, fun j a b => ?_, by omega⟩)
    · rw [si_s, if_pos rfl, i3, nI_succ]
    · by_cases e : j = s
      · rw [e]; exact hq
      · exact i5 j a (by omega)
  refine Wp.ite (fun q => K (Or.inl q)) (fun q1 => Wp.bindE (see D' i1 i3) (Wp.ite (fun q => K (Or.inr q)) (fun q2 => ?_)))
  have hs : RunTo blk B p s := ⟨i4.1, i5, fun k => k.elim q1 q2⟩
  clear K
  refine Wp.leti (fun D6 e6 => ?_)
  have f6 : FN E D6 := by rw [e6]; exact i1.si (by omega)
  have h625 : D6.1 0 25 = nI s := by rw [e6, si_s, if_pos rfl, i3]
  have h623 : D6.1 0 23 = nI s := by rw [e6, si_s, if_neg (by decide)]; exact i3
  clear e6
  refine Wp.bindE (see D6 f6 h623) (Wp.leti (fun D8 e8 => Wp.leti (fun D9 e9 => ?_)))
  have f9 : FN E D9 := by rw [e9, e8]; exact (f6.si (by omega)).sl
  have h925 : D9.1 0 25 = nI s := by rw [e9, e8]; show (aSI D6 0 27 (B s)).1 0 25 = _; rw [si_s, if_neg (by decide)]; exact h625
  have h923 : D9.1 0 23 = nI s := by rw [e9, e8]; show (aSI D6 0 27 (B s)).1 0 23 = _; rw [si_s, if_neg (by decide)]; exact h623
  have h927 : D9.1 0 27 = B s := by rw [e9, e8]; show (aSI D6 0 27 (B s)).1 0 27 = _; rw [si_s, if_pos rfl]
  have h928 : D9.2 0 28 = 0 := by rw [e9]; simp [aSL]
  clear e8 e9
  refine Wp.letQ (fun Q j => ∀ D10, NxM B p E D10 → Wp (j D10) Q) (fun D10 r => Wp.ret r) (fun j K => ?_)
  refine Wp.ile (fun hx => Wp.bindE (eM_isL _) ?_) (fun hx => Wp.lets (K _ ⟨s, s, 0, hs, Or.inr (Or.inr (Or.inl ⟨?_, rfl, rfl⟩)), ⟨?_, ?_, ?_⟩, ⟨fun k => absurd k (by decide), fun k => absurd k (by decide), fun k => absurd k (by decide)⟩, f9.si (by omega)⟩))
  rotate_left
  · false_or_by_contra
    rename_i hne
    have := t.2.2 s (t.lt hne)
    rw [ti_0] at hx
    omega
  · rw [si_s, if_neg (by decide)]; exact h925
  · rw [si_s, if_neg (by decide)]; exact h923
  · rw [si_s, if_pos rfl]; rfl
  rw [ti_0] at hx
  have nm1 : B s ≠ -1 := fun e => by rw [e, ti_m1] at hx; omega
  have sn := t.lt nm1
  refine Wp.letQ (fun Q j => ∀ (x : Int32) D12 (e : Nat), FN E D12 → D12.1 0 25 = nI s → D12.1 0 23 = nI e → e ≤ n → x = nI (e - s) → D12.2 0 28 = pkL B s (e - s) → ltr (B s) → RunTo ltr B s e → Wp (j x D12) Q) (fun x D12 e f12 a1 a2 a3 a4 a5 a6 a7 => ?_) (fun j2 K2 => Wp.lets ?_)
  · have e8 : (8 : Int32).toInt = 8 := by decide
    have g1 := a7.1
    have ex : x.toInt = ((e - s : Nat) : Int) := by rw [a4]; exact vi _ (by omega)
    refine Wp.lets (Wp.ile (fun q => Wp.lets (Wp.lets (K _ ⟨s, e, 1, hs, Or.inl ⟨a6, a7, rfl⟩, ⟨?_, ?_, ?_⟩, ⟨fun _ => ?_, fun k => absurd k (by decide), fun k => absurd k (by decide)⟩, (f12.sl).si (by omega)⟩))) (fun q => Wp.lets (Wp.lets (K _ ⟨s, e, 1, hs, Or.inl ⟨a6, a7, rfl⟩, ⟨?_, ?_, ?_⟩, ⟨fun _ => ?_, fun k => absurd k (by decide), fun k => absurd k (by decide)⟩, (f12.sl).si (by omega)⟩))))
    · rw [si_s, if_neg (by decide)]; exact a1
    · rw [si_s, if_neg (by decide)]; exact a2
    · rw [si_s, if_pos rfl]; rfl
    · rw [if_pos (by omega)]
      show (aSL D12 0 28 (D12.2 0 28)).2 0 28 = _
      simp [aSL, a5]
    · rw [si_s, if_neg (by decide)]; exact a1
    · rw [si_s, if_neg (by decide)]; exact a2
    · rw [si_s, if_pos rfl]; rfl
    · rw [if_neg (by omega)]
      show (aSL D12 0 28 0).2 0 28 = _
      simp [aSL]
  by_cases hl : ltr (B s)
  · rw [if_pos hl]
    refine Wp.neg (by decide) ?_
    refine Wp.fix1 (fun m x D' => FN E D' ∧ D'.1 0 25 = nI s ∧ ∃ q : Nat, (D'.1 0 23 = nI q ∧ x = nI (q - s) ∧ D'.2 0 28 = pkL B s (q - s)) ∧ (s ≤ q ∧ q ≤ n) ∧ (∀ j, s ≤ j → j < q → ltr (B j)) ∧ 501 < m + q) ?_ ?_ aFuel 1000000 _ _ (Nat.le_refl _) ⟨f9, h925, s, ⟨h923, by rw [Nat.sub_self]; rfl, by rw [Nat.sub_self]; exact h928⟩, by omega, fun j a b => by omega, by omega⟩
    · intro m g hg x D' hI
      obtain ⟨i1, i2, q, ⟨i3, i7, i8⟩, i4, i5, i6⟩ := hI
      unfold lX11_next_79
      have iq := vi q (by omega)
      have seq : fX11_see D' = some (B q, D') := by rw [eM_see2 t (i1.tp h) (by rw [i3, iq]; omega), i3, vc q (by omega)]
      refine Wp.bindE seq (Wp.bindE (eM_isL _) ?_)
      by_cases hq : ltr (B q)
      · rw [if_pos hq]
        have := t.lt (ltr_m1 hq)
        refine Wp.neg (by decide) (Wp.bindE seq (Wp.lets (Wp.lets (Wp.lets (hg _ _ ⟨(i1.sl).si (by omega), ?_, q + 1, ⟨?_, ?_, ?_⟩, by omega, fun j a b => ?_, by omega⟩)))))
        · rw [si_s, if_neg (by decide)]; exact i2
        · rw [si_s, if_pos rfl]
          show D'.1 0 23 + 1 = _
          rw [i3, nI_succ]
        · rw [i7, show q + 1 - s = (q - s) + 1 by omega, nI_succ]
        · show (aSL D' 0 28 _).2 0 28 = _
          rw [show q + 1 - s = (q - s) + 1 by omega]
          show (aSL D' 0 28 _).2 0 28 = (pkL B s (q - s) <<< ((8 : Int32).toInt64 &&& 63)) ||| (B (s + (q - s))).toInt64
          rw [show s + (q - s) = q by omega, ← i8]
          simp [aSL]
        · by_cases e : j = q
          · rw [e]; exact hq
          · exact i5 j a (by omega)
      · rw [if_neg hq]
        exact Wp.pos rfl (K2 x D' q i1 i2 i3 i4.2 i7 i8 hl ⟨i4.1, i5, hq⟩)
    · intro x D' hI
      obtain ⟨-, -, q, -, i4, -, i6⟩ := hI
      omega
  · rw [if_neg hl]
    refine Wp.pos rfl (Wp.bindE (eM_isD _) ?_)
    by_cases hd : dig (B s)
    · rw [if_pos hd]
      refine Wp.neg (by decide) (Wp.leti (fun D27 e27 => ?_))
      have f27 : FN E D27 := by rw [e27]; exact f9.si (by omega)
      have a25 : D27.1 0 25 = nI s := by rw [e27, si_s, if_neg (by decide)]; exact h925
      have a23 : D27.1 0 23 = nI s := by rw [e27, si_s, if_neg (by decide)]; exact h923
      have a27 : D27.1 0 27 = 0 := by rw [e27, si_s, if_pos rfl]
      clear e27
      refine Wp.letQ (fun Q j => ∀ (x : Int32) D12 (e : Nat), FN E D12 → D12.1 0 25 = nI s → D12.1 0 23 = nI e → e ≤ n → x = nI (e - s) → (e - s ≤ 4 → D12.1 0 27 = nmF B s (e - s)) → RunTo dig B s e → Wp (j x D12) Q) (fun x D12 e f12 a1 a2 a3 a4 a5 a7 => ?_) (fun j3 K3 => Wp.lets ?_)
      · have e4 : (4 : Int32).toInt = 4 := by decide
        have g1 := a7.1
        have ex : x.toInt = ((e - s : Nat) : Int) := by rw [a4]; exact vi _ (by omega)
        refine Wp.lets (Wp.ile (fun q => Wp.lets (K _ ⟨s, e, 2, hs, Or.inr (Or.inl ⟨hd, a7, (if_pos (by omega)).symm⟩), ⟨?_, ?_, ?_⟩, ⟨fun k => absurd k (by decide), fun _ => ?_, fun k => absurd k (by decide)⟩, f12.si (by omega)⟩)) (fun q => Wp.lets (K _ ⟨s, e, 4, hs, Or.inr (Or.inl ⟨hd, a7, (if_neg (by omega)).symm⟩), ⟨?_, ?_, ?_⟩, ⟨fun k => absurd k (by decide), fun k => absurd k (by decide), fun k => absurd k (by decide)⟩, f12.si (by omega)⟩)))
        · rw [si_s, if_neg (by decide)]; exact a1
        · rw [si_s, if_neg (by decide)]; exact a2
        · rw [si_s, if_pos rfl]; rfl
        · rw [si_s, if_neg (by decide)]; exact a5 (by omega)
        · rw [si_s, if_neg (by decide)]; exact a1
        · rw [si_s, if_neg (by decide)]; exact a2
        · rw [si_s, if_pos rfl]; rfl
      · refine Wp.fix1 (fun m x D' => FN E D' ∧ D'.1 0 25 = nI s ∧ ∃ q : Nat, (D'.1 0 23 = nI q ∧ x = nI (q - s) ∧ (q - s ≤ 4 → D'.1 0 27 = nmF B s (q - s))) ∧ (s ≤ q ∧ q ≤ n) ∧ (∀ j, s ≤ j → j < q → dig (B j)) ∧ 501 < m + q) ?_ ?_ aFuel 1000000 _ _ (Nat.le_refl _) ⟨f27, a25, s, ⟨a23, by rw [Nat.sub_self]; rfl, fun _ => by rw [Nat.sub_self]; exact a27⟩, by omega, fun j a b => by omega, by omega⟩
        · intro m g hg x D' hI
          obtain ⟨i1, i2, q, ⟨i3, i7, i8⟩, i4, i5, i6⟩ := hI
          unfold lX11_next_168
          have iq := vi q (by omega)
          have seq : fX11_see D' = some (B q, D') := by rw [eM_see2 t (i1.tp h) (by rw [i3, iq]; omega), i3, vc q (by omega)]
          refine Wp.bindE seq (Wp.bindE (eM_isD _) ?_)
          by_cases hq : dig (B q)
          · rw [if_pos hq]
            have := t.lt (dig_m1 hq)
            have e4 : (4 : Int32).toInt = 4 := by decide
            have ex : x.toInt = ((q - s : Nat) : Int) := by rw [i7]; exact vi _ (by omega)
            refine Wp.neg (by decide) (Wp.letQ (fun Q j => ∀ y : Int32, (q + 1 - s ≤ 4 → y = nmF B s (q + 1 - s)) → Wp (j y D') Q) (fun y hy => ?_) (fun j K4 => Wp.ile (fun q4 => K4 _ (fun k => by omega)) (fun q4 => Wp.bindE seq (K4 _ (fun k => ?_)))))
            · refine Wp.lets (Wp.lets (Wp.lets (hg _ _ ⟨(i1.si (by omega)).si (by omega), ?_, q + 1, ⟨?_, ?_, fun k => ?_⟩, by omega, fun j a b => ?_, by omega⟩)))
              · rw [si_s, if_neg (by decide), si_s, if_neg (by decide)]; exact i2
              · rw [si_s, if_pos rfl, si_s, if_neg (by decide), i3, nI_succ]
              · rw [i7, show q + 1 - s = (q - s) + 1 by omega, nI_succ]
              · rw [si_s, if_neg (by decide), si_s, if_pos rfl]; exact hy k
              · by_cases e : j = q
                · rw [e]; exact hq
                · exact i5 j a (by omega)
            · rw [i8 (by omega), show q + 1 - s = (q - s) + 1 by omega]
              show _ = 10 * nmF B s (q - s) + B (s + (q - s)) - 48
              rw [show s + (q - s) = q by omega]
          · rw [if_neg hq]
            exact Wp.pos rfl (K3 x D' q i1 i2 i3 i4.2 i7 i8 ⟨i4.1, i5, hq⟩)
        · intro x D' hI
          obtain ⟨-, -, q, -, i4, -, i6⟩ := hI
          omega
    · rw [if_neg hd]
      refine Wp.pos rfl (Wp.leti (fun D23 e23 => ?_))
      have f23 : FN E D23 := by rw [e23]; exact f9.si (by omega)
      have a25 : D23.1 0 25 = nI s := by rw [e23, si_s, if_neg (by decide)]; exact h925
      have a23 : D23.1 0 23 = nI (s + 1) := by rw [e23, si_s, if_pos rfl, h923, nI_succ]
      have a27 : D23.1 0 27 = B s := by rw [e23, si_s, if_neg (by decide)]; exact h927
      clear e23
      have T : ∀ k, (k = if sgn (B s) then 3 else 4) → Tok B s (s + 1) k := fun k hk => Or.inr (Or.inr (Or.inr ⟨⟨hl, hd, nm1⟩, rfl, hk⟩))
      have fin : ∀ (x k : Int32), (k = if sgn (B s) then 3 else 4) → x = srt k → (k ≠ 1 ∧ k ≠ 2) → Wp (aLet (aSI D23 0 26 x) (fun D25 => j D25)) (fun _ E1 => NxM B p E E1) := fun x k hk hx hn => by
        refine Wp.lets (K _ ⟨s, s + 1, k, hs, T k hk, ⟨?_, ?_, ?_⟩, ⟨fun q => absurd q hn.1, fun q => absurd q hn.2, fun _ => ?_⟩, f23.si (by omega)⟩)
        · rw [si_s, if_neg (by decide)]; exact a25
        · rw [si_s, if_neg (by decide)]; exact a23
        · rw [si_s, if_pos rfl]; exact hx
        · rw [si_s, if_neg (by decide)]; exact a27
      have yes : sgn (B s) → Wp (aLet (aSI D23 0 26 4) (fun D25 => j D25)) (fun _ E1 => NxM B p E E1) := fun hg => fin 4 3 (if_pos hg).symm rfl (by decide)
      refine Wp.lets (Wp.lets (Wp.ite (fun q => yes (by rw [q]; decide)) (fun q1 => Wp.ite (fun q => yes (by rw [q]; decide)) (fun q2 => Wp.ite (fun q => yes (by rw [q]; decide)) (fun q3 => Wp.ite (fun q => yes (by rw [q]; decide)) (fun q4 => Wp.ite (fun q => yes (by rw [q]; decide)) (fun q5 => fin 1 4 (if_neg ?_).symm rfl (by decide))))))))
      intro k
      rcases k with k | k | k | k | k
      · exact q1 k
      · exact q2 k
      · exact q3 k
      · exact q4 k
      · exact q5 k
end NXs
end
