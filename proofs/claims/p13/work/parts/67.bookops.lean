/-! the reference's book by its slot -/
def trB (M : Sl) : Sl := fun c i => if 5 ≤ c ∧ c ≤ 10 then M c i else 0
abbrev mB (E : ADD) : Sl := trB (slM E 0)
theorem trB_fr {M M1 : Sl} (h : ∀ c, 5 ≤ c → c ≤ 10 → M1 c = M c) : trB M1 = trB M := by
  funext c i
  unfold trB
  by_cases hc : 5 ≤ c ∧ c ≤ 10
  · rw [if_pos hc, if_pos hc, h c hc.1 hc.2]
  · rw [if_neg hc, if_neg hc]
theorem sm0 {E : ADD} {c i : Nat} (h : c ≠ 1) (hi : i < szM c) : slM E 0 c i = E.1 c i := by
  unfold slM
  rw [if_pos hi, if_neg h, Nat.mul_zero, Nat.zero_add]
theorem smO {E : ADD} {t c i : Nat} (hi : szM c ≤ i) : slM E t c i = 0 := if_neg (by omega)
theorem smF {E E1 : ADD} {c : Nat} (h : E1.1 c = E.1 c) : slM E1 0 c = slM E 0 c := by
  funext i
  unfold slM
  by_cases h1 : c = 1
  · subst h1
    rw [h]
  · rw [if_neg h1, if_neg h1, h]
section MBs
variable {E E1 : ADD}
theorem mB_at {c i : Nat} (h : 5 ≤ c ∧ c ≤ 10) (hi : i < szM c) : mB E c i = E.1 c i := by
  show (if 5 ≤ c ∧ c ≤ 10 then slM E 0 c i else 0) = _
  rw [if_pos h, sm0 (by omega) hi]
theorem mB_out {c i : Nat} (hi : szM c ≤ i) : mB E c i = 0 := by
  show (if 5 ≤ c ∧ c ≤ 10 then slM E 0 c i else 0) = _
  rw [smO hi]
  split <;> rfl
theorem mB_fr {c : Nat} (h : 5 ≤ c → c ≤ 10 → E1.1 c = E.1 c) : mB E1 c = mB E c := by
  funext i
  show (if 5 ≤ c ∧ c ≤ 10 then slM E1 0 c i else 0) = if 5 ≤ c ∧ c ≤ 10 then slM E 0 c i else 0
  by_cases hc : 5 ≤ c ∧ c ≤ 10
  · rw [if_pos hc, if_pos hc, smF (h hc.1 hc.2)]
  · rw [if_neg hc, if_neg hc]
theorem mB5 : mB E 5 0 = E.1 5 0 := mB_at (by decide) (by decide)
theorem mB6 : mB E 6 0 = E.1 6 0 := mB_at (by decide) (by decide)
theorem mB7 : mB E 7 0 = E.1 7 0 := mB_at (by decide) (by decide)
theorem mB8 : mB E 8 0 = E.1 8 0 := mB_at (by decide) (by decide)
theorem mB9 {j : Nat} (h : j < 1600) : mB E 9 j = E.1 9 j := mB_at (by decide) h
theorem mB10 {j : Nat} (h : j < 96) : mB E 10 j = E.1 10 j := mB_at (by decide) h
theorem mBn : nE (mB E) = (E.1 8 0).toNatClampNeg := by show (mB E 8 0).toNatClampNeg = _; rw [mB8]
theorem mBs : nS (mB E) = (E.1 5 0).toNatClampNeg := by show (mB E 5 0).toNatClampNeg = _; rw [mB5]
theorem WrM.sl {s f v : Int32} (w : WrM E E1 s f v) (h : 0 ≤ (E.1 8 0).toInt ∧ (E.1 8 0).toInt < 400) : WrS (mB E) (mB E1) s f v ∧ NwM E E1 := by
  obtain ⟨w1, w2, w3, w4⟩ := w
  have en := cl_i h.1
  refine ⟨⟨fun c a b => mB_fr (fun _ _ => w1 c a b), by rw [mB8, mB8, w3 0, if_pos rfl], fun j => ?_⟩, fun c i h1 h2 h3 => ?_⟩
  · rw [mBn, mB6]
    by_cases hj : j < 1600
    · rw [mB9 hj, mB9 hj, w4 j]
    · rw [mB_out (c := 9) (i := j) (by show 1600 ≤ j; omega), if_neg (by omega), if_neg (by omega), if_neg (by omega), if_neg (by omega), mB_out (c := 9) (i := j) (by show 1600 ≤ j; omega)]
  · by_cases e8 : c = 8
    · subst e8
      have h3 : 1 ≤ i := h3
      rw [w3 i, if_neg (by omega)]
    · by_cases e9 : c = 9
      · subst e9
        have h3 : 1600 ≤ i := h3
        rw [w4 i, if_neg (by omega), if_neg (by omega), if_neg (by omega), if_neg (by omega)]
      · rw [w1 c e8 e9]
theorem LsM.sl {w st tw : Int32} (l : LsM E E1 w st tw) (h : 0 ≤ (E.1 8 0).toInt ∧ (E.1 8 0).toInt < 400) (hs : 0 ≤ (E.1 5 0).toInt ∧ (E.1 5 0).toInt < 32) : LsS (mB E) (mB E1) w st tw ∧ NwM E E1 ∧ ∀ c, c ≠ 0 → c ≠ 5 → c ≠ 8 → c ≠ 9 → c ≠ 10 → E1.1 c = E.1 c := by
  obtain ⟨D7, k1, k2, k3, k4, k5⟩ := l
  have es := cl_i hs.1
  have e8 : D7.1 8 = E.1 8 := k1 8 (by decide) (by decide) (by decide)
  obtain ⟨wr, nw⟩ := k5.sl (by rw [e8]; exact h)
  refine ⟨⟨mB D7, fun c a b => mB_fr (fun _ _ => k1 c (by omega) a b), by rw [mB5, mB5, k3 0, if_pos rfl], fun j => ?_, by rw [mB5]; exact wr⟩, fun c i h1 h2 h3 => ?_, fun c a b c' d e => ?_⟩
  · rw [mBs, mB6]
    by_cases hj : j < 96
    · rw [mB10 hj, mB10 hj, k4 j]
    · rw [mB_out (c := 10) (i := j) (by show 96 ≤ j; omega), if_neg (by omega), if_neg (by omega), if_neg (by omega), mB_out (c := 10) (i := j) (by show 96 ≤ j; omega)]
  · rw [nw c i h1 h2 h3]
    by_cases e5 : c = 5
    · subst e5
      have h3 : 1 ≤ i := h3
      rw [k3 i, if_neg (by omega)]
    · by_cases e10 : c = 10
      · subst e10
        have h3 : 96 ≤ i := h3
        rw [k4 i, if_neg (by omega), if_neg (by omega), if_neg (by omega)]
      · rw [k1 c (by omega) e5 e10]
  · rw [k5.1 c c' d, k1 c a b e]
theorem eM_day : fX11_dayOfView E = some (dvF (mB E), E) := by
  have h : Wp (fX11_dayOfView E) (fun x D1 => D1 = E ∧ x = dvF (mB E)) := by
    unfold fX11_dayOfView dvF
    rw [mB6, mB7]
    refine Wp.idd (by decide) (Wp.lets (Wp.ite (fun q => Wp.idd (by decide) (Wp.ret ⟨rfl, ?_⟩)) (fun q => Wp.idd (by decide) (Wp.ret ⟨rfl, ?_⟩))))
    · exact (if_pos q).symm
    · exact (if_neg q).symm
  obtain ⟨x, D1, e, rfl, rfl⟩ := h
  exact e
abbrev stM (E : ADD) (a : Int32) : Prop := (0 ≤ a.toInt ∧ a.toInt < (E.1 5 0).toInt) ∧ (lD (mB E) a.toNatClampNeg).toInt ≤ (dvF (mB E)).toInt
theorem eM_isStone {a : Int32} (h : QM E) : fX11_isStone a E = some (if stM E a then 1 else 0, E) := by
  refine eq_Bo ?_
  unfold fX11_isStone
  refine Wp.idd (by decide) ?_
  rw [cl_0]
  have h5 := h.1
  have e1 : (E.1 5 0 - 1).toInt = (E.1 5 0).toInt - 1 := ti_sub rfl ti_1 (by omega) (by omega)
  refine Wp.bindE (eM_is _ _ _ _) (Wp.lets (Wp.lets ?_))
  rw [ti_0, e1]
  by_cases hc : 0 ≤ a.toInt ∧ a.toInt ≤ (E.1 5 0).toInt - 1
  · rw [if_pos hc]
    have e3 : ((3 : Int32) * a).toInt = 3 * a.toInt := ti_mul (by decide) rfl (by omega) (by omega)
    have ea := cl_i hc.1
    have e30 : ((3 : Int32) * a).toNatClampNeg = 3 * a.toNatClampNeg := cl_of (by omega)
    refine Wp.neg (by decide) (Wp.idx (i_in (by omega) (by omega)) (Wp.bindE eM_day ?_))
    rw [e30, ← mB10 (E := E) (by omega)]
    refine Wp.ilt (fun q => Wp.z (Or.inl rfl) (Wp.ret ⟨rfl, Or.inr ⟨rfl, fun k => ?_⟩⟩)) (fun q => Wp.z (Or.inr rfl) (Wp.ret ⟨rfl, Or.inl ⟨rfl, ⟨hc.1, by omega⟩, q⟩⟩))
    have k2 : (mB E 10 (3 * a.toNatClampNeg)).toInt ≤ (dvF (mB E)).toInt := k.2
    omega
  · rw [if_neg hc]
    exact Wp.pos rfl (Wp.z (Or.inl rfl) (Wp.ret ⟨rfl, Or.inr ⟨rfl, fun k => hc ⟨k.1.1, by have := k.1.2; omega⟩⟩⟩))
theorem eM_factOn {a b d : Int32} (h : QM E) (ha : 0 ≤ a.toInt ∧ a.toInt < 32) (hb : 0 ≤ b.toInt ∧ b.toInt < 11) : fX11_factOn a b d E = some (fct (mB E) d a.toNatClampNeg b.toNatClampNeg, E) := by
  have H : Wp (fX11_factOn a b d E) (fun x D1 => D1 = E ∧ x = fct (mB E) d a.toNatClampNeg b.toNatClampNeg) := by
    unfold fX11_factOn
    have h8 := h.2.1
    have e8 := cl_i h8.1
    have ea := cl_i ha.1
    have eb := cl_i hb.1
    have va : a = nI a.toNatClampNeg := nI_val ha.1
    have vb : b = nI b.toNatClampNeg := nI_val hb.1
    have e3 : ((3 : Int32) * a).toInt = 3 * a.toInt := ti_mul (by decide) rfl (by omega) (by omega)
    have e31 : ((3 : Int32) * a + 1).toInt = 3 * a.toInt + 1 := ti_add e3 ti_1 (by omega) (by omega)
    have e32 : ((3 : Int32) * a + 2).toInt = 3 * a.toInt + 2 := ti_add e3 (by decide) (by omega) (by omega)
    have w31 : ((3 : Int32) * a + 1).toNatClampNeg = 3 * a.toNatClampNeg + 1 := cl_of (by omega)
    have w32 : ((3 : Int32) * a + 2).toNatClampNeg = 3 * a.toNatClampNeg + 2 := cl_of (by omega)
    have bq : ∀ (c : Int32) (n : Nat), c.toInt = n → (b = c ↔ b.toNatClampNeg = n) := fun c n hc => ⟨fun e => by rw [e] at eb ⊢; omega, fun e => ti_eq (by omega)⟩
    refine Wp.letQ (fun Q j => Wp (j (dfF (mB E) a.toNatClampNeg b.toNatClampNeg) E) Q) ?_ (fun j K => ?_)
    · refine Wp.lets (Wp.lets (Wp.go2 (fun k y D' => D' = E ∧ y = fcF (mB E) d a.toNatClampNeg b.toNatClampNeg (dfF (mB E) a.toNatClampNeg b.toNatClampNeg) k) (nE (mB E)) (by rw [mBn]; omega) (fun g k y D' hk hI K => ?_) (k0 := 0) rfl (Nat.zero_le _) ⟨rfl, rfl⟩))
      obtain ⟨rfl, hy⟩ := hI
      rw [mBn] at hk
      unfold lX11_factOn_75
      refine Wp.idd (by decide) ?_
      rw [cl_0]
      have ek : (nI k).toInt = k := nI_toInt (by omega)
      refine Wp.ile (fun hl => Wp.ret ⟨rfl, ?_⟩) (fun hl => ?_)
      · have : k = nE (mB D') := by rw [mBn]; omega
        rw [hy, this]
        rfl
      · have kn : k < nE (mB D') := by rw [mBn]; omega
        have e4 : ((4 : Int32) * nI k).toInt = ((4 * k : Nat) : Int) := by
          have := ti_mul (x := 4) (y := nI k) (p := 4) (by decide) ek (by omega) (by omega)
          omega
        refine Wp.leti (fun w ew => ?_)
        rw [← ew] at e4
        have c0 : w.toNatClampNeg = 4 * k := cl_of e4
        have e41 : (w + 1).toInt = ((4 * k + 1 : Nat) : Int) := by
          have := ti_add e4 ti_1 (by omega) (by omega)
          omega
        have e42 : (w + 2).toInt = ((4 * k + 2 : Nat) : Int) := by
          have := ti_add (y := 2) (q := 2) e4 (by decide) (by omega) (by omega)
          omega
        have e43 : (w + 3).toInt = ((4 * k + 3 : Nat) : Int) := by
          have := ti_add (y := 3) (q := 3) e4 (by decide) (by omega) (by omega)
          omega
        have c1 : (w + 1).toNatClampNeg = 4 * k + 1 := cl_of e41
        have c2 : (w + 2).toNatClampNeg = 4 * k + 2 := cl_of e42
        have c3 : (w + 3).toNatClampNeg = 4 * k + 3 := cl_of e43
        have i1 : vp_in (w + 1) 6400 := i_in (by omega) (by omega)
        have i2 : vp_in (w + 2) 6400 := i_in (by omega) (by omega)
        have i3 : vp_in (w + 3) 6400 := i_in (by omega) (by omega)
        have i0 : vp_in w 6400 := i_in (by omega) (by omega)
        rw [c0, c1, c2, c3, ← mB9 (E := D') (j := 4 * k + 1) (by omega), ← mB9 (E := D') (j := 4 * k) (by omega)]
        have K := K kn
        have yes : hitF (mB D') d a.toNatClampNeg b.toNatClampNeg k → ∀ x, x = eV (mB D') k → Wp (g x (nI k + 1) D') (fun x D1 => D1 = D' ∧ x = fct (mB D') d a.toNatClampNeg b.toNatClampNeg) := fun hit x hx => K x D' ⟨rfl, by rw [hx]; exact (if_pos hit).symm⟩
        have no : ¬ hitF (mB D') d a.toNatClampNeg b.toNatClampNeg k → Wp (g y (nI k + 1) D') (fun x D1 => D1 = D' ∧ x = fct (mB D') d a.toNatClampNeg b.toNatClampNeg) := fun hit => K y D' ⟨rfl, by rw [hy]; exact (if_neg hit).symm⟩
        refine Wp.idx i1 (Wp.letQ (fun Q j => ∀ x, (x = 0 → ¬ ((mB D') 9 (4 * k + 1) = a ∧ ((mB D') 9 (4 * k)).toInt ≤ d.toInt)) → (x ≠ 0 → ((mB D') 9 (4 * k + 1) = a ∧ ((mB D') 9 (4 * k)).toInt ≤ d.toInt)) → Wp (j x D') Q) (fun x n y1 => ?_) (fun j K2 => Wp.lets (Wp.ite (fun q => Wp.idx i0 (Wp.ilt (fun q2 => K2 _ (fun _ k2 => by have := k2.2; omega) (fun q3 => absurd rfl q3)) (fun q2 => K2 _ (fun q3 => absurd q3 (by decide)) (fun _ => ⟨q, q2⟩)))) (fun q => K2 _ (fun _ k2 => q k2.1) (fun q3 => absurd rfl q3)))))
        refine Wp.lets (Wp.ite (fun x0 => Wp.lets (no (fun hit => n x0 ⟨by rw [va]; exact hit.1, hit.2.1⟩))) (fun x0 => ?_))
        obtain ⟨q1, q2⟩ := y1 x0
        rw [va] at q1
        rw [← mB9 (E := D') (j := 4 * k + 2) (by omega)]
        refine Wp.idx i2 (Wp.lets (Wp.ite (fun q3 => Wp.idx i3 (Wp.lets (Wp.lets (yes ⟨q1, q2, Or.inl (by rw [← vb]; exact q3)⟩ _ (mB9 (by omega)).symm)))) (fun q3 => Wp.idx i2 (Wp.ite (fun q4 => Wp.ite (fun q5 => Wp.idx i3 (Wp.lets (Wp.lets (yes ⟨q1, q2, Or.inr ⟨q4, ?_⟩⟩ _ (mB9 (by omega)).symm)))) (fun q5 => Wp.lets (no ?_))) (fun q4 => Wp.lets (no ?_))))))
        · exact (bq 0 0 (by decide)).mp q5
        · rintro ⟨-, -, q6⟩
          rcases q6 with q6 | q6
          · exact q3 (by rw [vb]; exact q6)
          · exact q5 ((bq 0 0 (by decide)).mpr q6.2)
        · rintro ⟨-, -, q6⟩
          rcases q6 with q6 | q6
          · exact q3 (by rw [vb]; exact q6)
          · exact q4 q6.1
    · unfold dfF at K
      rw [w31, w32, ← mB10 (E := E) (j := 3 * a.toNatClampNeg + 1) (by omega), ← mB10 (E := E) (j := 3 * a.toNatClampNeg + 2) (by omega)]
      refine Wp.ite (fun q => Wp.idx (i_in (by omega) (by omega)) ?_) (fun n1 => Wp.ite (fun q => Wp.idx (i_in (by omega) (by omega)) ?_) (fun n4 => Wp.ite (fun q => ?_) (fun n5 => Wp.ite (fun q => ?_) (fun n6 => Wp.ite (fun q => ?_) (fun n9 => ?_)))))
      · rw [if_pos ((bq 1 1 (by decide)).mp q)] at K
        exact K
      · rw [if_neg (fun e => n1 ((bq 1 1 (by decide)).mpr e)), if_pos ((bq 4 4 (by decide)).mp q)] at K
        exact K
      · rw [if_neg (fun e => n1 ((bq 1 1 (by decide)).mpr e)), if_neg (fun e => n4 ((bq 4 4 (by decide)).mpr e)), if_pos ((bq 5 5 (by decide)).mp q)] at K
        exact K
      · rw [if_neg (fun e => n1 ((bq 1 1 (by decide)).mpr e)), if_neg (fun e => n4 ((bq 4 4 (by decide)).mpr e)), if_neg (fun e => n5 ((bq 5 5 (by decide)).mpr e)), if_pos ((bq 6 6 (by decide)).mp q)] at K
        exact K
      · rw [if_neg (fun e => n1 ((bq 1 1 (by decide)).mpr e)), if_neg (fun e => n4 ((bq 4 4 (by decide)).mpr e)), if_neg (fun e => n5 ((bq 5 5 (by decide)).mpr e)), if_neg (fun e => n6 ((bq 6 6 (by decide)).mpr e)), if_pos ((bq 9 9 (by decide)).mp q)] at K
        exact K
      · rw [if_neg (fun e => n1 ((bq 1 1 (by decide)).mpr e)), if_neg (fun e => n4 ((bq 4 4 (by decide)).mpr e)), if_neg (fun e => n5 ((bq 5 5 (by decide)).mpr e)), if_neg (fun e => n6 ((bq 6 6 (by decide)).mpr e)), if_neg (fun e => n9 ((bq 9 9 (by decide)).mpr e))] at K
        exact K
  obtain ⟨x, D1, e, rfl, rfl⟩ := H
  exact e
end MBs
