/-! both: what every call keeps -/
def RlA (D : ADD) (o : Nat) (E : ADD) (t : Nat) : Prop := D.1 (o + 1) 11 = E.1 6 t ∧ D.1 (o + 10) 1 = E.1 2 t
def IA (n0 : Nat) (P : APD) (E : ADD) : Prop := Lay n0 P ∧ (TN P.2 ∧ QXt P.2 1) ∧ QMs E ∧ RlA P.2 1 E 0 ∧ ∀ im, imOK n0 P.1 im → ∀ j, j < 3 → (im j = none ∧ aBz (E.1 39 j) = 0) ∨ ∃ z, im j = some z ∧ aBz (E.1 39 j) ≠ 0 ∧ QXt P.2 z ∧ RlA P.2 z E (j + 1)
section IAs
variable {n0 : Nat} {P : APD} {E : ADD}
theorem Lay.far {im : Nat → Option Nat} (h : Lay n0 P) (him : imOK n0 P.1 im) : (∀ j z, j < 3 → im j = some z → 98 ≤ z ∧ z + 31 ≤ P.1.1) ∧ ∀ i j z y, i < 3 → j < 3 → i ≠ j → im i = some z → im j = some y → z + 31 ≤ y ∨ y + 31 ≤ z := by
  obtain ⟨-, -, -, im2, h2, h3, h4⟩ := h
  rw [im_uniq him h2]
  exact ⟨h3, h4⟩
theorem RlA.fr {D D1 E1 : ADD} {o t : Nat} (h : RlA D o E t) (f : ∀ c, o ≤ c → c < o + 31 → D1.1 c = D.1 c) (e2 : E1.1 2 t = E.1 2 t) (e6 : E1.1 6 t = E.1 6 t) : RlA D1 o E1 t := by
  unfold RlA
  rw [f (o + 1) (by omega) (by omega), f (o + 10) (by omega) (by omega), e2, e6]
  exact h
theorem IA.keep (h : IA n0 P E) {D1 E1 : ADD} (kx : KX P.2 D1) (qm : QMs E1) (e39 : E1.1 39 = E.1 39) (e2 : ∀ i, i ≠ 0 → i < 4 → E1.1 2 i = E.1 2 i) (e6 : ∀ i, i ≠ 0 → i < 4 → E1.1 6 i = E.1 6 i) (r1 : D1.1 2 11 = E1.1 6 0) (r2 : D1.1 11 1 = E1.1 2 0) : IA n0 (P.1, D1) E1 := by
  obtain ⟨h1, h2, h3, h4, h5⟩ := h
  refine ⟨h1, kx.2, qm, ⟨r1, r2⟩, fun im him j hj => ?_⟩
  rw [e39]
  rcases h5 im him j hj with h | ⟨z, z1, z2, z3, z4⟩
  · exact Or.inl h
  · have hz := (h1.far him).1 j z hj z1
    exact Or.inr ⟨z, z1, z2, z3.fr (fun c hc _ => kx.1 c (by omega)), z4.fr (fun c hc _ => kx.1 c (by omega)) (e2 _ (by omega) (by omega)) (e6 _ (by omega) (by omega))⟩
theorem IA.same (h : IA n0 P E) {D1 E1 : ADD} (k : KX P.2 D1 ∧ SX P.2 D1) (q : QMs E1 ∧ KM E E1) : IA n0 (P.1, D1) E1 := by
  obtain ⟨a, b, c⟩ := q.2
  have r := h.2.2.2.1
  exact h.keep k.1 q.1 c (fun i _ _ => by rw [a]) (fun i _ _ => by rw [b]) (by rw [k.2.1, b]; exact r.1) (by rw [k.2.2, a]; exact r.2)
abbrev Bt (n0 : Nat) (P : APD) (R : Prop → Prop) {ρ : Type} (f g : Option (ρ × ADD)) : Prop := ∃ (r1 : ρ) (D1 : ADD) (r2 : ρ) (D2 : ADD), f = some (r1, D1) ∧ g = some (r2, D2) ∧ R (r1 = r2) ∧ IA n0 (P.1, D1) D2
theorem Bt.weak {ρ : Type} {f g : Option (ρ × ADD)} (h : Bt n0 P id f g) : Bt n0 P (fun _ => True) f g := by
  obtain ⟨r1, D1, r2, D2, h1, h2, -, h4⟩ := h
  exact ⟨r1, D1, r2, D2, h1, h2, trivial, h4⟩
theorem IA.two {ρ : Type} {f g : Option (ρ × ADD)} (h : IA n0 P E) (hf : Wp f (fun _ D1 => KX P.2 D1 ∧ SX P.2 D1)) (hg : Wp g (fun _ D1 => QMs D1 ∧ KM E D1)) : Bt n0 P (fun _ => True) f g := by
  obtain ⟨r1, D1, e1, q1⟩ := hf
  obtain ⟨r2, D2, e2, q2⟩ := hg
  exact ⟨r1, D1, r2, D2, e1, e2, trivial, h.same q1 q2⟩
theorem IA.ask {ρ : Type} {f g : Option (ρ × ADD)} (h : IA n0 P E) (hf : QX P.2 → Wp f (fun _ D1 => FX P.2 D1)) (hg : QM E → Wp g (fun _ D1 => FmM E D1)) : Bt n0 P (fun _ => True) f g :=
  h.two ((hf h.2.1.2.qx).mono (fun _ _ q => q.kx h.2.1.2 h.2.1.1)) ((hg h.2.2.1.qm).mono (fun _ _ q => ⟨h.2.2.1.fm q, q.km⟩))
theorem Pu.fx {ρ : Type} {f : Option (ρ × ADD)} {D : ADD} (h : Pu f D) : Wp f (fun _ D1 => FX D D1) := h.mono (fun _ _ q => by rw [q]; exact FX.refl D)
theorem ia_day {a : Int32} (h : IA n0 P E) : Bt n0 P id (fX10_day a P.2) (fX11_day a E) := by
  obtain ⟨r1, D1, e1, k1, k2, k3, k4⟩ := cX_day (a := a) h.2.1.2 h.2.1.1
  obtain ⟨r2, D2, e2, q1, q2, q3, q4, q5⟩ := sM_day (a := a) h.2.2.1
  have r : P.2.1 2 11 = E.1 6 0 := h.2.2.2.1.1
  have s : P.2.1 11 1 = E.1 2 0 := h.2.2.2.1.2
  rw [r] at k3 k4
  refine ⟨r1, D1, r2, D2, e1, e2, k3.trans q4.symm, h.keep k1 q1 q3 (fun i _ _ => by rw [q2]) (fun i hi _ => ?_) ?_ (by rw [k2, q2]; exact s)⟩
  · rw [q5 i, if_neg (fun q => hi q.1)]
  · rw [k4, q5 0]
    by_cases hc : (E.1 6 0).toInt ≤ a.toInt ∧ a.toInt ≤ 9999
    · rw [if_pos hc, if_pos ⟨rfl, hc⟩]
    · rw [if_neg hc, if_neg (fun q => hc q.2)]
theorem ia_view {a : Int32} (h : IA n0 P E) : Bt n0 P id (fX10_view a P.2) (fX11_view a E) := by
  obtain ⟨r1, D1, e1, k1, k2⟩ := cX_view (a := a) h.2.1.2 h.2.1.1
  obtain ⟨r2, D2, e2, q1, q2, q3⟩ := sM_view (a := a) h.2.2.1
  have r : P.2.1 2 11 = E.1 6 0 := h.2.2.2.1.1
  have t0 : 0 ≤ (P.2.1 2 11).toInt := h.2.1.2.2.2.2.2.2.2.2
  rw [r] at k2 t0
  refine ⟨r1, D1, r2, D2, e1, e2, ?_, h.same k1 ⟨q1, q2⟩⟩
  show r1 = r2
  rw [k2, q3]
  have am : a = -1 ↔ a.toInt = -1 := ⟨fun e => by rw [e]; decide, fun e => Int32.toInt_inj.mp (by rw [e]; decide)⟩
  by_cases hc : -1 ≤ a.toInt ∧ a.toInt ≤ (E.1 6 0).toInt
  · rw [if_pos hc, if_pos]
    by_cases h1 : a.toInt = -1
    · exact Or.inl (am.mpr h1)
    · exact Or.inr ⟨by omega, hc.2⟩
  · rw [if_neg hc, if_neg]
    rintro (h1 | h1)
    · have := am.mp h1
      omega
    · omega
theorem ia_feed {a b c d e : Int32} (h : IA n0 P E) : Bt n0 P id (fX10_feed a b c d e P.2) (fX11_feed a b c d e E) := by
  obtain ⟨r1, D1, e1, k1, k2, k3⟩ := cX_feed (a := a) (b := b) (c := c) (d := d) (e := e) h.2.1.2 h.2.1.1
  obtain ⟨r2, D2, e2, q1, q2, q3, q4, q5⟩ := sM_feed (a := a) (b := b) (c := c) (d := d) (e := e) h.2.2.1
  have r : P.2.1 2 11 = E.1 6 0 := h.2.2.2.1.1
  have s : P.2.1 11 1 = E.1 2 0 := h.2.2.2.1.2
  rw [s] at k3
  by_cases hc : (E.1 2 0).toInt + 20 ≤ 500
  · rw [if_pos hc] at k3 q5
    have er : r1 = r2 := Int32.toInt_inj.mp (by rw [k3.1, q5.1])
    exact ⟨r1, D1, r2, D2, e1, e2, er, h.keep k1 q1 q3 (fun i hi _ => q4 i hi) (fun i _ _ => by rw [q2]) (by rw [k2, q2]; exact r) (by rw [← k3.2, ← q5.2]; exact er)⟩
  · rw [if_neg hc] at k3 q5
    exact ⟨r1, D1, r2, D2, e1, e2, k3.1.trans q5.1.symm, h.keep k1 q1 q3 (fun i hi _ => q4 i hi) (fun i _ _ => by rw [q2]) (by rw [k2, q2]; exact r) (by rw [k3.2, q5.2])⟩
theorem ia_end {a : Int32} (h : IA n0 P E) : Bt n0 P id (fX10_end a P.2) (fX11_end a E) := by
  obtain ⟨r1, D1, e1, k1, k2, k3⟩ := cX_end (a := a) h.2.1.2 h.2.1.1
  obtain ⟨r2, D2, e2, q1, q2, q3, q4, q5⟩ := sM_end (a := a) h.2.2.1
  have r : P.2.1 2 11 = E.1 6 0 := h.2.2.2.1.1
  have s : P.2.1 11 1 = E.1 2 0 := h.2.2.2.1.2
  rw [s] at k3
  by_cases hc : 0 ≤ a.toInt ∧ a.toInt ≤ (E.1 2 0).toInt
  · rw [if_pos hc] at k3 q5
    exact ⟨r1, D1, r2, D2, e1, e2, k3.1.trans q5.1.symm, h.keep k1 q1 q3 (fun i hi _ => q4 i hi) (fun i _ _ => by rw [q2]) (by rw [k2, q2]; exact r) (by rw [k3.2, q5.2])⟩
  · rw [if_neg hc] at k3 q5
    exact ⟨r1, D1, r2, D2, e1, e2, k3.1.trans q5.1.symm, h.keep k1 q1 q3 (fun i hi _ => q4 i hi) (fun i _ _ => by rw [q2]) (by rw [k2, q2]; exact r) (by rw [k3.2, q5.2])⟩
theorem ia_text {a : Int32} (ha : a = 0 ∨ a = 1) (h : IA n0 P E) : Bt n0 P (fun _ => True) (fX10_text a P.2) (fX11_text a E) := by
  obtain ⟨r1, D1, e1, k1, k2, k3⟩ := cX_text ha h.2.1.2 h.2.1.1
  obtain ⟨r2, D2, e2, q1, q2, q3, q4⟩ := sM_text (a := a) h.2.2.1
  have r : P.2.1 2 11 = E.1 6 0 := h.2.2.2.1.1
  exact ⟨r1, D1, r2, D2, e1, e2, trivial, h.keep k1 q1 q3 (fun i hi _ => by rw [q4 i, if_neg hi]) (fun i _ _ => by rw [q2]) (by rw [k2, q2]; exact r) (by rw [k3, q4 0, if_pos rfl])⟩
theorem ia_choose {a b y z m : Int32} (h : IA n0 P E) : Bt n0 P id (fX10_choose a b y z m P.2) (fX11_choose a b y z m E) := by
  obtain ⟨r1, D1, e1, k1, k2⟩ := cX_choose (a := a) (b := b) (y := y) (z := z) (m := m) h.2.1.2 h.2.1.1
  obtain ⟨r2, D2, e2, q1, q2, q3⟩ := sM_choose (a := a) (b := b) (y := y) (z := z) (m := m) h.2.2.1
  exact ⟨r1, D1, r2, D2, e1, e2, k2.trans q3.symm, h.same k1 ⟨q1, q2⟩⟩
theorem ia_stone {a b c : Int32} (h : IA n0 P E) : Bt n0 P (fun _ => True) (fX10_stone a b c P.2) (fX11_stone a b c E) := h.two (cX_stone h.2.1.2 h.2.1.1) (sM_stone h.2.2.1)
theorem ia_tell {a b c : Int32} (h : IA n0 P E) : Bt n0 P (fun _ => True) (fX10_tell a b c P.2) (fX11_tell a b c E) := h.two (cX_tell h.2.1.2 h.2.1.1) (sM_tell h.2.2.1)
/-- a new or another image -/
theorem IA.img {im im2 : Nat → Option Nat} {w : AWS} {D D1 E1 : ADD} {k o : Nat} (h : IA n0 P E) (him : imOK n0 P.1 im) (hk : k < 3) (hL : ∀ D, Lay n0 (w, D)) (h2 : imOK n0 w im2) (ei : ∀ j, im2 j = if j = k then some o else im j) (fD : ∀ c, c < P.1.1 → D.1 c = P.2.1 c) (ho : 98 ≤ o) (hz : ∀ j z, j < 3 → j ≠ k → im j = some z → z + 31 ≤ o ∨ o + 31 ≤ z) (hc : CpX cpL o 1 D D1) (q : QMs E1) (e39 : ∀ i, E1.1 39 i = if i = k then 1 else E.1 39 i) (e2 : ∀ i, i < 4 → E1.1 2 i = if i = k + 1 then E.1 2 0 else E.1 2 i) (e6 : ∀ i, i < 4 → E1.1 6 i = if i = k + 1 then E.1 6 0 else E.1 6 i) : IA n0 (w, D1) E1 := by
  have hLP : 98 ≤ P.1.1 := h.1.1.1
  have f1 : ∀ c, c < 98 → D1.1 c = P.2.1 c := fun c hc2 => by rw [hc.1 c (by omega), fD c (by omega)]
  have q1 : QXt D 1 := h.2.1.2.fr (fun c _ h2 => fD c (by omega))
  refine ⟨hL D1, ⟨?_, h.2.1.2.fr (fun c _ h2 => f1 c (by omega))⟩, q, h.2.2.2.1.fr (fun c _ h2 => f1 c (by omega)) (by rw [e2 0 (by decide), if_neg (by omega)]) (by rw [e6 0 (by decide), if_neg (by omega)]), fun im3 h3 j hj => ?_⟩
  · show TN D1
    unfold TN
    rw [f1 38 (by decide)]
    exact h.2.1.1
  · rw [im_uniq h3 h2, ei j, e39 j]
    by_cases hjk : j = k
    · rw [if_pos hjk, if_pos hjk]
      refine Or.inr ⟨o, rfl, by decide, hc.qt q1, ?_, ?_⟩
      · rw [hc.at (by decide) (by decide), fD (1 + 1) (by omega), e6 (j + 1) (by omega), if_pos (by omega)]
        exact h.2.2.2.1.1
      · rw [hc.at (by decide) (by decide), fD (1 + 10) (by omega), e2 (j + 1) (by omega), if_pos (by omega)]
        exact h.2.2.2.1.2
    · rw [if_neg hjk, if_neg hjk]
      rcases h.2.2.2.2 im him j hj with hn | ⟨z, z1, z2, z3, z4⟩
      · exact Or.inl hn
      · have far := (h.1.far him).1 j z hj z1
        have dis := hz j z hj hjk z1
        have fz : ∀ c, z ≤ c → c < z + 31 → D1.1 c = P.2.1 c := fun c a b => by rw [hc.1 c (by omega), fD c (by omega)]
        exact Or.inr ⟨z, z1, z2, z3.fr fz, z4.fr fz (by rw [e2 _ (by omega), if_neg (by omega)]) (by rw [e6 _ (by omega), if_neg (by omega)])⟩
theorem ia_image (h : IA n0 P E) {im : Nat → Option Nat} (him : imOK n0 P.1 im) (a : Int32) : ∃ r1 X r2 D2, fImg n0 im P.1 a P.2 = some (r1, X) ∧ fX11_image a E = some (r2, D2) ∧ r1 = r2 ∧ IA n0 X D2 ∧ P.1.1 ≤ X.1.1 ∧
  (∀ P3, P3 = aPR (fI_X8_init n0 P.1.1 (aNO (P.1, P.2) 7)) 32 a.toNatClampNeg (n0 + P.1.1) → aLSw n0 P3.1 P.1.1 ∧ aLSw n0 P3.1 1) ∧
  (∀ P2, P2 = fI_X8_init n0 P.1.1 (aNO (P.1, P.2) 7) → (32 ∈ P2.1.2.1 ∧ P2.1.2.2 32 = (15, 3, fun j => (im j).map (n0 + ·))) ∧ (P2.1.2.2 0).2.2 1 = some (n0 + 32) ∧ (P2.1.2.2 0).2.2 0 = some (n0 + 1)) := by
  have hL := h.1
  have L3 : (3 : Int32).toInt = 3 := by decide
  obtain ⟨g1, g2, g3, g4, g5, g6, g7, g8⟩ := Lay.img (k := a.toNatClampNeg) hL him
  have hN1 : ∀ P3, P3 = aPR (fI_X8_init n0 P.1.1 (aNO (P.1, P.2) 7)) 32 a.toNatClampNeg (n0 + P.1.1) → aLSw n0 P3.1 P.1.1 ∧ aLSw n0 P3.1 1 := by
    intro P3 e
    rw [sOps_run] at e
    rw [e]
    exact ⟨g3, g4⟩
  have hN2 : ∀ P2, P2 = fI_X8_init n0 P.1.1 (aNO (P.1, P.2) 7) → (32 ∈ P2.1.2.1 ∧ P2.1.2.2 32 = (15, 3, fun j => (im j).map (n0 + ·))) ∧ (P2.1.2.2 0).2.2 1 = some (n0 + 32) ∧ (P2.1.2.2 0).2.2 0 = some (n0 + 1) := by
    intro P2 e
    rw [sOps_run] at e
    rw [e]
    exact ⟨g5, g6, g7⟩
  obtain ⟨r2, D2, e2, q1, q2⟩ := sM_image (a := a) h.2.2.1
  have K : ∃ r1 X, fImg n0 im P.1 a P.2 = some (r1, X) ∧ r1 = r2 ∧ IA n0 X D2 ∧ P.1.1 ≤ X.1.1 := by
    by_cases hc : 0 ≤ a.toInt ∧ a.toInt ≤ 2
    · rw [if_pos hc] at q2
      obtain ⟨q2, q3, q4, q5⟩ := q2
      have l1 : ¬ a < 0 := fun q => by have := Int32.lt_iff_toInt_lt.mp q; rw [ti_0] at this; omega
      have l2 : a < 3 := Int32.lt_iff_toInt_lt.mpr (by omega)
      have ec := cl_i hc.1
      have hk : a.toNatClampNeg < 3 := by omega
      cases hi : im a.toNatClampNeg with
      | some z =>
        have far := (hL.far him).1 _ z hk hi
        obtain ⟨x, D1, e1, c1⟩ := tX8_copy (o := z) (p := 1) (D := P.2) (by omega)
        refine ⟨1, (P.1, D1), ?_, q2.symm, h.img him hk (fun _ => hL) him (fun j => ?_) (fun _ _ => rfl) far.1 (fun j y hj hjk hy => ?_) c1 q1 q3 q4 q5, Nat.le_refl _⟩
        · unfold fImg
          rw [if_neg l1, if_pos l2, hi]
          simp only []
          rw [e1]
          rfl
        · by_cases e : j = a.toNatClampNeg
          · rw [if_pos e, e, hi]
          · rw [if_neg e]
        · exact (hL.far him).2 j _ y z hj hk hjk hy hi
      | none =>
        have hd : ∀ c, c < P.1.1 → (opB n0 P.1.1 P sOps).2.1 c = P.2.1 c := fun c hc2 => by
          funext f
          exact (opB_spec n0 P.1.1 P rfl sOps sOps_all).2.2.2.2.1 c f hc2
        have l98 : 98 ≤ P.1.1 := hL.1.1
        obtain ⟨x, D1, e1, c1⟩ := tX8_copy (o := P.1.1) (p := 1) (D := (opB n0 P.1.1 P sOps).2) (by omega)
        refine ⟨1, ((aPR (opB n0 P.1.1 P sOps) 32 a.toNatClampNeg (n0 + P.1.1)).1, D1), ?_, q2.symm, h.img him hk g1 g2 (fun j => rfl) hd l98 (fun j y hj hjk hy => ?_) c1 q1 q3 q4 q5, ?_⟩
        · unfold fImg
          rw [if_neg l1, if_pos l2, hi]
          simp only [aLet]
          rw [sOps_run]
          show aBind (fX8_copyFrom P.1.1 1 (opB n0 P.1.1 P sOps).2) _ = _
          rw [e1]
          rfl
        · exact Or.inl ((hL.far him).1 j y hj hy).2
        · show P.1.1 ≤ (opB n0 P.1.1 P sOps).1.1
          omega
    · rw [if_neg hc] at q2
      refine ⟨0, P, ?_, q2.1.symm, ?_, Nat.le_refl _⟩
      · unfold fImg
        by_cases l1 : a < 0
        · rw [if_pos l1]
        · rw [if_neg l1, if_neg]
          intro q
          have := Int32.lt_iff_toInt_lt.mp q
          have l1 : ¬ a.toInt < 0 := fun q => l1 (Int32.lt_iff_toInt_lt.mpr (by rw [ti_0]; omega))
          omega
      · exact h.same (D1 := P.2) ⟨KX.refl h.2.1.2 h.2.1.1, rfl, rfl⟩ ⟨q1, q2.2⟩
  obtain ⟨r1, X, k1, k2, k3, k4⟩ := K
  exact ⟨r1, X, r2, D2, k1, e2, k2, k3, k4, hN1, hN2⟩
theorem ia_again (h : IA n0 P E) {im : Nat → Option Nat} (him : imOK n0 P.1 im) (a : Int32) : Bt n0 P id (fAgn im a P.2) (fX11_again a E) := by
  have hL := h.1
  have L3 : (3 : Int32).toInt = 3 := by decide
  obtain ⟨r2, D2, e2, q1, q2, q3⟩ := sM_again (a := a) h.2.2.1
  by_cases hc : 0 ≤ a.toInt ∧ a.toInt ≤ 2
  · have l1 : ¬ a < 0 := fun q => by have := Int32.lt_iff_toInt_lt.mp q; rw [ti_0] at this; omega
    have l2 : a < 3 := Int32.lt_iff_toInt_lt.mpr (by omega)
    have ec := cl_i hc.1
    have hk : a.toNatClampNeg < 3 := by omega
    rcases h.2.2.2.2 im him _ hk with ⟨n1, n2⟩ | ⟨z, z1, z2, z3, z4⟩
    · rw [if_neg (fun q => q.2 n2)] at q3
      refine ⟨0, P.2, r2, D2, ?_, e2, q3.1.symm, h.same ⟨KX.refl h.2.1.2 h.2.1.1, rfl, rfl⟩ ⟨q1, q3.2⟩⟩
      unfold fAgn
      rw [if_neg l1, if_pos l2, n1]
    · rw [if_pos ⟨hc, z2⟩] at q3
      have far := (hL.far him).1 _ z hk z1
      obtain ⟨x, D1, e1, c1⟩ := tX8_copy (o := 1) (p := z) (D := P.2) (by omega)
      refine ⟨1, D1, r2, D2, ?_, e2, q3.1.symm, h.keep ⟨fun c hc2 => c1.1 c (by omega), ?_, c1.qt z3⟩ q1 q2 (fun i hi h4 => ?_) (fun i hi h4 => ?_) ?_ ?_⟩
      · unfold fAgn
        rw [if_neg l1, if_pos l2, z1]
        simp only []
        rw [e1]
        rfl
      · unfold TN
        rw [c1.1 38 (by omega)]
        exact h.2.1.1
      · rw [q3.2.1 i h4, if_neg hi]
      · rw [q3.2.2 i h4, if_neg hi]
      · have : D1.1 (1 + 1) 11 = _ := c1.at (by decide) (by decide)
        show D1.1 (1 + 1) 11 = _
        rw [this, q3.2.2 0 (by decide), if_pos rfl]
        exact z4.1
      · have : D1.1 (1 + 10) 1 = _ := c1.at (by decide) (by decide)
        show D1.1 (1 + 10) 1 = _
        rw [this, q3.2.1 0 (by decide), if_pos rfl]
        exact z4.2
  · rw [if_neg (fun q => hc q.1)] at q3
    refine ⟨0, P.2, r2, D2, ?_, e2, q3.1.symm, h.same ⟨KX.refl h.2.1.2 h.2.1.1, rfl, rfl⟩ ⟨q1, q3.2⟩⟩
    unfold fAgn
    by_cases l1 : a < 0
    · rw [if_pos l1]
    · rw [if_neg l1, if_neg]
      intro q
      have := Int32.lt_iff_toInt_lt.mp q
      have l1 : ¬ a.toInt < 0 := fun q => l1 (Int32.lt_iff_toInt_lt.mpr (by rw [ti_0]; omega))
      omega
end IAs
