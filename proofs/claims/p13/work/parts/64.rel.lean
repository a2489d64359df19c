/-! any relation of a slot to its twin, kept by every call -/
def slX (D : ADD) (o : Nat) : Nat → Nat → Int32 := fun d i => if d < 31 ∧ (cpL.any (fun s => cpC s d i)) = true then D.1 (o + d) i else 0
def slM (E : ADD) (t : Nat) : Nat → Nat → Int32 := fun c i => if i < szM c then (if c = 1 then aB (E.1 1 (500 * t + i)) else E.1 c (szM c * t + i)) else 0
theorem szM_0 {c : Nat} (h : c = 0 ∨ 23 ≤ c) : szM c = 0 := by
  rcases h with rfl | h
  · rfl
  · have e : ([0, 500, 1, 1, 1, 1, 1, 1, 1, 1600, 96, 1, 1, 2, 1, 2, 32, 128, 128, 128, 32, 32, 32] : List Nat)[c]? = none := List.getElem?_eq_none (by simpa using h)
    unfold szM
    rw [List.getD_eq_getElem?_getD, e]
    rfl
theorem aB_aB (x : Int32) : aB (aB x) = aB x := by
  show (((x.toInt8).toInt32).toInt8).toInt32 = (x.toInt8).toInt32
  rw [Int8.toInt8_toInt32]
theorem slX_at {D : ADD} {o d i : Nat} (hd : d < 31) (hc : (cpL.any (fun s => cpC s d i)) = true) : slX D o d i = D.1 (o + d) i := if_pos ⟨hd, hc⟩
theorem slX_fr {D D1 : ADD} {o : Nat} (f : ∀ c, o ≤ c → c < o + 31 → D1.1 c = D.1 c) : slX D1 o = slX D o := by
  funext d i
  unfold slX
  by_cases h : d < 31 ∧ (cpL.any (fun s => cpC s d i)) = true
  · rw [if_pos h, if_pos h, f _ (by omega) (by omega)]
  · rw [if_neg h, if_neg h]
theorem slX_cp {D D1 : ADD} {o p : Nat} (k : CpX cpL o p D D1) : slX D1 o = slX D p := by
  funext d i
  unfold slX
  by_cases h : d < 31 ∧ (cpL.any (fun s => cpC s d i)) = true
  · rw [if_pos h, if_pos h, k.at h.1 h.2]
  · rw [if_neg h, if_neg h]
theorem slM_eq {E E1 : ADD} {t t1 : Nat} (f : ∀ i, i < 500 → aB (E1.1 1 (500 * t1 + i)) = aB (E.1 1 (500 * t + i))) (g : ∀ c i, 2 ≤ c → c < 23 → i < szM c → E1.1 c (szM c * t1 + i) = E.1 c (szM c * t + i)) : slM E1 t1 = slM E t := by
  funext c i
  unfold slM
  by_cases h : i < szM c
  · rw [if_pos h, if_pos h]
    by_cases h1 : c = 1
    · subst h1
      rw [if_pos rfl, if_pos rfl, f i h]
    · rw [if_neg h1, if_neg h1]
      by_cases h2 : c = 0 ∨ 23 ≤ c
      · rw [szM_0 h2] at h
        omega
      · exact g c i (by omega) (by omega) h
  · rw [if_neg h, if_neg h]
theorem slM_fr {E E1 : ADD} {t : Nat} (f : ∀ c, 1 ≤ c → c < 23 → E1.1 c = E.1 c) : slM E1 t = slM E t :=
  slM_eq (fun i _ => by rw [f 1 (by decide) (by decide)]) (fun c i h2 h3 _ => by rw [f c (by omega) h3])
theorem slM_fm {E E1 : ADD} {t : Nat} (f : FmM E E1) : slM E1 t = slM E t := slM_fr (fun c h1 h2 => f c (by omega))
theorem szM_p {c : Nat} (h1 : 1 ≤ c) (h2 : c < 23) : 0 < szM c := by
  have : ∀ c, c < 23 → 1 ≤ c → 0 < szM c := by decide
  exact this c h2 h1
/-- only the present is another -/
def NwM (E E1 : ADD) : Prop := ∀ c i, 1 ≤ c → c < 23 → szM c ≤ i → E1.1 c i = E.1 c i
theorem NwM.sl {E E1 : ADD} {t : Nat} (f : NwM E E1) (ht : 1 ≤ t) : slM E1 t = slM E t := by
  refine slM_eq (fun i _ => ?_) (fun c i h2 h3 _ => ?_)
  · rw [f 1 _ (by decide) (by decide) (by show 500 ≤ _; omega)]
  · have : szM c ≤ szM c * t := Nat.le_mul_of_pos_right _ ht
    rw [f c _ (by omega) h3 (by omega)]
theorem NwM.fm {E E1 : ADD} (f : FmM E E1) : NwM E E1 := fun c i h1 h2 _ => by rw [f c (by omega)]
theorem NwM.trans {E E1 E2 : ADD} (f : NwM E E1) (g : NwM E1 E2) : NwM E E2 := fun c i h1 h2 h3 => (g c i h1 h2 h3).trans (f c i h1 h2 h3)
theorem slt_ne {n i t j : Nat} (hj : j < n) (h : i ≠ t) : ¬ (n * t ≤ n * i + j ∧ n * i + j < n * t + n) := by
  rintro ⟨a, b⟩
  rcases Nat.lt_or_gt_of_ne h with h | h
  · have := Nat.mul_le_mul_left n (show i + 1 ≤ t from h)
    rw [Nat.mul_add] at this
    omega
  · have := Nat.mul_le_mul_left n (show t + 1 ≤ i from h)
    rw [Nat.mul_add] at this
    omega
theorem slM_cp {E E1 : ADD} {f t : Nat} (k : CpT E E1 f t 23) : slM E1 t = slM E f := by
  obtain ⟨k1, k2, k3, k4⟩ := k
  refine slM_eq (fun i hi => ?_) (fun c i h2 h3 hi => ?_)
  · rw [k3, if_pos ⟨by omega, by omega⟩, aB_aB, Nat.add_sub_cancel_left, Nat.add_comm]
  · rw [k4 c h2 h3, if_pos ⟨by omega, by omega⟩, Nat.add_sub_cancel_left, Nat.add_comm]
theorem slM_cq {E E1 : ADD} {f t i : Nat} (k : CpT E E1 f t 23) (h : i ≠ t) : slM E1 i = slM E i := by
  obtain ⟨k1, k2, k3, k4⟩ := k
  refine slM_eq (fun j hj => ?_) (fun c j h2 h3 hj => ?_)
  · rw [k3, if_neg (slt_ne hj h)]
  · rw [k4 c h2 h3, if_neg (slt_ne hj h)]
theorem Wp.same {ρ : Type} {f : Option (ρ × ADD)} {r : ρ} {D : ADD} {Q : ρ → ADD → Prop} (e : f = some (r, D)) (h : Wp f Q) : Q r D := by
  obtain ⟨r1, D1, e1, q⟩ := h
  rw [e] at e1
  cases e1
  exact q
def IR (Rl : (Nat → Nat → Int32) → (Nat → Nat → Int32) → Prop) (n0 : Nat) (P : APD) (E : ADD) : Prop := IA n0 P E ∧ Rl (slX P.2 1) (slM E 0) ∧ ∀ im, imOK n0 P.1 im → ∀ j z, j < 3 → im j = some z → Rl (slX P.2 z) (slM E (j + 1))
section IRs
variable {Rl : (Nat → Nat → Int32) → (Nat → Nat → Int32) → Prop} {n0 : Nat} {P : APD} {E : ADD}
abbrev BR (Rl : (Nat → Nat → Int32) → (Nat → Nat → Int32) → Prop) (n0 : Nat) (P : APD) (R : Prop → Prop) {ρ : Type} (f g : Option (ρ × ADD)) : Prop := ∃ (r1 : ρ) (D1 : ADD) (r2 : ρ) (D2 : ADD), f = some (r1, D1) ∧ g = some (r2, D2) ∧ R (r1 = r2) ∧ IR Rl n0 (P.1, D1) D2
theorem BR.weak {ρ : Type} {f g : Option (ρ × ADD)} (h : BR Rl n0 P id f g) : BR Rl n0 P (fun _ => True) f g := by
  obtain ⟨r1, D1, r2, D2, h1, h2, -, h4⟩ := h
  exact ⟨r1, D1, r2, D2, h1, h2, trivial, h4⟩
theorem IR.keep (h : IR Rl n0 P E) {D1 E1 : ADD} (ia : IA n0 (P.1, D1) E1) (kx : ∀ c, 98 ≤ c → D1.1 c = P.2.1 c) (nm : NwM E E1) (r : Rl (slX D1 1) (slM E1 0)) : IR Rl n0 (P.1, D1) E1 := by
  refine ⟨ia, r, fun im him j z hj hz => ?_⟩
  have far := (h.1.1.far him).1 j z hj hz
  have e1 : slX D1 z = slX P.2 z := slX_fr (fun c hc _ => kx c (by omega))
  rw [e1, nm.sl (by omega)]
  exact h.2.2 im him j z hj hz
theorem IR.bt {ρ : Type} {R : Prop → Prop} {f g : Option (ρ × ADD)} (h : IR Rl n0 P E) (b : Bt n0 P R f g) (hf : Wp f (fun _ D1 => ∀ c, 98 ≤ c → D1.1 c = P.2.1 c)) (hg : Wp g (fun _ E1 => NwM E E1)) (hr : ∀ r1 D1 r2 E1, f = some (r1, D1) → g = some (r2, E1) → Rl (slX D1 1) (slM E1 0)) : BR Rl n0 P R f g := by
  obtain ⟨r1, D1, r2, D2, h1, h2, h3, h4⟩ := b
  have n1 := hf.same h1
  have n2 := hg.same h2
  exact ⟨r1, D1, r2, D2, h1, h2, h3, h.keep h4 n1 n2 (hr _ _ _ _ h1 h2)⟩
theorem IR.ask {ρ : Type} {f g : Option (ρ × ADD)} (h : IR Rl n0 P E) (hf : QX P.2 → Wp f (fun _ D1 => FX P.2 D1)) (hg : QM E → Wp g (fun _ D1 => FmM E D1)) : BR Rl n0 P (fun _ => True) f g := by
  have f1 := hf h.1.2.1.2.qx
  have g1 := hg h.1.2.2.1.qm
  refine h.bt (h.1.ask hf hg) (f1.mono (fun _ _ q c hc => q c (by omega))) (g1.mono (fun _ _ q => NwM.fm q)) (fun r1 D1 r2 E1 e1 e2 => ?_)
  have q1 := f1.same e1
  have e1 : slX D1 1 = slX P.2 1 := slX_fr (fun c _ h2 => q1 c (by omega))
  have q2 := g1.same e2
  rw [e1, slM_fm q2]
  exact h.2.1
theorem IR.askE {ρ : Type} {f g : Option (ρ × ADD)} {v : ρ} (h : IR Rl n0 P E) (hf : QX P.2 → Wp f (fun _ D1 => FX P.2 D1)) (hg : QM E → Wp g (fun _ D1 => FmM E D1)) (af : Wp f (fun r _ => r = v)) (ag : Wp g (fun r _ => r = v)) : BR Rl n0 P id f g := by
  obtain ⟨r1, D1, r2, D2, h1, h2, -, h4⟩ := h.ask hf hg
  exact ⟨r1, D1, r2, D2, h1, h2, (af.same h1).trans (ag.same h2).symm, h4⟩
theorem IR.img {im im2 : Nat → Option Nat} {w : AWS} {D D1 E1 : ADD} {k o : Nat} (h : IR Rl n0 P E) (him : imOK n0 P.1 im) (ia : IA n0 (w, D1) E1) (h2 : imOK n0 w im2) (ei : ∀ j, im2 j = if j = k then some o else im j) (fD : ∀ c, c < P.1.1 → D.1 c = P.2.1 c) (ho : 98 ≤ o) (hz : ∀ j z, j < 3 → j ≠ k → im j = some z → z + 31 ≤ o ∨ o + 31 ≤ z) (hc : CpX cpL o 1 D D1) (em : ∀ i, slM E1 i = if i = k + 1 then slM E 0 else slM E i) : IR Rl n0 (w, D1) E1 := by
  have hLP : 98 ≤ P.1.1 := h.1.1.1.1
  refine ⟨ia, ?_, fun im3 h3 j z hj hjz => ?_⟩
  · have e1 : slX D1 1 = slX P.2 1 := slX_fr (fun c _ h2 => by rw [hc.1 c (by omega), fD c (by omega)])
    show Rl (slX D1 1) (slM E1 0)
    rw [e1, em 0, if_neg (by omega)]
    exact h.2.1
  · rw [im_uniq h3 h2, ei j] at hjz
    show Rl (slX D1 z) (slM E1 (j + 1))
    by_cases hjk : j = k
    · rw [if_pos hjk] at hjz
      cases hjz
      have e0 : slX D 1 = slX P.2 1 := slX_fr (fun c _ h2 => fD c (by omega))
      rw [em, if_pos (by omega), slX_cp hc, e0]
      exact h.2.1
    · rw [if_neg hjk] at hjz
      have far := (h.1.1.far him).1 j z hj hjz
      have dis := hz j z hj hjk hjz
      have e1 : slX D1 z = slX P.2 z := slX_fr (fun c a b => by rw [hc.1 c (by omega), fD c (by omega)])
      rw [em, if_neg (by omega), e1]
      exact h.2.2 im him j z hj hjz
theorem nM_image {a : Int32} {E : ADD} : Wp (fX11_image a E) (fun _ E1 => if 0 ≤ a.toInt ∧ a.toInt ≤ 2 then ∀ i, slM E1 i = if i = a.toNatClampNeg + 1 then slM E 0 else slM E i else FmM E E1) := by
  unfold fX11_image
  have f1 : FmM E (aSI E 0 0 0) := FmM.code
  have L2 : (2 : Int32).toInt = 2 := by decide
  refine Wp.lets (Wp.bindE (eM_is _ _ _ _) ?_)
  rw [ti_0, L2]
  by_cases hc : 0 ≤ a.toInt ∧ a.toInt ≤ 2
  · rw [if_pos hc]
    have e1 : (a + 1).toInt = a.toInt + 1 := ti_add rfl (by decide) (by omega) (by omega)
    have ec := cl_i hc.1
    refine Wp.neg (by decide) (Wp.bind (tM_copy (f := 0) (t := a.toNatClampNeg + 1) (by decide) (by omega) (by omega) (by omega) (by omega)) (fun _ D3 k => Wp.idx (i_in (by omega) (by omega)) (Wp.lets (Wp.ret ?_))))
    rw [if_pos hc]
    intro i
    rw [slM_fr (E := D3) (fun c h1 h2 => si_o (by omega))]
    by_cases e : i = a.toNatClampNeg + 1
    · rw [if_pos e, e, slM_cp k, slM_fm f1]
    · rw [if_neg e, slM_cq k e, slM_fm f1]
  · rw [if_neg hc]
    refine Wp.pos rfl (Wp.ret ?_)
    rw [if_neg hc]
    exact f1
theorem nM_again {a : Int32} {E : ADD} : Wp (fX11_again a E) (fun _ E1 => if (0 ≤ a.toInt ∧ a.toInt ≤ 2) ∧ aBz (E.1 39 a.toNatClampNeg) ≠ 0 then ∀ i, slM E1 i = if i = 0 then slM E (a.toNatClampNeg + 1) else slM E i else FmM E E1) := by
  unfold fX11_again
  have f1 : FmM E (aSI E 0 0 0) := FmM.code
  have L2 : (2 : Int32).toInt = 2 := by decide
  refine Wp.lets (Wp.bindE (eM_is _ _ _ _) (Wp.lets ?_))
  generalize aSI E 0 0 0 = D1 at f1 ⊢
  rw [ti_0, L2]
  by_cases hc : 0 ≤ a.toInt ∧ a.toInt ≤ 2
  · rw [if_pos hc]
    have e1 : (a + 1).toInt = a.toInt + 1 := ti_add rfl (by decide) (by omega) (by omega)
    have ec := cl_i hc.1
    refine Wp.neg (by decide) (Wp.idx (i_in (by omega) (by omega)) ?_)
    rw [f1 39 (by omega)]
    refine Wp.ite (fun hz => Wp.ret ?_) (fun hz => Wp.bind (tM_copy (f := a.toNatClampNeg + 1) (t := 0) (by omega) (by decide) (by omega) (by omega) (by omega)) (fun _ D3 k => Wp.ret ?_))
    · rw [if_neg (fun q => q.2 hz)]
      exact f1
    · rw [if_pos ⟨hc, hz⟩]
      intro i
      by_cases e : i = 0
      · rw [if_pos e, e, slM_cp k, slM_fm f1]
      · rw [if_neg e, slM_cq k e, slM_fm f1]
  · rw [if_neg hc]
    refine Wp.pos rfl (Wp.ret ?_)
    rw [if_neg (fun q => hc q.1)]
    exact f1
theorem IR.sameq (h : IR Rl n0 P E) {E1 : ADD} (ia : IA n0 P E1) (f : FmM E E1) : IR Rl n0 P E1 := by
  refine ⟨ia, by rw [slM_fm f]; exact h.2.1, fun im him j z hj hz => ?_⟩
  rw [slM_fm f]
  exact h.2.2 im him j z hj hz
theorem ir_image (h : IR Rl n0 P E) {im : Nat → Option Nat} (him : imOK n0 P.1 im) (a : Int32) : ∃ r1 X r2 D2, fImg n0 im P.1 a P.2 = some (r1, X) ∧ fX11_image a E = some (r2, D2) ∧ r1 = r2 ∧ IR Rl n0 X D2 ∧ P.1.1 ≤ X.1.1 ∧
  (∀ P3, P3 = aPR (fI_X8_init n0 P.1.1 (aNO (P.1, P.2) 7)) 32 a.toNatClampNeg (n0 + P.1.1) → aLSw n0 P3.1 P.1.1 ∧ aLSw n0 P3.1 1) ∧
  (∀ P2, P2 = fI_X8_init n0 P.1.1 (aNO (P.1, P.2) 7) → (32 ∈ P2.1.2.1 ∧ P2.1.2.2 32 = (15, 3, fun j => (im j).map (n0 + ·))) ∧ (P2.1.2.2 0).2.2 1 = some (n0 + 32) ∧ (P2.1.2.2 0).2.2 0 = some (n0 + 1)) := by
  have hL := h.1.1
  have L3 : (3 : Int32).toInt = 3 := by decide
  obtain ⟨r1, X, r2, D2, k1, k2, k3, ia, k5⟩ := ia_image h.1 him a
  refine ⟨r1, X, r2, D2, k1, k2, k3, ?_, k5⟩
  obtain ⟨g1, g2, g3, g4, g5, g6, g7, g8⟩ := Lay.img (k := a.toNatClampNeg) hL him
  have em := (nM_image (a := a) (E := E)).same k2
  by_cases hc : 0 ≤ a.toInt ∧ a.toInt ≤ 2
  · rw [if_pos hc] at em
    have l1 : ¬ a < 0 := fun q => by have := Int32.lt_iff_toInt_lt.mp q; rw [ti_0] at this; omega
    have l2 : a < 3 := Int32.lt_iff_toInt_lt.mpr (by omega)
    have ec := cl_i hc.1
    have hk : a.toNatClampNeg < 3 := by omega
    unfold fImg at k1
    rw [if_neg l1, if_pos l2] at k1
    cases hi : im a.toNatClampNeg with
    | some z =>
      have far := (hL.far him).1 _ z hk hi
      obtain ⟨x, D1, e1, c1⟩ := tX8_copy (o := z) (p := 1) (D := P.2) (by omega)
      rw [hi] at k1
      simp only [] at k1
      rw [e1] at k1
      have hX : X = (P.1, D1) := by
        have k1 : some ((1 : Int32), (P.1, D1)) = some (r1, X) := k1
        cases k1
        rfl
      subst hX
      exact h.img him ia him (k := a.toNatClampNeg) (fun j => by
        by_cases e : j = a.toNatClampNeg
        · rw [if_pos e, e, hi]
        · rw [if_neg e]) (fun _ _ => rfl) far.1 (fun j y hj hjk hy => (hL.far him).2 j _ y z hj hk hjk hy hi) c1 em
    | none =>
      have hd : ∀ c, c < P.1.1 → (opB n0 P.1.1 P sOps).2.1 c = P.2.1 c := fun c hc2 => by
        funext f
        exact (opB_spec n0 P.1.1 P rfl sOps sOps_all).2.2.2.2.1 c f hc2
      have l98 : 98 ≤ P.1.1 := hL.1.1
      obtain ⟨x, D1, e1, c1⟩ := tX8_copy (o := P.1.1) (p := 1) (D := (opB n0 P.1.1 P sOps).2) (by omega)
      rw [hi] at k1
      simp only [aLet] at k1
      rw [sOps_run] at k1
      have k1 : aBind (fX8_copyFrom P.1.1 1 (opB n0 P.1.1 P sOps).2) (fun _ D2 => some ((1 : Int32), ((aPR (opB n0 P.1.1 P sOps) 32 a.toNatClampNeg (n0 + P.1.1)).1, D2))) = some (r1, X) := k1
      rw [e1] at k1
      have hX : X = ((aPR (opB n0 P.1.1 P sOps) 32 a.toNatClampNeg (n0 + P.1.1)).1, D1) := by
        have k1 : some ((1 : Int32), ((aPR (opB n0 P.1.1 P sOps) 32 a.toNatClampNeg (n0 + P.1.1)).1, D1)) = some (r1, X) := k1
        cases k1
        rfl
      subst hX
      exact h.img him ia g2 (k := a.toNatClampNeg) (fun j => rfl) hd l98 (fun j y hj hjk hy => Or.inl ((hL.far him).1 j y hj hy).2) c1 em
  · rw [if_neg hc] at em
    have hX : X = P := by
      unfold fImg at k1
      by_cases l1 : a < 0
      · rw [if_pos l1] at k1
        cases k1
        rfl
      · rw [if_neg l1, if_neg] at k1
        · cases k1
          rfl
        · intro q
          have := Int32.lt_iff_toInt_lt.mp q
          have l1 : ¬ a.toInt < 0 := fun q => l1 (Int32.lt_iff_toInt_lt.mpr (by rw [ti_0]; omega))
          omega
    subst hX
    exact h.sameq ia em
theorem ir_again (h : IR Rl n0 P E) {im : Nat → Option Nat} (him : imOK n0 P.1 im) (a : Int32) : BR Rl n0 P id (fAgn im a P.2) (fX11_again a E) := by
  have hL := h.1.1
  have L3 : (3 : Int32).toInt = 3 := by decide
  obtain ⟨r1, D1, r2, D2, k1, k2, k3, ia⟩ := ia_again h.1 him a
  refine ⟨r1, D1, r2, D2, k1, k2, k3, ?_⟩
  have em := (nM_again (a := a) (E := E)).same k2
  by_cases hc : 0 ≤ a.toInt ∧ a.toInt ≤ 2
  · have l1 : ¬ a < 0 := fun q => by have := Int32.lt_iff_toInt_lt.mp q; rw [ti_0] at this; omega
    have l2 : a < 3 := Int32.lt_iff_toInt_lt.mpr (by omega)
    have ec := cl_i hc.1
    have hk : a.toNatClampNeg < 3 := by omega
    unfold fAgn at k1
    rw [if_neg l1, if_pos l2] at k1
    rcases h.1.2.2.2.2 im him _ hk with ⟨n1, n2⟩ | ⟨z, z1, z2, z3, z4⟩
    · rw [if_neg (fun q => q.2 n2)] at em
      rw [n1] at k1
      have hX : D1 = P.2 := by
        cases k1
        rfl
      subst hX
      exact h.sameq ia em
    · rw [if_pos ⟨hc, z2⟩] at em
      have far := (hL.far him).1 _ z hk z1
      obtain ⟨x, D3, e1, c1⟩ := tX8_copy (o := 1) (p := z) (D := P.2) (by omega)
      rw [z1] at k1
      simp only [] at k1
      rw [e1] at k1
      have hX : D1 = D3 := by
        have k1 : some ((1 : Int32), D3) = some (r1, D1) := k1
        cases k1
        rfl
      subst hX
      refine ⟨ia, ?_, fun im3 h3 j y hj hy => ?_⟩
      · show Rl (slX D1 1) (slM D2 0)
        rw [slX_cp c1, em 0, if_pos rfl]
        exact h.2.2 im him _ z hk z1
      · show Rl (slX D1 y) (slM D2 (j + 1))
        rw [im_uniq h3 him] at hy
        have far := (hL.far him).1 j y hj hy
        have e1 : slX D1 y = slX P.2 y := slX_fr (fun c a b => c1.1 c (by omega))
        rw [e1, em, if_neg (by omega)]
        exact h.2.2 im him j y hj hy
  · rw [if_neg (fun q => hc q.1)] at em
    have hX : D1 = P.2 := by
      unfold fAgn at k1
      by_cases l1 : a < 0
      · rw [if_pos l1] at k1
        cases k1
        rfl
      · rw [if_neg l1, if_neg] at k1
        · cases k1
          rfl
        · intro q
          have := Int32.lt_iff_toInt_lt.mp q
          have l1 : ¬ a.toInt < 0 := fun q => l1 (Int32.lt_iff_toInt_lt.mpr (by rw [ti_0]; omega))
          omega
    subst hX
    exact h.sameq ia em
end IRs
