/-! the book's relation, kept by every call -/
def RB (X M : Sl) : Prop := RBk X (trB M)
section RBs
variable {n0 : Nat} {P : APD} {E : ADD}
theorem IR.now (h : IR RB n0 P E) : RBk (xc P.2) (mB E) := RBk.to.mp h.2.1
theorem IR.keepB (h : IR RB n0 P E) {D1 E1 : ADD} (ia : IA n0 (P.1, D1) E1) (kx : ∀ c, 98 ≤ c → D1.1 c = P.2.1 c) (nm : ∀ t, 1 ≤ t → trB (slM E1 t) = trB (slM E t)) (r : RBk (xc D1) (mB E1)) : IR RB n0 (P.1, D1) E1 := by
  refine ⟨ia, RBk.to.mpr r, fun im him j z hj hz => ?_⟩
  have far := (h.1.1.far him).1 j z hj hz
  have e1 : slX D1 z = slX P.2 z := slX_fr (fun c hc _ => kx c (by omega))
  show RBk (slX D1 z) (trB (slM E1 (j + 1)))
  rw [e1, nm (j + 1) (by omega)]
  exact h.2.2 im him j z hj hz
theorem slM_row {E E1 : ADD} {t c : Nat} (h : E1.1 c = E.1 c) : slM E1 t c = slM E t c := by
  funext i
  unfold slM
  by_cases h1 : c = 1
  · subst h1
    rw [h]
  · rw [if_neg h1, if_neg h1, h]
theorem RBk.same {D D1 E E1 : ADD} (h : RBk (xc D) (mB E)) (f : ∀ c, 2 ≤ c → c ≤ 10 → D1.1 c = D.1 c) (g : ∀ c, 5 ≤ c → c ≤ 10 → E1.1 c = E.1 c) : RBk (xc D1) (mB E1) := by
  have e : mB E1 = mB E := trB_fr (fun c a b => slM_row (g c a b))
  rw [e]
  have e2 : ∀ d i, 1 ≤ d → d ≤ 9 → xc D1 d i = xc D d i := fun d i a b => by
    show D1.1 (1 + d) i = D.1 (1 + d) i
    rw [f (1 + d) (by omega) (by omega)]
  exact h.cx (fun i _ _ => e2 1 i (by omega) (by omega)) (fun d i a _ => e2 d i (by omega) (by omega)) (fun d i a _ => e2 d i (by omega) (by omega)) (fun d i a b _ => e2 d i (by omega) (by omega))
theorem IR.free {ρ : Type} {R : Prop → Prop} {f g : Option (ρ × ADD)} (h : IR RB n0 P E) (b : Bt n0 P R f g) (hf : Wp f (fun _ D1 => ∀ c, ((2 ≤ c ∧ c ≤ 10) ∨ 98 ≤ c) → D1.1 c = P.2.1 c)) (hg : Wp g (fun _ E1 => ∀ c, 5 ≤ c → c ≤ 10 → E1.1 c = E.1 c)) : BR RB n0 P R f g := by
  obtain ⟨r1, D1, r2, D2, h1, h2, h3, h4⟩ := b
  have n1 := hf.same h1
  have n2 := hg.same h2
  exact ⟨r1, D1, r2, D2, h1, h2, h3, h.keepB h4 (fun c hc => n1 c (by omega)) (fun t _ => trB_fr (fun c a b => slM_row (n2 c a b))) (h.now.same (fun c a b => n1 c (by omega)) n2)⟩
theorem ir_stone {a b c : Int32} (h : IR RB n0 P E) : BR RB n0 P id (fX10_stone a b c P.2) (fX11_stone a b c E) := by
  obtain ⟨r1, D1, r2, D2, e1, e2, -, ia⟩ := ia_stone (a := a) (b := b) (c := c) h.1
  obtain ⟨k1, k2, k3, k4, k5⟩ := rb_stone h.now h.1.2.1.2 h.1.2.2.1.qm e1 e2
  exact ⟨r1, D1, r2, D2, e1, e2, k1, h.keepB ia (fun c hc => k4 c (by omega)) (fun t ht => by rw [k3.sl ht]) k2⟩
theorem ir_tell {a b c : Int32} (h : IR RB n0 P E) : BR RB n0 P id (fX10_tell a b c P.2) (fX11_tell a b c E) := by
  obtain ⟨r1, D1, r2, D2, e1, e2, -, ia⟩ := ia_tell (a := a) (b := b) (c := c) h.1
  obtain ⟨k1, k2, k3, k4, k5⟩ := rb_tell h.now h.1.2.1.2 h.1.2.2.1.qm e1 e2
  exact ⟨r1, D1, r2, D2, e1, e2, k1, h.keepB ia (fun c hc => k4 c (by omega)) (fun t ht => by rw [k3.sl ht]) k2⟩
theorem ir_day {a : Int32} (h : IR RB n0 P E) : BR RB n0 P id (fX10_day a P.2) (fX11_day a E) := by
  obtain ⟨r1, D1, r2, D2, e1, e2, e3, ia⟩ := ia_day (a := a) h.1
  obtain ⟨k2, k3, k4, k5⟩ := rb_day h.now e1 e2
  exact ⟨r1, D1, r2, D2, e1, e2, e3, h.keepB ia (fun c hc => k4 c (by omega)) (fun t ht => by rw [k3.sl ht]) k2⟩
theorem ir_view {a : Int32} (h : IR RB n0 P E) : BR RB n0 P id (fX10_view a P.2) (fX11_view a E) := by
  obtain ⟨r1, D1, r2, D2, e1, e2, e3, ia⟩ := ia_view (a := a) h.1
  obtain ⟨k2, k3, k4, k5⟩ := rb_view h.now h.1.2.1.2 e1 e2
  exact ⟨r1, D1, r2, D2, e1, e2, e3, h.keepB ia (fun c hc => k4 c (by omega)) (fun t ht => by rw [k3.sl ht]) k2⟩
theorem fX_feed {a b c d e : Int32} {D : ADD} (q : QXt D 1) : Wp (fX10_feed a b c d e D) (fun _ D1 => ∀ c, c ≠ 11 → c ≠ 12 → D1.1 c = D.1 c) := by
  have l : 0 ≤ (D.1 11 1).toInt ∧ (D.1 11 1).toInt ≤ 500 := q.2.2.2.2.1
  have el := cl_i l.1
  refine (oX_feed (n := (D.1 11 1).toNatClampNeg) (by omega) (by omega)).mono (fun r D1 k => ?_)
  split at k
  · exact k.2.2.1
  · intro c _ _
    rw [k.2]
theorem ir_feed {a b c d e : Int32} (h : IR RB n0 P E) : BR RB n0 P id (fX10_feed a b c d e P.2) (fX11_feed a b c d e E) := by
  have l := h.1.2.2.1.len
  have el := cl_i l.1
  exact h.free (ia_feed h.1) ((fX_feed h.1.2.1.2).mono (fun _ D1 k c hc => k c (by omega) (by omega))) ((tM_feed (n := (E.1 2 0).toNatClampNeg) (by omega) (by omega)).mono (fun _ E1 k c a b => k.1 c (by omega) (by omega) (by omega)))
theorem fX_end {a : Int32} {D : ADD} : Wp (fX10_end a D) (fun _ D1 => ∀ c, c ≠ 11 → D1.1 c = D.1 c) := by
  refine oX_end.mono (fun r D1 k => ?_)
  split at k
  · intro c hc
    rw [k.2]
    exact si_o hc
  · intro c _
    rw [k.2]
theorem fM_end {a : Int32} : Wp (fX11_end a E) (fun _ E1 => (∀ c, c ≠ 0 → c ≠ 2 → E1.1 c = E.1 c) ∧ ∀ i, i ≠ 0 → E1.1 2 i = E.1 2 i) := by
  unfold fX11_end
  have fo : ∀ c, c ≠ 0 → (aSI E 0 0 0).1 c = E.1 c := fun c hc => si_o hc
  refine Wp.lets (Wp.idd (by decide) (Wp.bindE (eM_is _ _ _ _) ?_))
  generalize aSI E 0 0 0 = D1 at fo ⊢
  refine Wp.ite (fun _ => Wp.ret ⟨fun c a _ => fo c a, fun i _ => by rw [fo 2 (by decide)]⟩) (fun _ => Wp.idd (by decide) (Wp.lets (Wp.ret ⟨fun c a b => by rw [si_o b, fo c a], fun i hi => ?_⟩)))
  rw [cl_0, si_s, if_neg hi, fo 2 (by decide)]
theorem ir_end {a : Int32} (h : IR RB n0 P E) : BR RB n0 P id (fX10_end a P.2) (fX11_end a E) :=
  h.free (ia_end h.1) (fX_end.mono (fun _ D1 k c hc => k c (by omega))) (fM_end.mono (fun _ E1 k c a b => k.1 c (by omega) (by omega)))
theorem ir_text {a : Int32} (ha : a = 0 ∨ a = 1) (h : IR RB n0 P E) : BR RB n0 P (fun _ => True) (fX10_text a P.2) (fX11_text a E) := by
  obtain ⟨a1, a2, a3, a4, a5, a6, a7, a8⟩ := h.1.2.1.2
  exact h.free (ia_text ha h.1) ((oX_text ha h.1.2.1.1 a5.1 ⟨a6, a7⟩).mono (fun _ D1 k c hc => k.1 c (by omega))) ((oM_text h.1.2.2.1.qm h.1.2.2.1.2 h.1.2.2.1.len).mono (fun _ E1 k c a b => k.1 c (by omega)))
theorem ir_choose {a b y z m : Int32} (h : IR RB n0 P E) : BR RB n0 P id (fX10_choose a b y z m P.2) (fX11_choose a b y z m E) := by
  refine h.free (ia_choose h.1) (tX10_choose.mono (fun _ D1 k c hc => ?_)) (tM_choose.mono (fun _ E1 k c a b => ?_))
  · split at k
    · exact k.2.1 c (by omega)
    · rw [k.2]
  · split at k
    · exact k.2.1 c (by omega) (by omega) (by omega) (by omega) (by omega)
    · exact k.2.1 c (by omega)
theorem seen_iff {D : ADD} (h : RBk (xc D) (mB E)) {a : Int32} : (0 ≤ a.toInt ∧ a.toInt < (D.1 2 9).toInt ∧ a.toInt < 32) ↔ stM E a := by
  obtain ⟨-, -, -, w, s0, t0, -, -⟩ := h
  have s0 : 0 ≤ (D.1 2 9).toInt ∧ (D.1 2 9).toInt ≤ (mB E 5 0).toInt := s0
  have t0 : ∀ s : Nat, s < nS (mB E) → ((s : Int) < (D.1 2 9).toInt ↔ (lD (mB E) s).toInt ≤ (dvF (mB E)).toInt) := t0
  have n5 : ((nS (mB E) : Nat) : Int) = (mB E 5 0).toInt := cl_i w.1.2.1.1
  have h32 := w.1.2.1.2
  rw [mB5] at n5 s0 h32
  unfold stM
  constructor
  · rintro ⟨k1, k2, k3⟩
    have ea := cl_i k1
    exact ⟨⟨k1, by omega⟩, (t0 a.toNatClampNeg (by omega)).mp (by omega)⟩
  · rintro ⟨⟨k1, k2⟩, k3⟩
    have ea := cl_i k1
    have := (t0 a.toNatClampNeg (by omega)).mpr k3
    exact ⟨k1, by omega, by omega⟩
theorem kn_fct {D : ADD} (h : RBk (xc D) (mB E)) {a b : Int32} : knX D a b = if stM E a ∧ 0 ≤ b.toInt ∧ b.toInt ≤ 10 then fct (mB E) (dvF (mB E)) a.toNatClampNeg b.toNatClampNeg else -100000 := by
  unfold knX
  by_cases hs : stM E a
  · have s3 := (seen_iff h).mpr hs
    have ea := cl_i s3.1
    by_cases hb : 0 ≤ b.toInt ∧ b.toInt < 11
    · have eb := cl_i hb.1
      rw [if_pos ⟨s3, hb⟩, if_pos ⟨hs, hb.1, by omega⟩]
      exact h.2.2.2.2.2.2.2 a.toNatClampNeg b.toNatClampNeg (by show (a.toNatClampNeg : Int) < (D.1 2 9).toInt; omega) (by omega)
    · rw [if_neg (fun k => hb k.2), if_neg (fun k => hb ⟨k.2.1, by omega⟩)]
  · rw [if_neg (fun k => hs ((seen_iff h).mp k.1)), if_neg (fun k => hs k.1)]
theorem ir_fact {a b : Int32} (h : IR RB n0 P E) : BR RB n0 P id (fX10_fact a b P.2) (fX11_fact a b E) :=
  h.askE (fun _ => Pu.fx ⟨_, _, oX_fact, rfl⟩) (fun q => oM_fact q) ⟨_, _, oX_fact, kn_fct h.now⟩ (bM_fact h.1.2.2.1.qm)
theorem bX_entry {a b : Int32} {D : ADD} (hn : (D.1 2 10).toInt ≤ 400) : Wp (fX10_entry a b D) (fun r _ => r = if (0 ≤ a.toInt ∧ a.toInt < (D.1 2 10).toInt) ∧ 0 ≤ b.toInt ∧ b.toInt ≤ 3 then (if b.toInt = 0 then D.1 7 a.toNatClampNeg else if b.toInt = 1 then D.1 8 a.toNatClampNeg else if b.toInt = 2 then D.1 9 a.toNatClampNeg else D.1 10 a.toNatClampNeg) else -100000) := by
  unfold fX10_entry
  refine Wp.bind (P := fun r _ => r = if (0 ≤ a.toInt ∧ a.toInt < (D.1 2 10).toInt) ∧ 0 ≤ b.toInt ∧ b.toInt ≤ 3 then (if b.toInt = 0 then D.1 7 a.toNatClampNeg else if b.toInt = 1 then D.1 8 a.toNatClampNeg else if b.toInt = 2 then D.1 9 a.toNatClampNeg else D.1 10 a.toNatClampNeg) else -100000) ?_ (fun x D1 q => Wp.ret q)
  unfold fX0_written
  have e4 : (400 : Int32).toInt = 400 := by decide
  refine Wp.lets (Wp.ilt (fun h => Wp.ret (if_neg (by rw [ti_0] at h; omega)).symm) (fun h => Wp.ile (fun h1 => Wp.ret (if_neg (by omega)).symm) (fun h1 => Wp.ilt (fun h2 => ?_) (fun h2 => absurd h1 (by omega)))))
  rw [ti_0] at h
  have ii : vp_in a 400 := i_in h (by omega)
  refine Wp.tab4 (fun h3 => Wp.idx ii (Wp.ret ?_)) (fun h3 => Wp.idx ii (Wp.ret ?_)) (fun h3 => Wp.idx ii (Wp.ret ?_)) (fun h3 => Wp.idx ii (Wp.ret ?_)) (fun h3 => Wp.ret (if_neg (by omega)).symm)
  · rw [if_pos ⟨⟨h, h1⟩, by omega⟩, if_pos h3]
  · rw [if_pos ⟨⟨h, h1⟩, by omega⟩, if_neg (by omega), if_pos h3]
  · rw [if_pos ⟨⟨h, h1⟩, by omega⟩, if_neg (by omega), if_neg (by omega), if_pos h3]
  · rw [if_pos ⟨⟨h, h1⟩, by omega⟩, if_neg (by omega), if_neg (by omega), if_neg (by omega)]
theorem ir_entry {a b : Int32} (h : IR RB n0 P E) : BR RB n0 P id (fX10_entry a b P.2) (fX11_entry a b E) := by
  have q3 : 0 ≤ (P.2.1 2 10).toInt ∧ (P.2.1 2 10).toInt ≤ 400 := h.1.2.1.2.2.2.1
  have n := h.now
  have a2 : P.2.1 2 10 = E.1 8 0 := n.1.2.1.trans mB8
  refine h.askE (fun _ => Pu.fx oX_entry) (fun q => oM_entry q) ((bX_entry q3.2).mono (fun r _ k => ?_)) (bM_entry h.1.2.2.1.qm)
  rw [k, a2]
  by_cases hc : (0 ≤ a.toInt ∧ a.toInt < (E.1 8 0).toInt) ∧ 0 ≤ b.toInt ∧ b.toInt ≤ 3
  · rw [if_pos hc, if_pos hc]
    have ea := cl_i hc.1.1
    have eb := cl_i hc.2.1
    rw [a2] at q3
    obtain ⟨b1, b2, b3, b4⟩ := n.2.1 a.toNatClampNeg (by omega)
    by_cases h0 : b.toInt = 0
    · rw [if_pos h0, show 4 * a.toNatClampNeg + b.toNatClampNeg = 4 * a.toNatClampNeg by omega]
      exact b1
    · by_cases h1 : b.toInt = 1
      · rw [if_neg h0, if_pos h1, show b.toNatClampNeg = 1 by omega]
        exact b2
      · by_cases h2 : b.toInt = 2
        · rw [if_neg h0, if_neg h1, if_pos h2, show b.toNatClampNeg = 2 by omega]
          exact b3
        · rw [if_neg h0, if_neg h1, if_neg h2, show b.toNatClampNeg = 3 by omega]
          exact b4
  · rw [if_neg hc, if_neg hc]
end RBs
/-! the first states -/
theorem opInt_0 {q : Nat} : ∀ ops : List aOp, (ops.all fun o => o.1 == 0 || o.1 == 1 || !(o.2.1 == q)) = true → ∀ f, opInt ops q f = 0
  | [], _, _ => rfl
  | o :: r, h, f => by
    rw [List.all_cons, Bool.and_eq_true] at h
    have ih := opInt_0 r h.2 f
    have h1 := h.1
    show (if o.1 = 0 then (if q = opCnt r then 0 else opInt r q f) else if o.1 = 1 then opInt r q f else if q = o.2.1 ∧ f = o.2.2.1 then o.2.2.2.2 else opInt r q f) = 0
    rw [ih]
    by_cases a : o.1 = 0
    · rw [if_pos a]
      split <;> rfl
    · by_cases b : o.1 = 1
      · rw [if_neg a, if_pos b]
      · rw [if_neg a, if_neg b, if_neg]
        rintro ⟨c, -⟩
        simp [a, b, c] at h1
theorem rb_first (n0 n1 : Nat) : RB (slX (xB n0).2 1) (slM (m0 n1).2 0) := by
  refine RBk.to.mpr ?_
  show RBk (xc (xB n0).2) (mB (m0 n1).2)
  have m8 : (m0 n1).2.1 8 0 = 0 := by rw [mI]; decide +kernel
  have m5 : (m0 n1).2.1 5 0 = 0 := by rw [mI]; decide +kernel
  have m6 : (m0 n1).2.1 6 0 = 0 := by rw [mI]; decide +kernel
  have m7 : (m0 n1).2.1 7 0 = -1 := by rw [mI]; decide +kernel
  have m9 : ∀ j, mB (m0 n1).2 9 j = 0 := fun j => by
    by_cases h : j < 1600
    · rw [mB9 h, mI]
      exact opInt_0 mOps (by decide +kernel) j
    · exact mB_out (by show 1600 ≤ j; omega)
  have m10 : ∀ j, mB (m0 n1).2 10 j = 0 := fun j => by
    by_cases h : j < 96
    · rw [mB10 h, mI]
      exact opInt_0 mOps (by decide +kernel) j
    · exact mB_out (by show 96 ≤ j; omega)
  have x8 : (xB n0).2.1 2 8 = 0 := by rw [xI]; decide +kernel
  have x9 : (xB n0).2.1 2 9 = 0 := by rw [xI]; decide +kernel
  have x10 : (xB n0).2.1 2 10 = 0 := by rw [xI]; decide +kernel
  have x11 : (xB n0).2.1 2 11 = 0 := by rw [xI]; decide +kernel
  have x12 : (xB n0).2.1 2 12 = -1 := by rw [xI]; decide +kernel
  have xz : ∀ c, (c = 5 ∨ c = 6 ∨ c = 7 ∨ c = 8 ∨ c = 9 ∨ c = 10) → ∀ j, (xB n0).2.1 c j = 0 := fun c hc j => by
    rw [xI]
    rcases hc with rfl | rfl | rfl | rfl | rfl | rfl <;> exact opInt_0 xOps (by decide +kernel) j
  have nS0 : nS (mB (m0 n1).2) = 0 := by rw [mBs, m5]; rfl
  have nE0 : nE (mB (m0 n1).2) = 0 := by rw [mBn, m8]; rfl
  refine ⟨⟨?_, ?_, ?_, ?_⟩, fun k hk => ?_, fun s hs => ?_, ⟨⟨?_, ?_, ?_, ?_⟩, fun k hk => ?_, ?_, fun s hs => ?_, fun d s hs => ?_⟩, ?_, fun s hs => ?_, fun s f hs => ?_, fun s f hs => ?_⟩
  · rw [mB5, m5]; exact x8
  · rw [mB8, m8]; exact x10
  · rw [mB6, m6]; exact x11
  · rw [mB7, m7]; exact x12
  · show (xB n0).2.1 7 k = mB _ 9 _ ∧ (xB n0).2.1 8 k = mB _ 9 _ ∧ (xB n0).2.1 9 k = mB _ 9 _ ∧ (xB n0).2.1 10 k = mB _ 9 _
    rw [m9, m9, m9, m9, xz 7 (by omega), xz 8 (by omega), xz 9 (by omega), xz 10 (by omega)]
    exact ⟨rfl, rfl, rfl, rfl⟩
  · show (xB n0).2.1 5 s = _ ∧ (xB n0).2.1 6 s = _
    rw [m10, m10, xz 5 (by omega), xz 6 (by omega)]
    exact ⟨rfl, rfl⟩
  · rw [mB8, m8]; decide
  · rw [mB5, m5]; decide
  · rw [mB6, m6]; decide
  · rw [mB7, m7]; exact Or.inl rfl
  · rw [nE0] at hk; omega
  · rw [nE0, nS0]; rfl
  · rw [nS0] at hs; omega
  · rw [nS0] at hs; omega
  · show 0 ≤ ((xB n0).2.1 2 9).toInt ∧ ((xB n0).2.1 2 9).toInt ≤ _
    rw [x9, mB5, m5]; decide
  · rw [nS0] at hs; omega
  · rw [nS0] at hs; omega
  · have hs : (s : Int) < ((xB n0).2.1 2 9).toInt := hs
    rw [x9, ti_0] at hs
    omega
theorem ir_first {Rl : Sl → Sl → Prop} (n0 n1 : Nat) (r : Rl (slX (xB n0).2 1) (slM (m0 n1).2 0)) : IR Rl n0 (xB n0) (m0 n1).2 :=
  ⟨ia_first n0 n1, r, fun im him j z hj hz => by
    rw [im_uniq him (xB_im n0)] at hz
    cases hz⟩
