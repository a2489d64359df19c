/-! another day, another view; the book's calls of both sides -/
section B3s
variable {D D1 : ADD} {M M1 : Sl}
theorem RBk.day {a : Int32} (h : RBk (xc D) M) (hD : ∀ c, c ≠ 2 → D1.1 c = D.1 c) (h2 : ∀ i, D1.1 2 i = if i = 11 then a else D.1 2 i) (e : ∀ c, c ≠ 6 → M1 c = M c) (e6 : M1 6 0 = a) (le : (M 6 0).toInt ≤ a.toInt) (l9 : a.toInt ≤ 9999) : RBk (xc D1) M1 := by
  obtain ⟨⟨a1, a2, a3, a4⟩, b, c, w0, s0, t0, u0, v0⟩ := h
  obtain ⟨bw, fc⟩ := w0.day e (by rw [e6]; exact le) (by rw [e6]; exact l9)
  have ei : ∀ i, i ≠ 11 → D1.1 2 i = D.1 2 i := fun i hi => by rw [h2, if_neg hi]
  have e5 : M1 5 = M 5 := e 5 (by decide)
  have e7 : M1 7 = M 7 := e 7 (by decide)
  have e8 : M1 8 = M 8 := e 8 (by decide)
  have e9 : M1 9 = M 9 := e 9 (by decide)
  have e10 : M1 10 = M 10 := e 10 (by decide)
  have ns : nS M1 = nS M := by show (M1 5 0).toNatClampNeg = _; rw [e5]
  have h7 := w0.2.2.2.1
  refine ⟨⟨?_, ?_, ?_, ?_⟩, fun k hk => ?_, fun i hi => ?_, bw, ?_, fun i hi => ?_, fun i j hi hj => ?_, fun i j hi hj => ?_⟩
  · show D1.1 2 8 = _
    rw [ei 8 (by decide), e5]
    exact a1
  · show D1.1 2 10 = _
    rw [ei 10 (by decide), e8]
    exact a2
  · show D1.1 2 11 = _
    rw [h2, if_pos rfl, e6]
  · show D1.1 2 12 = _
    rw [ei 12 (by decide), e7]
    exact a4
  · show D1.1 7 k = M1 9 _ ∧ D1.1 8 k = M1 9 _ ∧ D1.1 9 k = M1 9 _ ∧ D1.1 10 k = M1 9 _
    rw [hD 7 (by decide), hD 8 (by decide), hD 9 (by decide), hD 10 (by decide), e9]
    exact b k hk
  · show D1.1 5 i = _ ∧ D1.1 6 i = _
    rw [hD 5 (by decide), hD 6 (by decide), e10]
    exact c i hi
  · show 0 ≤ (D1.1 2 9).toInt ∧ (D1.1 2 9).toInt ≤ _
    rw [ei 9 (by decide), e5]
    exact s0
  · rw [ns] at hi
    show (i : Int) < (D1.1 2 9).toInt ↔ (M1 10 _).toInt ≤ _
    rw [ei 9 (by decide), e10]
    refine (t0 i hi).trans ?_
    unfold dvF
    rw [e7, e6]
    by_cases q : M 7 0 = -1
    · rw [if_pos q, if_pos q]
      have := h7 i hi
      exact ⟨fun _ => by show (lD M i).toInt ≤ _; omega, fun _ => this⟩
    · rw [if_neg q, if_neg q]
  · rw [ns] at hi
    show D1.1 3 _ = _
    rw [hD 3 (by decide), fc, e6]
    refine (u0 i j hi hj).trans ?_
    exact w0.late le (Int.le_refl _)
  · have hi : (i : Int) < (D1.1 2 9).toInt := hi
    rw [ei 9 (by decide)] at hi
    show D1.1 4 _ = _
    rw [hD 4 (by decide), fc]
    refine (v0 i j hi hj).trans ?_
    unfold dvF
    rw [e7, e6]
    by_cases q : M 7 0 = -1
    · rw [if_pos q, if_pos q]
      exact w0.late le (Int.le_refl _)
    · rw [if_neg q, if_neg q]
theorem rp_all {vw d : Int32} (hb : ∀ k, k < nE M → D.1 7 k = eD M k ∧ D.1 8 k = eS M k ∧ D.1 9 k = eF M k ∧ D.1 10 k = eV M k) (hc : ∀ s, s < 32 → D.1 5 s = M 10 (3 * s + 1) ∧ D.1 6 s = M 10 (3 * s + 2)) (w : BW M) (hv : ∀ k, k < nE M → ((vw = -1 ∨ (D.1 7 k).toInt ≤ vw.toInt) ↔ (eD M k).toInt ≤ d.toInt)) : ∀ n, n ≤ nE M →
    (0 ≤ (rpS D vw n).2.toInt ∧ (rpS D vw n).2.toInt ≤ cnL M n) ∧ ((∀ k, k < n → (eD M k).toInt ≤ d.toInt) → (rpS D vw n).2.toInt = cnL M n) ∧ (∀ s f : Nat, (s : Int) < (rpS D vw n).2.toInt → f < 11 → (rpS D vw n).1 (11 * s + f) = fcF M d s f (dfF M s f) n) ∧ ∀ s : Nat, s < cnL M n → ((s : Int) < (rpS D vw n).2.toInt ↔ (lD M s).toInt ≤ d.toInt)
  | 0, _ => by
    refine ⟨by show 0 ≤ (0 : Int32).toInt ∧ (0 : Int32).toInt ≤ ((0 : Nat) : Int); decide, fun _ => by show (0 : Int32).toInt = ((0 : Nat) : Int); decide, fun s f hs _ => ?_, fun s hs => absurd hs (by show ¬ s < 0; omega)⟩
    have hs : (s : Int) < (0 : Int32).toInt := hs
    rw [ti_0] at hs
    omega
  | n + 1, hn => by
    obtain ⟨i1, i2, i3, i4⟩ := rp_all hb hc w hv n (by omega)
    obtain ⟨b1, b2, b3, b4⟩ := hb n (by omega)
    obtain ⟨o1, o2, o3⟩ := w.2.1 n (by omega)
    have cm : cnL M (n + 1) ≤ nS M := by rw [← w.2.2.1]; exact cnL_mono hn
    have c0 : cnL M n ≤ cnL M (n + 1) := cnL_mono (by omega)
    have h32 := w.1.2.1
    have e5 : ((nS M : Nat) : Int) = (M 5 0).toInt := cl_i h32.1
    have nS32 : nS M ≤ 32 := by omega
    have cs : cnL M (n + 1) = if eF M n = -1 then cnL M n + 1 else cnL M n := rfl
    have fs : ∀ s f z, fcF M d s f z (n + 1) = if hitF M d s f n then eV M n else fcF M d s f z n := fun s f z => rfl
    have rs : rpS D vw (n + 1) = if vw = -1 ∨ (D.1 7 n).toInt ≤ vw.toInt then (apF (rpS D vw n).1 (D.1 8 n).toNatClampNeg (D.1 9 n) (D.1 10 n) (D.1 5 (D.1 8 n).toNatClampNeg) (D.1 6 (D.1 8 n).toNatClampNeg), if D.1 9 n = -1 then D.1 8 n + 1 else (rpS D vw n).2) else rpS D vw n := rfl
    by_cases hd : (eD M n).toInt ≤ d.toInt
    · have cnt := i2 (fun k hk => by have := o3 k hk; omega)
      rw [if_pos ((hv n (by omega)).mpr hd), b2, b3, b4] at rs
      rcases o1 with ⟨q1, q2, q3⟩ | ⟨q1, q2, q3⟩
      · -- a listing
        rw [if_pos q1] at cs
        have es : (eS M n).toNatClampNeg = cnL M n := by rw [q2]; exact nI_clamp (by omega)
        have e2 : (eS M n + 1).toInt = cnL M n + 1 := by rw [q2]; exact ti_add (nI_toInt (by omega)) ti_1 (by omega) (by omega)
        rw [if_pos q1, es, q1] at rs
        obtain ⟨st, tw⟩ := hc (cnL M n) (by omega)
        rw [rs]
        refine ⟨?_, fun _ => ?_, fun s f hs hf => ?_, fun s hs => ?_⟩
        · show 0 ≤ (eS M n + 1).toInt ∧ (eS M n + 1).toInt ≤ _
          omega
        · show (eS M n + 1).toInt = _
          omega
        · have hs : (s : Int) < (eS M n + 1).toInt := hs
          show apF (rpS D vw n).1 (cnL M n) (-1) (eV M n) _ _ (11 * s + f) = _
          rw [apF_2 (Or.inl (by decide)), st, tw, fs]
          by_cases e : s = cnL M n
          · have nf : ¬ (-1 : Int32) = nI f := fun e => by
              have : (-1 : Int32).toInt = (nI f).toInt := by rw [e]
              rw [ti_m1, nI_toInt (by omega)] at this
              omega
            rw [if_pos (by omega), show 11 * s + f - 11 * cnL M n = f by omega, fcF_new (by omega) (fun k hk => (w.2.1 k (by omega)).1) (by omega)]
            unfold lsF dfF
            by_cases f0 : f = 0
            · rw [if_pos f0, if_pos ⟨by rw [q2, e], hd, Or.inr ⟨q1, f0⟩⟩]
            · have hn : ¬ hitF M d s f n := fun q => q.2.2.elim (fun q => nf (by rw [← q1]; exact q)) (fun q => f0 q.2)
              rw [if_neg f0, if_neg hn, e]
          · rw [if_neg (by omega), if_neg, i3 s f (by omega) hf]
            rintro ⟨q, -⟩
            rw [q2, nI_eq (by omega) (by omega)] at q
            omega
        · show (s : Int) < (eS M n + 1).toInt ↔ _
          by_cases e : s = cnL M n
          · rw [e, q3]
            exact ⟨fun _ => hd, fun _ => by omega⟩
          · have := i4 s (by omega)
            rw [← this]
            omega
      · -- a fact
        have fn : ¬ eF M n = -1 := fun e => by rw [e, ti_m1] at q1; omega
        rw [if_neg fn] at cs
        have es := cl_i q2
        have ef := cl_i q1.1
        have vs : eS M n = nI (eS M n).toNatClampNeg := nI_val q2
        have vf : eF M n = nI (eF M n).toNatClampNeg := nI_val q1.1
        rw [if_neg fn] at rs
        rw [rs, cs]
        refine ⟨i1, fun _ => cnt, fun s f hs hf => ?_, i4⟩
        have hs : (s : Int) < (rpS D vw n).2.toInt := hs
        show apF (rpS D vw n).1 (eS M n).toNatClampNeg (eF M n) (eV M n) _ _ (11 * s + f) = _
        rw [apF_1 q1, fs]
        by_cases e : 11 * s + f = 11 * (eS M n).toNatClampNeg + (eF M n).toNatClampNeg
        · have k1 : s = (eS M n).toNatClampNeg := by omega
          have k2 : f = (eF M n).toNatClampNeg := by omega
          rw [if_pos e, if_pos ⟨by rw [k1]; exact vs, hd, Or.inl (by rw [k2]; exact vf)⟩]
        · rw [if_neg e, if_neg, i3 s f hs hf]
          rintro ⟨k1, -, k2⟩
          have k2 := k2.resolve_right (fun q => fn q.1)
          rw [k1, k2, nI_clamp (by omega), nI_clamp (by omega)] at e
          exact e rfl
    · -- not seen
      rw [if_neg (fun q => hd ((hv n (by omega)).mp q))] at rs
      rw [rs]
      refine ⟨⟨i1.1, by omega⟩, fun q => absurd (q n (by omega)) hd, fun s f hs hf => ?_, fun s hs => ?_⟩
      · rw [fs, if_neg (fun q => hd q.2.1), i3 s f hs hf]
      · by_cases e : s < cnL M n
        · exact i4 s e
        · rcases o1 with ⟨q1, q2, q3⟩ | ⟨q1, q2, q3⟩
          · rw [if_pos q1] at cs
            have : s = cnL M n := by omega
            rw [this, q3]
            exact ⟨fun q => by omega, fun q => absurd q hd⟩
          · have fn : ¬ eF M n = -1 := fun e => by rw [e, ti_m1] at q1; omega
            rw [if_neg fn] at cs
            omega
theorem RBk.view {a : Int32} (h : RBk (xc D) M) (v : VwX D D1 a) (e : ∀ c, c ≠ 7 → M1 c = M c) (e7 : M1 7 0 = a) (ok : a = -1 ∨ (0 ≤ a.toInt ∧ a.toInt ≤ (M 6 0).toInt)) : RBk (xc D1) M1 := by
  obtain ⟨⟨a1, a2, a3, a4⟩, b, c, w0, s0, t0, u0, v0⟩ := h
  obtain ⟨bw, fc⟩ := w0.view e (by rw [e7]; exact ok)
  obtain ⟨k1, k2, k3, k4, k5, k6⟩ := v
  have a2 : D.1 2 10 = M 8 0 := a2
  have b : ∀ k, k < 400 → D.1 7 k = eD M k ∧ D.1 8 k = eS M k ∧ D.1 9 k = eF M k ∧ D.1 10 k = eV M k := b
  have e5 : M1 5 = M 5 := e 5 (by decide)
  have e6 : M1 6 = M 6 := e 6 (by decide)
  have e8 : M1 8 = M 8 := e 8 (by decide)
  have e9 : M1 9 = M 9 := e 9 (by decide)
  have e10 : M1 10 = M 10 := e 10 (by decide)
  have ns : nS M1 = nS M := by show (M1 5 0).toNatClampNeg = _; rw [e5]
  have h8 := w0.1.1
  have en : ((nE M : Nat) : Int) = (M 8 0).toInt := cl_i h8.1
  have dv : dvF M1 = if a = -1 then M 6 0 else a := by unfold dvF; rw [e7, e6]
  have nE4 : nE M ≤ 400 := by omega
  have hv : ∀ k, k < nE M → ((a = -1 ∨ (D.1 7 k).toInt ≤ a.toInt) ↔ (eD M k).toInt ≤ (dvF M1).toInt) := fun k hk => by
    rw [dv, (b k (by omega)).1]
    by_cases q : a = -1
    · rw [if_pos q]
      exact ⟨fun _ => (w0.2.1 k hk).2.1, fun _ => Or.inl q⟩
    · rw [if_neg q]
      exact ⟨fun z => z.resolve_left q, fun z => Or.inr z⟩
  obtain ⟨r1, r2, r3, r4⟩ := rp_all (D := D) (M := M) (vw := a) (d := dvF M1) (fun k hk => b k (by omega)) c w0 hv (nE M) (Nat.le_refl _)
  have n10 : (D.1 2 10).toNatClampNeg = nE M := by rw [a2]
  rw [n10] at k5 k6
  rw [w0.2.2.1] at r1 r4
  rw [← k5] at r1 r3 r4
  have e52 : ((nS M : Nat) : Int) = (M 5 0).toInt := cl_i w0.1.2.1.1
  refine ⟨⟨?_, ?_, ?_, ?_⟩, fun k hk => ?_, fun i hi => ?_, bw, ?_, fun i hi => ?_, fun i j hi hj => ?_, fun i j hi hj => ?_⟩
  · show D1.1 2 8 = _
    rw [k3 8 (by decide) (by decide), e5]
    exact a1
  · show D1.1 2 10 = _
    rw [k3 10 (by decide) (by decide), e8]
    exact a2
  · show D1.1 2 11 = _
    rw [k3 11 (by decide) (by decide), e6]
    exact a3
  · show D1.1 2 12 = _
    rw [k4, e7]
  · show D1.1 7 k = M1 9 _ ∧ D1.1 8 k = M1 9 _ ∧ D1.1 9 k = M1 9 _ ∧ D1.1 10 k = M1 9 _
    rw [k1 7 (by decide) (by decide), k1 8 (by decide) (by decide), k1 9 (by decide) (by decide), k1 10 (by decide) (by decide), e9]
    exact b k hk
  · show D1.1 5 i = _ ∧ D1.1 6 i = _
    rw [k1 5 (by decide) (by decide), k1 6 (by decide) (by decide), e10]
    exact c i hi
  · show 0 ≤ (D1.1 2 9).toInt ∧ (D1.1 2 9).toInt ≤ (M1 5 0).toInt
    rw [e5]
    have := r1.2
    exact ⟨r1.1, by omega⟩
  · rw [ns] at hi
    show (i : Int) < (D1.1 2 9).toInt ↔ (M1 10 _).toInt ≤ _
    rw [e10]
    exact r4 i hi
  · rw [ns] at hi
    show D1.1 3 _ = _
    rw [k1 3 (by decide) (by decide), fc, e6]
    exact u0 i j hi hj
  · have hi : (i : Int) < (D1.1 2 9).toInt := hi
    show D1.1 4 _ = _
    rw [k6, fc]
    exact r3 i j hi hj
end B3s
section B4s
variable {D D1 E E1 : ADD}
theorem rb_stone {w st tw r1 r2 : Int32} (h : RBk (xc D) (mB E)) (q : QXt D 1) (q2 : QM E) (e1 : fX10_stone w st tw D = some (r1, D1)) (e2 : fX11_stone w st tw E = some (r2, E1)) : r1 = r2 ∧ RBk (xc D1) (mB E1) ∧ NwM E E1 ∧ (∀ c, (c = 1 ∨ 11 ≤ c) → D1.1 c = D.1 c) ∧ ∀ c, 1 ≤ c → c < 23 → (c < 5 ∨ 10 < c) → E1.1 c = E.1 c := by
  have h1 : 0 ≤ (D.1 2 8).toInt ∧ (D.1 2 8).toInt ≤ 32 := q.1
  have h3 : 0 ≤ (D.1 2 10).toInt ∧ (D.1 2 10).toInt ≤ 400 := q.2.2.1
  have k1 := (tX10_stone (w := w) (st := st) (tw := tw) h1 h3).same e1
  have k2 := (tM_stone (w := w) (st := st) (tw := tw) q2.1 q2.2.1).same e2
  have a1 : D.1 2 8 = E.1 5 0 := h.1.1.trans mB5
  have a2 : D.1 2 10 = E.1 8 0 := h.1.2.1.trans mB8
  rw [a1, a2] at k1
  by_cases hc : (E.1 5 0).toInt < 32 ∧ (E.1 8 0).toInt < 400 ∧ LsOK w st tw
  · rw [if_pos hc] at k1 k2
    obtain ⟨p1, p2⟩ := k1
    obtain ⟨s1, s2⟩ := k2
    obtain ⟨l1, l2, l3⟩ := s2.sl ⟨q2.2.1.1, hc.2.1⟩ ⟨q2.1.1, hc.1⟩
    have he : (mB E 8 0).toInt < 400 := by rw [mB8]; exact hc.2.1
    have hs : (mB E 5 0).toInt < 32 := by rw [mB5]; exact hc.1
    refine ⟨p1.trans s1.symm, h.stone p2 l1 (BW.stone h.2.2.2.1 l1 he hs hc.2.2) he hs, l2, fun c hc => ?_, fun c c1 c2 c3 => l3 c (by omega) (by omega) (by omega) (by omega) (by omega)⟩
    obtain ⟨D7, z1, z2, z3, z4, z5, z6, z7, z8⟩ := p2
    rw [z6 c (by omega) (by omega) (by omega) (by omega) (by omega) (by omega) (by omega), z1 c (by omega) (by omega) (by omega)]
  · rw [if_neg hc] at k1 k2
    obtain ⟨p1, rfl⟩ := k1
    have f := k2.2.fm
    exact ⟨p1.trans k2.1.symm, by rw [f.mb]; exact h, NwM.fm f, fun _ _ => rfl, fun c c1 c2 _ => f c (by omega)⟩
theorem rb_tell {s f v r1 r2 : Int32} (h : RBk (xc D) (mB E)) (q : QXt D 1) (q2 : QM E) (e1 : fX10_tell s f v D = some (r1, D1)) (e2 : fX11_tell s f v E = some (r2, E1)) : r1 = r2 ∧ RBk (xc D1) (mB E1) ∧ NwM E E1 ∧ (∀ c, (c = 1 ∨ 11 ≤ c) → D1.1 c = D.1 c) ∧ ∀ c, 1 ≤ c → c < 23 → (c < 5 ∨ 10 < c) → E1.1 c = E.1 c := by
  have h1 : 0 ≤ (D.1 2 8).toInt ∧ (D.1 2 8).toInt ≤ 32 := q.1
  have h3 : 0 ≤ (D.1 2 10).toInt ∧ (D.1 2 10).toInt ≤ 400 := q.2.2.1
  have a1 : D.1 2 8 = E.1 5 0 := h.1.1.trans mB5
  have a2 : D.1 2 10 = E.1 8 0 := h.1.2.1.trans mB8
  have bw := h.2.2.2.1
  have e6 : mB E 6 0 = E.1 6 0 := mB6
  have hg : ∀ i, i < nS (mB E) → Gd (fct (mB E) (E.1 6 0) i) := fun i hi => by
    have := bw.2.2.2.2 (mB E 6 0) i hi (bw.2.2.2.1 i hi)
    rw [e6] at this
    exact this
  have k1 := (oX_tell (s := s) (f := f) (v := v) h1.2 h3.1).same e1
  have k2 := (bM_tell (s := s) (f := f) (v := v) q2 hg).same e2
  have n5 := cl_i q2.1.1
  have eq : TlX D s f v ↔ TlM E s f v := by
    unfold TlX TlM
    rw [a1, a2]
    by_cases hs : 0 ≤ s.toInt ∧ s.toInt < (E.1 5 0).toInt
    · have es := cl_i hs.1
      have u0 : ∀ j, j < 11 → D.1 3 (11 * s.toNatClampNeg + j) = fct (mB E) (E.1 6 0) s.toNatClampNeg j := fun j hj => by
        have := h.2.2.2.2.2.2.1 s.toNatClampNeg j (by rw [mBs]; omega) hj
        rw [e6] at this
        exact this
      have ag : AgX D s.toNatClampNeg f v ↔ Ag (fct (mB E) (E.1 6 0) s.toNatClampNeg) f v := by
        unfold AgX Ag
        have z := u0 0 (by decide)
        rw [Nat.add_zero] at z
        rw [u0 3 (by decide), z, u0 6 (by decide), u0 5 (by decide)]
      rw [ag]
    · exact ⟨fun k => absurd k.1 hs, fun k => absurd k.1 hs⟩
  by_cases hc : TlM E s f v
  · rw [if_pos (eq.mpr hc)] at k1
    rw [if_pos hc] at k2
    obtain ⟨p1, p2⟩ := k1
    obtain ⟨s1, s2, s3, s4⟩ := k2
    have he : (mB E 8 0).toInt < 400 := by rw [mB8]; exact hc.2.1
    have hs : 0 ≤ s.toInt ∧ s.toInt < (mB E 5 0).toInt := by rw [mB5]; exact hc.1
    refine ⟨p1.trans s1.symm, h.tell p2 s2 (bw.tell s2 he hs hc.2.2.1 (by rw [e6]; exact hc.2.2.2)) he hs hc.2.2.1.1, s3, fun c hc => ?_, fun c c1 c2 c3 => s4 c (by omega) (by omega) (by omega)⟩
    exact p2.1 c (by omega) (by omega) (by omega) (by omega) (by omega) (by omega) (by omega)
  · rw [if_neg (fun k => hc (eq.mp k))] at k1
    rw [if_neg hc] at k2
    obtain ⟨p1, rfl⟩ := k1
    have f := k2.2
    exact ⟨p1.trans k2.1.symm, by rw [f.mb]; exact h, NwM.fm f, fun _ _ => rfl, fun c c1 c2 _ => f c (by omega)⟩
theorem rb_day {a r1 r2 : Int32} (h : RBk (xc D) (mB E)) (e1 : fX10_day a D = some (r1, D1)) (e2 : fX11_day a E = some (r2, E1)) : RBk (xc D1) (mB E1) ∧ NwM E E1 ∧ (∀ c, (c = 1 ∨ 11 ≤ c) → D1.1 c = D.1 c) ∧ ∀ c, 1 ≤ c → c < 23 → (c < 5 ∨ 10 < c) → E1.1 c = E.1 c := by
  have k1 := (oX_day (a := a)).same e1
  obtain ⟨k2, k3⟩ := (bM_day (a := a)).same e2
  have a3 : D.1 2 11 = E.1 6 0 := h.1.2.2.1.trans mB6
  rw [a3] at k1
  have nw : NwM E E1 := fun c i c1 c2 c3 => by
    by_cases e : c = 6
    · subst e
      have c3 : 1 ≤ i := c3
      rw [k3, if_neg (by omega)]
    · rw [k2 c (by omega) e]
  by_cases hc : (E.1 6 0).toInt ≤ a.toInt ∧ a.toInt ≤ 9999
  · rw [if_pos hc] at k1
    obtain ⟨-, rfl⟩ := k1
    refine ⟨h.day (a := a) (fun c hc => si_o hc) (fun i => si_s) (fun c hc => ?_) ?_ (by rw [mB6]; exact hc.1) hc.2, nw, fun c hc => si_o (by omega), fun c c1 c2 c3 => k2 c (by omega) (by omega)⟩
    · by_cases e : c = 0
      · subst e
        funext i
        exact (mB_out (Nat.zero_le i)).trans (mB_out (Nat.zero_le i)).symm
      · exact mB_fr (fun _ _ => k2 c e hc)
    · rw [mB6, k3, if_pos ⟨rfl, hc⟩]
  · rw [if_neg hc] at k1
    obtain ⟨-, rfl⟩ := k1
    have e6 : E1.1 6 = E.1 6 := by
      funext i
      rw [k3, if_neg (fun q => hc q.2)]
    refine ⟨?_, nw, fun _ _ => rfl, fun c c1 c2 c3 => k2 c (by omega) (by omega)⟩
    have : mB E1 = mB E := trB_fr (fun c c1 c2 => smF (by
      by_cases e : c = 6
      · rw [e]; exact e6
      · exact k2 c (by omega) e))
    rw [this]
    exact h
theorem rb_view {a r1 r2 : Int32} (h : RBk (xc D) (mB E)) (q : QXt D 1) (e1 : fX10_view a D = some (r1, D1)) (e2 : fX11_view a E = some (r2, E1)) : RBk (xc D1) (mB E1) ∧ NwM E E1 ∧ (∀ c, (c = 1 ∨ 11 ≤ c) → D1.1 c = D.1 c) ∧ ∀ c, 1 ≤ c → c < 23 → (c < 5 ∨ 10 < c) → E1.1 c = E.1 c := by
  have a3 : D.1 2 11 = E.1 6 0 := h.1.2.2.1.trans mB6
  have q3 : 0 ≤ (D.1 2 10).toInt ∧ (D.1 2 10).toInt ≤ 400 := q.2.2.1
  have k1 := (oX_view (a := a) q3 q.2.2.2.1).same e1
  obtain ⟨k2, k3⟩ := (bM_view (a := a)).same e2
  rw [a3] at k1
  have td0 : 0 ≤ (E.1 6 0).toInt := by have := h.2.2.2.1.1.2.2.1.1; rw [mB6] at this; exact this
  have eq : (a = -1 ∨ (0 ≤ a.toInt ∧ a.toInt ≤ (E.1 6 0).toInt)) ↔ (-1 ≤ a.toInt ∧ a.toInt ≤ (E.1 6 0).toInt) := by
    have am : a = -1 ↔ a.toInt = -1 := ⟨fun e => by rw [e]; decide, fun e => Int32.toInt_inj.mp (by rw [e]; decide)⟩
    rw [am]
    omega
  have nw : NwM E E1 := fun c i c1 c2 c3 => by
    by_cases e : c = 7
    · subst e
      have c3 : 1 ≤ i := c3
      rw [k3, if_neg (by omega)]
    · rw [k2 c (by omega) e]
  by_cases hc : a = -1 ∨ (0 ≤ a.toInt ∧ a.toInt ≤ (E.1 6 0).toInt)
  · rw [if_pos hc] at k1
    obtain ⟨-, v⟩ := k1
    refine ⟨h.view v (fun c hc => ?_) ?_ (by rw [mB6]; exact hc), nw, fun c hc => v.1 c (by omega) (by omega), fun c c1 c2 c3 => k2 c (by omega) (by omega)⟩
    · by_cases e : c = 0
      · subst e
        funext i
        exact (mB_out (Nat.zero_le i)).trans (mB_out (Nat.zero_le i)).symm
      · exact mB_fr (fun _ _ => k2 c e hc)
    · rw [mB7, k3, if_pos ⟨rfl, eq.mp hc⟩]
  · rw [if_neg hc] at k1
    obtain ⟨-, rfl⟩ := k1
    have e7 : E1.1 7 = E.1 7 := by
      funext i
      rw [k3, if_neg (fun q => hc (eq.mpr q.2))]
    refine ⟨?_, nw, fun _ _ => rfl, fun c c1 c2 c3 => k2 c (by omega) (by omega)⟩
    have : mB E1 = mB E := trB_fr (fun c c1 c2 => smF (by
      by_cases e : c = 7
      · rw [e]; exact e7
      · exact k2 c (by omega) e))
    rw [this]
    exact h
end B4s
