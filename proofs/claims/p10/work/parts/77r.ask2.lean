/-! by, count: both sides -/
section A2s
variable {D E E1 : ADD} {n0 : Nat} {P : APD}
/-- what the reference knows of one stone -/
def K1 (D E1 : ADD) (k : Nat) : Prop := k < 32 ∧ FcR D E1 k ∧ (E1.1 33 k = loX D (nI k) ∧ E1.1 34 k = hiX D (nI k)) ∧ SpK (loX D (nI k)) (hiX D (nI k)) (knX D (nI k) 7)
noncomputable def shS (D : ADD) (u : Int32) (s : Nat) : Int32 := shortF (hiX D (nI s)) (knX D (nI s) 7) u
noncomputable def tmS (D : ADD) (u : Int32) (s : Nat) : Int32 := timesF (loX D (nI s)) (hiX D (nI s)) (knX D (nI s) 7) u
theorem CR.k1 {N k : Nat} {R : Nat → Prop} (c : CR D E1 N R) (hk : k < N) (hp : R k) : K1 D E1 k := by
  obtain ⟨⟨c1, c2⟩, c3⟩ := c
  obtain ⟨-, c4⟩ := c3 k hk
  exact ⟨by omega, c4 hp⟩
theorem k1_off {k : Nat} {u : Int32} (c : K1 D E1 k) (hu : 10 ≤ u.toInt ∧ u.toInt ≤ 2000) : fX11_off (nI k) u E1 = some (ofS D u k, E1) := by
  obtain ⟨hk, f, ⟨lo, hi⟩, sp⟩ := c
  have vk : (nI k).toInt = (k : Int) := nI_toInt (by omega)
  have f7 : E1.1 32 (11 * k + 7) = knX D (nI k) 7 := f 7 (by decide)
  rw [eM_off (by omega) (u_ne (by omega)), nI_clamp (by omega), lo, hi, f7, (off_eq sp hu).1]
  rfl
theorem k1_times {k : Nat} {u : Int32} (c : K1 D E1 k) (hu : 10 ≤ u.toInt ∧ u.toInt ≤ 2000) : fX11_timesOf (nI k) u E1 = some (tmS D u k, E1) := by
  obtain ⟨hk, f, ⟨lo, hi⟩, sp⟩ := c
  have vk : (nI k).toInt = (k : Int) := nI_toInt (by omega)
  have f7 : E1.1 32 (11 * k + 7) = knX D (nI k) 7 := f 7 (by decide)
  rw [eM_timesOf (by omega) (u_ne (by omega)), nI_clamp (by omega), lo, hi, f7, (times_eq sp hu).1]
  rfl
theorem k1_short {k : Nat} {u : Int32} (c : K1 D E1 k) (hu : 10 ≤ u.toInt ∧ u.toInt ≤ 2000) : fX11_shortOf (nI k) u E1 = some (shS D u k, E1) := by
  obtain ⟨hk, f, ⟨lo, hi⟩, sp⟩ := c
  have vk : (nI k).toInt = (k : Int) := nI_toInt (by omega)
  have f7 : E1.1 32 (11 * k + 7) = knX D (nI k) 7 := f 7 (by decide)
  have nu := u_ne (show 1 ≤ u.toInt by omega)
  have sh := short_eq (hi := hiX D (nI k)) (mk := knX D (nI k) 7) (u := u) ⟨by have := sp.1; omega, sp.1.2.2⟩ sp.2 hu
  have H : Wp (fX11_shortOf (nI k) u E1) (fun x D1 => D1 = E1 ∧ x = shS D u k) := by
    unfold fX11_shortOf shS
    rw [nI_clamp (show k < 2 ^ 31 by omega), hi]
    refine Wp.idx (vp_in_nI hk (by decide)) (Wp.lets (Wp.bindE (eM_f (by omega) ⟨by decide, by decide⟩) ?_))
    rw [nI_clamp (show k < 2 ^ 31 by omega), show (7 : Int32).toNatClampNeg = 7 from rfl, f7]
    refine Wp.letQ (fun Q j => ∀ t D1, D1 = E1 → (t = if knX D (nI k) 7 = 0 then (if hiX D (nI k) / u = 0 then hiX D (nI k) / u + 1 else if 2 * (hiX D (nI k) - hiX D (nI k) / u * u) < u then hiX D (nI k) / u else hiX D (nI k) / u + 1) else knX D (nI k) 7) → Wp (j t D1) Q) (fun t D1 e ht => ?_) (fun j K => ?_)
    · subst e
      refine Wp.lets ?_
      rw [← sh t ht]
      exact Wp.ite (fun c => Wp.ret ⟨rfl, (if_pos c).symm⟩) (fun c => Wp.ret ⟨rfl, (if_neg c).symm⟩)
    · refine Wp.ite (fun m => Wp.nz nu (Wp.lets (Wp.lets (Wp.lets (Wp.ite (fun z => K _ _ rfl ?_) (fun z => Wp.nz nu (Wp.ite (fun y => K _ _ rfl ?_) (fun y => K _ _ rfl ?_)))))))) (fun m => K _ _ rfl ?_)
      · rw [if_pos m, if_pos z]
      · rw [if_pos m, if_neg z, if_pos y]
      · rw [if_pos m, if_neg z, if_neg y]
      · rw [if_neg m]
  obtain ⟨x, D1, e, rfl, rfl⟩ := H
  exact e
theorem PilX.sho {D1 : ADD} {L : List Nat} (p : PilX D D1 L) {i s : Nat} (u : Int32) (h : L[i]? = some s) : shoX D1 (nI i) u = shS D u s := by
  obtain ⟨a, b⟩ := p.has h
  obtain ⟨e1, e2, e3, e4, e5⟩ := p.2.2 i s h
  unfold shoX
  rw [if_pos a, b, e5, e2]
  rfl
theorem PilX.tim {D1 : ADD} {L : List Nat} (p : PilX D D1 L) {i s : Nat} (u : Int32) (h : L[i]? = some s) : timX D1 (nI i) u = tmS D u s := by
  obtain ⟨a, b⟩ := p.has h
  obtain ⟨e1, e2, e3, e4, e5⟩ := p.2.2 i s h
  unfold timX
  rw [if_pos a, b, e4, e5, e2]
  rfl
noncomputable def byV (D : ADD) (s : Nat) (b c : Int32) : Int32 := if c.toInt = 0 then ofS D b s else if c.toInt = 1 then (if 8 * ofS D b s ≤ b then 1 else 0) else if c.toInt = 2 then shS D b s else if c.toInt = 3 then tmS D b s else -1
theorem jr_by {a b c : Int32} (h : IR RF n0 P E) : BR RF n0 P id (fX10_by a b c P.2) (fX11_by a b c E) := by
  obtain ⟨hb, ⟨tp, fl, w, pr⟩, hc⟩ := h.nowF
  have qx := h.1.2.1.2.qx
  have qm := h.1.2.2.1.qm
  have si := seen_iff hb (a := a)
  have V0 : ∀ s, c.toInt = 0 → byV P.2 s b c = ofS P.2 b s := fun s z => by unfold byV; rw [if_pos z]
  have V1 : ∀ s, c.toInt = 1 → byV P.2 s b c = if 8 * ofS P.2 b s ≤ b then 1 else 0 := fun s z => by unfold byV; rw [if_neg (show ¬ c.toInt = 0 by omega), if_pos z]
  have V2 : ∀ s, c.toInt = 2 → byV P.2 s b c = shS P.2 b s := fun s z => by unfold byV; rw [if_neg (show ¬ c.toInt = 0 by omega), if_neg (show ¬ c.toInt = 1 by omega), if_pos z]
  have V3 : ∀ s, c.toInt = 3 → byV P.2 s b c = tmS P.2 b s := fun s z => by unfold byV; rw [if_neg (show ¬ c.toInt = 0 by omega), if_neg (show ¬ c.toInt = 1 by omega), if_neg (show ¬ c.toInt = 2 by omega), if_pos z]
  have V4 : ∀ s, (c.toInt < 0 ∨ 4 ≤ c.toInt) → byV P.2 s b c = -1 := fun s z => by unfold byV; rw [if_neg (show ¬ c.toInt = 0 by omega), if_neg (show ¬ c.toInt = 1 by omega), if_neg (show ¬ c.toInt = 2 by omega), if_neg (show ¬ c.toInt = 3 by omega)]
  refine h.askE (v := if stM E a ∧ (10 ≤ b.toInt ∧ b.toInt ≤ 2000) then byV P.2 a.toNatClampNeg b c else -1) (fun q => oX_by q) (fun q => oM_by q) ?_ ?_
  · unfold fX10_by
    refine Wp.bindE (eX_isUnit _ _) (Wp.lets ?_)
    by_cases hu : 10 ≤ b.toInt ∧ b.toInt ≤ 2000
    · rw [if_pos hu]
      refine Wp.neg (by decide) (Wp.bind (tX4_takeAlone qx.1 qx.2.1) (fun x D1 q => ?_))
      obtain ⟨f, q⟩ := q
      by_cases hs : stM E a
      · have s3 := si.mpr hs
        rw [if_pos ⟨s3.1, s3.2.1⟩] at q
        obtain ⟨rfl, pl⟩ := q
        have l0 : [a.toNatClampNeg][0]? = some a.toNatClampNeg := rfl
        have o1 : offX D1 0 b = ofS P.2 b a.toNatClampNeg := pl.off b l0
        have o2 : shoX D1 0 b = shS P.2 b a.toNatClampNeg := pl.sho b l0
        have o3 : timX D1 0 b = tmS P.2 b a.toNatClampNeg := pl.tim b l0
        rw [if_pos (show stM E a ∧ (10 ≤ b.toInt ∧ b.toInt ≤ 2000) from ⟨hs, hu⟩)]
        refine Wp.neg (by decide) (Wp.tab4 (fun h0 => Wp.bindE (eX_offOf _ _ _) (Wp.ret ?_)) (fun h1 => Wp.bindE (eX_isNear _ _ _) (Wp.lets ?_)) (fun h2 => Wp.bindE (eX_shortOf _ _ _ (by omega)) (Wp.ret ?_)) (fun h3 => Wp.bindE (eX_timesOf _ _ _) (Wp.ret ?_)) (fun hd => Wp.ret ?_))
        · rw [V0 _ h0, o1]
        · rw [V1 _ h1, o1]
          by_cases n : 8 * ofS P.2 b a.toNatClampNeg ≤ b
          · rw [if_pos n]; exact Wp.neg (by decide) (Wp.ret rfl)
          · rw [if_neg n]; exact Wp.pos rfl (Wp.ret rfl)
        · rw [V2 _ h2, o2]
        · rw [V3 _ h3, o3]
        · rw [V4 _ hd]
      · rw [if_neg (fun z => hs (si.mp ⟨z.1, z.2, by have := qx.1; omega⟩))] at q
        rw [q, if_neg (show ¬ (stM E a ∧ (10 ≤ b.toInt ∧ b.toInt ≤ 2000)) from fun z => hs z.1)]
        exact Wp.pos rfl (Wp.ret rfl)
    · rw [if_neg hu, if_neg (show ¬ (stM E a ∧ (10 ≤ b.toInt ∧ b.toInt ≤ 2000)) from fun z => hu z.2)]
      exact Wp.pos rfl (Wp.ret rfl)
  · unfold fX11_by
    have f1 : FmM E (aSI E 0 0 0) := FmM.code
    have eS : stM (aSI E 0 0 0) a ↔ stM E a := by
      unfold stM
      rw [f1.mb, f1 5 (by omega)]
    refine Wp.lets (Wp.bindE (eM_isStone (qm.fr f1)) (Wp.lets ?_))
    by_cases hs : stM E a
    · rw [if_pos (eS.mpr hs)]
      refine Wp.neg (by decide) (Wp.bindE (eM_isUnit _ _) ?_)
      by_cases hu : 10 ≤ b.toInt ∧ b.toInt ≤ 2000
      · rw [if_pos hu, if_pos (show stM E a ∧ (10 ≤ b.toInt ∧ b.toInt ≤ 2000) from ⟨hs, hu⟩)]
        obtain ⟨va, hn, ht, h32⟩ := st_nS hb hs
        refine Wp.neg (by decide) (Wp.bind (lk0 qm hb w hc) (fun _ E1 l => ?_))
        obtain ⟨⟨l1, l2, l3, l4, l5⟩, -⟩ := l
        have k1 : K1 P.2 E1 a.toNatClampNeg := ⟨h32, l4 _ hn ht, (l5 _ hn).1 ht, sp_th hb w hn ht⟩
        have o1 := k1_off k1 hu
        have o2 := k1_short k1 hu
        have o3 := k1_times k1 hu
        rw [← va] at o1 o2 o3
        refine Wp.tab4 (fun h0 => Wp.bindE o1 (Wp.ret ?_)) (fun h1 => Wp.bindE o1 (Wp.lets ?_)) (fun h2 => Wp.bindE o2 (Wp.ret ?_)) (fun h3 => Wp.bindE o3 (Wp.ret ?_)) (fun hd => Wp.ret ?_)
        · rw [V0 _ h0]
        · rw [V1 _ h1]
          refine Wp.ite (fun y => Wp.ret ?_) (fun y => Wp.ret ?_)
          · rw [if_neg (Int32.not_le.mpr y)]
          · rw [if_pos (Int32.not_lt.mp y)]
        · rw [V2 _ h2]
        · rw [V3 _ h3]
        · rw [V4 _ hd]
      · rw [if_neg hu, if_neg (show ¬ (stM E a ∧ (10 ≤ b.toInt ∧ b.toInt ≤ 2000)) from fun z => hu z.2)]
        exact Wp.pos rfl (Wp.ret rfl)
    · rw [if_neg (fun z => hs (eS.mp z)), if_neg (show ¬ (stM E a ∧ (10 ≤ b.toInt ∧ b.toInt ≤ 2000)) from fun z => hs z.1)]
      exact Wp.pos rfl (Wp.ret rfl)
/-- the class's gathering of any kind -/
theorem gaK (q : QX D) (h : RBk (xc D) (mB E)) (k v : Int32) : Wp (fX4_gather k v D) (fun r D1 => r = D1.1 43 0 ∧ FrP D D1 ∧ PilX D D1 (chL (fun s => thE E s ∧ blX D k v (nI s)) (nS (mB E)))) := by
  refine (tX4_gather (k := k) (v := v) (FrP.refl D) q.1 q.2.1).mono (fun r D1 z => ⟨z.1, z.2.1, ?_⟩)
  have := z.2.2
  rw [gaL_th h] at this
  exact this
theorem bl_1 {v s : Int32} : blX D 1 v s ↔ chX D s ∧ knX D s 4 = v := by
  unfold blX
  rw [ti_1, if_neg (by decide), if_pos rfl]
theorem th_len (h : RBk (xc D) (mB E)) : nI (chL (fun s => thE E s) (nS (mB E))).length = D.1 2 9 := by
  obtain ⟨-, -, -, bw, s0, t0, -, -⟩ := h
  have s0 : 0 ≤ (D.1 2 9).toInt ∧ (D.1 2 9).toInt ≤ (mB E 5 0).toInt := s0
  have t0 : ∀ s : Nat, s < nS (mB E) → ((s : Int) < (D.1 2 9).toInt ↔ thE E s) := t0
  have n5 : ((nS (mB E) : Nat) : Int) = (mB E 5 0).toInt := cl_i bw.1.2.1.1
  have e9 := cl_i s0.1
  have step : ∀ i, i ≤ nS (mB E) → (chL (fun s => thE E s) i).length = min i (D.1 2 9).toNatClampNeg := by
    intro i
    induction i with
    | zero => intro _; rw [Nat.zero_min]; rfl
    | succ i ih =>
      intro hi
      have ih := ih (by omega)
      have t := t0 i (by omega)
      by_cases c : i < (D.1 2 9).toNatClampNeg
      · have th : thE E i := t.mp (by omega)
        rw [chL_t (P := fun s => thE E s) th, List.length_append, ih]
        show _ + 1 = _
        omega
      · have th : ¬ thE E i := fun z => by have := t.mpr z; omega
        rw [chL_f (P := fun s => thE E s) th, ih]
        omega
  rw [step _ (Nat.le_refl _), show min (nS (mB E)) (D.1 2 9).toNatClampNeg = (D.1 2 9).toNatClampNeg by omega]
  exact (nI_val s0.1).symm
noncomputable def cnV (D E : ADD) (a : Int32) : Int32 := if a.toInt = 0 then D.1 2 9 else if a.toInt = 1 then nI (cL0 D E).length else if a.toInt = 2 then D.1 2 10 else if a.toInt = 3 then D.1 2 11 else if a.toInt = 4 then D.1 2 12 else if a.toInt = 5 then D.1 13 0 else if a.toInt = 6 then D.1 22 0 else if 10 ≤ a.toInt ∧ a.toInt ≤ 15 then nI (chL (fun s => thE E s ∧ blX D 1 (a - 10) (nI s)) (nS (mB E))).length else -1
theorem jr_count {a : Int32} (h : IR RF n0 P E) : BR RF n0 P id (fX10_count a P.2) (fX11_count a E) := by
  obtain ⟨hb, ⟨tp, fl, w, pr⟩, hc⟩ := h.nowF
  have qx := h.1.2.1.2.qx
  have qm := h.1.2.2.1.qm
  have w1 := w.1
  have p1 := pr.1
  rw [sm0 (by decide) (by decide)] at w1 p1
  have w1 : P.2.1 13 0 = E.1 15 0 := w1
  have p1 : P.2.1 22 0 = E.1 15 1 := p1
  have e10 : (10 : Int32).toInt = 10 := by decide
  have e15 : (15 : Int32).toInt = 15 := by decide
  have e16 : (16 : Int32).toInt = 16 := by decide
  have V0 : a.toInt = 0 → cnV P.2 E a = P.2.1 2 9 := fun z => by unfold cnV; rw [z]; rfl
  have V1 : a.toInt = 1 → cnV P.2 E a = nI (cL0 P.2 E).length := fun z => by unfold cnV; rw [z]; rfl
  have V2 : a.toInt = 2 → cnV P.2 E a = P.2.1 2 10 := fun z => by unfold cnV; rw [z]; rfl
  have V3 : a.toInt = 3 → cnV P.2 E a = P.2.1 2 11 := fun z => by unfold cnV; rw [z]; rfl
  have V4 : a.toInt = 4 → cnV P.2 E a = P.2.1 2 12 := fun z => by unfold cnV; rw [z]; rfl
  have V5 : a.toInt = 5 → cnV P.2 E a = P.2.1 13 0 := fun z => by unfold cnV; rw [z]; rfl
  have V6 : a.toInt = 6 → cnV P.2 E a = P.2.1 22 0 := fun z => by unfold cnV; rw [z]; rfl
  have Vd : (a.toInt < 0 ∨ 7 ≤ a.toInt) → cnV P.2 E a = if 10 ≤ a.toInt ∧ a.toInt ≤ 15 then nI (chL (fun s => thE E s ∧ blX P.2 1 (a - 10) (nI s)) (nS (mB E))).length else -1 := fun z => by
    unfold cnV
    rw [if_neg (show ¬ a.toInt = 0 by omega), if_neg (show ¬ a.toInt = 1 by omega), if_neg (show ¬ a.toInt = 2 by omega), if_neg (show ¬ a.toInt = 3 by omega), if_neg (show ¬ a.toInt = 4 by omega), if_neg (show ¬ a.toInt = 5 by omega), if_neg (show ¬ a.toInt = 6 by omega)]
  refine h.askE (v := cnV P.2 E a) (fun q => oX_count q) (fun q => oM_count q) ?_ ?_
  · unfold fX10_count
    refine Wp.tab7 (fun z => Wp.ret (V0 z).symm) (fun z => Wp.bind (ga0 qx hb) (fun r D1 k => Wp.ret ?_)) (fun z => Wp.ret (V2 z).symm) (fun z => Wp.ret (V3 z).symm) (fun z => Wp.ret (V4 z).symm) (fun z => Wp.ret (V5 z).symm) (fun z => Wp.ret (V6 z).symm) (fun z => Wp.lets (Wp.lets ?_))
    · rw [V1 z, k.1, (pil_m k.2.2).1]
    · rw [Vd z]
      refine Wp.ilt (fun y => Wp.ret ?_) (fun y => Wp.ile (fun y2 => Wp.ret ?_) (fun y2 => Wp.bind (gaK qx hb 1 (a - 10)) (fun r D1 k => Wp.ret ?_)))
      · rw [if_neg (by omega)]
      · rw [if_neg (by omega)]
      · rw [if_pos (by omega), k.1, (pil_m k.2.2).1]
  · unfold fX11_count
    refine Wp.lets (Wp.bind (lk0 qm hb w hc) (fun _ E1 l => ?_))
    obtain ⟨⟨l1, l2, l3, l4, l5⟩, cr⟩ := l
    obtain ⟨⟨c1, c2⟩, c3⟩ := cr
    have x1 : P.2.1 2 10 = E.1 8 0 := hb.1.2.1.trans mB8
    have x2 : P.2.1 2 11 = E.1 6 0 := hb.1.2.2.1.trans mB6
    have x3 : P.2.1 2 12 = E.1 7 0 := hb.1.2.2.2.trans mB7
    refine Wp.tab7 (fun z => Wp.lets (Wp.lets (bM_sum (P := fun k => thE E k) (v := fun _ => 1) c2 (fun g y k hk K => ?_) (fun g => ?_)))) (fun z => Wp.bindE (bM_those ⟨⟨c1, c2⟩, c3⟩) (Wp.ret ?_)) (fun z => Wp.idd (by decide) (Wp.ret ?_)) (fun z => Wp.idd (by decide) (Wp.ret ?_)) (fun z => Wp.idd (by decide) (Wp.ret ?_)) (fun z => Wp.idd (by decide) (Wp.ret ?_)) (fun z => Wp.idd (by decide) (Wp.ret ?_)) (fun z => Wp.lets (Wp.lets (bM_sum (P := fun k => thE E k ∧ blX P.2 1 (a - 10) (nI k)) (v := fun _ => 1) c2 (fun g y k hk K => ?_) (fun g => ?_))))
    · unfold lX11_count_58
      have vk : (nI k).toInt = (k : Int) := nI_toInt (by omega)
      have vn : (nI (nS (mB E))).toInt = (nS (mB E) : Int) := nI_toInt (by omega)
      rw [c1, nI_clamp (show k < 2 ^ 31 by omega)]
      refine Wp.ile (fun q => absurd q (by omega)) (fun _ => Wp.idx (vp_in_nI (by omega) (by decide)) (Wp.lets ?_))
      rw [l3 k hk]
      by_cases t : thE E k
      · rw [if_pos t]
        exact Wp.neg (by decide) (Wp.lets (Wp.lets (K _ (Or.inl ⟨rfl, t⟩))))
      · rw [if_neg t]
        exact Wp.pos (by decide) (Wp.lets (Wp.lets (K _ (Or.inr ⟨rfl, t⟩))))
    · unfold lX11_count_58
      rw [c1]
      exact Wp.pos (Int32.le_refl _) (Wp.ret ((sumL_one _).trans ((th_len hb).trans (V0 z).symm)))
    · exact (V1 z).symm
    · rw [V2 z, x1, l1 8 (by omega)]; rfl
    · rw [V3 z, x2, l1 6 (by omega)]; rfl
    · rw [V4 z, x3, l1 7 (by omega)]; rfl
    · rw [V5 z, w1, l1 15 (by omega)]; rfl
    · rw [V6 z, p1, l1 15 (by omega)]; rfl
    · unfold lX11_count_133
      have vk : (nI k).toInt = (k : Int) := nI_toInt (by omega)
      have vn : (nI (nS (mB E))).toInt = (nS (mB E) : Int) := nI_toInt (by omega)
      rw [c1, nI_clamp (show k < 2 ^ 31 by omega)]
      refine Wp.ile (fun q => absurd q (by omega)) (fun _ => Wp.idx (vp_in_nI (by omega) (by decide)) (Wp.lets (Wp.lets ?_)))
      obtain ⟨b, f⟩ := c3 k hk
      have b := bz_Bo b
      refine Wp.ite (fun q => Wp.lets (Wp.lets (K _ (Or.inr ⟨rfl, fun y => b.mp q ⟨y.1, (bl_1.mp y.2).1⟩⟩)))) (fun q => ?_)
      have pk := Classical.byContradiction (fun z => q (b.mpr z))
      have f4 : E1.1 32 (11 * k + 4) = knX P.2 (nI k) 4 := (f pk).1 4 (by decide)
      refine Wp.bindE (eM_f (by omega) ⟨by decide, by decide⟩) ?_
      rw [nI_clamp (show k < 2 ^ 31 by omega), show (4 : Int32).toNatClampNeg = 4 from rfl, f4]
      exact Wp.ite (fun y => Wp.lets (Wp.lets (K _ (Or.inl ⟨rfl, pk.1, bl_1.mpr ⟨pk.2, y⟩⟩)))) (fun y => Wp.lets (Wp.lets (K _ (Or.inr ⟨rfl, fun t => y (bl_1.mp t.2).2⟩))))
    · unfold lX11_count_133
      rw [c1]
      refine Wp.pos (Int32.le_refl _) (Wp.bindE (eM_is _ _ _ _) (Wp.lets ?_))
      rw [e10, e15, Vd z]
      by_cases y : 10 ≤ a.toInt ∧ a.toInt ≤ 15
      · rw [if_pos y, if_pos y]
        exact Wp.neg (by decide) (Wp.ret (sumL_one _))
      · rw [if_neg y, if_neg y]
        exact Wp.pos rfl (Wp.ret rfl)
end A2s
