/-! the whole relation, kept by every call -/
def RCh (X M : Sl) : Prop := (X 30 0 = M 11 0 &&& 63) ∧ (X 30 1 = M 12 0 &&& 31) ∧ X 30 2 = M 13 0 ∧ X 30 3 = M 13 1 ∧ X 30 4 = M 14 0
def RF (X M : Sl) : Prop := RB X M ∧ RTx X M ∧ RCh X M
section RFa
variable {X X1 M M1 : Sl} {o b q : Nat} {wear : Prop} {D D1 E E1 : ADD}
theorem RuS.cx (h : RuS X M o b q wear) (x0 : X1 o 0 = X o 0) (h4 : ∀ i j, 1 ≤ i → i ≤ 4 → j < 16 → X1 (o + i) j = X (o + i) j) (h8 : ∀ i j, 5 ≤ i → i ≤ 8 → j < 64 → X1 (o + i) j = X (o + i) j) : RuS X1 M o b q wear := by
  obtain ⟨h1, h2, h3⟩ := h
  unfold RuS
  rw [x0]
  refine ⟨h1, h2, fun l hl => ?_⟩
  have l16 : l < 16 := by omega
  obtain ⟨m, ⟨a1, a2, a3⟩, a4, a5, a6, a7⟩ := h3 l hl
  refine ⟨m, ⟨a1, by rw [h4 4 l (by decide) (by decide) l16]; exact a2, a3⟩, fun t ht => ?_, by rw [h4 1 l (by decide) (by decide) l16]; exact a5, by rw [h4 1 l (by decide) (by decide) l16]; exact a6, ?_⟩
  · rw [h8 5 _ (by decide) (by decide) (by omega), h8 6 _ (by decide) (by decide) (by omega), h8 7 _ (by decide) (by decide) (by omega), h8 8 _ (by decide) (by decide) (by omega)]
    exact a4 t ht
  · rw [h4 1 l (by decide) (by decide) l16, h4 2 l (by decide) (by decide) l16, h4 3 l (by decide) (by decide) l16]
    exact a7
theorem sx_r (o : Nat) (ho : o = 12 ∨ o = 21) : slX D 1 o 0 = xc D o 0 ∧ (∀ i j, 1 ≤ i → i ≤ 4 → j < 16 → slX D 1 (o + i) j = xc D (o + i) j) ∧ ∀ i j, 5 ≤ i → i ≤ 8 → j < 64 → slX D 1 (o + i) j = xc D (o + i) j := by
  rcases ho with rfl | rfl
  · refine ⟨slX_fld (by decide), fun i j a b c => ?_, fun i j a b c => ?_⟩
    · have : i = 1 ∨ i = 2 ∨ i = 3 ∨ i = 4 := by omega
      rcases this with rfl | rfl | rfl | rfl <;> exact slX_arr (n := 16) (by decide) c
    · have : i = 5 ∨ i = 6 ∨ i = 7 ∨ i = 8 := by omega
      rcases this with rfl | rfl | rfl | rfl <;> exact slX_arr (n := 64) (by decide) c
  · refine ⟨slX_fld (by decide), fun i j a b c => ?_, fun i j a b c => ?_⟩
    · have : i = 1 ∨ i = 2 ∨ i = 3 ∨ i = 4 := by omega
      rcases this with rfl | rfl | rfl | rfl <;> exact slX_arr (n := 16) (by decide) c
    · have : i = 5 ∨ i = 6 ∨ i = 7 ∨ i = 8 := by omega
      rcases this with rfl | rfl | rfl | rfl <;> exact slX_arr (n := 64) (by decide) c
theorem RTx.to : RTx (slX D 1) M ↔ RTx (xc D) M := by
  have e1 : slX D 1 10 1 = xc D 10 1 := slX_fld (by decide)
  have e2 : ∀ j, j < 500 → slX D 1 11 j = xc D 11 j := fun j hj => slX_arr (n := 500) (by decide) hj
  have e3 : slX D 1 0 5 = xc D 0 5 := slX_fld (by decide)
  have e4 : slX D 1 0 6 = xc D 0 6 := slX_fld (by decide)
  obtain ⟨w1, w2, w3⟩ := sx_r (D := D) 12 (by decide)
  obtain ⟨p1, p2, p3⟩ := sx_r (D := D) 21 (by decide)
  constructor
  · rintro ⟨⟨a, b⟩, ⟨c, d⟩, w, p⟩
    exact ⟨⟨by rw [← e1]; exact a, fun j hj => by rw [← e2 j hj]; exact b j hj⟩, ⟨by rw [← e3]; exact c, by rw [← e4]; exact d⟩, w.cx w1.symm (fun i j a b c => (w2 i j a b c).symm) (fun i j a b c => (w3 i j a b c).symm), p.cx p1.symm (fun i j a b c => (p2 i j a b c).symm) (fun i j a b c => (p3 i j a b c).symm)⟩
  · rintro ⟨⟨a, b⟩, ⟨c, d⟩, w, p⟩
    exact ⟨⟨by rw [e1]; exact a, fun j hj => by rw [e2 j hj]; exact b j hj⟩, ⟨by rw [e3]; exact c, by rw [e4]; exact d⟩, w.cx w1 w2 w3, p.cx p1 p2 p3⟩
theorem RCh.to : RCh (slX D 1) M ↔ RCh (xc D) M := by
  have e0 : slX D 1 30 0 = xc D 30 0 := slX_fld (by decide)
  have e1 : slX D 1 30 1 = xc D 30 1 := slX_fld (by decide)
  have e2 : slX D 1 30 2 = xc D 30 2 := slX_fld (by decide)
  have e3 : slX D 1 30 3 = xc D 30 3 := slX_fld (by decide)
  have e4 : slX D 1 30 4 = xc D 30 4 := slX_fld (by decide)
  unfold RCh
  rw [e0, e1, e2, e3, e4]
theorem RF.to : RF (slX D 1) (slM E 0) ↔ (RBk (xc D) (mB E) ∧ RTx (xc D) (slM E 0) ∧ RCh (xc D) (slM E 0)) := by
  unfold RF
  rw [RTx.to, RCh.to]
  exact ⟨fun h => ⟨RBk.to.mp h.1, h.2⟩, fun h => ⟨RBk.to.mpr h.1, h.2⟩⟩
/-- nothing of tape, fault and texts is another -/
theorem RTx.same (h : RTx (xc D) (slM E 0)) (f : ∀ c, (c = 1 ∨ (11 ≤ c ∧ c ≤ 30)) → D1.1 c = D.1 c) (g : ∀ c, ((1 ≤ c ∧ c ≤ 4) ∨ (15 ≤ c ∧ c ≤ 22)) → E1.1 c = E.1 c) : RTx (xc D1) (slM E1 0) := by
  obtain ⟨⟨a, b⟩, ⟨c, d⟩, w, p⟩ := h
  have x : ∀ i j, (i = 0 ∨ (10 ≤ i ∧ i ≤ 29)) → xc D1 i j = xc D i j := fun i j hi => by
    show D1.1 (1 + i) j = D.1 (1 + i) j
    rw [f (1 + i) (by omega)]
  have m : ∀ c, ((1 ≤ c ∧ c ≤ 4) ∨ (15 ≤ c ∧ c ≤ 22)) → slM E1 0 c = slM E 0 c := fun c hc => slM_row (g c hc)
  refine ⟨⟨by rw [x 10 1 (by omega), m 2 (by omega)]; exact a, fun j hj => by rw [x 11 j (by omega), m 1 (by omega)]; exact b j hj⟩, ⟨by rw [x 0 5 (by omega), m 3 (by omega)]; exact c, by rw [x 0 6 (by omega), m 4 (by omega)]; exact d⟩, ?_, ?_⟩
  · refine w.fr (fun i j hi => x _ j (by omega)) (by rw [m 15 (by omega)]) (fun l _ => ?_)
    rw [m 16 (by omega), m 17 (by omega), m 18 (by omega), m 19 (by omega), m 20 (by omega), m 21 (by omega), m 22 (by omega)]
    exact ⟨⟨rfl, rfl, rfl, rfl⟩, fun _ _ => ⟨rfl, rfl, rfl⟩⟩
  · refine p.fr (fun i j hi => x _ j (by omega)) (by rw [m 15 (by omega)]) (fun l _ => ?_)
    rw [m 16 (by omega), m 17 (by omega), m 18 (by omega), m 19 (by omega), m 20 (by omega), m 21 (by omega), m 22 (by omega)]
    exact ⟨⟨rfl, rfl, rfl, rfl⟩, fun _ _ => ⟨rfl, rfl, rfl⟩⟩
theorem RCh.same (h : RCh (xc D) (slM E 0)) (f : D1.1 31 = D.1 31) (g : ∀ c, 11 ≤ c → c ≤ 14 → E1.1 c = E.1 c) : RCh (xc D1) (slM E1 0) := by
  have x : xc D1 30 = xc D 30 := by
    show D1.1 31 = D.1 31
    exact f
  unfold RCh
  rw [x, slM_row (g 11 (by decide) (by decide)), slM_row (g 12 (by decide) (by decide)), slM_row (g 13 (by decide) (by decide)), slM_row (g 14 (by decide) (by decide))]
  exact h
theorem fdF_aB {r r' : Nat → Int32} {n : Nat} {a : Int32} (h : ∀ j, j < 500 → aB (r j) = aB (r' j)) : ∀ j, j < 500 → aB (fdF r n a j) = aB (fdF r' n a j) := fun j hj => by
  unfold fdF
  by_cases c : n ≤ j ∧ j < n + 4
  · rw [if_pos c, if_pos c]
  · rw [if_neg c, if_neg c]
    exact h j hj
theorem bM_four {x : Int32} {m : Nat} (hm : (E.1 2 0).toInt = m) (h4 : m + 4 ≤ 500) : Wp (fX11_four x E) (fun _ E1 => (∀ c, c ≠ 1 → c ≠ 2 → E1.1 c = E.1 c) ∧ (∀ i, i ≠ 0 → E1.1 2 i = E.1 2 i) ∧ (E1.1 2 0).toInt = ((m + 4 : Nat) : Int) ∧ E1.1 1 = fdF (E.1 1) m x) := by
  refine (tM_four (by omega) (by omega)).mono (fun _ E1 q => ⟨q.1, q.2.2.1, ?_, ?_⟩)
  · have := q.2.2.2.1
    omega
  · funext j
    have em : (E.1 2 0).toNatClampNeg = m := cl_of hm
    rw [q.2.2.2.2 j, em, hm]
    unfold fdF
    by_cases c : m ≤ j ∧ j < m + 4
    · rw [if_pos c, if_pos (by omega)]
    · rw [if_neg c, if_neg (by omega)]
theorem bM_feed {a b c d e : Int32} {n : Nat} (h0 : (E.1 2 0).toInt = n) (h1 : n ≤ 500) : Wp (fX11_feed a b c d e E) (fun _ E1 => (∀ c, c ≠ 0 → c ≠ 1 → c ≠ 2 → E1.1 c = E.1 c) ∧ (∀ i, i ≠ 0 → E1.1 2 i = E.1 2 i) ∧ if n + 20 ≤ 500 then (E1.1 2 0).toInt = ((n + 20 : Nat) : Int) ∧ E1.1 1 = fd5 (E.1 1) n a b c d e else E1.1 2 0 = E.1 2 0 ∧ E1.1 1 = E.1 1) := by
  unfold fX11_feed
  refine Wp.leti (fun D1 e1 => Wp.idd (by decide) ?_)
  have g1 : ∀ c, c ≠ 0 → D1.1 c = E.1 c := fun c hc => by rw [e1]; exact si_o hc
  rw [cl_0, g1 2 (by decide)]
  have e20 : (E.1 2 0 + 20).toInt = (n : Int) + 20 := ti_add h0 (by decide) (by omega) (by omega)
  have e5 : (500 : Int32).toInt = 500 := by decide
  refine Wp.ile (fun hl => ?_) (fun hl => Wp.ret ⟨fun c a _ _ => g1 c a, fun i _ => by rw [g1 2 (by decide)], ?_⟩)
  · have z1 : (D1.1 2 0).toInt = n := by rw [g1 2 (by decide)]; exact h0
    refine Wp.bind (bM_four z1 (by omega)) (fun _ D2 q2 => Wp.bind (bM_four q2.2.2.1 (by omega)) (fun _ D3 q3 => Wp.bind (bM_four q3.2.2.1 (by omega)) (fun _ D4 q4 => Wp.bind (bM_four q4.2.2.1 (by omega)) (fun _ D5 q5 => Wp.bind (bM_four q5.2.2.1 (by omega)) (fun _ D6 q6 => Wp.idd (by decide) (Wp.ret ⟨fun c a b d => ?_, fun i hi => ?_, ?_⟩))))))
    · rw [q6.1 c b d, q5.1 c b d, q4.1 c b d, q3.1 c b d, q2.1 c b d, g1 c a]
    · rw [q6.2.1 i hi, q5.2.1 i hi, q4.2.1 i hi, q3.2.1 i hi, q2.2.1 i hi, g1 2 (by decide)]
    · rw [if_pos (by omega)]
      refine ⟨by have := q6.2.2.1; omega, ?_⟩
      rw [q6.2.2.2, q5.2.2.2, q4.2.2.2, q3.2.2.2, q2.2.2.2, g1 1 (by decide)]
      rfl
  · rw [if_neg (by omega)]
    exact ⟨by rw [g1 2 (by decide)], g1 1 (by decide)⟩
theorem fd5_far {r : Nat → Int32} {n j : Nat} {a b c d e : Int32} (h : n + 20 ≤ j) : fd5 r n a b c d e j = r j := by
  unfold fd5 fdF
  rw [if_neg (by omega), if_neg (by omega), if_neg (by omega), if_neg (by omega), if_neg (by omega)]
end RFa
section RFb
variable {n0 : Nat} {P : APD} {E : ADD}
theorem IR.nowF (h : IR RF n0 P E) : RBk (xc P.2) (mB E) ∧ RTx (xc P.2) (slM E 0) ∧ RCh (xc P.2) (slM E 0) := RF.to.mp h.2.1
theorem jr_stone {a b c : Int32} (h : IR RF n0 P E) : BR RF n0 P id (fX10_stone a b c P.2) (fX11_stone a b c E) := by
  obtain ⟨r1, D1, r2, D2, e1, e2, -, ia⟩ := ia_stone (a := a) (b := b) (c := c) h.1
  obtain ⟨k1, k2, k3, k4, k5⟩ := rb_stone h.nowF.1 h.1.2.1.2 h.1.2.2.1.qm e1 e2
  exact ⟨r1, D1, r2, D2, e1, e2, k1, h.keep ia (fun c hc => k4 c (by omega)) k3 (RF.to.mpr ⟨k2, h.nowF.2.1.same (fun c hc => k4 c (by omega)) (fun c hc => k5 c (by omega) (by omega) (by omega)), h.nowF.2.2.same (k4 31 (by omega)) (fun c c1 c2 => k5 c (by omega) (by omega) (by omega))⟩)⟩
theorem jr_tell {a b c : Int32} (h : IR RF n0 P E) : BR RF n0 P id (fX10_tell a b c P.2) (fX11_tell a b c E) := by
  obtain ⟨r1, D1, r2, D2, e1, e2, -, ia⟩ := ia_tell (a := a) (b := b) (c := c) h.1
  obtain ⟨k1, k2, k3, k4, k5⟩ := rb_tell h.nowF.1 h.1.2.1.2 h.1.2.2.1.qm e1 e2
  exact ⟨r1, D1, r2, D2, e1, e2, k1, h.keep ia (fun c hc => k4 c (by omega)) k3 (RF.to.mpr ⟨k2, h.nowF.2.1.same (fun c hc => k4 c (by omega)) (fun c hc => k5 c (by omega) (by omega) (by omega)), h.nowF.2.2.same (k4 31 (by omega)) (fun c c1 c2 => k5 c (by omega) (by omega) (by omega))⟩)⟩
theorem jr_day {a : Int32} (h : IR RF n0 P E) : BR RF n0 P id (fX10_day a P.2) (fX11_day a E) := by
  obtain ⟨r1, D1, r2, D2, e1, e2, e3, ia⟩ := ia_day (a := a) h.1
  obtain ⟨k2, k3, k4, k5⟩ := rb_day h.nowF.1 e1 e2
  exact ⟨r1, D1, r2, D2, e1, e2, e3, h.keep ia (fun c hc => k4 c (by omega)) k3 (RF.to.mpr ⟨k2, h.nowF.2.1.same (fun c hc => k4 c (by omega)) (fun c hc => k5 c (by omega) (by omega) (by omega)), h.nowF.2.2.same (k4 31 (by omega)) (fun c c1 c2 => k5 c (by omega) (by omega) (by omega))⟩)⟩
theorem jr_view {a : Int32} (h : IR RF n0 P E) : BR RF n0 P id (fX10_view a P.2) (fX11_view a E) := by
  obtain ⟨r1, D1, r2, D2, e1, e2, e3, ia⟩ := ia_view (a := a) h.1
  obtain ⟨k2, k3, k4, k5⟩ := rb_view h.nowF.1 h.1.2.1.2 e1 e2
  exact ⟨r1, D1, r2, D2, e1, e2, e3, h.keep ia (fun c hc => k4 c (by omega)) k3 (RF.to.mpr ⟨k2, h.nowF.2.1.same (fun c hc => k4 c (by omega)) (fun c hc => k5 c (by omega) (by omega) (by omega)), h.nowF.2.2.same (k4 31 (by omega)) (fun c c1 c2 => k5 c (by omega) (by omega) (by omega))⟩)⟩
theorem jr_text {a : Int32} (ha : a = 0 ∨ a = 1) (h : IR RF n0 P E) : BR RF n0 P id (fX10_text a P.2) (fX11_text a E) := by
  obtain ⟨r1, D1, r2, D2, e1, e2, -, ia⟩ := ia_text ha h.1
  have s := (sim_text ha h.1.2.1.2 h.nowF.2.1).same e1
  obtain ⟨k1, k2, k3, k4, k5⟩ := Wp.same e2 s
  exact ⟨r1, D1, r2, D2, e1, e2, k1, h.keep ia (fun c hc => k4 c (by omega)) k3 (RF.to.mpr ⟨h.nowF.1.same (fun c c1 c2 => k4 c (by omega)) (fun c c1 c2 => k5 c (by omega) (by omega)), k2, h.nowF.2.2.same (k4 31 (by omega)) (fun c c1 c2 => k5 c (by omega) (by omega))⟩)⟩
theorem jr_feed {a b c d e : Int32} (h : IR RF n0 P E) : BR RF n0 P id (fX10_feed a b c d e P.2) (fX11_feed a b c d e E) := by
  obtain ⟨r1, D1, r2, D2, e1, e2, e3, ia⟩ := ia_feed (a := a) (b := b) (c := c) (d := d) (e := e) h.1
  have l : 0 ≤ (P.2.1 11 1).toInt ∧ (P.2.1 11 1).toInt ≤ 500 := h.1.2.1.2.2.2.2.2.1
  obtain ⟨n, hn⟩ : ∃ n : Nat, (P.2.1 11 1).toInt = n := ⟨_, (cl_i l.1).symm⟩
  obtain ⟨⟨t1, t2⟩, fl, w, p⟩ := h.nowF.2.1
  have t1 : P.2.1 11 1 = E.1 2 0 := t1.trans (sm0 (by decide) (by decide))
  have t2 : ∀ j, j < 500 → aB (P.2.1 12 j) = aB (E.1 1 j) := fun j hj => by
    have z : aB (P.2.1 12 j) = slM E 0 1 j := t2 j hj
    rw [z]
    show (if j < 500 then (if (1 : Nat) = 1 then aB (E.1 1 (500 * 0 + j)) else _) else 0) = _
    rw [if_pos hj, if_pos rfl, Nat.mul_zero, Nat.zero_add]
  have kx := (oX_feed (a := a) (b := b) (c := c) (d := d) (e := e) hn (by omega)).same e1
  obtain ⟨m1, m2, m3⟩ := (bM_feed (a := a) (b := b) (c := c) (d := d) (e := e) (E := E) (by rw [← t1]; exact hn) (by omega)).same e2
  have fx : ∀ c, c ≠ 11 → c ≠ 12 → D1.1 c = P.2.1 c := by
    split at kx
    · exact kx.2.2.1
    · intro c _ _
      rw [kx.2]
  have nw : NwM E D2 := fun c i c1 c2 c3 => by
    by_cases q1 : c = 1
    · subst q1
      have c3 : 500 ≤ i := c3
      split at m3
      · rw [m3.2, fd5_far (by omega)]
      · rw [m3.2]
    · by_cases q2 : c = 2
      · subst q2
        have c3 : 1 ≤ i := c3
        rw [m2 i (by omega)]
      · rw [m1 c (by omega) q1 q2]
  have sl1 : ∀ j, j < 500 → slM D2 0 1 j = aB (D2.1 1 j) := fun j hj => by
    show (if j < 500 then (if (1 : Nat) = 1 then aB (D2.1 1 (500 * 0 + j)) else _) else 0) = _
    rw [if_pos hj, if_pos rfl, Nat.mul_zero, Nat.zero_add]
  have tp : RTp (xc D1) (slM D2 0) := by
    refine ⟨?_, fun j hj => ?_⟩
    · rw [sm0 (by decide) (by decide)]
      show D1.1 11 1 = D2.1 2 0
      by_cases hc : n + 20 ≤ 500
      · rw [if_pos hc] at kx m3
        refine ti_eq ?_
        rw [← kx.2.1, kx.1, m3.1]
      · rw [if_neg hc] at kx m3
        rw [kx.2, m3.1, t1]
    · rw [sl1 j hj]
      show aB (D1.1 12 j) = _
      by_cases hc : n + 20 ≤ 500
      · rw [if_pos hc] at kx m3
        rw [kx.2.2.2.2.2, m3.2]
        exact fdF_aB (fdF_aB (fdF_aB (fdF_aB (fdF_aB t2)))) j hj
      · rw [if_neg hc] at kx m3
        rw [kx.2, m3.2]
        exact t2 j hj
  have x : ∀ i j, i ≠ 10 → i ≠ 11 → xc D1 i j = xc P.2 i j := fun i j a b => by
    show D1.1 (1 + i) j = P.2.1 (1 + i) j
    rw [fx (1 + i) (by omega) (by omega)]
  have m : ∀ c, 3 ≤ c → slM D2 0 c = slM E 0 c := fun c hc => slM_row (m1 c (by omega) (by omega) (by omega))
  refine ⟨r1, D1, r2, D2, e1, e2, e3, h.keep ia (fun c hc => fx c (by omega) (by omega)) nw (RF.to.mpr ⟨h.nowF.1.same (fun c c1 c2 => fx c (by omega) (by omega)) (fun c c1 c2 => m1 c (by omega) (by omega) (by omega)), ⟨tp, ⟨by rw [x 0 5 (by decide) (by decide), m 3 (by decide)]; exact fl.1, by rw [x 0 6 (by decide) (by decide), m 4 (by decide)]; exact fl.2⟩, ?_, ?_⟩, h.nowF.2.2.same (fx 31 (by decide) (by decide)) (fun c c1 c2 => m1 c (by omega) (by omega) (by omega))⟩)⟩
  · refine w.fr (fun i j hi => x _ j (by omega) (by omega)) (by rw [m 15 (by omega)]) (fun l _ => ?_)
    rw [m 16 (by omega), m 17 (by omega), m 18 (by omega), m 19 (by omega), m 20 (by omega), m 21 (by omega), m 22 (by omega)]
    exact ⟨⟨rfl, rfl, rfl, rfl⟩, fun _ _ => ⟨rfl, rfl, rfl⟩⟩
  · refine p.fr (fun i j hi => x _ j (by omega) (by omega)) (by rw [m 15 (by omega)]) (fun l _ => ?_)
    rw [m 16 (by omega), m 17 (by omega), m 18 (by omega), m 19 (by omega), m 20 (by omega), m 21 (by omega), m 22 (by omega)]
    exact ⟨⟨rfl, rfl, rfl, rfl⟩, fun _ _ => ⟨rfl, rfl, rfl⟩⟩
theorem jr_end {a : Int32} (h : IR RF n0 P E) : BR RF n0 P id (fX10_end a P.2) (fX11_end a E) := by
  obtain ⟨r1, D1, r2, D2, e1, e2, e3, ia⟩ := ia_end (a := a) h.1
  obtain ⟨⟨t1, t2⟩, fl, w, p⟩ := h.nowF.2.1
  have t1 : P.2.1 11 1 = E.1 2 0 := t1.trans (sm0 (by decide) (by decide))
  have kx := (oX_end (a := a)).same e1
  obtain ⟨m1, m2⟩ := (fM_end (a := a) (E := E)).same e2
  obtain ⟨-, -, -, -, m3⟩ := (sM_end (a := a) h.1.2.2.1).same e2
  rw [t1] at kx
  have fx : ∀ c, c ≠ 11 → D1.1 c = P.2.1 c := by
    split at kx
    · intro c hc
      rw [kx.2]
      exact si_o hc
    · intro c _
      rw [kx.2]
  have f1 : D1.1 11 1 = D2.1 2 0 := by
    split at kx
    · rename_i hc
      rw [if_pos hc] at m3
      rw [kx.2, si_s, if_pos rfl, m3.2]
    · rename_i hc
      rw [if_neg hc] at m3
      rw [kx.2, m3.2, t1]
  have nw : NwM E D2 := fun c i c1 c2 c3 => by
    by_cases q2 : c = 2
    · subst q2
      have c3 : 1 ≤ i := c3
      rw [m2 i (by omega)]
    · rw [m1 c (by omega) q2]
  have x : ∀ i j, i ≠ 10 → xc D1 i j = xc P.2 i j := fun i j a => by
    show D1.1 (1 + i) j = P.2.1 (1 + i) j
    rw [fx (1 + i) (by omega)]
  have m : ∀ c, 1 ≤ c → c ≠ 2 → slM D2 0 c = slM E 0 c := fun c hc c2 => slM_row (m1 c (by omega) c2)
  refine ⟨r1, D1, r2, D2, e1, e2, e3, h.keep ia (fun c hc => fx c (by omega)) nw (RF.to.mpr ⟨h.nowF.1.same (fun c c1 c2 => fx c (by omega)) (fun c c1 c2 => m1 c (by omega) (by omega)), ⟨⟨?_, fun j hj => ?_⟩, ⟨by rw [x 0 5 (by decide), m 3 (by decide) (by decide)]; exact fl.1, by rw [x 0 6 (by decide), m 4 (by decide) (by decide)]; exact fl.2⟩, ?_, ?_⟩, h.nowF.2.2.same (fx 31 (by decide)) (fun c c1 c2 => m1 c (by omega) (by omega))⟩)⟩
  · rw [sm0 (by decide) (by decide)]
    exact f1
  · rw [x 11 j (by decide), m 1 (by decide) (by decide)]
    exact t2 j hj
  · refine w.fr (fun i j hi => x _ j (by omega)) (by rw [m 15 (by omega) (by omega)]) (fun l _ => ?_)
    rw [m 16 (by omega) (by omega), m 17 (by omega) (by omega), m 18 (by omega) (by omega), m 19 (by omega) (by omega), m 20 (by omega) (by omega), m 21 (by omega) (by omega), m 22 (by omega) (by omega)]
    exact ⟨⟨rfl, rfl, rfl, rfl⟩, fun _ _ => ⟨rfl, rfl, rfl⟩⟩
  · refine p.fr (fun i j hi => x _ j (by omega)) (by rw [m 15 (by omega) (by omega)]) (fun l _ => ?_)
    rw [m 16 (by omega) (by omega), m 17 (by omega) (by omega), m 18 (by omega) (by omega), m 19 (by omega) (by omega), m 20 (by omega) (by omega), m 21 (by omega) (by omega), m 22 (by omega) (by omega)]
    exact ⟨⟨rfl, rfl, rfl, rfl⟩, fun _ _ => ⟨rfl, rfl, rfl⟩⟩
theorem jr_choose {a b y z m : Int32} (h : IR RF n0 P E) : BR RF n0 P id (fX10_choose a b y z m P.2) (fX11_choose a b y z m E) := by
  obtain ⟨r1, D1, r2, D2, e1, e2, e3, ia⟩ := ia_choose (a := a) (b := b) (y := y) (z := z) (m := m) h.1
  have kx := (tX10_choose (a := a) (b := b) (y := y) (z := z) (m := m)).same e1
  have km := (tM_choose (a := a) (b := b) (y := y) (z := z) (m := m)).same e2
  by_cases hc : ChOK y z m
  · rw [if_pos hc] at kx km
    obtain ⟨-, k1, k2, k3, k4, k5, k6, k7⟩ := kx
    obtain ⟨-, m1, m2, m3, m4, m5, m6⟩ := km
    have nw : NwM E D2 := fun c i c1 c2 c3 => by
      by_cases q1 : c = 11
      · subst q1
        have c3 : 1 ≤ i := c3
        rw [m3, if_neg (by omega)]
      · by_cases q2 : c = 12
        · subst q2
          have c3 : 1 ≤ i := c3
          rw [m4, if_neg (by omega)]
        · by_cases q3 : c = 13
          · subst q3
            have c3 : 2 ≤ i := c3
            rw [m5, if_neg (by omega), if_neg (by omega)]
          · by_cases q4 : c = 14
            · subst q4
              have c3 : 1 ≤ i := c3
              rw [m6, if_neg (by omega)]
            · rw [m1 c (by omega) q1 q2 q3 q4]
    refine ⟨r1, D1, r2, D2, e1, e2, e3, h.keep ia (fun c hc => k1 c (by omega)) nw (RF.to.mpr ⟨h.nowF.1.same (fun c c1 c2 => k1 c (by omega)) (fun c c1 c2 => m1 c (by omega) (by omega) (by omega) (by omega) (by omega)), h.nowF.2.1.same (fun c hc => k1 c (by omega)) (fun c hc => m1 c (by omega) (by omega) (by omega) (by omega) (by omega)), ?_⟩)⟩
    unfold RCh
    rw [sm0 (by decide) (by decide), sm0 (by decide) (by decide), sm0 (by decide) (by decide), sm0 (by decide) (by decide), sm0 (by decide) (by decide), m3, m4, m5, m5, m6, if_pos rfl, if_pos rfl, if_neg (by decide), if_pos rfl, if_pos rfl, if_pos rfl]
    exact ⟨k3, k4, k5, k6, k7⟩
  · rw [if_neg hc] at kx km
    obtain ⟨-, rfl⟩ := kx
    have f := km.2.fm
    exact ⟨r1, P.2, r2, D2, e1, e2, e3, h.sameq ia f⟩
theorem jr_fault {a : Int32} (h : IR RF n0 P E) : BR RF n0 P id (fX10_fault a P.2) (fX11_fault a E) := by
  obtain ⟨f1, f2⟩ := h.nowF.2.1.2.1
  rw [sm0 (by decide) (by decide)] at f1 f2
  have f1 : P.2.1 1 5 = E.1 3 0 := f1
  have f2 : P.2.1 1 6 = E.1 4 0 := f2
  refine h.askE (v := if a = 0 then E.1 3 0 else if a = 1 then E.1 4 0 else -1) (fun _ => Pu.fx oX_fault) (fun _ => oM_fault) ?_ ?_
  · unfold fX10_fault
    rw [f1, f2]
    exact Wp.ite (fun q => Wp.ret (by rw [if_pos q])) (fun q => Wp.ite (fun q2 => Wp.ret (by rw [if_neg q, if_pos q2])) (fun q2 => Wp.ret (by rw [if_neg q, if_neg q2])))
  · unfold fX11_fault
    have fo : ∀ c, c ≠ 0 → (aSI E 0 0 0).1 c = E.1 c := fun c hc => si_o hc
    refine Wp.lets (Wp.lets ?_)
    rw [cl_0, fo 3 (by decide), fo 4 (by decide)]
    exact Wp.ite (fun q => Wp.idd (by decide) (Wp.ret (by rw [if_pos q]))) (fun q => Wp.ite (fun q2 => Wp.idd (by decide) (Wp.ret (by rw [if_neg q, if_pos q2]))) (fun q2 => Wp.ret (by rw [if_neg q, if_neg q2])))
theorem jr_fact {a b : Int32} (h : IR RF n0 P E) : BR RF n0 P id (fX10_fact a b P.2) (fX11_fact a b E) :=
  h.askE (fun _ => Pu.fx ⟨_, _, oX_fact, rfl⟩) (fun q => oM_fact q) ⟨_, _, oX_fact, kn_fct h.nowF.1⟩ (bM_fact h.1.2.2.1.qm)
end RFb
