/-! the reference looks: its rows are what the class knows -/
section LKs
variable {M : Sl} {d : Int32}
theorem cn_ex : ∀ {n s : Nat}, s < cnL M n → ∃ q, q < n ∧ eF M q = -1 ∧ cnL M q = s
  | 0, s, h => absurd h (Nat.not_lt_zero _)
  | n + 1, s, h => by
    have h : s < if eF M n = -1 then cnL M n + 1 else cnL M n := h
    by_cases e : eF M n = -1
    · rw [if_pos e] at h
      by_cases q : s = cnL M n
      · exact ⟨n, by omega, e, q.symm⟩
      · obtain ⟨a, b, c⟩ := cn_ex (n := n) (s := s) (by omega)
        exact ⟨a, by omega, c⟩
    · rw [if_neg e] at h
      obtain ⟨a, b, c⟩ := cn_ex (n := n) (s := s) h
      exact ⟨a, by omega, c⟩
theorem fcF_any {s f : Nat} {z z1 : Int32} : ∀ {n q : Nat}, q < n → hitF M d s f q → fcF M d s f z n = fcF M d s f z1 n
  | 0, q, h, _ => absurd h (Nat.not_lt_zero _)
  | n + 1, q, h, hh => by
    show (if hitF M d s f n then eV M n else fcF M d s f z n) = if hitF M d s f n then eV M n else fcF M d s f z1 n
    by_cases e : hitF M d s f n
    · rw [if_pos e, if_pos e]
    · rw [if_neg e, if_neg e]
      have : q ≠ n := fun k => e (by rw [← k]; exact hh)
      exact fcF_any (n := n) (q := q) (by omega) hh
theorem fcF_there {s : Nat} {z : Int32} (w : BW M) (hs : s < nS M) (hd : (lD M s).toInt ≤ d.toInt) : fcF M d s 0 z (nE M) = fct M d s 0 := by
  have hs2 := hs
  rw [← w.2.2.1] at hs2
  obtain ⟨q, q1, q2, q3⟩ := cn_ex hs2
  rcases (w.2.1 q q1).1 with ⟨a, b, c⟩ | ⟨a, b, c⟩
  · rw [q3] at b c
    exact fcF_any q1 ⟨b, by rw [← c]; exact hd, Or.inr ⟨q2, rfl⟩⟩
  · rw [q2, ti_m1] at a
    omega
end LKs
section LK2
variable {D E : ADD}
theorem nI_m3 {i n : Nat} : (3 : Int32) * nI i + nI n = nI (3 * i + n) := by
  show (3 : Int32) * nI i + nI n = Int32.ofNat (3 * i + n)
  rw [Int32.ofNat_add, Int32.ofNat_mul]
  rfl
theorem nI_m11 {i n : Nat} : (11 : Int32) * nI i + nI n = nI (11 * i + n) := by
  show (11 : Int32) * nI i + nI n = Int32.ofNat (11 * i + n)
  rw [Int32.ofNat_add, Int32.ofNat_mul]
  rfl
theorem nI_m4 {i n : Nat} : (4 : Int32) * nI i + nI n = nI (4 * i + n) := by
  show (4 : Int32) * nI i + nI n = Int32.ofNat (4 * i + n)
  rw [Int32.ofNat_add, Int32.ofNat_mul]
  rfl
/-- stone k is one, by the view -/
abbrev thE (E : ADD) (k : Nat) : Prop := (lD (mB E) k).toInt ≤ (dvF (mB E)).toInt
/-- behind the first of the three rounds -/
def Lk1 (E E1 : ADD) (i : Nat) : Prop := LkF E E1 ∧ E1.1 0 41 = E.1 5 0 ∧ ∀ k, k < i → (E1.1 31 k = if thE E k then 1 else 0) ∧ ∀ f, 1 ≤ f → f < 11 → E1.1 32 (11 * k + f) = dfF (mB E) k f
/-- behind the second -/
def Lk2 (E E1 : ADD) (n : Nat) : Prop := LkF E E1 ∧ E1.1 0 41 = E.1 5 0 ∧ (∀ k, k < nS (mB E) → E1.1 31 k = if thE E k then 1 else 0) ∧ ∀ k, k < nS (mB E) → (∀ f, 1 ≤ f → f < 11 → E1.1 32 (11 * k + f) = fcF (mB E) (dvF (mB E)) k f (dfF (mB E) k f) n) ∧ ∃ z, E1.1 32 (11 * k) = fcF (mB E) (dvF (mB E)) k 0 z n
/-- behind all -/
def LkR (D E E1 : ADD) (i : Nat) : Prop := LkF E E1 ∧ E1.1 0 41 = E.1 5 0 ∧ (∀ k, k < nS (mB E) → E1.1 31 k = if thE E k then 1 else 0) ∧ (∀ k, k < nS (mB E) → thE E k → FcR D E1 k) ∧ ∀ k, k < i → (thE E k → E1.1 33 k = loX D (nI k) ∧ E1.1 34 k = hiX D (nI k)) ∧ Bo (E1.1 35 k) (thE E k ∧ chX D (nI k))
theorem LkF.si {E1 : ADD} {c i : Nat} {v : Int32} (h : LkF E E1) (hc : c = 0 ∨ (30 ≤ c ∧ c ≤ 35)) : LkF E (aSI E1 c i v) := fun k hk => by rw [si_o (by omega), h k hk]
theorem th_st {k : Nat} (hk : k < nS (mB E)) (h32 : nS (mB E) ≤ 32) : thE E k ↔ stM E (nI k) := by
  have vk : (nI k).toInt = (k : Int) := nI_toInt (by omega)
  have ck : (nI k).toNatClampNeg = k := nI_clamp (by omega)
  rw [mBs] at hk
  have e5 := ti_cl (x := E.1 5 0)
  unfold stM
  rw [ck, vk]
  exact ⟨fun h => ⟨by omega, h⟩, fun h => h.2⟩
theorem bM_look (q : QM E) (h : RBk (xc D) (mB E)) (w : RuS (xc D) (slM E 0) 12 0 0 True) (c : RCh (xc D) (slM E 0)) : Wp (fX11_look E) (fun _ E1 => LkR D E E1 (nS (mB E))) := by
  have bw := h.2.2.2.1
  have h5 := q.1
  have h8 := q.2.1
  have e5 := cl_i h5.1
  have e8 := cl_i h8.1
  have n5 : nS (mB E) = (E.1 5 0).toNatClampNeg := mBs
  have n8 : nE (mB E) = (E.1 8 0).toNatClampNeg := mBn
  have v5 : E.1 5 0 = nI (nS (mB E)) := by rw [n5]; exact nI_val h5.1
  unfold fX11_look
  refine Wp.bindE eM_day (Wp.idd (by decide) ?_)
  rw [cl_0]
  generalize hdv : dvF (mB E) = dv
  refine Wp.leti (fun E2 e2 => ?_)
  have f2 : LkF E E2 := by
    intro c hc
    rw [e2, si_o (by omega)]
  have m2 : E2.1 0 41 = E.1 5 0 := by rw [e2, si_s, if_pos rfl]
  clear e2
  refine Wp.letQ (fun Q j => ∀ E3, Lk1 E E3 (nS (mB E)) → Wp (j E3) Q) (fun E3 l3 => ?_) (fun j K => Wp.lets ?_)
  rotate_left
  · -- the listings
    refine Wp.go1 (fun i E3 => Lk1 E E3 i) (nS (mB E)) (by omega) (fun g i E3 hi hI K2 => ?_) (k0 := 0) rfl (Nat.zero_le _) ⟨f2, m2, fun k hk => absurd hk (Nat.not_lt_zero _)⟩
    unfold lX11_look_17
    have hI' := hI
    obtain ⟨i1, i2, i3⟩ := hI
    have vi : (nI i).toInt = (i : Int) := nI_toInt (by omega)
    have vn : (nI (nS (mB E))).toInt = (nS (mB E) : Int) := nI_toInt (by omega)
    rw [i2, v5]
    refine Wp.ile (fun z => ?_) (fun z => ?_)
    · have : i = nS (mB E) := by omega
      rw [this] at hI'
      exact K E3 hI'
    have il : i < nS (mB E) := by omega
    have ci : (nI i).toNatClampNeg = i := nI_clamp (by omega)
    have e30 : (3 : Int32) * nI i = nI (3 * i) := by have := nI_m3 (i := i) (n := 0); rw [nI_0, Int32.add_zero] at this; exact this
    have e31 : nI (3 * i) + 1 = nI (3 * i + 1) := (nI_succ _).symm
    have e32 : nI (3 * i) + 2 = nI (3 * i + 2) := (Int32.ofNat_add (3 * i) 2).symm
    have e111 : (11 : Int32) * nI i + 1 = nI (11 * i + 1) := nI_m11 (n := 1)
    have e112 : (11 : Int32) * nI i + 2 = nI (11 * i + 2) := nI_m11 (n := 2)
    have e113 : (11 : Int32) * nI i + 3 = nI (11 * i + 3) := nI_m11 (n := 3)
    have e114 : (11 : Int32) * nI i + 4 = nI (11 * i + 4) := nI_m11 (n := 4)
    have e115 : (11 : Int32) * nI i + 5 = nI (11 * i + 5) := nI_m11 (n := 5)
    have e116 : (11 : Int32) * nI i + 6 = nI (11 * i + 6) := nI_m11 (n := 6)
    have e117 : (11 : Int32) * nI i + 7 = nI (11 * i + 7) := nI_m11 (n := 7)
    have e118 : (11 : Int32) * nI i + 8 = nI (11 * i + 8) := nI_m11 (n := 8)
    have e119 : (11 : Int32) * nI i + 9 = nI (11 * i + 9) := nI_m11 (n := 9)
    have e1110 : (11 : Int32) * nI i + 10 = nI (11 * i + 10) := nI_m11 (n := 10)
    have t3 : ∀ n, n < 3 → vp_in (nI (3 * i + n)) 384 := fun n hn => vp_in_nI (by omega) (by decide)
    have t11 : ∀ n, n < 11 → vp_in (nI (11 * i + n)) 352 := fun n hn => vp_in_nI (by omega) (by decide)
    have c3 : ∀ n, n < 3 → (nI (3 * i + n)).toNatClampNeg = 3 * i + n := fun n hn => nI_clamp (by omega)
    have c11 : ∀ n, n < 11 → (nI (11 * i + n)).toNatClampNeg = 11 * i + n := fun n hn => nI_clamp (by omega)
    have ii : vp_in (nI i) 32 := vp_in_nI (by omega) (by decide)
    simp only [e31, e32, e111, e112, e113, e114, e115, e116, e117, e118, e119, e1110, e30]
    rw [show (nI (3 * i)).toNatClampNeg = 3 * i from c3 0 (by decide), i1 10 (by omega), ← mB10 (E := E) (j := 3 * i) (by omega)]
    refine Wp.idx (t3 0 (by decide)) (Wp.letQ (fun Q j => ∀ x, (x = if thE E i then 1 else 0) → Wp (j x E3) Q) (fun x hx => ?_) (fun j K3 => ?_))
    rotate_left
    · refine Wp.ilt (fun z => K3 0 ?_) (fun z => K3 1 ?_)
      · have : ¬ thE E i := fun y => by
          have y : (mB E 10 (3 * i)).toInt ≤ (dvF (mB E)).toInt := y
          rw [hdv] at y
          omega
        rw [if_neg this]
      · have : thE E i := by
          show (mB E 10 (3 * i)).toInt ≤ (dvF (mB E)).toInt
          rw [hdv]
          exact z
        rw [if_pos this]
    have d1 : E3.1 10 (3 * i + 1) = mB E 10 (3 * i + 1) := by rw [i1 10 (by omega), mB10 (by omega)]
    have d2 : E3.1 10 (3 * i + 2) = mB E 10 (3 * i + 2) := by rw [i1 10 (by omega), mB10 (by omega)]
    refine Wp.idx ii (Wp.lets (Wp.idx (t3 1 (by decide)) (Wp.idx (t11 1 (by decide)) (Wp.lets (Wp.idx (t3 2 (by decide)) (Wp.idx (t11 4 (by decide)) (Wp.lets (Wp.idx (t11 2 (by decide)) (Wp.lets (Wp.idx (t11 3 (by decide)) (Wp.lets (Wp.idx (t11 5 (by decide)) (Wp.lets (Wp.idx (t11 6 (by decide)) (Wp.lets (Wp.idx (t11 7 (by decide)) (Wp.lets (Wp.idx (t11 8 (by decide)) (Wp.lets (Wp.idx (t11 9 (by decide)) (Wp.lets (Wp.idx (t11 10 (by decide)) (Wp.leti (fun E4 e4 => Wp.lets (K2 il E4 ?_)))))))))))))))))))))))))
    simp only [c11 1 (by decide), c11 2 (by decide), c11 3 (by decide), c11 4 (by decide), c11 5 (by decide), c11 6 (by decide), c11 7 (by decide), c11 8 (by decide), c11 9 (by decide), c11 10 (by decide), c3 1 (by decide), c3 2 (by decide), ci] at e4
    have s31 : ∀ j, E4.1 31 j = if j = i then x else E3.1 31 j := fun j => by
      rw [e4]
      simp only [si_o (show (31 : Nat) ≠ 32 by decide), si_s]
    have s32 : ∀ j, E4.1 32 j = if 11 * i + 1 ≤ j ∧ j < 11 * i + 11 then dfF (mB E) i (j - 11 * i) else E3.1 32 j := fun j => by
      rw [e4]
      simp only [si_o (show (10 : Nat) ≠ 32 by decide), si_o (show (10 : Nat) ≠ 31 by decide), si_s, si_o (show (32 : Nat) ≠ 31 by decide), d1, d2]
      by_cases hj : 11 * i + 1 ≤ j ∧ j < 11 * i + 11
      · rw [if_pos hj]
        obtain ⟨t, rfl⟩ : ∃ t, j = 11 * i + t := ⟨j - 11 * i, by omega⟩
        rw [show 11 * i + t - 11 * i = t by omega]
        have ht : t = 1 ∨ t = 2 ∨ t = 3 ∨ t = 4 ∨ t = 5 ∨ t = 6 ∨ t = 7 ∨ t = 8 ∨ t = 9 ∨ t = 10 := by omega
        have eqq : ∀ u v : Nat, (11 * i + u = 11 * i + v) = (u = v) := fun u v => propext ⟨fun z => by omega, fun z => by omega⟩
        simp only [eqq]
        rcases ht with rfl | rfl | rfl | rfl | rfl | rfl | rfl | rfl | rfl | rfl <;> rfl
      · rw [if_neg hj, if_neg (by omega), if_neg (by omega), if_neg (by omega), if_neg (by omega), if_neg (by omega), if_neg (by omega), if_neg (by omega), if_neg (by omega), if_neg (by omega), if_neg (by omega)]
    have fo : ∀ c, c ≠ 31 → c ≠ 32 → E4.1 c = E3.1 c := fun c a b => by
      rw [e4]
      simp only [si_o b, si_o a]
    refine ⟨fun c hc => by rw [fo c (by omega) (by omega)]; exact i1 c hc, by rw [fo 0 (by decide) (by decide)]; exact i2, fun k hk => ?_⟩
    rw [s31]
    by_cases e : k = i
    · subst e
      rw [if_pos rfl]
      refine ⟨hx, fun f f1 f2 => ?_⟩
      rw [s32, if_pos (by omega), show 11 * k + f - 11 * k = f by omega]
    · rw [if_neg e]
      obtain ⟨a, b⟩ := i3 k (by omega)
      refine ⟨a, fun f f1 f2 => ?_⟩
      rw [s32, if_neg (by omega)]
      exact b f f1 f2
  obtain ⟨a1, a2, a3⟩ := l3
  refine Wp.letQ (fun Q j => ∀ E4, Lk2 E E4 (nE (mB E)) → Wp (j E4) Q) (fun E4 l4 => ?_) (fun j K => Wp.lets ?_)
  rotate_left
  · -- the entries
    refine Wp.go1 (fun i E4 => Lk2 E E4 i) (nE (mB E)) (by omega) (fun g i E4 hi hI K2 => ?_) (k0 := 0) rfl (Nat.zero_le _) ⟨a1, a2, fun k hk => (a3 k hk).1, fun k hk => ⟨fun f f1 f2 => (a3 k hk).2 f f1 f2, _, rfl⟩⟩
    unfold lX11_look_203
    have hI' := hI
    obtain ⟨i1, i2, i3, i4⟩ := hI
    have vi : (nI i).toInt = (i : Int) := nI_toInt (by omega)
    refine Wp.idd (by decide) ?_
    rw [cl_0, i1 8 (by omega)]
    refine Wp.ile (fun z => ?_) (fun z => ?_)
    · have : i = nE (mB E) := by omega
      rw [this] at hI'
      exact K E4 hI'
    have il : i < nE (mB E) := by omega
    have e40 : (4 : Int32) * nI i = nI (4 * i) := by have := nI_m4 (i := i) (n := 0); rw [nI_0, Int32.add_zero] at this; exact this
    have e41 : nI (4 * i) + 1 = nI (4 * i + 1) := (nI_succ _).symm
    have e42 : nI (4 * i) + 2 = nI (4 * i + 2) := (Int32.ofNat_add (4 * i) 2).symm
    have e43 : nI (4 * i) + 3 = nI (4 * i + 3) := (Int32.ofNat_add (4 * i) 3).symm
    have t4 : ∀ n, n < 4 → vp_in (nI (4 * i + n)) 6400 := fun n hn => vp_in_nI (by omega) (by decide)
    have c4 : ∀ n, n < 4 → (nI (4 * i + n)).toNatClampNeg = 4 * i + n := fun n hn => nI_clamp (by omega)
    rw [e40]
    refine Wp.lets ?_
    simp only [e41, e42, e43, c4 1 (by decide), c4 2 (by decide), c4 3 (by decide), show (nI (4 * i)).toNatClampNeg = 4 * i from c4 0 (by decide)]
    have m9 : ∀ n, n < 4 → E4.1 9 (4 * i + n) = mB E 9 (4 * i + n) := fun n hn => by rw [i1 9 (by omega), mB9 (by omega)]
    have m90 : E4.1 9 (4 * i) = eD (mB E) i := m9 0 (by decide)
    have m91 : E4.1 9 (4 * i + 1) = eS (mB E) i := m9 1 (by decide)
    have m92 : E4.1 9 (4 * i + 2) = eF (mB E) i := m9 2 (by decide)
    have m93 : E4.1 9 (4 * i + 3) = eV (mB E) i := m9 3 (by decide)
    obtain ⟨o1, -, -⟩ := bw.2.1 i il
    have cm : cnL (mB E) (i + 1) ≤ nS (mB E) := by rw [← bw.2.2.1]; exact cnL_mono il
    have cm0 : cnL (mB E) i ≤ nS (mB E) := by rw [← bw.2.2.1]; exact cnL_mono (by omega)
    refine Wp.idx (t4 0 (by decide)) (Wp.letQ (fun Q j => ∀ E5, Lk2 E E5 (i + 1) → Wp (j E5) Q) (fun E5 l5 => Wp.lets (K2 il E5 l5)) (fun j K3 => ?_))
    rw [m90]
    refine Wp.ilt (fun z => K3 E4 ⟨i1, i2, i3, fun k hk => ?_⟩) (fun z => Wp.idx (t4 2 (by decide)) ?_)
    · have no : ∀ f, ¬ hitF (mB E) (dvF (mB E)) k f i := fun f y => by
        have := y.2.1
        rw [hdv] at this
        omega
      obtain ⟨b1, zz, b2⟩ := i4 k hk
      exact ⟨fun f f1 f2 => by rw [b1 f f1 f2]; exact (if_neg (no f)).symm, zz, by rw [b2]; exact (if_neg (no 0)).symm⟩
    -- a seen entry: its place
    have sN : ∃ s : Nat, eS (mB E) i = nI s ∧ s < nS (mB E) := by
      rcases o1 with ⟨x1, x2, x3⟩ | ⟨x1, x2, x3⟩
      · have := cnL_lt (n := i + 1) (Nat.lt_succ_self i) x1
        exact ⟨_, x2, by omega⟩
      · have := cl_i x2
        exact ⟨_, nI_val x2, by omega⟩
    obtain ⟨s, es, hs⟩ := sN
    have go : ∀ (x8 : Int32) (f : Nat), x8 = nI f → f < 11 → (∀ f', f' < 11 → ((eF (mB E) i = nI f' ∨ (eF (mB E) i = -1 ∧ f' = 0)) ↔ f' = f)) → Wp (aIn (nI (4 * i + 1)) 6400 (aIn (nI (4 * i + 3)) 6400 (aIn ((11 : Int32) * (E4.1 9 (4 * i + 1)) + x8) 352 (aLet (aSI E4 32 ((11 : Int32) * (E4.1 9 (4 * i + 1)) + x8).toNatClampNeg (E4.1 9 (4 * i + 3))) (fun D15 => j D15))))) (fun _ E1 => LkR D E E1 (nS (mB E))) := by
      intro x8 f hx hf hit
      rw [m91, es, hx, nI_m11, m93]
      have c11 : (nI (11 * s + f)).toNatClampNeg = 11 * s + f := nI_clamp (by omega)
      refine Wp.idx (t4 1 (by decide)) (Wp.idx (t4 3 (by decide)) (Wp.idx (vp_in_nI (by omega) (by decide)) (Wp.lets (K3 _ ?_))))
      rw [c11]
      refine ⟨i1.si (by omega), by rw [si_o (by decide)]; exact i2, fun k hk => by rw [si_o (by decide)]; exact i3 k hk, fun k hk => ?_⟩
      obtain ⟨b1, zz, b2⟩ := i4 k hk
      have step : ∀ f' z, f' < 11 → fcF (mB E) (dvF (mB E)) k f' z (i + 1) = if k = s ∧ f' = f then eV (mB E) i else fcF (mB E) (dvF (mB E)) k f' z i := fun f' z hf' => by
        show (if hitF (mB E) (dvF (mB E)) k f' i then eV (mB E) i else fcF (mB E) (dvF (mB E)) k f' z i) = _
        have eq : hitF (mB E) (dvF (mB E)) k f' i ↔ (k = s ∧ f' = f) := by
          unfold hitF
          rw [es, nI_eq (by omega) (by omega), hit f' hf', hdv]
          exact ⟨fun y => ⟨y.1.symm, y.2.2⟩, fun y => ⟨y.1.symm, by omega, y.2⟩⟩
        by_cases y : k = s ∧ f' = f
        · rw [if_pos y, if_pos (eq.mpr y)]
        · rw [if_neg y, if_neg (fun x => y (eq.mp x))]
      refine ⟨fun f' f1 f2 => ?_, zz, ?_⟩
      · rw [si_s, step f' _ f2, b1 f' f1 f2]
        by_cases y : k = s ∧ f' = f
        · rw [if_pos y, if_pos (by rw [y.1, y.2])]
        · rw [if_neg y, if_neg (by omega)]
      · rw [si_s, step 0 _ (by decide), b2]
        by_cases y : k = s ∧ 0 = f
        · rw [if_pos y, if_pos (by rw [y.1, ← y.2]; omega)]
        · rw [if_neg y, if_neg (by omega)]
    rw [m92]
    refine Wp.lets (Wp.ite (fun x => go 0 0 rfl (by decide) (fun f' hf' => ?_)) (fun x => Wp.idx (t4 2 (by decide)) ?_))
    · constructor
      · rintro (y | y)
        · rw [x] at y
          have : (-1 : Int32).toInt = (nI f').toInt := by rw [y]
          rw [ti_m1, nI_toInt (by omega)] at this
          omega
        · exact y.2
      · intro y
        exact Or.inr ⟨x, y⟩
    · rcases o1 with ⟨x1, -, -⟩ | ⟨x1, -, -⟩
      · exact absurd x1 x
      · have := cl_i x1.1
        refine go _ _ (nI_val x1.1) (by omega) (fun f' hf' => ?_)
        constructor
        · rintro (y | y)
          · rw [y, nI_clamp (by omega)]
          · exact absurd y.1 x
        · intro y
          exact Or.inl (by rw [y]; exact nI_val x1.1)
  -- spans and choice
  obtain ⟨b1, b2, b3, b4⟩ := l4
  have s32 : nS (mB E) ≤ 32 := by omega
  have kf : ∀ k f, k < nS (mB E) → thE E k → f < 11 → knX D (nI k) (nI f) = fct (mB E) (dvF (mB E)) k f := fun k f hk ht hf => by
    have vf : (nI f).toInt = (f : Int) := nI_toInt (by omega)
    rw [kn_fct h, if_pos ⟨(th_st hk s32).mp ht, by omega, by omega⟩, nI_clamp (by omega), nI_clamp (by omega)]
  have fc : ∀ k, k < nS (mB E) → thE E k → ∀ E5 : ADD, E5.1 32 = E4.1 32 → FcR D E5 k := fun k hk ht E5 e f hf => by
    rw [e, kf k f hk ht hf]
    obtain ⟨d1, zz, d2⟩ := b4 k hk
    by_cases f0 : f = 0
    · rw [f0, Nat.add_zero, d2]
      exact fcF_there bw hk ht
    · exact d1 f (by omega) hf
  refine Wp.lets (Wp.lets ?_)
  refine Wp.go1 (fun i E5 => LkR D E E5 i ∧ E5.1 32 = E4.1 32) (nS (mB E)) (by omega) (fun g i E5 hi hI K2 => ?_) (k0 := 0) rfl (Nat.zero_le _) ⟨⟨b1, b2, b3, fun k hk ht => fc k hk ht E4 rfl, fun k hk => absurd hk (Nat.not_lt_zero _)⟩, rfl⟩
  unfold lX11_look_288
  have hI' := hI
  obtain ⟨⟨i1, i2, i3, i4, i5⟩, i6⟩ := hI
  have vi : (nI i).toInt = (i : Int) := nI_toInt (by omega)
  have ci : (nI i).toNatClampNeg = i := nI_clamp (by omega)
  have vn : (nI (nS (mB E))).toInt = (nS (mB E) : Int) := nI_toInt (by omega)
  rw [i2, v5]
  refine Wp.ile (fun z => ?_) (fun z => ?_)
  · have : i = nS (mB E) := by omega
    rw [this] at hI'
    exact Wp.ret hI'.1
  have il : i < nS (mB E) := by omega
  have ii : vp_in (nI i) 32 := vp_in_nI (by omega) (by decide)
  refine Wp.idx ii (Wp.leti (fun E7 e7 => Wp.idx ii ?_))
  rw [ci] at e7 ⊢
  have f7 : ∀ c, c ≠ 35 → E7.1 c = E5.1 c := fun c hc => by rw [e7, si_o hc]
  have s7 : ∀ j, E7.1 35 j = if j = i then 0 else E5.1 35 j := fun j => by rw [e7, si_s]
  clear e7
  have l7 : LkF E E7 := fun c hc => by
    by_cases e : c = 35
    · omega
    · rw [f7 c e, i1 c hc]
  rw [f7 31 (by decide), i3 i il]
  have nx : ∀ E8, (LkR D E E8 (i + 1) ∧ E8.1 32 = E4.1 32) → Wp (aLet (nI i + (1 : Int32)) (fun x3 => g x3 E8)) (fun _ E1 => LkR D E E1 (nS (mB E))) := fun E8 l8 => Wp.lets (K2 il E8 l8)
  by_cases ht : thE E i
  · rw [if_pos ht]
    refine Wp.lets (Wp.neg (by decide) ?_)
    have f32 : E7.1 32 = E4.1 32 := by rw [f7 32 (by decide), i6]
    have fci := fc i il ht E7 f32
    refine Wp.bind (bM_findSpan (by omega) w (fun c a b => l7 c (by omega)) fci) (fun _ E9 q9 => ?_)
    obtain ⟨g1, g2, g3⟩ := q9
    have gd : Gd (fct (mB E) (dvF (mB E)) i) := bw.2.2.2.2 _ i il ht
    have k4 : knX D (nI i) 4 = fct (mB E) (dvF (mB E)) i 4 := kf i 4 il ht (by decide)
    have k1 : knX D (nI i) 1 = fct (mB E) (dvF (mB E)) i 1 := kf i 1 il ht (by decide)
    refine Wp.bind (bM_isChosen (by omega) c (fun c a b => by rw [g1 c (by omega) (by omega) (by omega), l7 c (by omega)]) (fun f hf => by rw [g1 32 (by decide) (by decide) (by decide)]; exact fci f hf) (by rw [k4]; exact gd.1 4 (by decide)) (by rw [k1]; exact gd.1 1 (by decide))) (fun x E10 q10 => ?_)
    obtain ⟨rfl, q10⟩ := q10
    refine Wp.idx ii (Wp.lets (nx _ ⟨⟨?_, ?_, ?_, ?_, ?_⟩, ?_⟩))
    · intro c hc
      rw [si_o (by omega), g1 c (by omega) (by omega) (by omega), l7 c hc]
    · rw [si_o (by decide), g1 0 (by decide) (by decide) (by decide), f7 0 (by decide)]
      exact i2
    · intro k hk
      rw [si_o (by decide), g1 31 (by decide) (by decide) (by decide), f7 31 (by decide)]
      exact i3 k hk
    · intro k hk hk2
      exact fc k hk hk2 _ (by rw [si_o (by decide), g1 32 (by decide) (by decide) (by decide), f32])
    · intro k hk
      rw [si_o (by decide), si_o (by decide), si_s, g2, g3, g1 35 (by decide) (by decide) (by decide), s7, f7 33 (by decide), f7 34 (by decide)]
      by_cases e : k = i
      · subst e
        rw [if_pos rfl, if_pos rfl, if_pos rfl]
        refine ⟨fun _ => ⟨rfl, rfl⟩, ?_⟩
        rcases q10 with ⟨y1, y2⟩ | ⟨y1, y2⟩
        · exact Or.inl ⟨y1, ht, y2⟩
        · exact Or.inr ⟨y1, fun y => y2 y.2⟩
      · rw [if_neg e, if_neg e, if_neg e, if_neg e]
        exact i5 k (by omega)
    · rw [si_o (by decide), g1 32 (by decide) (by decide) (by decide), f32]
  · rw [if_neg ht]
    refine Wp.lets (Wp.pos rfl (nx E7 ⟨⟨l7, by rw [f7 0 (by decide)]; exact i2, fun k hk => by rw [f7 31 (by decide)]; exact i3 k hk, fun k hk hk2 => fc k hk hk2 _ (by rw [f7 32 (by decide), i6]), fun k hk => ?_⟩, by rw [f7 32 (by decide), i6]⟩))
    rw [f7 33 (by decide), f7 34 (by decide), s7]
    by_cases e : k = i
    · subst e
      rw [if_pos rfl]
      exact ⟨fun y => absurd y ht, Or.inr ⟨rfl, fun y => ht y.1⟩⟩
    · rw [if_neg e]
      exact i5 k (by omega)
end LK2
