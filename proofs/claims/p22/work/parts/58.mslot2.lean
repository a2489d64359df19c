section
/-! the reference: the other calls that change it -/
section MT
variable {D : ADD}
theorem QMs.si {c i : Nat} {v : Int32} (h : QMs D) (hc : c ≠ 2 ∧ c ≠ 5 ∧ c ≠ 8 ∧ c ≠ 9 ∧ c ≠ 15 ∧ c ≠ 16 ∧ c ≠ 23) : QMs (aSI D c i v) := by
  have g : ∀ k, k ≠ c → (aSI D c i v).1 k = D.1 k := fun k hk => by
    funext z
    simp [aSI, hk]
  refine ⟨fun t ht => ?_, ?_⟩
  · unfold QMt
    rw [g 5 (by omega), g 8 (by omega), g 9 (by omega), g 15 (by omega), g 16 (by omega), g 2 (by omega)]
    exact h.1 t ht
  · unfold TM
    rw [g 23 (by omega)]
    exact h.2
theorem si_o {D : ADD} {c i : Nat} {v : Int32} {k : Nat} (hk : k ≠ c) : (aSI D c i v).1 k = D.1 k := by
  funext z
  simp [aSI, hk]
theorem si_s {D : ADD} {c i j : Nat} {v : Int32} : (aSI D c i v).1 c j = if j = i then v else D.1 c j := by simp [aSI]
/-- the reference's day -/
theorem sM_day {a : Int32} (h : QMs D) : Wp (fX11_day a D) (fun r D1 => QMs D1 ∧ D1.1 2 = D.1 2 ∧ D1.1 39 = D.1 39 ∧ (r = if (D.1 6 0).toInt ≤ a.toInt ∧ a.toInt ≤ 9999 then 1 else 0) ∧ ∀ i, D1.1 6 i = if i = 0 ∧ (D.1 6 0).toInt ≤ a.toInt ∧ a.toInt ≤ 9999 then a else D.1 6 i) := by
  unfold fX11_day
  have f1 : FmM D (aSI D 0 0 0) := FmM.code
  have h1 := h.fm f1
  have e9 : (9999 : Int32).toInt = 9999 := by decide
  refine Wp.lets (Wp.idd (by decide) (Wp.bindE (eM_is _ _ _ _) ?_))
  rw [cl_0, f1 6 (by omega), e9]
  by_cases hc : (D.1 6 0).toInt ≤ a.toInt ∧ a.toInt ≤ 9999
  · rw [if_pos hc]
    refine Wp.neg (by decide) (Wp.idd (by decide) (Wp.lets (Wp.ret ⟨h1.si (by decide), by rw [si_o (by decide), f1 2 (by omega)], by rw [si_o (by decide), f1 39 (by omega)], rfl, fun i => ?_⟩)))
    rw [si_s, f1 6 (by omega)]
    by_cases hi : i = 0
    · rw [if_pos hi, if_pos ⟨hi, hc⟩]
    · rw [if_neg hi, if_neg (fun q => hi q.1)]
  · rw [if_neg hc]
    refine Wp.pos rfl (Wp.ret ⟨h1, f1 2 (by omega), f1 39 (by omega), rfl, fun i => ?_⟩)
    rw [if_neg (fun q => hc q.2), f1 6 (by omega)]
theorem sM_view {a : Int32} (h : QMs D) : Wp (fX11_view a D) (fun r D1 => QMs D1 ∧ KM D D1 ∧ r = if -1 ≤ a.toInt ∧ a.toInt ≤ (D.1 6 0).toInt then 1 else 0) := by
  unfold fX11_view
  have f1 : FmM D (aSI D 0 0 0) := FmM.code
  have h1 := h.fm f1
  refine Wp.lets (Wp.idd (by decide) (Wp.bindE (eM_is _ _ _ _) ?_))
  rw [cl_0, f1 6 (by omega), ti_m1]
  by_cases hc : -1 ≤ a.toInt ∧ a.toInt ≤ (D.1 6 0).toInt
  · rw [if_pos hc]
    exact Wp.neg (by decide) (Wp.idd (by decide) (Wp.lets (Wp.ret ⟨h1.si (by decide), ⟨by rw [si_o (by decide), f1 2 (by omega)], by rw [si_o (by decide), f1 6 (by omega)], by rw [si_o (by decide), f1 39 (by omega)]⟩, rfl⟩)))
  · rw [if_neg hc]
    exact Wp.pos rfl (Wp.ret ⟨h1, f1.km, rfl⟩)
theorem len_now {D1 : ADD} (h : QMs D) (f : ∀ c, c ≠ 0 → c ≠ 1 → c ≠ 2 → D1.1 c = D.1 c) (g : ∀ i, i ≠ 0 → D1.1 2 i = D.1 2 i) (l : 0 ≤ (D1.1 2 0).toInt ∧ (D1.1 2 0).toInt ≤ 500) : QMs D1 := by
  have q := h.qm
  refine h.now (fun c i hc hi => ?_) ?_ l ?_
  · by_cases c2 : c = 2
    · subst c2
      have s2 : szM 2 = 1 := rfl
      rw [g i (by omega)]
    · rw [f c (by omega) (by omega) c2]
  · unfold QM
    rw [f 5 (by decide) (by decide) (by decide), f 8 (by decide) (by decide) (by decide), f 9 (by decide) (by decide) (by decide), f 15 (by decide) (by decide) (by decide), f 16 (by decide) (by decide) (by decide)]
    exact q
  · unfold TM
    rw [f 23 (by decide) (by decide) (by decide)]
    exact h.2
/-- five times four bytes -/
theorem tM_feed {a b c d e : Int32} {n : Nat} (h0 : (D.1 2 0).toInt = n) (h1 : n ≤ 500) : Wp (fX11_feed a b c d e D) (fun r D1 => (∀ c, c ≠ 0 → c ≠ 1 → c ≠ 2 → D1.1 c = D.1 c) ∧ (∀ i, i ≠ 0 → D1.1 2 i = D.1 2 i) ∧ if n + 20 ≤ 500 then r.toInt = ((n + 20 : Nat) : Int) ∧ r = D1.1 2 0 else r = -1 ∧ D1.1 2 0 = D.1 2 0) := by
  unfold fX11_feed
  refine Wp.leti (fun D1 e1 => Wp.idd (by decide) ?_)
  have g1 : ∀ c, c ≠ 0 → D1.1 c = D.1 c := fun c hc => by rw [e1]; exact si_o hc
  rw [cl_0, g1 2 (by decide)]
  have e20 : (D.1 2 0 + 20).toInt = (n : Int) + 20 := ti_add h0 (by decide) (by omega) (by omega)
  have e5 : (500 : Int32).toInt = 500 := by decide
  refine Wp.ile (fun hl => ?_) (fun hl => Wp.ret ⟨fun c a _ _ => g1 c a, fun i _ => by rw [g1 2 (by decide)], ?_⟩)
  · have F : ∀ (x : Int32) (E : ADD) (m : Nat), (E.1 2 0).toInt = m → m + 4 ≤ 500 → Wp (fX11_four x E) (fun _ E1 => (∀ c, c ≠ 1 → c ≠ 2 → E1.1 c = E.1 c) ∧ (∀ i, i ≠ 0 → E1.1 2 i = E.1 2 i) ∧ (E1.1 2 0).toInt = ((m + 4 : Nat) : Int)) := fun x E m hm hm4 => by
      refine (tM_four (by omega) (by omega)).mono (fun _ E1 q => ⟨q.1, q.2.2.1, ?_⟩)
      have := q.2.2.2.1
      omega
    have z1 : (D1.1 2 0).toInt = n := by rw [g1 2 (by decide)]; exact h0
    refine Wp.bind (F a D1 n z1 (by omega)) (fun _ D2 q2 => Wp.bind (F b D2 (n + 4) q2.2.2 (by omega)) (fun _ D3 q3 => Wp.bind (F c D3 (n + 4 + 4) q3.2.2 (by omega)) (fun _ D4 q4 => Wp.bind (F d D4 (n + 4 + 4 + 4) q4.2.2 (by omega)) (fun _ D5 q5 => Wp.bind (F e D5 (n + 4 + 4 + 4 + 4) q5.2.2 (by omega)) (fun _ D6 q6 => Wp.idd (by decide) (Wp.ret ⟨fun c a b d => ?_, fun i hi => ?_, ?_⟩))))))
    · rw [q6.1 c b d, q5.1 c b d, q4.1 c b d, q3.1 c b d, q2.1 c b d, g1 c a]
    · rw [q6.2.1 i hi, q5.2.1 i hi, q4.2.1 i hi, q3.2.1 i hi, q2.2.1 i hi, g1 2 (by decide)]
    · rw [if_pos (by omega)]
      exact ⟨by have := q6.2.2; omega, rfl⟩
  · rw [if_neg (by omega)]
    exact ⟨rfl, by rw [g1 2 (by decide)]⟩
theorem sM_feed {a b c d e : Int32} (h : QMs D) : Wp (fX11_feed a b c d e D) (fun r D1 => QMs D1 ∧ D1.1 6 = D.1 6 ∧ D1.1 39 = D.1 39 ∧ (∀ i, i ≠ 0 → D1.1 2 i = D.1 2 i) ∧ if (D.1 2 0).toInt + 20 ≤ 500 then r.toInt = (D.1 2 0).toInt + 20 ∧ r = D1.1 2 0 else r = -1 ∧ D1.1 2 0 = D.1 2 0) := by
  have l := h.len
  have el := cl_i l.1
  refine (tM_feed (n := (D.1 2 0).toNatClampNeg) (by omega) (by omega)).mono (fun r D1 q => ?_)
  obtain ⟨q1, q2, q3⟩ := q
  by_cases hc : (D.1 2 0).toInt + 20 ≤ 500
  · rw [if_pos (by omega)] at q3
    refine ⟨len_now h q1 q2 (by rw [← q3.2]; omega), q1 6 (by decide) (by decide) (by decide), q1 39 (by decide) (by decide) (by decide), q2, ?_⟩
    rw [if_pos hc]
    exact ⟨by omega, q3.2⟩
  · rw [if_neg (by omega)] at q3
    refine ⟨len_now h q1 q2 (by rw [q3.2]; exact l), q1 6 (by decide) (by decide) (by decide), q1 39 (by decide) (by decide) (by decide), q2, ?_⟩
    rw [if_neg hc]
    exact q3
theorem sM_end {a : Int32} (h : QMs D) : Wp (fX11_end a D) (fun r D1 => QMs D1 ∧ D1.1 6 = D.1 6 ∧ D1.1 39 = D.1 39 ∧ (∀ i, i ≠ 0 → D1.1 2 i = D.1 2 i) ∧ if 0 ≤ a.toInt ∧ a.toInt ≤ (D.1 2 0).toInt then r = a ∧ D1.1 2 0 = a else r = -1 ∧ D1.1 2 0 = D.1 2 0) := by
  unfold fX11_end
  have l := h.len
  have f1 : FmM D (aSI D 0 0 0) := FmM.code
  have h1 := h.fm f1
  refine Wp.lets (Wp.idd (by decide) (Wp.bindE (eM_is _ _ _ _) ?_))
  generalize aSI D 0 0 0 = D1 at f1 h1 ⊢
  rw [cl_0, f1 2 (by omega), ti_0]
  by_cases hc : 0 ≤ a.toInt ∧ a.toInt ≤ (D.1 2 0).toInt
  · rw [if_pos hc]
    refine Wp.neg (by decide) (Wp.idd (by decide) (Wp.leti (fun D3 e3 => Wp.ret ?_)))
    have g0 : D3.1 2 0 = a := by rw [e3, si_s]; rfl
    have gi : ∀ i, i ≠ 0 → D3.1 2 i = D1.1 2 i := fun i hi => by rw [e3, si_s, if_neg hi]
    have gc : ∀ c, c ≠ 2 → D3.1 c = D1.1 c := fun c hc => by rw [e3]; exact si_o hc
    refine ⟨len_now h1 (fun c _ _ b => gc c b) gi (by rw [g0]; omega), by rw [gc 6 (by decide), f1 6 (by omega)], by rw [gc 39 (by decide), f1 39 (by omega)], fun i hi => by rw [gi i hi, f1 2 (by omega)], ?_⟩
    rw [if_pos hc]
    exact ⟨rfl, g0⟩
  · rw [if_neg hc]
    refine Wp.pos rfl (Wp.ret ⟨h1, f1 6 (by omega), f1 39 (by omega), fun i _ => by rw [f1 2 (by omega)], ?_⟩)
    rw [if_neg hc]
    exact ⟨rfl, by rw [f1 2 (by omega)]⟩
theorem sM_text {a : Int32} (h : QMs D) : Wp (fX11_text a D) (fun _ D1 => QMs D1 ∧ D1.1 6 = D.1 6 ∧ D1.1 39 = D.1 39 ∧ ∀ i, D1.1 2 i = if i = 0 then 0 else D.1 2 i) := by
  have q := h.qm
  refine (oM_text q h.2 h.len).mono (fun _ D1 x => ?_)
  obtain ⟨x1, x2, x3, x4, x5, x6, x7, x8⟩ := x
  have s2 : szM 2 = 1 := rfl
  have s15 : szM 15 = 2 := rfl
  have s16 : szM 16 = 32 := rfl
  refine ⟨h.now (fun c i hc hi => ?_) ⟨by rw [x1 5 (by omega)]; exact q.1, by rw [x1 8 (by omega)]; exact q.2.1, by rw [x1 8 (by omega), x1 9 (by omega)]; exact q.2.2.1, x6, x7⟩ (by rw [x3]; decide) x8, x1 6 (by omega), x1 39 (by omega), fun i => ?_⟩
  · by_cases c2 : c = 2
    · subst c2
      exact x2 2 (by decide) (by decide) i (by omega)
    · by_cases c15 : c = 15
      · subst c15
        exact x4 i (by omega)
      · by_cases c16 : c = 16
        · subst c16
          exact x5 i (by omega)
        · rw [x1 c (by omega)]
  · by_cases hi : i = 0
    · rw [if_pos hi, hi, x3]
    · rw [if_neg hi, x2 2 (by decide) (by decide) i hi]
theorem sM_choose {a b y z m : Int32} (h : QMs D) : Wp (fX11_choose a b y z m D) (fun r D1 => QMs D1 ∧ KM D D1 ∧ r = if ChOK y z m then 1 else 0) := by
  refine (tM_choose (E := D)).mono (fun r D1 k => ?_)
  by_cases hc : ChOK y z m
  · rw [if_pos hc] at k
    obtain ⟨k1, k2, -⟩ := k
    have g : ∀ c, c ≠ 0 → c ≠ 11 → c ≠ 12 → c ≠ 13 → c ≠ 14 → D1.1 c = D.1 c := k2
    refine ⟨⟨fun t ht => ?_, ?_⟩, ⟨g 2 (by decide) (by decide) (by decide) (by decide) (by decide), g 6 (by decide) (by decide) (by decide) (by decide) (by decide), g 39 (by decide) (by decide) (by decide) (by decide) (by decide)⟩, by rw [if_pos hc]; exact k1⟩
    · unfold QMt
      rw [g 5 (by decide) (by decide) (by decide) (by decide) (by decide), g 8 (by decide) (by decide) (by decide) (by decide) (by decide), g 9 (by decide) (by decide) (by decide) (by decide) (by decide), g 15 (by decide) (by decide) (by decide) (by decide) (by decide), g 16 (by decide) (by decide) (by decide) (by decide) (by decide), g 2 (by decide) (by decide) (by decide) (by decide) (by decide)]
      exact h.1 t ht
    · unfold TM
      rw [g 23 (by decide) (by decide) (by decide) (by decide) (by decide)]
      exact h.2
  · rw [if_neg hc] at k
    exact ⟨h.fm k.2.fm, k.2.fm.km, by rw [if_neg hc]; exact k.1⟩
/-- a copy of one slot to another -/
theorem CpT.qs {D1 : ADD} {f t : Nat} (h : QMs D) (hf : f < 4) (ht : t < 4) (k : CpT D D1 f t 23) : QMs D1 ∧ (∀ i, i < 4 → D1.1 2 i = if i = t then D.1 2 f else D.1 2 i) ∧ ∀ i, i < 4 → D1.1 6 i = if i = t then D.1 6 f else D.1 6 i := by
  obtain ⟨k1, k2, k3, k4⟩ := k
  have s1 : ∀ c, szM c = 1 → 2 ≤ c → c < 23 → ∀ i, i < 4 → D1.1 c i = if i = t then D.1 c f else D.1 c i := by
    intro c hs c2 c23 i hi
    rw [k4 c c2 c23 i, hs]
    by_cases e : i = t
    · rw [if_pos (by omega), if_pos e]
      have : i - 1 * t + 1 * f = f := by omega
      rw [this]
    · rw [if_neg (by omega), if_neg e]
  have e2 := s1 2 rfl (by decide) (by decide)
  have e5 := s1 5 rfl (by decide) (by decide)
  have e8 := s1 8 rfl (by decide) (by decide)
  have e9 : ∀ i j, i < 4 → j < 1600 → D1.1 9 (1600 * i + j) = if i = t then D.1 9 (1600 * f + j) else D.1 9 (1600 * i + j) := by
    intro i j hi hj
    have s : szM 9 = 1600 := rfl
    rw [k4 9 (by decide) (by decide), s]
    by_cases e : i = t
    · rw [if_pos (by omega), if_pos e]
      have : 1600 * i + j - 1600 * t + 1600 * f = 1600 * f + j := by omega
      rw [this]
    · rw [if_neg (by omega), if_neg e]
  have e15 : ∀ i j, i < 4 → j < 2 → D1.1 15 (2 * i + j) = if i = t then D.1 15 (2 * f + j) else D.1 15 (2 * i + j) := by
    intro i j hi hj
    have s : szM 15 = 2 := rfl
    rw [k4 15 (by decide) (by decide), s]
    by_cases e : i = t
    · rw [if_pos (by omega), if_pos e]
      have : 2 * i + j - 2 * t + 2 * f = 2 * f + j := by omega
      rw [this]
    · rw [if_neg (by omega), if_neg e]
  have e16 : ∀ i j, i < 4 → j < 32 → D1.1 16 (32 * i + j) = if i = t then D.1 16 (32 * f + j) else D.1 16 (32 * i + j) := by
    intro i j hi hj
    have s : szM 16 = 32 := rfl
    rw [k4 16 (by decide) (by decide), s]
    by_cases e : i = t
    · rw [if_pos (by omega), if_pos e]
      have : 32 * i + j - 32 * t + 32 * f = 32 * f + j := by omega
      rw [this]
    · rw [if_neg (by omega), if_neg e]
  refine ⟨⟨fun i hi => ?_, ?_⟩, e2, s1 6 rfl (by decide) (by decide)⟩
  · by_cases e : i = t
    · obtain ⟨q1, q2, q3, q4, q5, q6⟩ := h.1 f hf
      refine ⟨by rw [e5 i hi, if_pos e]; exact q1, by rw [e8 i hi, if_pos e]; exact q2, fun k hk => ?_, ?_, fun l hl => by rw [e16 i l hi hl, if_pos e]; exact q5 l hl, by rw [e2 i hi, if_pos e]; exact q6⟩
      · rw [e8 i hi, if_pos e] at hk
        rw [e9 i _ hi (by omega), e9 i _ hi (by omega), if_pos e, if_pos e]
        exact q3 k hk
      · have a0 := e15 i 0 hi (by decide)
        rw [if_pos e] at a0
        rw [e15 i 1 hi (by decide), if_pos e]
        exact ⟨by rw [show 2 * i = 2 * i + 0 from rfl, a0]; exact q4.1, q4.2⟩
    · obtain ⟨q1, q2, q3, q4, q5, q6⟩ := h.1 i hi
      refine ⟨by rw [e5 i hi, if_neg e]; exact q1, by rw [e8 i hi, if_neg e]; exact q2, fun k hk => ?_, ?_, fun l hl => by rw [e16 i l hi hl, if_neg e]; exact q5 l hl, by rw [e2 i hi, if_neg e]; exact q6⟩
      · rw [e8 i hi, if_neg e] at hk
        rw [e9 i _ hi (by omega), e9 i _ hi (by omega), if_neg e, if_neg e]
        exact q3 k hk
      · have a0 := e15 i 0 hi (by decide)
        rw [if_neg e] at a0
        rw [e15 i 1 hi (by decide), if_neg e]
        exact ⟨by rw [show 2 * i = 2 * i + 0 from rfl, a0]; exact q4.1, q4.2⟩
  · unfold TM
    rw [k1 23 (by omega)]
    exact h.2
theorem sM_image {a : Int32} (h : QMs D) : Wp (fX11_image a D) (fun r D1 => QMs D1 ∧ if 0 ≤ a.toInt ∧ a.toInt ≤ 2 then r = 1 ∧ (∀ i, D1.1 39 i = if i = a.toNatClampNeg then 1 else D.1 39 i) ∧ (∀ i, i < 4 → D1.1 2 i = if i = a.toNatClampNeg + 1 then D.1 2 0 else D.1 2 i) ∧ ∀ i, i < 4 → D1.1 6 i = if i = a.toNatClampNeg + 1 then D.1 6 0 else D.1 6 i else r = 0 ∧ KM D D1) := by
  unfold fX11_image
  have f1 : FmM D (aSI D 0 0 0) := FmM.code
  have h1 := h.fm f1
  have L2 : (2 : Int32).toInt = 2 := by decide
  refine Wp.lets (Wp.bindE (eM_is _ _ _ _) ?_)
  rw [ti_0, L2]
  by_cases hc : 0 ≤ a.toInt ∧ a.toInt ≤ 2
  · rw [if_pos hc]
    have e1 : (a + 1).toInt = a.toInt + 1 := ti_add rfl (by decide) (by omega) (by omega)
    have ec := cl_i hc.1
    refine Wp.neg (by decide) (Wp.bind (tM_copy (f := 0) (t := a.toNatClampNeg + 1) (by decide) (by omega) (by omega) (by omega) (by omega)) (fun _ D3 k => Wp.idx (i_in (by omega) (by omega)) (Wp.lets (Wp.ret ?_))))
    obtain ⟨k1, k2, k3⟩ := CpT.qs h1 (by decide) (by omega) k
    refine ⟨k1.si (by decide), ?_⟩
    rw [if_pos hc]
    refine ⟨rfl, fun i => ?_, fun i hi => ?_, fun i hi => ?_⟩
    · rw [si_s, k.1 39 (by omega), f1 39 (by omega)]
    · rw [si_o (by decide), k2 i hi, f1 2 (by omega)]
    · rw [si_o (by decide), k3 i hi, f1 6 (by omega)]
  · rw [if_neg hc]
    refine Wp.pos rfl (Wp.ret ⟨h1, ?_⟩)
    rw [if_neg hc]
    exact ⟨rfl, f1.km⟩
theorem sM_again {a : Int32} (h : QMs D) : Wp (fX11_again a D) (fun r D1 => QMs D1 ∧ D1.1 39 = D.1 39 ∧ if (0 ≤ a.toInt ∧ a.toInt ≤ 2) ∧ aBz (D.1 39 a.toNatClampNeg) ≠ 0 then r = 1 ∧ (∀ i, i < 4 → D1.1 2 i = if i = 0 then D.1 2 (a.toNatClampNeg + 1) else D.1 2 i) ∧ ∀ i, i < 4 → D1.1 6 i = if i = 0 then D.1 6 (a.toNatClampNeg + 1) else D.1 6 i else r = 0 ∧ KM D D1) := by
  unfold fX11_again
  have f1 : FmM D (aSI D 0 0 0) := FmM.code
  have h1 := h.fm f1
  have L2 : (2 : Int32).toInt = 2 := by decide
  refine Wp.lets (Wp.bindE (eM_is _ _ _ _) (Wp.lets ?_))
  generalize aSI D 0 0 0 = D1 at f1 h1 ⊢
  rw [ti_0, L2]
  by_cases hc : 0 ≤ a.toInt ∧ a.toInt ≤ 2
  · rw [if_pos hc]
    have e1 : (a + 1).toInt = a.toInt + 1 := ti_add rfl (by decide) (by omega) (by omega)
    have ec := cl_i hc.1
    refine Wp.neg (by decide) (Wp.idx (i_in (by omega) (by omega)) ?_)
    rw [f1 39 (by omega)]
    refine Wp.ite (fun hz => Wp.ret ⟨h1, f1 39 (by omega), ?_⟩) (fun hz => Wp.bind (tM_copy (f := a.toNatClampNeg + 1) (t := 0) (by omega) (by decide) (by omega) (by omega) (by omega)) (fun _ D3 k => Wp.ret ?_))
    · rw [if_neg (fun q => q.2 hz)]
      exact ⟨rfl, f1.km⟩
    · obtain ⟨k1, k2, k3⟩ := CpT.qs h1 (by omega) (by decide) k
      refine ⟨k1, by rw [k.1 39 (by omega), f1 39 (by omega)], ?_⟩
      rw [if_pos ⟨hc, hz⟩]
      exact ⟨rfl, fun i hi => by rw [k2 i hi, f1 2 (by omega)], fun i hi => by rw [k3 i hi, f1 6 (by omega)]⟩
  · rw [if_neg hc]
    refine Wp.pos rfl (Wp.ret ⟨h1, f1 39 (by omega), ?_⟩)
    rw [if_neg (fun q => hc q.1)]
    exact ⟨rfl, f1.km⟩
end MT
end
section
/-! the class: an image is a copy -/
/-- the steps of a copy: (cell, a whole row?, how many or which) -/
def cpL : List (Nat × Bool × Nat) := [(2, true, 352), (3, true, 352), (4, true, 32), (5, true, 32), (6, true, 400), (7, true, 400), (8, true, 400), (9, true, 400), (1, false, 8), (1, false, 9), (1, false, 10), (1, false, 11), (1, false, 12), (11, true, 500), (10, false, 1), (12, false, 0), (13, true, 16), (14, true, 16), (15, true, 16), (16, true, 16), (17, true, 64), (18, true, 64), (19, true, 64), (20, true, 64), (21, false, 0), (22, true, 16), (23, true, 16), (24, true, 16), (25, true, 16), (26, true, 64), (27, true, 64), (28, true, 64), (29, true, 64), (30, false, 0), (30, false, 1), (30, false, 2), (30, false, 3), (30, false, 4), (0, false, 5), (0, false, 6)]
def cpS (o p : Nat) (D : ADD) (s : Nat × Bool × Nat) : ADD := match s with
  | (d, true, n) => aCp D (p + d) (o + d) n
  | (d, false, n) => aSI D (o + d) n (D.1 (p + d) n)
def cpC (s : Nat × Bool × Nat) (d i : Nat) : Bool := match s with
  | (e, true, n) => decide (e = d) && decide (i < n)
  | (e, false, n) => decide (e = d) && decide (i = n)
theorem pth {o p : Nat} {s : Nat × Bool × Nat} {L : List (Nat × Bool × Nat)} {D D1 D2 : ADD} (e : D1 = cpS o p D s) (k : D2 = L.foldl (cpS o p) D1) : D2 = (s :: L).foldl (cpS o p) D := by
  subst e
  exact k
theorem pap {o p : Nat} {L M : List (Nat × Bool × Nat)} {D D1 D2 : ADD} (e : D1 = L.foldl (cpS o p) D) (k : D2 = M.foldl (cpS o p) D1) : D2 = (L ++ M).foldl (cpS o p) D := by
  rw [List.foldl_append, ← e]
  exact k
theorem cp_c0 {o p : Nat} {D : ADD} : Wp (fX0_copyFrom (o + 1) (p + 1) D) (fun _ E => E = ([(2, true, 352), (3, true, 352), (4, true, 32), (5, true, 32), (6, true, 400), (7, true, 400), (8, true, 400), (9, true, 400), (1, false, 8), (1, false, 9), (1, false, 10), (1, false, 11), (1, false, 12)] : List (Nat × Bool × Nat)).foldl (cpS o p) D) := by
  unfold fX0_copyFrom
  exact Wp.leti (fun D1 e1 => Wp.leti (fun D2 e2 => Wp.leti (fun D3 e3 => Wp.leti (fun D4 e4 => Wp.leti (fun D5 e5 => Wp.leti (fun D6 e6 => Wp.leti (fun D7 e7 => Wp.leti (fun D8 e8 => Wp.leti (fun D9 e9 => Wp.leti (fun D10 e10 => Wp.leti (fun D11 e11 => Wp.leti (fun D12 e12 => Wp.leti (fun D13 e13 => Wp.ret (pth e1 (pth e2 (pth e3 (pth e4 (pth e5 (pth e6 (pth e7 (pth e8 (pth e9 (pth e10 (pth e11 (pth e12 (pth e13 rfl))))))))))))))))))))))))))
theorem cp_c9 {o p : Nat} {D : ADD} : Wp (fX9_copyFrom (o + 10) (p + 10) D) (fun _ E => E = ([(11, true, 500), (10, false, 1)] : List (Nat × Bool × Nat)).foldl (cpS o p) D) := by
  unfold fX9_copyFrom
  exact Wp.leti (fun D1 e1 => Wp.leti (fun D2 e2 => Wp.ret (pth e1 (pth e2 rfl))))
theorem cp_c6 {o p : Nat} {D : ADD} : Wp (fX6_copyFrom (o + 12) (p + 12) D) (fun _ E => E = ([(12, false, 0), (13, true, 16), (14, true, 16), (15, true, 16), (16, true, 16), (17, true, 64), (18, true, 64), (19, true, 64), (20, true, 64)] : List (Nat × Bool × Nat)).foldl (cpS o p) D) := by
  unfold fX6_copyFrom
  exact Wp.leti (fun D1 e1 => Wp.leti (fun D2 e2 => Wp.leti (fun D3 e3 => Wp.leti (fun D4 e4 => Wp.leti (fun D5 e5 => Wp.leti (fun D6 e6 => Wp.leti (fun D7 e7 => Wp.leti (fun D8 e8 => Wp.leti (fun D9 e9 => Wp.ret (pth e1 (pth e2 (pth e3 (pth e4 (pth e5 (pth e6 (pth e7 (pth e8 (pth e9 rfl))))))))))))))))))
theorem cp_c7 {o p : Nat} {D : ADD} : Wp (fX6_copyFrom (o + 21) (p + 21) D) (fun _ E => E = ([(21, false, 0), (22, true, 16), (23, true, 16), (24, true, 16), (25, true, 16), (26, true, 64), (27, true, 64), (28, true, 64), (29, true, 64)] : List (Nat × Bool × Nat)).foldl (cpS o p) D) := by
  unfold fX6_copyFrom
  exact Wp.leti (fun D1 e1 => Wp.leti (fun D2 e2 => Wp.leti (fun D3 e3 => Wp.leti (fun D4 e4 => Wp.leti (fun D5 e5 => Wp.leti (fun D6 e6 => Wp.leti (fun D7 e7 => Wp.leti (fun D8 e8 => Wp.leti (fun D9 e9 => Wp.ret (pth e1 (pth e2 (pth e3 (pth e4 (pth e5 (pth e6 (pth e7 (pth e8 (pth e9 rfl))))))))))))))))))
theorem cp_c1 {o p : Nat} {D : ADD} : Wp (fX1_copyFrom (o + 30) (p + 30) D) (fun _ E => E = ([(30, false, 0), (30, false, 1), (30, false, 2), (30, false, 3), (30, false, 4)] : List (Nat × Bool × Nat)).foldl (cpS o p) D) := by
  unfold fX1_copyFrom
  exact Wp.leti (fun D1 e1 => Wp.leti (fun D2 e2 => Wp.leti (fun D3 e3 => Wp.leti (fun D4 e4 => Wp.leti (fun D5 e5 => Wp.ret (pth e1 (pth e2 (pth e3 (pth e4 (pth e5 rfl))))))))))
theorem eX8_copyFrom {o p : Nat} {D : ADD} : Wp (fX8_copyFrom o p D) (fun _ E => E = cpL.foldl (cpS o p) D) := by
  unfold fX8_copyFrom
  refine Wp.bind cp_c0 (fun _ D1 q1 => Wp.bind cp_c9 (fun _ D2 q2 => Wp.bind cp_c6 (fun _ D3 q3 => Wp.bind cp_c7 (fun _ D4 q4 => Wp.bind cp_c1 (fun _ D5 q5 => Wp.leti (fun D6 e6 => Wp.leti (fun D7 e7 => Wp.ret ?_)))))))
  have h : D7 = ([(0, false, 5), (0, false, 6)] : List (Nat × Bool × Nat)).foldl (cpS o p) D5 := pth e6 (pth e7 rfl)
  exact pap q1 (pap q2 (pap q3 (pap q4 (pap q5 h))))
theorem cpS_1 {o p : Nat} {D : ADD} {s : Nat × Bool × Nat} (hd : p + 31 ≤ o ∨ o + 31 ≤ p) (hs : s.1 < 31) : (∀ c, (c < o ∨ o + 31 ≤ c) → (cpS o p D s).1 c = D.1 c) ∧ (cpS o p D s).2 = D.2 ∧ ∀ d i, d < 31 → (cpS o p D s).1 (o + d) i = if cpC s d i = true then D.1 (p + d) i else D.1 (o + d) i := by
  obtain ⟨e, b, n⟩ := s
  have hs : e < 31 := hs
  cases b with
  | true =>
    refine ⟨fun c hc => ?_, rfl, fun d i hd2 => ?_⟩
    · funext z
      show (if c = o + e ∧ z < n then _ else _) = _
      rw [if_neg (by omega)]
    · show (if o + d = o + e ∧ i < n then D.1 (p + e) i else D.1 (o + d) i) = if (decide (e = d) && decide (i < n)) = true then _ else _
      by_cases h : e = d
      · subst h
        by_cases hi : i < n
        · rw [if_pos ⟨rfl, hi⟩, if_pos (by simp [hi])]
        · rw [if_neg (fun q => hi q.2), if_neg (by simp [hi])]
      · rw [if_neg (by omega), if_neg (by simp [h])]
  | false =>
    refine ⟨fun c hc => ?_, rfl, fun d i hd2 => ?_⟩
    · funext z
      show (if c = o + e ∧ z = n then _ else _) = _
      rw [if_neg (by omega)]
    · show (if o + d = o + e ∧ i = n then D.1 (p + e) n else D.1 (o + d) i) = if (decide (e = d) && decide (i = n)) = true then _ else _
      by_cases h : e = d
      · subst h
        by_cases hi : i = n
        · subst hi
          rw [if_pos ⟨rfl, rfl⟩, if_pos (by simp)]
        · rw [if_neg (fun q => hi q.2), if_neg (by simp [hi])]
      · rw [if_neg (by omega), if_neg (by simp [h])]
def CpX (L : List (Nat × Bool × Nat)) (o p : Nat) (D D1 : ADD) : Prop := (∀ c, (c < o ∨ o + 31 ≤ c) → D1.1 c = D.1 c) ∧ D1.2 = D.2 ∧ ∀ d i, d < 31 → D1.1 (o + d) i = if (L.any (fun s => cpC s d i)) = true then D.1 (p + d) i else D.1 (o + d) i
theorem cpX_all {o p : Nat} (hd : p + 31 ≤ o ∨ o + 31 ≤ p) : ∀ (L : List (Nat × Bool × Nat)) (D : ADD), (∀ s, s ∈ L → s.1 < 31) → CpX L o p D (L.foldl (cpS o p) D)
  | [], D, _ => ⟨fun _ _ => rfl, rfl, fun d i _ => rfl⟩
  | s :: L, D, hL => by
    obtain ⟨a1, a2, a3⟩ := cpS_1 (D := D) hd (hL s List.mem_cons_self)
    obtain ⟨b1, b2, b3⟩ := cpX_all hd L (cpS o p D s) (fun s hs => hL s (List.mem_cons_of_mem _ hs))
    refine ⟨fun c hc => (b1 c hc).trans (a1 c hc), b2.trans a2, fun d i hd2 => ?_⟩
    show (L.foldl (cpS o p) (cpS o p D s)).1 (o + d) i = _
    rw [b3 d i hd2, a3 d i hd2, List.any_cons, a1 (p + d) (by omega)]
    by_cases h1 : cpC s d i = true <;> by_cases h2 : (L.any (fun s => cpC s d i)) = true
    · simp [h1, h2]
    · simp [h1, h2]
    · simp [h1, h2]
    · simp [h1, h2]
theorem tX8_copy {o p : Nat} {D : ADD} (hd : p + 31 ≤ o ∨ o + 31 ≤ p) : Wp (fX8_copyFrom o p D) (fun _ D1 => CpX cpL o p D D1) := eX8_copyFrom.mono (fun _ D1 e => by rw [e]; exact cpX_all hd cpL D (by decide))
theorem CpX.at {o p d i : Nat} {D D1 : ADD} (h : CpX cpL o p D D1) (hd : d < 31) (hc : (cpL.any (fun s => cpC s d i)) = true) : D1.1 (o + d) i = D.1 (p + d) i := by
  rw [h.2.2 d i hd, if_pos hc]
end
section
/-! the class: now and its images -/
def QXt (D : ADD) (o : Nat) : Prop := (0 ≤ (D.1 (o + 1) 8).toInt ∧ (D.1 (o + 1) 8).toInt ≤ 32) ∧ (0 ≤ (D.1 (o + 1) 9).toInt ∧ (D.1 (o + 1) 9).toInt ≤ 32) ∧ (0 ≤ (D.1 (o + 1) 10).toInt ∧ (D.1 (o + 1) 10).toInt ≤ 400) ∧ (∀ k : Nat, (k : Int) < (D.1 (o + 1) 10).toInt → 0 ≤ (D.1 (o + 7) k).toInt ∧ (D.1 (o + 7) k).toInt < 32) ∧ (0 ≤ (D.1 (o + 10) 1).toInt ∧ (D.1 (o + 10) 1).toInt ≤ 500) ∧ (0 ≤ (D.1 (o + 12) 0).toInt ∧ (D.1 (o + 12) 0).toInt ≤ 16) ∧ (0 ≤ (D.1 (o + 21) 0).toInt ∧ (D.1 (o + 21) 0).toInt ≤ 16) ∧ 0 ≤ (D.1 (o + 1) 11).toInt
/-- the present is sound, the images are as they were -/
def KX (D D1 : ADD) : Prop := (∀ c, 98 ≤ c → D1.1 c = D.1 c) ∧ TN D1 ∧ QXt D1 1
def SX (D D1 : ADD) : Prop := D1.1 2 11 = D.1 2 11 ∧ D1.1 11 1 = D.1 11 1
section XZ
variable {D : ADD}
theorem QXt.qx (h : QXt D 1) : QX D := ⟨h.2.1, h.2.2.2.2.2.1.2, h.2.2.2.2.2.2.1.2⟩
theorem QXt.fr {D1 : ADD} {o : Nat} (h : QXt D o) (f : ∀ c, o ≤ c → c < o + 31 → D1.1 c = D.1 c) : QXt D1 o := by
  unfold QXt
  rw [f (o + 1) (by omega) (by omega), f (o + 7) (by omega) (by omega), f (o + 10) (by omega) (by omega), f (o + 12) (by omega) (by omega), f (o + 21) (by omega) (by omega)]
  exact h
theorem KX.refl (h : QXt D 1) (t : TN D) : KX D D := ⟨fun _ _ => rfl, t, h⟩
theorem FX.kx {D1 : ADD} (f : FX D D1) (h : QXt D 1) (t : TN D) : KX D D1 ∧ SX D D1 := by
  refine ⟨⟨fun c hc => f c (by omega), ?_, h.fr (fun c _ h2 => f c (by omega))⟩, by rw [f 2 (by omega)], by rw [f 11 (by omega)]⟩
  unfold TN
  rw [f 38 (by omega)]
  exact t
theorem WrX.kx {D1 : ADD} {s f v : Int32} (w : WrX D D1 s f v) (h : QXt D 1) (t : TN D) (he : (D.1 2 10).toInt < 400) (hs : 0 ≤ s.toInt ∧ s.toInt < 32) : KX D D1 ∧ SX D D1 := by
  obtain ⟨h1, h2, h3, h4, h5, h6, h7, h8⟩ := h
  have h1 : 0 ≤ (D.1 2 8).toInt ∧ (D.1 2 8).toInt ≤ 32 := h1
  have h2 : 0 ≤ (D.1 2 9).toInt ∧ (D.1 2 9).toInt ≤ 32 := h2
  have h3 : 0 ≤ (D.1 2 10).toInt ∧ (D.1 2 10).toInt ≤ 400 := h3
  have h4 : ∀ k : Nat, (k : Int) < (D.1 2 10).toInt → 0 ≤ (D.1 8 k).toInt ∧ (D.1 8 k).toInt < 32 := h4
  have h8 : 0 ≤ (D.1 2 11).toInt := h8
  obtain ⟨w1, w2, w3, w4, w5, w6, w7, -⟩ := w
  have g : ∀ c, 11 ≤ c → D1.1 c = D.1 c := fun c hc => w1 c (by omega) (by omega) (by omega) (by omega) (by omega) (by omega) (by omega)
  have ek := cl_i h3.1
  have n10 : (D1.1 2 10).toInt = (D.1 2 10).toInt + 1 := by rw [w4]; exact ti_add rfl ti_1 (by omega) (by omega)
  have s1 : (s + 1).toInt = s.toInt + 1 := ti_add rfl ti_1 (by omega) (by omega)
  have e8 : D1.1 2 8 = D.1 2 8 := w3 8 (by decide) (by decide)
  have e11 : D1.1 2 11 = D.1 2 11 := w3 11 (by decide) (by decide)
  refine ⟨⟨fun c hc => g c (by omega), ?_, ?_⟩, e11, by rw [g 11 (by omega)]⟩
  · unfold TN
    rw [g 38 (by omega)]
    exact t
  · refine ⟨by show 0 ≤ (D1.1 2 8).toInt ∧ (D1.1 2 8).toInt ≤ 32; rw [e8]; exact h1, ?_, by show 0 ≤ (D1.1 2 10).toInt ∧ (D1.1 2 10).toInt ≤ 400; omega, fun k hk => ?_, by show 0 ≤ (D1.1 11 1).toInt ∧ (D1.1 11 1).toInt ≤ 500; rw [g 11 (by omega)]; exact h5, by show 0 ≤ (D1.1 13 0).toInt ∧ (D1.1 13 0).toInt ≤ 16; rw [g 13 (by omega)]; exact h6, by show 0 ≤ (D1.1 22 0).toInt ∧ (D1.1 22 0).toInt ≤ 16; rw [g 22 (by omega)]; exact h7, by show 0 ≤ (D1.1 2 11).toInt; rw [e11]; exact h8⟩
    · show 0 ≤ (D1.1 2 9).toInt ∧ (D1.1 2 9).toInt ≤ 32
      rw [w5]
      split
      · omega
      · exact h2
    · have hk : (k : Int) < (D1.1 2 10).toInt := hk
      show 0 ≤ (D1.1 8 k).toInt ∧ (D1.1 8 k).toInt < 32
      rw [w7 k]
      split
      · exact hs
      · exact h4 k (by omega)
theorem cX_stone {w st tw : Int32} (h : QXt D 1) (t : TN D) : Wp (fX10_stone w st tw D) (fun _ D1 => KX D D1 ∧ SX D D1) := by
  have h1 : 0 ≤ (D.1 2 8).toInt ∧ (D.1 2 8).toInt ≤ 32 := h.1
  have h3 : 0 ≤ (D.1 2 10).toInt ∧ (D.1 2 10).toInt ≤ 400 := h.2.2.1
  refine (tX10_stone h1 h3).mono (fun r D1 k => ?_)
  split at k
  · rename_i hc
    obtain ⟨-, D7, k1, k2, k3, k4, k5, k6⟩ := k
    have n8 : (D7.1 2 8).toInt = (D.1 2 8).toInt + 1 := by rw [k3 8, if_pos rfl]; exact ti_add rfl ti_1 (by omega) (by omega)
    have o2 : ∀ i, i ≠ 8 → D7.1 2 i = D.1 2 i := fun i hi => by rw [k3 i, if_neg hi]
    have g : ∀ c, 7 ≤ c → D7.1 c = D.1 c := fun c hc => k1 c (by omega) (by omega) (by omega)
    have q7 : QXt D7 1 := by
      obtain ⟨a1, a2, a3, a4, a5, a6, a7, a8⟩ := h
      refine ⟨by show 0 ≤ (D7.1 2 8).toInt ∧ (D7.1 2 8).toInt ≤ 32; omega, by show 0 ≤ (D7.1 2 9).toInt ∧ (D7.1 2 9).toInt ≤ 32; rw [o2 9 (by decide)]; exact a2, by show 0 ≤ (D7.1 2 10).toInt ∧ (D7.1 2 10).toInt ≤ 400; rw [o2 10 (by decide)]; exact a3, ?_, by show 0 ≤ (D7.1 11 1).toInt ∧ (D7.1 11 1).toInt ≤ 500; rw [g 11 (by omega)]; exact a5, by show 0 ≤ (D7.1 13 0).toInt ∧ (D7.1 13 0).toInt ≤ 16; rw [g 13 (by omega)]; exact a6, by show 0 ≤ (D7.1 22 0).toInt ∧ (D7.1 22 0).toInt ≤ 16; rw [g 22 (by omega)]; exact a7, by show 0 ≤ (D7.1 2 11).toInt; rw [o2 11 (by decide)]; exact a8⟩
      show ∀ k : Nat, (k : Int) < (D7.1 2 10).toInt → 0 ≤ (D7.1 8 k).toInt ∧ (D7.1 8 k).toInt < 32
      rw [o2 10 (by decide), g 8 (by omega)]
      exact a4
    have t7 : TN D7 := by unfold TN; rw [g 38 (by omega)]; exact t
    obtain ⟨⟨z1, z2, z3⟩, z4, z5⟩ := k6.kx q7 t7 (by rw [o2 10 (by decide)]; exact hc.2.1) ⟨h1.1, hc.1⟩
    exact ⟨⟨fun c hc => by rw [z1 c hc, g c (by omega)], z2, z3⟩, by rw [z4, o2 11 (by decide)], by rw [z5, g 11 (by omega)]⟩
  · obtain ⟨-, rfl⟩ := k
    exact ⟨KX.refl h t, rfl, rfl⟩
theorem cX_tell {s f v : Int32} (h : QXt D 1) (t : TN D) : Wp (fX10_tell s f v D) (fun _ D1 => KX D D1 ∧ SX D D1) := by
  have h1 : 0 ≤ (D.1 2 8).toInt ∧ (D.1 2 8).toInt ≤ 32 := h.1
  have h3 : 0 ≤ (D.1 2 10).toInt ∧ (D.1 2 10).toInt ≤ 400 := h.2.2.1
  refine (oX_tell h1.2 h3.1).mono (fun r D1 k => ?_)
  split at k
  · rename_i hc
    exact k.2.kx h t hc.2.1 ⟨hc.1.1, by have := hc.1.2; omega⟩
  · obtain ⟨-, rfl⟩ := k
    exact ⟨KX.refl h t, rfl, rfl⟩
theorem cX_day {a : Int32} (h : QXt D 1) (t : TN D) : Wp (fX10_day a D) (fun r D1 => KX D D1 ∧ D1.1 11 1 = D.1 11 1 ∧ (r = if (D.1 2 11).toInt ≤ a.toInt ∧ a.toInt ≤ 9999 then 1 else 0) ∧ D1.1 2 11 = if (D.1 2 11).toInt ≤ a.toInt ∧ a.toInt ≤ 9999 then a else D.1 2 11) := by
  refine oX_day.mono (fun r D1 k => ?_)
  have h8 : 0 ≤ (D.1 2 11).toInt := h.2.2.2.2.2.2.2
  by_cases hc : (D.1 2 11).toInt ≤ a.toInt ∧ a.toInt ≤ 9999
  · rw [if_pos hc] at k
    rw [if_pos hc, if_pos hc]
    obtain ⟨k1, k2⟩ := k
    have e11 : D1.1 2 11 = a := by rw [k2]; simp [aSI]
    have ei : ∀ i, i ≠ 11 → D1.1 2 i = D.1 2 i := fun i hi => by rw [k2]; simp [aSI, hi]
    have g : ∀ c, c ≠ 2 → D1.1 c = D.1 c := fun c hc => by rw [k2]; funext z; simp [aSI, hc]
    refine ⟨⟨fun c hc => g c (by omega), by unfold TN; rw [g 38 (by decide)]; exact t, ?_⟩, by rw [g 11 (by decide)], k1, e11⟩
    obtain ⟨a1, a2, a3, a4, a5, a6, a7, a8⟩ := h
    refine ⟨by show 0 ≤ (D1.1 2 8).toInt ∧ (D1.1 2 8).toInt ≤ 32; rw [ei 8 (by decide)]; exact a1, by show 0 ≤ (D1.1 2 9).toInt ∧ (D1.1 2 9).toInt ≤ 32; rw [ei 9 (by decide)]; exact a2, by show 0 ≤ (D1.1 2 10).toInt ∧ (D1.1 2 10).toInt ≤ 400; rw [ei 10 (by decide)]; exact a3, ?_, by show 0 ≤ (D1.1 11 1).toInt ∧ (D1.1 11 1).toInt ≤ 500; rw [g 11 (by omega)]; exact a5, by show 0 ≤ (D1.1 13 0).toInt ∧ (D1.1 13 0).toInt ≤ 16; rw [g 13 (by omega)]; exact a6, by show 0 ≤ (D1.1 22 0).toInt ∧ (D1.1 22 0).toInt ≤ 16; rw [g 22 (by omega)]; exact a7, by show 0 ≤ (D1.1 2 11).toInt; rw [e11]; omega⟩
    show ∀ k : Nat, (k : Int) < (D1.1 2 10).toInt → 0 ≤ (D1.1 8 k).toInt ∧ (D1.1 8 k).toInt < 32
    rw [ei 10 (by decide), g 8 (by omega)]
    exact a4
  · rw [if_neg hc] at k
    rw [if_neg hc, if_neg hc]
    obtain ⟨k1, rfl⟩ := k
    exact ⟨KX.refl h t, rfl, k1, rfl⟩
theorem rpS_le {a : Int32} : ∀ n : Nat, (∀ k, k < n → 0 ≤ (D.1 8 k).toInt ∧ (D.1 8 k).toInt < 32) → 0 ≤ (rpS D a n).2.toInt ∧ (rpS D a n).2.toInt ≤ 32
  | 0, _ => by show 0 ≤ (0 : Int32).toInt ∧ (0 : Int32).toInt ≤ 32; decide
  | n + 1, h => by
    have ih := rpS_le (a := a) n (fun k hk => h k (by omega))
    have hn := h n (by omega)
    have e : (D.1 8 n + 1).toInt = (D.1 8 n).toInt + 1 := ti_add rfl ti_1 (by omega) (by omega)
    unfold rpS
    split
    · show 0 ≤ (if D.1 9 n = -1 then D.1 8 n + 1 else (rpS D a n).2).toInt ∧ (if D.1 9 n = -1 then D.1 8 n + 1 else (rpS D a n).2).toInt ≤ 32
      split
      · omega
      · exact ih
    · exact ih
theorem cX_view {a : Int32} (h : QXt D 1) (t : TN D) : Wp (fX10_view a D) (fun r D1 => (KX D D1 ∧ SX D D1) ∧ r = if a = -1 ∨ (0 ≤ a.toInt ∧ a.toInt ≤ (D.1 2 11).toInt) then 1 else 0) := by
  obtain ⟨a1, a2, a3, a4, a5, a6, a7, a8⟩ := id h
  have a3 : 0 ≤ (D.1 2 10).toInt ∧ (D.1 2 10).toInt ≤ 400 := a3
  have ek := cl_i a3.1
  refine (oX_view a3 a4).mono (fun r D1 k => ?_)
  by_cases hc : a = -1 ∨ (0 ≤ a.toInt ∧ a.toInt ≤ (D.1 2 11).toInt)
  · rw [if_pos hc] at k
    rw [if_pos hc]
    obtain ⟨k1, k2, k3, k4, k5, k6, k7⟩ := k
    have g : ∀ c, 5 ≤ c → D1.1 c = D.1 c := fun c hc => k2 c (by omega) (by omega)
    have ei : ∀ i, i ≠ 9 → i ≠ 12 → D1.1 2 i = D.1 2 i := k4
    refine ⟨⟨⟨fun c hc => g c (by omega), by unfold TN; rw [g 38 (by decide)]; exact t, ?_⟩, ei 11 (by decide) (by decide), by rw [g 11 (by omega)]⟩, k1⟩
    refine ⟨by show 0 ≤ (D1.1 2 8).toInt ∧ (D1.1 2 8).toInt ≤ 32; rw [ei 8 (by decide) (by decide)]; exact a1, ?_, by show 0 ≤ (D1.1 2 10).toInt ∧ (D1.1 2 10).toInt ≤ 400; rw [ei 10 (by decide) (by decide)]; exact a3, ?_, by show 0 ≤ (D1.1 11 1).toInt ∧ (D1.1 11 1).toInt ≤ 500; rw [g 11 (by omega)]; exact a5, by show 0 ≤ (D1.1 13 0).toInt ∧ (D1.1 13 0).toInt ≤ 16; rw [g 13 (by omega)]; exact a6, by show 0 ≤ (D1.1 22 0).toInt ∧ (D1.1 22 0).toInt ≤ 16; rw [g 22 (by omega)]; exact a7, by show 0 ≤ (D1.1 2 11).toInt; rw [ei 11 (by decide) (by decide)]; exact a8⟩
    · show 0 ≤ (D1.1 2 9).toInt ∧ (D1.1 2 9).toInt ≤ 32
      rw [k6]
      exact rpS_le _ (fun k hk => a4 k (by show (k : Int) < (D.1 2 10).toInt; omega))
    · show ∀ k : Nat, (k : Int) < (D1.1 2 10).toInt → 0 ≤ (D1.1 8 k).toInt ∧ (D1.1 8 k).toInt < 32
      rw [ei 10 (by decide) (by decide), g 8 (by omega)]
      exact a4
  · rw [if_neg hc] at k
    rw [if_neg hc]
    obtain ⟨k1, rfl⟩ := k
    exact ⟨⟨KX.refl h t, rfl, rfl⟩, k1⟩
/-- only the tape is another -/
theorem tape_kx {D1 : ADD} (h : QXt D 1) (t : TN D) (g : ∀ c, c ≠ 11 → c ≠ 12 → D1.1 c = D.1 c) (l : 0 ≤ (D1.1 11 1).toInt ∧ (D1.1 11 1).toInt ≤ 500) : KX D D1 := by
  refine ⟨fun c hc => g c (by omega) (by omega), by unfold TN; rw [g 38 (by decide) (by decide)]; exact t, ?_⟩
  obtain ⟨a1, a2, a3, a4, a5, a6, a7, a8⟩ := h
  refine ⟨by show 0 ≤ (D1.1 2 8).toInt ∧ (D1.1 2 8).toInt ≤ 32; rw [g 2 (by decide) (by decide)]; exact a1, by show 0 ≤ (D1.1 2 9).toInt ∧ (D1.1 2 9).toInt ≤ 32; rw [g 2 (by decide) (by decide)]; exact a2, by show 0 ≤ (D1.1 2 10).toInt ∧ (D1.1 2 10).toInt ≤ 400; rw [g 2 (by decide) (by decide)]; exact a3, ?_, l, by show 0 ≤ (D1.1 13 0).toInt ∧ (D1.1 13 0).toInt ≤ 16; rw [g 13 (by decide) (by decide)]; exact a6, by show 0 ≤ (D1.1 22 0).toInt ∧ (D1.1 22 0).toInt ≤ 16; rw [g 22 (by decide) (by decide)]; exact a7, by show 0 ≤ (D1.1 2 11).toInt; rw [g 2 (by decide) (by decide)]; exact a8⟩
  show ∀ k : Nat, (k : Int) < (D1.1 2 10).toInt → 0 ≤ (D1.1 8 k).toInt ∧ (D1.1 8 k).toInt < 32
  rw [g 2 (by decide) (by decide), g 8 (by decide) (by decide)]
  exact a4
theorem cX_feed {a b c d e : Int32} (h : QXt D 1) (t : TN D) : Wp (fX10_feed a b c d e D) (fun r D1 => KX D D1 ∧ D1.1 2 11 = D.1 2 11 ∧ if (D.1 11 1).toInt + 20 ≤ 500 then r.toInt = (D.1 11 1).toInt + 20 ∧ r = D1.1 11 1 else r = -1 ∧ D1.1 11 1 = D.1 11 1) := by
  have l : 0 ≤ (D.1 11 1).toInt ∧ (D.1 11 1).toInt ≤ 500 := h.2.2.2.2.1
  have el := cl_i l.1
  refine (oX_feed (n := (D.1 11 1).toNatClampNeg) (by omega) (by omega)).mono (fun r D1 k => ?_)
  by_cases hc : (D.1 11 1).toInt + 20 ≤ 500
  · rw [if_pos (by omega)] at k
    rw [if_pos hc]
    obtain ⟨k1, k2, k3, k4, k5, k6⟩ := k
    exact ⟨tape_kx h t k3 (by rw [← k2]; omega), by rw [k3 2 (by decide) (by decide)], by omega, k2⟩
  · rw [if_neg (by omega)] at k
    rw [if_neg hc]
    obtain ⟨k1, rfl⟩ := k
    exact ⟨KX.refl h t, rfl, k1, rfl⟩
theorem cX_end {a : Int32} (h : QXt D 1) (t : TN D) : Wp (fX10_end a D) (fun r D1 => KX D D1 ∧ D1.1 2 11 = D.1 2 11 ∧ if 0 ≤ a.toInt ∧ a.toInt ≤ (D.1 11 1).toInt then r = a ∧ D1.1 11 1 = a else r = -1 ∧ D1.1 11 1 = D.1 11 1) := by
  have l : 0 ≤ (D.1 11 1).toInt ∧ (D.1 11 1).toInt ≤ 500 := h.2.2.2.2.1
  refine oX_end.mono (fun r D1 k => ?_)
  by_cases hc : 0 ≤ a.toInt ∧ a.toInt ≤ (D.1 11 1).toInt
  · rw [if_pos hc] at k
    rw [if_pos hc]
    obtain ⟨k1, k2⟩ := k
    have e11 : D1.1 11 1 = a := by rw [k2]; simp [aSI]
    have g : ∀ c, c ≠ 11 → D1.1 c = D.1 c := fun c hc => by rw [k2]; funext z; simp [aSI, hc]
    exact ⟨tape_kx h t (fun c a _ => g c a) (by rw [e11]; omega), by rw [g 2 (by decide)], k1, e11⟩
  · rw [if_neg hc] at k
    rw [if_neg hc]
    obtain ⟨k1, rfl⟩ := k
    exact ⟨KX.refl h t, rfl, k1, rfl⟩
theorem cX_text {a : Int32} (ha : a = 0 ∨ a = 1) (h : QXt D 1) (t : TN D) : Wp (fX10_text a D) (fun _ D1 => KX D D1 ∧ D1.1 2 11 = D.1 2 11 ∧ D1.1 11 1 = 0) := by
  obtain ⟨a1, a2, a3, a4, a5, a6, a7, a8⟩ := h
  refine (oX_text ha t a5.1 ⟨a6, a7⟩).mono (fun r D1 k => ?_)
  obtain ⟨k1, k2, k3, k4, k5⟩ := k
  refine ⟨⟨fun c hc => k1 c (by omega), k2, ?_⟩, by rw [k1 2 (by omega)], k3⟩
  refine ⟨by show 0 ≤ (D1.1 2 8).toInt ∧ (D1.1 2 8).toInt ≤ 32; rw [k1 2 (by omega)]; exact a1, by show 0 ≤ (D1.1 2 9).toInt ∧ (D1.1 2 9).toInt ≤ 32; rw [k1 2 (by omega)]; exact a2, by show 0 ≤ (D1.1 2 10).toInt ∧ (D1.1 2 10).toInt ≤ 400; rw [k1 2 (by omega)]; exact a3, ?_, by show 0 ≤ (D1.1 11 1).toInt ∧ (D1.1 11 1).toInt ≤ 500; rw [k3]; decide, k4, k5, by show 0 ≤ (D1.1 2 11).toInt; rw [k1 2 (by omega)]; exact a8⟩
  show ∀ k : Nat, (k : Int) < (D1.1 2 10).toInt → 0 ≤ (D1.1 8 k).toInt ∧ (D1.1 8 k).toInt < 32
  rw [k1 2 (by omega), k1 8 (by omega)]
  exact a4
theorem cX_choose {a b y z m : Int32} (h : QXt D 1) (t : TN D) : Wp (fX10_choose a b y z m D) (fun r D1 => (KX D D1 ∧ SX D D1) ∧ r = if ChOK y z m then 1 else 0) := by
  refine tX10_choose.mono (fun r D1 k => ?_)
  by_cases hc : ChOK y z m
  · rw [if_pos hc] at k
    rw [if_pos hc]
    obtain ⟨k1, k2, -⟩ := k
    refine ⟨⟨⟨fun c hc => k2 c (by omega), by unfold TN; rw [k2 38 (by decide)]; exact t, ?_⟩, by rw [k2 2 (by decide)], by rw [k2 11 (by decide)]⟩, k1⟩
    obtain ⟨a1, a2, a3, a4, a5, a6, a7, a8⟩ := h
    unfold QXt
    rw [k2 (1 + 1) (by decide), k2 (1 + 7) (by decide), k2 (1 + 10) (by decide), k2 (1 + 12) (by decide), k2 (1 + 21) (by decide)]
    exact ⟨a1, a2, a3, a4, a5, a6, a7, a8⟩
  · rw [if_neg hc] at k
    rw [if_neg hc]
    obtain ⟨k1, rfl⟩ := k
    exact ⟨⟨KX.refl h t, rfl, rfl⟩, k1⟩
/-- a copy of one State to another -/
theorem CpX.qt {D1 : ADD} {o p : Nat} (k : CpX cpL o p D D1) (h : QXt D p) : QXt D1 o := by
  have e : ∀ d i, d < 31 → (cpL.any (fun s => cpC s d i)) = true → D1.1 (o + d) i = D.1 (p + d) i := fun d i hd hc => k.at hd hc
  obtain ⟨a1, a2, a3, a4, a5, a6, a7, a8⟩ := h
  refine ⟨by rw [e 1 8 (by decide) (by decide)]; exact a1, by rw [e 1 9 (by decide) (by decide)]; exact a2, by rw [e 1 10 (by decide) (by decide)]; exact a3, ?_, by rw [e 10 1 (by decide) (by decide)]; exact a5, by rw [e 12 0 (by decide) (by decide)]; exact a6, by rw [e 21 0 (by decide) (by decide)]; exact a7, by rw [e 1 11 (by decide) (by decide)]; exact a8⟩
  rw [e 1 10 (by decide) (by decide)]
  intro k hk
  have hk4 : k < 400 := by omega
  rw [e 7 k (by decide) (by simp [cpL, cpC, hk4])]
  exact a4 k hk
end XZ
end
section
/-! both: what every call keeps -/
def RlA (D : ADD) (o : Nat) (E : ADD) (t : Nat) : Prop := D.1 (o + 1) 11 = E.1 6 t ∧ D.1 (o + 10) 1 = E.1 2 t
def IA (n0 : Nat) (P : APD) (E : ADD) : Prop := Lay n0 P ∧ (TN P.2 ∧ QXt P.2 1) ∧ QMs E ∧ RlA P.2 1 E 0 ∧ ∀ im, imOK n0 P.1 im → ∀ j, j < 3 → (im j = none ∧ aBz (E.1 39 j) = 0) ∨ ∃ z, im j = some z ∧ aBz (E.1 39 j) ≠ 0 ∧ QXt P.2 z ∧ RlA P.2 z E (j + 1)
section IAs
variable {n0 : Nat} {P : APD} {E : ADD}
theorem Lay.far {im : Nat → Option Nat} (h : Lay n0 P) (him : imOK n0 P.1 im) : (∀ j z, j < 3 → im j = some z → 98 ≤ z ∧ z + 31 ≤ P.1.1) ∧ ∀ i j z y, i < 3 → j < 3 → i ≠ j → im i = some z → im j = some y → z + 31 ≤ y ∨ y + 31 ≤ z := by
  obtain ⟨-, -, -, im2, h2, h3, h4⟩ := h
  rw [im_uniq him h2]
  exact ⟨h3, h4⟩
theorem RlA.fr {D D1 E1 : ADD} {o t : Nat} (h : RlA D o E t) (f : ∀ c, o ≤ c → c < o + 31 → D1.1 c = D.1 c) (e2 : E1.1 2 t = E.1 2 t) (e6 : E1.1 6 t = E.1 6 t) : RlA D1 o E1 t := by
  unfold RlA
  rw [f (o + 1) (by omega) (by omega), f (o + 10) (by omega) (by omega), e2, e6]
  exact h
theorem IA.keep (h : IA n0 P E) {D1 E1 : ADD} (kx : KX P.2 D1) (qm : QMs E1) (e39 : E1.1 39 = E.1 39) (e2 : ∀ i, i ≠ 0 → i < 4 → E1.1 2 i = E.1 2 i) (e6 : ∀ i, i ≠ 0 → i < 4 → E1.1 6 i = E.1 6 i) (r1 : D1.1 2 11 = E1.1 6 0) (r2 : D1.1 11 1 = E1.1 2 0) : IA n0 (P.1, D1) E1 := by
  obtain ⟨h1, h2, h3, h4, h5⟩ := h
  refine ⟨h1, kx.2, qm, ⟨r1, r2⟩, fun im him j hj => ?_⟩
  rw [e39]
  rcases h5 im him j hj with h | ⟨z, z1, z2, z3, z4⟩
  · exact Or.inl h
  · have hz := (h1.far him).1 j z hj z1
    exact Or.inr ⟨z, z1, z2, z3.fr (fun c hc _ => kx.1 c (by omega)), z4.fr (fun c hc _ => kx.1 c (by omega)) (e2 _ (by omega) (by omega)) (e6 _ (by omega) (by omega))⟩
theorem IA.same (h : IA n0 P E) {D1 E1 : ADD} (k : KX P.2 D1 ∧ SX P.2 D1) (q : QMs E1 ∧ KM E E1) : IA n0 (P.1, D1) E1 := by
  obtain ⟨a, b, c⟩ := q.2
  have r := h.2.2.2.1
  exact h.keep k.1 q.1 c (fun i _ _ => by rw [a]) (fun i _ _ => by rw [b]) (by rw [k.2.1, b]; exact r.1) (by rw [k.2.2, a]; exact r.2)
abbrev Bt (n0 : Nat) (P : APD) (R : Prop → Prop) {ρ : Type} (f g : Option (ρ × ADD)) : Prop := ∃ (r1 : ρ) (D1 : ADD) (r2 : ρ) (D2 : ADD), f = some (r1, D1) ∧ g = some (r2, D2) ∧ R (r1 = r2) ∧ IA n0 (P.1, D1) D2
theorem Bt.weak {ρ : Type} {f g : Option (ρ × ADD)} (h : Bt n0 P id f g) : Bt n0 P (fun _ => True) f g := by
  obtain ⟨r1, D1, r2, D2, h1, h2, -, h4⟩ := h
  exact ⟨r1, D1, r2, D2, h1, h2, trivial, h4⟩
theorem IA.two {ρ : Type} {f g : Option (ρ × ADD)} (h : IA n0 P E) (hf : Wp f (fun _ D1 => KX P.2 D1 ∧ SX P.2 D1)) (hg : Wp g (fun _ D1 => QMs D1 ∧ KM E D1)) : Bt n0 P (fun _ => True) f g := by
  obtain ⟨r1, D1, e1, q1⟩ := hf
  obtain ⟨r2, D2, e2, q2⟩ := hg
  exact ⟨r1, D1, r2, D2, e1, e2, trivial, h.same q1 q2⟩
theorem IA.ask {ρ : Type} {f g : Option (ρ × ADD)} (h : IA n0 P E) (hf : QX P.2 → Wp f (fun _ D1 => FX P.2 D1)) (hg : QM E → Wp g (fun _ D1 => FmM E D1)) : Bt n0 P (fun _ => True) f g :=
  h.two ((hf h.2.1.2.qx).mono (fun _ _ q => q.kx h.2.1.2 h.2.1.1)) ((hg h.2.2.1.qm).mono (fun _ _ q => ⟨h.2.2.1.fm q, q.km⟩))
theorem Pu.fx {ρ : Type} {f : Option (ρ × ADD)} {D : ADD} (h : Pu f D) : Wp f (fun _ D1 => FX D D1) := h.mono (fun _ _ q => by rw [q]; exact FX.refl D)
theorem ia_day {a : Int32} (h : IA n0 P E) : Bt n0 P id (fX10_day a P.2) (fX11_day a E) := by
  obtain ⟨r1, D1, e1, k1, k2, k3, k4⟩ := cX_day (a := a) h.2.1.2 h.2.1.1
  obtain ⟨r2, D2, e2, q1, q2, q3, q4, q5⟩ := sM_day (a := a) h.2.2.1
  have r : P.2.1 2 11 = E.1 6 0 := h.2.2.2.1.1
  have s : P.2.1 11 1 = E.1 2 0 := h.2.2.2.1.2
  rw [r] at k3 k4
  refine ⟨r1, D1, r2, D2, e1, e2, k3.trans q4.symm, h.keep k1 q1 q3 (fun i _ _ => by rw [q2]) (fun i hi _ => ?_) ?_ (by rw [k2, q2]; exact s)⟩
  · rw [q5 i, if_neg (fun q => hi q.1)]
  · rw [k4, q5 0]
    by_cases hc : (E.1 6 0).toInt ≤ a.toInt ∧ a.toInt ≤ 9999
    · rw [if_pos hc, if_pos ⟨rfl, hc⟩]
    · rw [if_neg hc, if_neg (fun q => hc q.2)]
theorem ia_view {a : Int32} (h : IA n0 P E) : Bt n0 P id (fX10_view a P.2) (fX11_view a E) := by
  obtain ⟨r1, D1, e1, k1, k2⟩ := cX_view (a := a) h.2.1.2 h.2.1.1
  obtain ⟨r2, D2, e2, q1, q2, q3⟩ := sM_view (a := a) h.2.2.1
  have r : P.2.1 2 11 = E.1 6 0 := h.2.2.2.1.1
  have t0 : 0 ≤ (P.2.1 2 11).toInt := h.2.1.2.2.2.2.2.2.2.2
  rw [r] at k2 t0
  refine ⟨r1, D1, r2, D2, e1, e2, ?_, h.same k1 ⟨q1, q2⟩⟩
  show r1 = r2
  rw [k2, q3]
  have am : a = -1 ↔ a.toInt = -1 := ⟨fun e => by rw [e]; decide, fun e => Int32.toInt_inj.mp (by rw [e]; decide)⟩
  by_cases hc : -1 ≤ a.toInt ∧ a.toInt ≤ (E.1 6 0).toInt
  · rw [if_pos hc, if_pos]
    by_cases h1 : a.toInt = -1
    · exact Or.inl (am.mpr h1)
    · exact Or.inr ⟨by omega, hc.2⟩
  · rw [if_neg hc, if_neg]
    rintro (h1 | h1)
    · have := am.mp h1
      omega
    · omega
theorem ia_feed {a b c d e : Int32} (h : IA n0 P E) : Bt n0 P id (fX10_feed a b c d e P.2) (fX11_feed a b c d e E) := by
  obtain ⟨r1, D1, e1, k1, k2, k3⟩ := cX_feed (a := a) (b := b) (c := c) (d := d) (e := e) h.2.1.2 h.2.1.1
  obtain ⟨r2, D2, e2, q1, q2, q3, q4, q5⟩ := sM_feed (a := a) (b := b) (c := c) (d := d) (e := e) h.2.2.1
  have r : P.2.1 2 11 = E.1 6 0 := h.2.2.2.1.1
  have s : P.2.1 11 1 = E.1 2 0 := h.2.2.2.1.2
  rw [s] at k3
  by_cases hc : (E.1 2 0).toInt + 20 ≤ 500
  · rw [if_pos hc] at k3 q5
    have er : r1 = r2 := Int32.toInt_inj.mp (by rw [k3.1, q5.1])
    exact ⟨r1, D1, r2, D2, e1, e2, er, h.keep k1 q1 q3 (fun i hi _ => q4 i hi) (fun i _ _ => by rw [q2]) (by rw [k2, q2]; exact r) (by rw [← k3.2, ← q5.2]; exact er)⟩
  · rw [if_neg hc] at k3 q5
    exact ⟨r1, D1, r2, D2, e1, e2, k3.1.trans q5.1.symm, h.keep k1 q1 q3 (fun i hi _ => q4 i hi) (fun i _ _ => by rw [q2]) (by rw [k2, q2]; exact r) (by rw [k3.2, q5.2])⟩
theorem ia_end {a : Int32} (h : IA n0 P E) : Bt n0 P id (fX10_end a P.2) (fX11_end a E) := by
  obtain ⟨r1, D1, e1, k1, k2, k3⟩ := cX_end (a := a) h.2.1.2 h.2.1.1
  obtain ⟨r2, D2, e2, q1, q2, q3, q4, q5⟩ := sM_end (a := a) h.2.2.1
  have r : P.2.1 2 11 = E.1 6 0 := h.2.2.2.1.1
  have s : P.2.1 11 1 = E.1 2 0 := h.2.2.2.1.2
  rw [s] at k3
  by_cases hc : 0 ≤ a.toInt ∧ a.toInt ≤ (E.1 2 0).toInt
  · rw [if_pos hc] at k3 q5
    exact ⟨r1, D1, r2, D2, e1, e2, k3.1.trans q5.1.symm, h.keep k1 q1 q3 (fun i hi _ => q4 i hi) (fun i _ _ => by rw [q2]) (by rw [k2, q2]; exact r) (by rw [k3.2, q5.2])⟩
  · rw [if_neg hc] at k3 q5
    exact ⟨r1, D1, r2, D2, e1, e2, k3.1.trans q5.1.symm, h.keep k1 q1 q3 (fun i hi _ => q4 i hi) (fun i _ _ => by rw [q2]) (by rw [k2, q2]; exact r) (by rw [k3.2, q5.2])⟩
theorem ia_text {a : Int32} (ha : a = 0 ∨ a = 1) (h : IA n0 P E) : Bt n0 P (fun _ => True) (fX10_text a P.2) (fX11_text a E) := by
  obtain ⟨r1, D1, e1, k1, k2, k3⟩ := cX_text ha h.2.1.2 h.2.1.1
  obtain ⟨r2, D2, e2, q1, q2, q3, q4⟩ := sM_text (a := a) h.2.2.1
  have r : P.2.1 2 11 = E.1 6 0 := h.2.2.2.1.1
  exact ⟨r1, D1, r2, D2, e1, e2, trivial, h.keep k1 q1 q3 (fun i hi _ => by rw [q4 i, if_neg hi]) (fun i _ _ => by rw [q2]) (by rw [k2, q2]; exact r) (by rw [k3, q4 0, if_pos rfl])⟩
theorem ia_choose {a b y z m : Int32} (h : IA n0 P E) : Bt n0 P id (fX10_choose a b y z m P.2) (fX11_choose a b y z m E) := by
  obtain ⟨r1, D1, e1, k1, k2⟩ := cX_choose (a := a) (b := b) (y := y) (z := z) (m := m) h.2.1.2 h.2.1.1
  obtain ⟨r2, D2, e2, q1, q2, q3⟩ := sM_choose (a := a) (b := b) (y := y) (z := z) (m := m) h.2.2.1
  exact ⟨r1, D1, r2, D2, e1, e2, k2.trans q3.symm, h.same k1 ⟨q1, q2⟩⟩
theorem ia_stone {a b c : Int32} (h : IA n0 P E) : Bt n0 P (fun _ => True) (fX10_stone a b c P.2) (fX11_stone a b c E) := h.two (cX_stone h.2.1.2 h.2.1.1) (sM_stone h.2.2.1)
theorem ia_tell {a b c : Int32} (h : IA n0 P E) : Bt n0 P (fun _ => True) (fX10_tell a b c P.2) (fX11_tell a b c E) := h.two (cX_tell h.2.1.2 h.2.1.1) (sM_tell h.2.2.1)
/-- a new or another image -/
theorem IA.img {im im2 : Nat → Option Nat} {w : AWS} {D D1 E1 : ADD} {k o : Nat} (h : IA n0 P E) (him : imOK n0 P.1 im) (hk : k < 3) (hL : ∀ D, Lay n0 (w, D)) (h2 : imOK n0 w im2) (ei : ∀ j, im2 j = if j = k then some o else im j) (fD : ∀ c, c < P.1.1 → D.1 c = P.2.1 c) (ho : 98 ≤ o) (hz : ∀ j z, j < 3 → j ≠ k → im j = some z → z + 31 ≤ o ∨ o + 31 ≤ z) (hc : CpX cpL o 1 D D1) (q : QMs E1) (e39 : ∀ i, E1.1 39 i = if i = k then 1 else E.1 39 i) (e2 : ∀ i, i < 4 → E1.1 2 i = if i = k + 1 then E.1 2 0 else E.1 2 i) (e6 : ∀ i, i < 4 → E1.1 6 i = if i = k + 1 then E.1 6 0 else E.1 6 i) : IA n0 (w, D1) E1 := by
  have hLP : 98 ≤ P.1.1 := h.1.1.1
  have f1 : ∀ c, c < 98 → D1.1 c = P.2.1 c := fun c hc2 => by rw [hc.1 c (by omega), fD c (by omega)]
  have q1 : QXt D 1 := h.2.1.2.fr (fun c _ h2 => fD c (by omega))
  refine ⟨hL D1, ⟨?_, h.2.1.2.fr (fun c _ h2 => f1 c (by omega))⟩, q, h.2.2.2.1.fr (fun c _ h2 => f1 c (by omega)) (by rw [e2 0 (by decide), if_neg (by omega)]) (by rw [e6 0 (by decide), if_neg (by omega)]), fun im3 h3 j hj => ?_⟩
  · show TN D1
    unfold TN
    rw [f1 38 (by decide)]
    exact h.2.1.1
  · rw [im_uniq h3 h2, ei j, e39 j]
    by_cases hjk : j = k
    · rw [if_pos hjk, if_pos hjk]
      refine Or.inr ⟨o, rfl, by decide, hc.qt q1, ?_, ?_⟩
      · rw [hc.at (by decide) (by decide), fD (1 + 1) (by omega), e6 (j + 1) (by omega), if_pos (by omega)]
        exact h.2.2.2.1.1
      · rw [hc.at (by decide) (by decide), fD (1 + 10) (by omega), e2 (j + 1) (by omega), if_pos (by omega)]
        exact h.2.2.2.1.2
    · rw [if_neg hjk, if_neg hjk]
      rcases h.2.2.2.2 im him j hj with hn | ⟨z, z1, z2, z3, z4⟩
      · exact Or.inl hn
      · have far := (h.1.far him).1 j z hj z1
        have dis := hz j z hj hjk z1
        have fz : ∀ c, z ≤ c → c < z + 31 → D1.1 c = P.2.1 c := fun c a b => by rw [hc.1 c (by omega), fD c (by omega)]
        exact Or.inr ⟨z, z1, z2, z3.fr fz, z4.fr fz (by rw [e2 _ (by omega), if_neg (by omega)]) (by rw [e6 _ (by omega), if_neg (by omega)])⟩
theorem ia_image (h : IA n0 P E) {im : Nat → Option Nat} (him : imOK n0 P.1 im) (a : Int32) : ∃ r1 X r2 D2, fImg n0 im P.1 a P.2 = some (r1, X) ∧ fX11_image a E = some (r2, D2) ∧ r1 = r2 ∧ IA n0 X D2 ∧ P.1.1 ≤ X.1.1 ∧
  (∀ P3, P3 = aPR (fI_X8_init n0 P.1.1 (aNO (P.1, P.2) 7)) 32 a.toNatClampNeg (n0 + P.1.1) → aLSw n0 P3.1 P.1.1 ∧ aLSw n0 P3.1 1) ∧
  (∀ P2, P2 = fI_X8_init n0 P.1.1 (aNO (P.1, P.2) 7) → (32 ∈ P2.1.2.1 ∧ P2.1.2.2 32 = (15, 3, fun j => (im j).map (n0 + ·))) ∧ (P2.1.2.2 0).2.2 1 = some (n0 + 32) ∧ (P2.1.2.2 0).2.2 0 = some (n0 + 1)) := by
  have hL := h.1
  have L3 : (3 : Int32).toInt = 3 := by decide
  obtain ⟨g1, g2, g3, g4, g5, g6, g7, g8⟩ := Lay.img (k := a.toNatClampNeg) hL him
  have hN1 : ∀ P3, P3 = aPR (fI_X8_init n0 P.1.1 (aNO (P.1, P.2) 7)) 32 a.toNatClampNeg (n0 + P.1.1) → aLSw n0 P3.1 P.1.1 ∧ aLSw n0 P3.1 1 := by
    intro P3 e
    rw [sOps_run] at e
    rw [e]
    exact ⟨g3, g4⟩
  have hN2 : ∀ P2, P2 = fI_X8_init n0 P.1.1 (aNO (P.1, P.2) 7) → (32 ∈ P2.1.2.1 ∧ P2.1.2.2 32 = (15, 3, fun j => (im j).map (n0 + ·))) ∧ (P2.1.2.2 0).2.2 1 = some (n0 + 32) ∧ (P2.1.2.2 0).2.2 0 = some (n0 + 1) := by
    intro P2 e
    rw [sOps_run] at e
    rw [e]
    exact ⟨g5, g6, g7⟩
  obtain ⟨r2, D2, e2, q1, q2⟩ := sM_image (a := a) h.2.2.1
  have K : ∃ r1 X, fImg n0 im P.1 a P.2 = some (r1, X) ∧ r1 = r2 ∧ IA n0 X D2 ∧ P.1.1 ≤ X.1.1 := by
    by_cases hc : 0 ≤ a.toInt ∧ a.toInt ≤ 2
    · rw [if_pos hc] at q2
      obtain ⟨q2, q3, q4, q5⟩ := q2
      have l1 : ¬ a < 0 := fun q => by have := Int32.lt_iff_toInt_lt.mp q; rw [ti_0] at this; omega
      have l2 : a < 3 := Int32.lt_iff_toInt_lt.mpr (by omega)
      have ec := cl_i hc.1
      have hk : a.toNatClampNeg < 3 := by omega
      cases hi : im a.toNatClampNeg with
      | some z =>
        have far := (hL.far him).1 _ z hk hi
        obtain ⟨x, D1, e1, c1⟩ := tX8_copy (o := z) (p := 1) (D := P.2) (by omega)
        refine ⟨1, (P.1, D1), ?_, q2.symm, h.img him hk (fun _ => hL) him (fun j => ?_) (fun _ _ => rfl) far.1 (fun j y hj hjk hy => ?_) c1 q1 q3 q4 q5, Nat.le_refl _⟩
        · unfold fImg
          rw [if_neg l1, if_pos l2, hi]
          simp only []
          rw [e1]
          rfl
        · by_cases e : j = a.toNatClampNeg
          · rw [if_pos e, e, hi]
          · rw [if_neg e]
        · exact (hL.far him).2 j _ y z hj hk hjk hy hi
      | none =>
        have hd : ∀ c, c < P.1.1 → (opB n0 P.1.1 P sOps).2.1 c = P.2.1 c := fun c hc2 => by
          funext f
          exact (opB_spec n0 P.1.1 P rfl sOps sOps_all).2.2.2.2.1 c f hc2
        have l98 : 98 ≤ P.1.1 := hL.1.1
        obtain ⟨x, D1, e1, c1⟩ := tX8_copy (o := P.1.1) (p := 1) (D := (opB n0 P.1.1 P sOps).2) (by omega)
        refine ⟨1, ((aPR (opB n0 P.1.1 P sOps) 32 a.toNatClampNeg (n0 + P.1.1)).1, D1), ?_, q2.symm, h.img him hk g1 g2 (fun j => rfl) hd l98 (fun j y hj hjk hy => ?_) c1 q1 q3 q4 q5, ?_⟩
        · unfold fImg
          rw [if_neg l1, if_pos l2, hi]
          simp only [aLet]
          rw [sOps_run]
          show aBind (fX8_copyFrom P.1.1 1 (opB n0 P.1.1 P sOps).2) _ = _
          rw [e1]
          rfl
        · exact Or.inl ((hL.far him).1 j y hj hy).2
        · show P.1.1 ≤ (opB n0 P.1.1 P sOps).1.1
          omega
    · rw [if_neg hc] at q2
      refine ⟨0, P, ?_, q2.1.symm, ?_, Nat.le_refl _⟩
      · unfold fImg
        by_cases l1 : a < 0
        · rw [if_pos l1]
        · rw [if_neg l1, if_neg]
          intro q
          have := Int32.lt_iff_toInt_lt.mp q
          have l1 : ¬ a.toInt < 0 := fun q => l1 (Int32.lt_iff_toInt_lt.mpr (by rw [ti_0]; omega))
          omega
      · exact h.same (D1 := P.2) ⟨KX.refl h.2.1.2 h.2.1.1, rfl, rfl⟩ ⟨q1, q2.2⟩
  obtain ⟨r1, X, k1, k2, k3, k4⟩ := K
  exact ⟨r1, X, r2, D2, k1, e2, k2, k3, k4, hN1, hN2⟩
theorem ia_again (h : IA n0 P E) {im : Nat → Option Nat} (him : imOK n0 P.1 im) (a : Int32) : Bt n0 P id (fAgn im a P.2) (fX11_again a E) := by
  have hL := h.1
  have L3 : (3 : Int32).toInt = 3 := by decide
  obtain ⟨r2, D2, e2, q1, q2, q3⟩ := sM_again (a := a) h.2.2.1
  by_cases hc : 0 ≤ a.toInt ∧ a.toInt ≤ 2
  · have l1 : ¬ a < 0 := fun q => by have := Int32.lt_iff_toInt_lt.mp q; rw [ti_0] at this; omega
    have l2 : a < 3 := Int32.lt_iff_toInt_lt.mpr (by omega)
    have ec := cl_i hc.1
    have hk : a.toNatClampNeg < 3 := by omega
    rcases h.2.2.2.2 im him _ hk with ⟨n1, n2⟩ | ⟨z, z1, z2, z3, z4⟩
    · rw [if_neg (fun q => q.2 n2)] at q3
      refine ⟨0, P.2, r2, D2, ?_, e2, q3.1.symm, h.same ⟨KX.refl h.2.1.2 h.2.1.1, rfl, rfl⟩ ⟨q1, q3.2⟩⟩
      unfold fAgn
      rw [if_neg l1, if_pos l2, n1]
    · rw [if_pos ⟨hc, z2⟩] at q3
      have far := (hL.far him).1 _ z hk z1
      obtain ⟨x, D1, e1, c1⟩ := tX8_copy (o := 1) (p := z) (D := P.2) (by omega)
      refine ⟨1, D1, r2, D2, ?_, e2, q3.1.symm, h.keep ⟨fun c hc2 => c1.1 c (by omega), ?_, c1.qt z3⟩ q1 q2 (fun i hi h4 => ?_) (fun i hi h4 => ?_) ?_ ?_⟩
      · unfold fAgn
        rw [if_neg l1, if_pos l2, z1]
        simp only []
        rw [e1]
        rfl
      · unfold TN
        rw [c1.1 38 (by omega)]
        exact h.2.1.1
      · rw [q3.2.1 i h4, if_neg hi]
      · rw [q3.2.2 i h4, if_neg hi]
      · have : D1.1 (1 + 1) 11 = _ := c1.at (by decide) (by decide)
        show D1.1 (1 + 1) 11 = _
        rw [this, q3.2.2 0 (by decide), if_pos rfl]
        exact z4.1
      · have : D1.1 (1 + 10) 1 = _ := c1.at (by decide) (by decide)
        show D1.1 (1 + 10) 1 = _
        rw [this, q3.2.1 0 (by decide), if_pos rfl]
        exact z4.2
  · rw [if_neg (fun q => hc q.1)] at q3
    refine ⟨0, P.2, r2, D2, ?_, e2, q3.1.symm, h.same ⟨KX.refl h.2.1.2 h.2.1.1, rfl, rfl⟩ ⟨q1, q3.2⟩⟩
    unfold fAgn
    by_cases l1 : a < 0
    · rw [if_pos l1]
    · rw [if_neg l1, if_neg]
      intro q
      have := Int32.lt_iff_toInt_lt.mp q
      have l1 : ¬ a.toInt < 0 := fun q => l1 (Int32.lt_iff_toInt_lt.mpr (by rw [ti_0]; omega))
      omega
end IAs
end
section
theorem xI (n0 q f : Nat) : (xB n0).2.1 q f = opInt xOps q f := by
  show (x0 n0).2.1 q f = _
  rw [x0_run]
  exact (opRun_spec n0 xOps).2.2.2.1 q f
theorem mI (n1 q f : Nat) : (m0 n1).2.1 q f = opInt mOps q f := by
  rw [m0_run]
  exact (opRun_spec n1 mOps).2.2.2.1 q f
theorem xB_im (n0 : Nat) : imOK n0 (xB n0).1 (fun _ => none) := ⟨⟨by show 32 ∈ List.range 58; decide, rfl⟩, fun j z _ h => by cases h⟩
theorem xB_Lay (n0 : Nat) : Lay n0 (xB n0) := by
  refine ⟨⟨Nat.le_refl _, fun k hk => ?_⟩, fun k S hS => ?_, aLSw_tab.mpr (fun q hq => ?_), _, xB_im n0, fun j z _ h => (by cases h), fun i j z y _ _ _ h => (by cases h)⟩
  · have := List.mem_range.mp hk
    exact ⟨Or.inl this, by show k < 98; omega⟩
  · have hl := (xTab_lt _ hS).1
    refine ⟨List.mem_range.mpr hl, ?_⟩
    simp only [xTab, List.mem_cons, List.not_mem_nil, or_false, Prod.mk.injEq] at hS
    rcases hS with ⟨rfl, rfl⟩ | ⟨rfl, rfl⟩ | ⟨rfl, rfl⟩ | ⟨rfl, rfl⟩ | ⟨rfl, rfl⟩ | ⟨rfl, rfl⟩ | ⟨rfl, rfl⟩ | ⟨rfl, rfl⟩ | ⟨rfl, rfl⟩ | ⟨rfl, rfl⟩ | ⟨rfl, rfl⟩ | ⟨rfl, rfl⟩ | ⟨rfl, rfl⟩ | ⟨rfl, rfl⟩ | ⟨rfl, rfl⟩ | ⟨rfl, rfl⟩ | ⟨rfl, rfl⟩ | ⟨rfl, rfl⟩ | ⟨rfl, rfl⟩ | ⟨rfl, rfl⟩ | ⟨rfl, rfl⟩ | ⟨rfl, rfl⟩ | ⟨rfl, rfl⟩ | ⟨rfl, rfl⟩ | ⟨rfl, rfl⟩ | ⟨rfl, rfl⟩ | ⟨rfl, rfl⟩ | ⟨rfl, rfl⟩ | ⟨rfl, rfl⟩ | ⟨rfl, rfl⟩ | ⟨rfl, rfl⟩ | ⟨rfl, rfl⟩ | ⟨rfl, rfl⟩ | ⟨rfl, rfl⟩ | ⟨rfl, rfl⟩ | ⟨rfl, rfl⟩ | ⟨rfl, rfl⟩ | ⟨rfl, rfl⟩ | ⟨rfl, rfl⟩ | ⟨rfl, rfl⟩ | ⟨rfl, rfl⟩ | ⟨rfl, rfl⟩ | ⟨rfl, rfl⟩ | ⟨rfl, rfl⟩ | ⟨rfl, rfl⟩ | ⟨rfl, rfl⟩ | ⟨rfl, rfl⟩ | ⟨rfl, rfl⟩ | ⟨rfl, rfl⟩ | ⟨rfl, rfl⟩ | ⟨rfl, rfl⟩ | ⟨rfl, rfl⟩ | ⟨rfl, rfl⟩ | ⟨rfl, rfl⟩ | ⟨rfl, rfl⟩ | ⟨rfl, rfl⟩ | ⟨rfl, rfl⟩ <;> rfl
  · refine ⟨List.mem_range.mpr (by have := sTab_lt q hq; omega), ?_⟩
    simp only [sTab, List.mem_cons, List.not_mem_nil, or_false] at hq
    rcases hq with rfl | rfl | rfl | rfl | rfl | rfl | rfl | rfl | rfl | rfl | rfl | rfl | rfl | rfl | rfl | rfl | rfl | rfl | rfl | rfl | rfl | rfl | rfl | rfl | rfl | rfl | rfl | rfl | rfl | rfl | rfl <;> rfl
theorem xB_TN (n0 : Nat) : TN (xB n0).2 := by
  have : ∀ l, l < 16 → 0 ≤ (opInt xOps 38 l).toInt := by decide +kernel
  exact fun l hl => by rw [xI]; exact this l hl
theorem xB_QX (n0 : Nat) : QXt (xB n0).2 1 := by
  have e10 : (xB n0).2.1 (1 + 1) 10 = 0 := by rw [xI]; decide +kernel
  refine ⟨?_, ?_, ?_, fun k hk => ?_, ?_, ?_, ?_, ?_⟩
  case refine_4 =>
    rw [e10, ti_0] at hk
    omega
  all_goals (simp only [xI]; decide +kernel)
theorem mB_QM (n1 : Nat) : QMs (m0 n1).2 := by
  have e8 : ∀ t, t < 4 → opInt mOps 8 t = 0 := by decide +kernel
  have e5 : ∀ t, t < 4 → opInt mOps 5 t = 0 := by decide +kernel
  have e2 : ∀ t, t < 4 → opInt mOps 2 t = 0 := by decide +kernel
  have e15 : ∀ t, t < 8 → opInt mOps 15 t = 0 := by decide +kernel
  have e16 : ∀ t, t < 128 → opInt mOps 16 t = 0 := by decide +kernel
  have e23 : ∀ t, t < 17 → opInt mOps 23 t = 0 := by decide +kernel
  refine ⟨fun t ht => ⟨?_, ?_, fun k hk => ?_, ⟨?_, ?_⟩, fun l hl => ?_, ?_⟩, fun i hi => ?_⟩
  · rw [mI, e5 t ht]; decide
  · rw [mI, e8 t ht]; decide
  · rw [mI, e8 t ht, ti_0] at hk
    omega
  · rw [mI, e15 _ (by omega)]; decide
  · rw [mI, e15 _ (by omega)]; decide
  · rw [mI, e16 _ (by omega)]; decide
  · rw [mI, e2 t ht]; decide
  · rw [mI, e23 i hi]; decide
theorem ia_first (n0 n1 : Nat) : IA n0 (xB n0) (m0 n1).2 := by
  refine ⟨xB_Lay n0, ⟨xB_TN n0, xB_QX n0⟩, mB_QM n1, ⟨?_, ?_⟩, fun im him j hj => ?_⟩
  · rw [xI, mI]; decide +kernel
  · rw [xI, mI]; decide +kernel
  · rw [im_uniq him (xB_im n0), mI]
    have : ∀ j, j < 3 → aBz (opInt mOps 39 j) = 0 := by decide +kernel
    exact Or.inl ⟨rfl, this j hj⟩
end
section
/-! any relation of a slot to its twin, kept by every call -/
def slX (D : ADD) (o : Nat) : Nat → Nat → Int32 := fun d i => if d < 31 ∧ (cpL.any (fun s => cpC s d i)) = true then D.1 (o + d) i else 0
def slM (E : ADD) (t : Nat) : Nat → Nat → Int32 := fun c i => if i < szM c then (if c = 1 then aB (E.1 1 (500 * t + i)) else E.1 c (szM c * t + i)) else 0
theorem szM_0 {c : Nat} (h : c = 0 ∨ 23 ≤ c) : szM c = 0 := by
  rcases h with rfl | h
  · rfl
  · have e : ([0, 500, 1, 1, 1, 1, 1, 1, 1, 1600, 96, 1, 1, 2, 1, 2, 32, 128, 128, 128, 32, 32, 32] : List Nat)[c]? = none := List.getElem?_eq_none (by simpa using h)
    unfold szM
    rw [List.getD_eq_getElem?_getD, e]
    rfl
theorem aB_aB (x : Int32) : aB (aB x) = aB x := by
  show (((x.toInt8).toInt32).toInt8).toInt32 = (x.toInt8).toInt32
  rw [Int8.toInt8_toInt32]
theorem slX_at {D : ADD} {o d i : Nat} (hd : d < 31) (hc : (cpL.any (fun s => cpC s d i)) = true) : slX D o d i = D.1 (o + d) i := if_pos ⟨hd, hc⟩
theorem slX_fr {D D1 : ADD} {o : Nat} (f : ∀ c, o ≤ c → c < o + 31 → D1.1 c = D.1 c) : slX D1 o = slX D o := by
  funext d i
  unfold slX
  by_cases h : d < 31 ∧ (cpL.any (fun s => cpC s d i)) = true
  · rw [if_pos h, if_pos h, f _ (by omega) (by omega)]
  · rw [if_neg h, if_neg h]
theorem slX_cp {D D1 : ADD} {o p : Nat} (k : CpX cpL o p D D1) : slX D1 o = slX D p := by
  funext d i
  unfold slX
  by_cases h : d < 31 ∧ (cpL.any (fun s => cpC s d i)) = true
  · rw [if_pos h, if_pos h, k.at h.1 h.2]
  · rw [if_neg h, if_neg h]
theorem slM_eq {E E1 : ADD} {t t1 : Nat} (f : ∀ i, i < 500 → aB (E1.1 1 (500 * t1 + i)) = aB (E.1 1 (500 * t + i))) (g : ∀ c i, 2 ≤ c → c < 23 → i < szM c → E1.1 c (szM c * t1 + i) = E.1 c (szM c * t + i)) : slM E1 t1 = slM E t := by
  funext c i
  unfold slM
  by_cases h : i < szM c
  · rw [if_pos h, if_pos h]
    by_cases h1 : c = 1
    · subst h1
      rw [if_pos rfl, if_pos rfl, f i h]
    · rw [if_neg h1, if_neg h1]
      by_cases h2 : c = 0 ∨ 23 ≤ c
      · rw [szM_0 h2] at h
        omega
      · exact g c i (by omega) (by omega) h
  · rw [if_neg h, if_neg h]
theorem slM_fr {E E1 : ADD} {t : Nat} (f : ∀ c, 1 ≤ c → c < 23 → E1.1 c = E.1 c) : slM E1 t = slM E t :=
  slM_eq (fun i _ => by rw [f 1 (by decide) (by decide)]) (fun c i h2 h3 _ => by rw [f c (by omega) h3])
theorem slM_fm {E E1 : ADD} {t : Nat} (f : FmM E E1) : slM E1 t = slM E t := slM_fr (fun c h1 h2 => f c (by omega))
theorem szM_p {c : Nat} (h1 : 1 ≤ c) (h2 : c < 23) : 0 < szM c := by
  have : ∀ c, c < 23 → 1 ≤ c → 0 < szM c := by decide
  exact this c h2 h1
/-- only the present is another -/
def NwM (E E1 : ADD) : Prop := ∀ c i, 1 ≤ c → c < 23 → szM c ≤ i → E1.1 c i = E.1 c i
theorem NwM.sl {E E1 : ADD} {t : Nat} (f : NwM E E1) (ht : 1 ≤ t) : slM E1 t = slM E t := by
  refine slM_eq (fun i _ => ?_) (fun c i h2 h3 _ => ?_)
  · rw [f 1 _ (by decide) (by decide) (by show 500 ≤ _; omega)]
  · have : szM c ≤ szM c * t := Nat.le_mul_of_pos_right _ ht
    rw [f c _ (by omega) h3 (by omega)]
theorem NwM.fm {E E1 : ADD} (f : FmM E E1) : NwM E E1 := fun c i h1 h2 _ => by rw [f c (by omega)]
theorem NwM.trans {E E1 E2 : ADD} (f : NwM E E1) (g : NwM E1 E2) : NwM E E2 := fun c i h1 h2 h3 => (g c i h1 h2 h3).trans (f c i h1 h2 h3)
theorem slt_ne {n i t j : Nat} (hj : j < n) (h : i ≠ t) : ¬ (n * t ≤ n * i + j ∧ n * i + j < n * t + n) := by
  rintro ⟨a, b⟩
  rcases Nat.lt_or_gt_of_ne h with h | h
  · have := Nat.mul_le_mul_left n (show i + 1 ≤ t from h)
    rw [Nat.mul_add] at this
    omega
  · have := Nat.mul_le_mul_left n (show t + 1 ≤ i from h)
    rw [Nat.mul_add] at this
    omega
theorem slM_cp {E E1 : ADD} {f t : Nat} (k : CpT E E1 f t 23) : slM E1 t = slM E f := by
  obtain ⟨k1, k2, k3, k4⟩ := k
  refine slM_eq (fun i hi => ?_) (fun c i h2 h3 hi => ?_)
  · rw [k3, if_pos ⟨by omega, by omega⟩, aB_aB, Nat.add_sub_cancel_left, Nat.add_comm]
  · rw [k4 c h2 h3, if_pos ⟨by omega, by omega⟩, Nat.add_sub_cancel_left, Nat.add_comm]
theorem slM_cq {E E1 : ADD} {f t i : Nat} (k : CpT E E1 f t 23) (h : i ≠ t) : slM E1 i = slM E i := by
  obtain ⟨k1, k2, k3, k4⟩ := k
  refine slM_eq (fun j hj => ?_) (fun c j h2 h3 hj => ?_)
  · rw [k3, if_neg (slt_ne hj h)]
  · rw [k4 c h2 h3, if_neg (slt_ne hj h)]
theorem Wp.same {ρ : Type} {f : Option (ρ × ADD)} {r : ρ} {D : ADD} {Q : ρ → ADD → Prop} (e : f = some (r, D)) (h : Wp f Q) : Q r D := by
  obtain ⟨r1, D1, e1, q⟩ := h
  rw [e] at e1
  cases e1
  exact q
def IR (Rl : (Nat → Nat → Int32) → (Nat → Nat → Int32) → Prop) (n0 : Nat) (P : APD) (E : ADD) : Prop := IA n0 P E ∧ Rl (slX P.2 1) (slM E 0) ∧ ∀ im, imOK n0 P.1 im → ∀ j z, j < 3 → im j = some z → Rl (slX P.2 z) (slM E (j + 1))
section IRs
variable {Rl : (Nat → Nat → Int32) → (Nat → Nat → Int32) → Prop} {n0 : Nat} {P : APD} {E : ADD}
abbrev BR (Rl : (Nat → Nat → Int32) → (Nat → Nat → Int32) → Prop) (n0 : Nat) (P : APD) (R : Prop → Prop) {ρ : Type} (f g : Option (ρ × ADD)) : Prop := ∃ (r1 : ρ) (D1 : ADD) (r2 : ρ) (D2 : ADD), f = some (r1, D1) ∧ g = some (r2, D2) ∧ R (r1 = r2) ∧ IR Rl n0 (P.1, D1) D2
theorem BR.weak {ρ : Type} {f g : Option (ρ × ADD)} (h : BR Rl n0 P id f g) : BR Rl n0 P (fun _ => True) f g := by
  obtain ⟨r1, D1, r2, D2, h1, h2, -, h4⟩ := h
  exact ⟨r1, D1, r2, D2, h1, h2, trivial, h4⟩
theorem IR.keep (h : IR Rl n0 P E) {D1 E1 : ADD} (ia : IA n0 (P.1, D1) E1) (kx : ∀ c, 98 ≤ c → D1.1 c = P.2.1 c) (nm : NwM E E1) (r : Rl (slX D1 1) (slM E1 0)) : IR Rl n0 (P.1, D1) E1 := by
  refine ⟨ia, r, fun im him j z hj hz => ?_⟩
  have far := (h.1.1.far him).1 j z hj hz
  have e1 : slX D1 z = slX P.2 z := slX_fr (fun c hc _ => kx c (by omega))
  rw [e1, nm.sl (by omega)]
  exact h.2.2 im him j z hj hz
theorem IR.bt {ρ : Type} {R : Prop → Prop} {f g : Option (ρ × ADD)} (h : IR Rl n0 P E) (b : Bt n0 P R f g) (hf : Wp f (fun _ D1 => ∀ c, 98 ≤ c → D1.1 c = P.2.1 c)) (hg : Wp g (fun _ E1 => NwM E E1)) (hr : ∀ r1 D1 r2 E1, f = some (r1, D1) → g = some (r2, E1) → Rl (slX D1 1) (slM E1 0)) : BR Rl n0 P R f g := by
  obtain ⟨r1, D1, r2, D2, h1, h2, h3, h4⟩ := b
  have n1 := hf.same h1
  have n2 := hg.same h2
  exact ⟨r1, D1, r2, D2, h1, h2, h3, h.keep h4 n1 n2 (hr _ _ _ _ h1 h2)⟩
theorem IR.ask {ρ : Type} {f g : Option (ρ × ADD)} (h : IR Rl n0 P E) (hf : QX P.2 → Wp f (fun _ D1 => FX P.2 D1)) (hg : QM E → Wp g (fun _ D1 => FmM E D1)) : BR Rl n0 P (fun _ => True) f g := by
  have f1 := hf h.1.2.1.2.qx
  have g1 := hg h.1.2.2.1.qm
  refine h.bt (h.1.ask hf hg) (f1.mono (fun _ _ q c hc => q c (by omega))) (g1.mono (fun _ _ q => NwM.fm q)) (fun r1 D1 r2 E1 e1 e2 => ?_)
  have q1 := f1.same e1
  have e1 : slX D1 1 = slX P.2 1 := slX_fr (fun c _ h2 => q1 c (by omega))
  have q2 := g1.same e2
  rw [e1, slM_fm q2]
  exact h.2.1
theorem IR.askE {ρ : Type} {f g : Option (ρ × ADD)} {v : ρ} (h : IR Rl n0 P E) (hf : QX P.2 → Wp f (fun _ D1 => FX P.2 D1)) (hg : QM E → Wp g (fun _ D1 => FmM E D1)) (af : Wp f (fun r _ => r = v)) (ag : Wp g (fun r _ => r = v)) : BR Rl n0 P id f g := by
  obtain ⟨r1, D1, r2, D2, h1, h2, -, h4⟩ := h.ask hf hg
  exact ⟨r1, D1, r2, D2, h1, h2, (af.same h1).trans (ag.same h2).symm, h4⟩
theorem IR.img {im im2 : Nat → Option Nat} {w : AWS} {D D1 E1 : ADD} {k o : Nat} (h : IR Rl n0 P E) (him : imOK n0 P.1 im) (ia : IA n0 (w, D1) E1) (h2 : imOK n0 w im2) (ei : ∀ j, im2 j = if j = k then some o else im j) (fD : ∀ c, c < P.1.1 → D.1 c = P.2.1 c) (ho : 98 ≤ o) (hz : ∀ j z, j < 3 → j ≠ k → im j = some z → z + 31 ≤ o ∨ o + 31 ≤ z) (hc : CpX cpL o 1 D D1) (em : ∀ i, slM E1 i = if i = k + 1 then slM E 0 else slM E i) : IR Rl n0 (w, D1) E1 := by
  have hLP : 98 ≤ P.1.1 := h.1.1.1.1
  refine ⟨ia, ?_, fun im3 h3 j z hj hjz => ?_⟩
  · have e1 : slX D1 1 = slX P.2 1 := slX_fr (fun c _ h2 => by rw [hc.1 c (by omega), fD c (by omega)])
    show Rl (slX D1 1) (slM E1 0)
    rw [e1, em 0, if_neg (by omega)]
    exact h.2.1
  · rw [im_uniq h3 h2, ei j] at hjz
    show Rl (slX D1 z) (slM E1 (j + 1))
    by_cases hjk : j = k
    · rw [if_pos hjk] at hjz
      cases hjz
      have e0 : slX D 1 = slX P.2 1 := slX_fr (fun c _ h2 => fD c (by omega))
      rw [em, if_pos (by omega), slX_cp hc, e0]
      exact h.2.1
    · rw [if_neg hjk] at hjz
      have far := (h.1.1.far him).1 j z hj hjz
      have dis := hz j z hj hjk hjz
      have e1 : slX D1 z = slX P.2 z := slX_fr (fun c a b => by rw [hc.1 c (by omega), fD c (by omega)])
      rw [em, if_neg (by omega), e1]
      exact h.2.2 im him j z hj hjz
theorem nM_image {a : Int32} {E : ADD} : Wp (fX11_image a E) (fun _ E1 => if 0 ≤ a.toInt ∧ a.toInt ≤ 2 then ∀ i, slM E1 i = if i = a.toNatClampNeg + 1 then slM E 0 else slM E i else FmM E E1) := by
  unfold fX11_image
  have f1 : FmM E (aSI E 0 0 0) := FmM.code
  have L2 : (2 : Int32).toInt = 2 := by decide
  refine Wp.lets (Wp.bindE (eM_is _ _ _ _) ?_)
  rw [ti_0, L2]
  by_cases hc : 0 ≤ a.toInt ∧ a.toInt ≤ 2
  · rw [if_pos hc]
    have e1 : (a + 1).toInt = a.toInt + 1 := ti_add rfl (by decide) (by omega) (by omega)
    have ec := cl_i hc.1
    refine Wp.neg (by decide) (Wp.bind (tM_copy (f := 0) (t := a.toNatClampNeg + 1) (by decide) (by omega) (by omega) (by omega) (by omega)) (fun _ D3 k => Wp.idx (i_in (by omega) (by omega)) (Wp.lets (Wp.ret ?_))))
    rw [if_pos hc]
    intro i
    rw [slM_fr (E := D3) (fun c h1 h2 => si_o (by omega))]
    by_cases e : i = a.toNatClampNeg + 1
    · rw [if_pos e, e, slM_cp k, slM_fm f1]
    · rw [if_neg e, slM_cq k e, slM_fm f1]
  · rw [if_neg hc]
    refine Wp.pos rfl (Wp.ret ?_)
    rw [if_neg hc]
    exact f1
theorem nM_again {a : Int32} {E : ADD} : Wp (fX11_again a E) (fun _ E1 => if (0 ≤ a.toInt ∧ a.toInt ≤ 2) ∧ aBz (E.1 39 a.toNatClampNeg) ≠ 0 then ∀ i, slM E1 i = if i = 0 then slM E (a.toNatClampNeg + 1) else slM E i else FmM E E1) := by
  unfold fX11_again
  have f1 : FmM E (aSI E 0 0 0) := FmM.code
  have L2 : (2 : Int32).toInt = 2 := by decide
  refine Wp.lets (Wp.bindE (eM_is _ _ _ _) (Wp.lets ?_))
  generalize aSI E 0 0 0 = D1 at f1 ⊢
  rw [ti_0, L2]
  by_cases hc : 0 ≤ a.toInt ∧ a.toInt ≤ 2
  · rw [if_pos hc]
    have e1 : (a + 1).toInt = a.toInt + 1 := ti_add rfl (by decide) (by omega) (by omega)
    have ec := cl_i hc.1
    refine Wp.neg (by decide) (Wp.idx (i_in (by omega) (by omega)) ?_)
    rw [f1 39 (by omega)]
    refine Wp.ite (fun hz => Wp.ret ?_) (fun hz => Wp.bind (tM_copy (f := a.toNatClampNeg + 1) (t := 0) (by omega) (by decide) (by omega) (by omega) (by omega)) (fun _ D3 k => Wp.ret ?_))
    · rw [if_neg (fun q => q.2 hz)]
      exact f1
    · rw [if_pos ⟨hc, hz⟩]
      intro i
      by_cases e : i = 0
      · rw [if_pos e, e, slM_cp k, slM_fm f1]
      · rw [if_neg e, slM_cq k e, slM_fm f1]
  · rw [if_neg hc]
    refine Wp.pos rfl (Wp.ret ?_)
    rw [if_neg (fun q => hc q.1)]
    exact f1
theorem IR.sameq (h : IR Rl n0 P E) {E1 : ADD} (ia : IA n0 P E1) (f : FmM E E1) : IR Rl n0 P E1 := by
  refine ⟨ia, by rw [slM_fm f]; exact h.2.1, fun im him j z hj hz => ?_⟩
  rw [slM_fm f]
  exact h.2.2 im him j z hj hz
theorem ir_image (h : IR Rl n0 P E) {im : Nat → Option Nat} (him : imOK n0 P.1 im) (a : Int32) : ∃ r1 X r2 D2, fImg n0 im P.1 a P.2 = some (r1, X) ∧ fX11_image a E = some (r2, D2) ∧ r1 = r2 ∧ IR Rl n0 X D2 ∧ P.1.1 ≤ X.1.1 ∧
  (∀ P3, P3 = aPR (fI_X8_init n0 P.1.1 (aNO (P.1, P.2) 7)) 32 a.toNatClampNeg (n0 + P.1.1) → aLSw n0 P3.1 P.1.1 ∧ aLSw n0 P3.1 1) ∧
  (∀ P2, P2 = fI_X8_init n0 P.1.1 (aNO (P.1, P.2) 7) → (32 ∈ P2.1.2.1 ∧ P2.1.2.2 32 = (15, 3, fun j => (im j).map (n0 + ·))) ∧ (P2.1.2.2 0).2.2 1 = some (n0 + 32) ∧ (P2.1.2.2 0).2.2 0 = some (n0 + 1)) := by
  have hL := h.1.1
  have L3 : (3 : Int32).toInt = 3 := by decide
  obtain ⟨r1, X, r2, D2, k1, k2, k3, ia, k5⟩ := ia_image h.1 him a
  refine ⟨r1, X, r2, D2, k1, k2, k3, ?_, k5⟩
  obtain ⟨g1, g2, g3, g4, g5, g6, g7, g8⟩ := Lay.img (k := a.toNatClampNeg) hL him
  have em := (nM_image (a := a) (E := E)).same k2
  by_cases hc : 0 ≤ a.toInt ∧ a.toInt ≤ 2
  · rw [if_pos hc] at em
    have l1 : ¬ a < 0 := fun q => by have := Int32.lt_iff_toInt_lt.mp q; rw [ti_0] at this; omega
    have l2 : a < 3 := Int32.lt_iff_toInt_lt.mpr (by omega)
    have ec := cl_i hc.1
    have hk : a.toNatClampNeg < 3 := by omega
    unfold fImg at k1
    rw [if_neg l1, if_pos l2] at k1
    cases hi : im a.toNatClampNeg with
    | some z =>
      have far := (hL.far him).1 _ z hk hi
      obtain ⟨x, D1, e1, c1⟩ := tX8_copy (o := z) (p := 1) (D := P.2) (by omega)
      rw [hi] at k1
      simp only [] at k1
      rw [e1] at k1
      have hX : X = (P.1, D1) := by
        have k1 : some ((1 : Int32), (P.1, D1)) = some (r1, X) := k1
        cases k1
        rfl
      subst hX
      exact h.img him ia him (k := a.toNatClampNeg) (fun j => by
        by_cases e : j = a.toNatClampNeg
        · rw [if_pos e, e, hi]
        · rw [if_neg e]) (fun _ _ => rfl) far.1 (fun j y hj hjk hy => (hL.far him).2 j _ y z hj hk hjk hy hi) c1 em
    | none =>
      have hd : ∀ c, c < P.1.1 → (opB n0 P.1.1 P sOps).2.1 c = P.2.1 c := fun c hc2 => by
        funext f
        exact (opB_spec n0 P.1.1 P rfl sOps sOps_all).2.2.2.2.1 c f hc2
      have l98 : 98 ≤ P.1.1 := hL.1.1
      obtain ⟨x, D1, e1, c1⟩ := tX8_copy (o := P.1.1) (p := 1) (D := (opB n0 P.1.1 P sOps).2) (by omega)
      rw [hi] at k1
      simp only [aLet] at k1
      rw [sOps_run] at k1
      have k1 : aBind (fX8_copyFrom P.1.1 1 (opB n0 P.1.1 P sOps).2) (fun _ D2 => some ((1 : Int32), ((aPR (opB n0 P.1.1 P sOps) 32 a.toNatClampNeg (n0 + P.1.1)).1, D2))) = some (r1, X) := k1
      rw [e1] at k1
      have hX : X = ((aPR (opB n0 P.1.1 P sOps) 32 a.toNatClampNeg (n0 + P.1.1)).1, D1) := by
        have k1 : some ((1 : Int32), ((aPR (opB n0 P.1.1 P sOps) 32 a.toNatClampNeg (n0 + P.1.1)).1, D1)) = some (r1, X) := k1
        cases k1
        rfl
      subst hX
      exact h.img him ia g2 (k := a.toNatClampNeg) (fun j => rfl) hd l98 (fun j y hj hjk hy => Or.inl ((hL.far him).1 j y hj hy).2) c1 em
  · rw [if_neg hc] at em
    have hX : X = P := by
      unfold fImg at k1
      by_cases l1 : a < 0
      · rw [if_pos l1] at k1
        cases k1
        rfl
      · rw [if_neg l1, if_neg] at k1
        · cases k1
          rfl
        · intro q
          have := Int32.lt_iff_toInt_lt.mp q
          have l1 : ¬ a.toInt < 0 := fun q => l1 (Int32.lt_iff_toInt_lt.mpr (by rw [ti_0]; omega))
          omega
    subst hX
    exact h.sameq ia em
theorem ir_again (h : IR Rl n0 P E) {im : Nat → Option Nat} (him : imOK n0 P.1 im) (a : Int32) : BR Rl n0 P id (fAgn im a P.2) (fX11_again a E) := by
  have hL := h.1.1
  have L3 : (3 : Int32).toInt = 3 := by decide
  obtain ⟨r1, D1, r2, D2, k1, k2, k3, ia⟩ := ia_again h.1 him a
  refine ⟨r1, D1, r2, D2, k1, k2, k3, ?_⟩
  have em := (nM_again (a := a) (E := E)).same k2
  by_cases hc : 0 ≤ a.toInt ∧ a.toInt ≤ 2
  · have l1 : ¬ a < 0 := fun q => by have := Int32.lt_iff_toInt_lt.mp q; rw [ti_0] at this; omega
    have l2 : a < 3 := Int32.lt_iff_toInt_lt.mpr (by omega)
    have ec := cl_i hc.1
    have hk : a.toNatClampNeg < 3 := by omega
    unfold fAgn at k1
    rw [if_neg l1, if_pos l2] at k1
    rcases h.1.2.2.2.2 im him _ hk with ⟨n1, n2⟩ | ⟨z, z1, z2, z3, z4⟩
    · rw [if_neg (fun q => q.2 n2)] at em
      rw [n1] at k1
      have hX : D1 = P.2 := by
        cases k1
        rfl
      subst hX
      exact h.sameq ia em
    · rw [if_pos ⟨hc, z2⟩] at em
      have far := (hL.far him).1 _ z hk z1
      obtain ⟨x, D3, e1, c1⟩ := tX8_copy (o := 1) (p := z) (D := P.2) (by omega)
      rw [z1] at k1
      simp only [] at k1
      rw [e1] at k1
      have hX : D1 = D3 := by
        have k1 : some ((1 : Int32), D3) = some (r1, D1) := k1
        cases k1
        rfl
      subst hX
      refine ⟨ia, ?_, fun im3 h3 j y hj hy => ?_⟩
      · show Rl (slX D1 1) (slM D2 0)
        rw [slX_cp c1, em 0, if_pos rfl]
        exact h.2.2 im him _ z hk z1
      · show Rl (slX D1 y) (slM D2 (j + 1))
        rw [im_uniq h3 him] at hy
        have far := (hL.far him).1 j y hj hy
        have e1 : slX D1 y = slX P.2 y := slX_fr (fun c a b => c1.1 c (by omega))
        rw [e1, em, if_neg (by omega)]
        exact h.2.2 im him j y hj hy
  · rw [if_neg (fun q => hc q.1)] at em
    have hX : D1 = P.2 := by
      unfold fAgn at k1
      by_cases l1 : a < 0
      · rw [if_pos l1] at k1
        cases k1
        rfl
      · rw [if_neg l1, if_neg] at k1
        · cases k1
          rfl
        · intro q
          have := Int32.lt_iff_toInt_lt.mp q
          have l1 : ¬ a.toInt < 0 := fun q => l1 (Int32.lt_iff_toInt_lt.mpr (by rw [ti_0]; omega))
          omega
    subst hX
    exact h.sameq ia em
end IRs
end
section
/-! loops by a counted invariant -/
section LP
variable {ρ σ τ υ : Type} {Q : ρ → ADD → Prop}
theorem Wp.go1 (Inv : Nat → ADD → Prop) (B : Nat) (hB : B ≤ 100000) {F : (Int32 → ADD → Option (ρ × ADD)) → Int32 → ADD → Option (ρ × ADD)} {z : Int32 → ADD → Option (ρ × ADD)}
    (hF : ∀ (g : Int32 → ADD → Option (ρ × ADD)) (k : Nat) (D : ADD), k ≤ B → Inv k D → (k < B → ∀ D', Inv (k + 1) D' → Wp (g (nI k + 1) D') Q) → Wp (F g (nI k) D) Q) {k0 : Nat} {D : ADD} {x0 : Int32} (e0 : x0 = nI k0) (hk : k0 ≤ B) (h0 : Inv k0 D) : Wp (aFix aFuel F z x0 D) Q := by
  refine Wp.fix1 (fun n x D' => ∃ k, x = nI k ∧ k ≤ B ∧ B + 1 ≤ n + k ∧ Inv k D') ?_ ?_ aFuel 1000000 _ _ (Nat.le_refl _) ⟨k0, e0, hk, by omega, h0⟩
  · intro n g hg x D' hI
    obtain ⟨k, rfl, h1, h2, h3⟩ := hI
    exact hF g k D' h1 h3 (fun hk D2 hD2 => hg _ _ ⟨k + 1, (nI_succ k).symm, hk, by omega, hD2⟩)
  · intro x D' hI
    obtain ⟨k, -, h1, h2, -⟩ := hI
    omega
theorem Wp.go2 (Inv : Nat → σ → ADD → Prop) (B : Nat) (hB : B ≤ 100000) {F : (σ → Int32 → ADD → Option (ρ × ADD)) → σ → Int32 → ADD → Option (ρ × ADD)} {z : σ → Int32 → ADD → Option (ρ × ADD)}
    (hF : ∀ (g : σ → Int32 → ADD → Option (ρ × ADD)) (k : Nat) (y : σ) (D : ADD), k ≤ B → Inv k y D → (k < B → ∀ y' D', Inv (k + 1) y' D' → Wp (g y' (nI k + 1) D') Q) → Wp (F g y (nI k) D) Q) {k0 : Nat} {y : σ} {D : ADD} {x0 : Int32} (e0 : x0 = nI k0) (hk : k0 ≤ B) (h0 : Inv k0 y D) : Wp (aFix aFuel F z y x0 D) Q := by
  refine Wp.fix2 (fun n y x D' => ∃ k, x = nI k ∧ k ≤ B ∧ B + 1 ≤ n + k ∧ Inv k y D') ?_ ?_ aFuel 1000000 _ _ _ (Nat.le_refl _) ⟨k0, e0, hk, by omega, h0⟩
  · intro n g hg y x D' hI
    obtain ⟨k, rfl, h1, h2, h3⟩ := hI
    exact hF g k y D' h1 h3 (fun hk y2 D2 hD2 => hg _ _ _ ⟨k + 1, (nI_succ k).symm, hk, by omega, hD2⟩)
  · intro y x D' hI
    obtain ⟨k, -, h1, h2, -⟩ := hI
    omega
theorem Wp.go3 (Inv : Nat → σ → τ → ADD → Prop) (B : Nat) (hB : B ≤ 100000) {F : (σ → τ → Int32 → ADD → Option (ρ × ADD)) → σ → τ → Int32 → ADD → Option (ρ × ADD)} {z : σ → τ → Int32 → ADD → Option (ρ × ADD)}
    (hF : ∀ (g : σ → τ → Int32 → ADD → Option (ρ × ADD)) (k : Nat) (y : σ) (w : τ) (D : ADD), k ≤ B → Inv k y w D → (k < B → ∀ y' w' D', Inv (k + 1) y' w' D' → Wp (g y' w' (nI k + 1) D') Q) → Wp (F g y w (nI k) D) Q) {k0 : Nat} {y : σ} {w : τ} {D : ADD} {x0 : Int32} (e0 : x0 = nI k0) (hk : k0 ≤ B) (h0 : Inv k0 y w D) : Wp (aFix aFuel F z y w x0 D) Q := by
  refine Wp.fix3 (fun n y w x D' => ∃ k, x = nI k ∧ k ≤ B ∧ B + 1 ≤ n + k ∧ Inv k y w D') ?_ ?_ aFuel 1000000 _ _ _ _ (Nat.le_refl _) ⟨k0, e0, hk, by omega, h0⟩
  · intro n g hg y w x D' hI
    obtain ⟨k, rfl, h1, h2, h3⟩ := hI
    exact hF g k y w D' h1 h3 (fun hk y2 w2 D2 hD2 => hg _ _ _ _ ⟨k + 1, (nI_succ k).symm, hk, by omega, hD2⟩)
  · intro y w x D' hI
    obtain ⟨k, -, h1, h2, -⟩ := hI
    omega
end LP
/-! the book, by its entries -/
abbrev Sl : Type := Nat → Nat → Int32
abbrev eD (M : Sl) (k : Nat) : Int32 := M 9 (4 * k)
abbrev eS (M : Sl) (k : Nat) : Int32 := M 9 (4 * k + 1)
abbrev eF (M : Sl) (k : Nat) : Int32 := M 9 (4 * k + 2)
abbrev eV (M : Sl) (k : Nat) : Int32 := M 9 (4 * k + 3)
abbrev lD (M : Sl) (s : Nat) : Int32 := M 10 (3 * s)
abbrev nE (M : Sl) : Nat := (M 8 0).toNatClampNeg
abbrev nS (M : Sl) : Nat := (M 5 0).toNatClampNeg
abbrev hitF (M : Sl) (d : Int32) (s f k : Nat) : Prop := eS M k = nI s ∧ (eD M k).toInt ≤ d.toInt ∧ (eF M k = nI f ∨ (eF M k = -1 ∧ f = 0))
def fcF (M : Sl) (d : Int32) (s f : Nat) (z : Int32) : Nat → Int32
  | 0 => z
  | k + 1 => if hitF M d s f k then eV M k else fcF M d s f z k
def dfF (M : Sl) (s f : Nat) : Int32 := if f = 1 then M 10 (3 * s + 1) else if f = 4 then M 10 (3 * s + 2) else if f = 5 then -3000 else if f = 6 then 1900 else if f = 9 then 1 else 0
def fct (M : Sl) (d : Int32) (s f : Nat) : Int32 := fcF M d s f (dfF M s f) (nE M)
def cnL (M : Sl) : Nat → Nat
  | 0 => 0
  | k + 1 => if eF M k = -1 then cnL M k + 1 else cnL M k
def dvF (M : Sl) : Int32 := if M 7 0 = -1 then M 6 0 else M 7 0
def eOK (M : Sl) (k : Nat) : Prop := (eF M k = -1 ∧ eS M k = nI (cnL M k) ∧ lD M (cnL M k) = eD M k) ∨ ((0 ≤ (eF M k).toInt ∧ (eF M k).toInt < 11) ∧ 0 ≤ (eS M k).toInt ∧ (eS M k).toInt < (cnL M k : Int))
def Gd (g : Nat → Int32) : Prop := (∀ f, f < 11 → FL f ≤ (g f).toInt ∧ (g f).toInt ≤ FM f) ∧ (g 3).toInt < (g 0).toInt ∧ (g 5).toInt ≤ (g 6).toInt
def BW (M : Sl) : Prop := ((0 ≤ (M 8 0).toInt ∧ (M 8 0).toInt ≤ 400) ∧ (0 ≤ (M 5 0).toInt ∧ (M 5 0).toInt ≤ 32) ∧ (0 ≤ (M 6 0).toInt ∧ (M 6 0).toInt ≤ 9999) ∧ (M 7 0 = -1 ∨ (0 ≤ (M 7 0).toInt ∧ (M 7 0).toInt ≤ (M 6 0).toInt))) ∧ (∀ k, k < nE M → eOK M k ∧ (eD M k).toInt ≤ (M 6 0).toInt ∧ ∀ j, j < k → (eD M j).toInt ≤ (eD M k).toInt) ∧ cnL M (nE M) = nS M ∧ (∀ s, s < nS M → (lD M s).toInt ≤ (M 6 0).toInt) ∧ ∀ d s, s < nS M → (lD M s).toInt ≤ d.toInt → Gd (fct M d s)
section BKs
variable {M M1 : Sl} {d d1 : Int32} {s f : Nat} {z : Int32}
theorem cnL_mono {j : Nat} : ∀ {k : Nat}, j ≤ k → cnL M j ≤ cnL M k
  | 0, h => by
    have : j = 0 := by omega
    subst this
    exact Nat.le_refl _
  | k + 1, h => by
    by_cases e : j = k + 1
    · subst e
      exact Nat.le_refl _
    · have := cnL_mono (j := j) (k := k) (by omega)
      show _ ≤ if eF M k = -1 then cnL M k + 1 else cnL M k
      split <;> omega
theorem cnL_lt {k n : Nat} (h : k < n) (hf : eF M k = -1) : cnL M k < cnL M n := by
  have := cnL_mono (M := M) (j := k + 1) (k := n) h
  have e : cnL M (k + 1) = cnL M k + 1 := if_pos hf
  omega
theorem cnL_congr : ∀ {n : Nat}, (∀ k, k < n → eF M1 k = eF M k) → cnL M1 n = cnL M n
  | 0, _ => rfl
  | n + 1, h => by
    show (if eF M1 n = -1 then cnL M1 n + 1 else cnL M1 n) = if eF M n = -1 then cnL M n + 1 else cnL M n
    rw [h n (by omega), cnL_congr (fun k hk => h k (by omega))]
theorem fcF_congr : ∀ {n : Nat}, (∀ k, k < n → eD M1 k = eD M k ∧ eS M1 k = eS M k ∧ eF M1 k = eF M k ∧ eV M1 k = eV M k) → fcF M1 d s f z n = fcF M d s f z n
  | 0, _ => rfl
  | n + 1, h => by
    obtain ⟨a, b, c, e⟩ := h n (by omega)
    show (if hitF M1 d s f n then eV M1 n else fcF M1 d s f z n) = if hitF M d s f n then eV M n else fcF M d s f z n
    unfold hitF
    rw [a, b, c, e, fcF_congr (fun k hk => h k (by omega))]
theorem fcF_day : ∀ {n : Nat}, (∀ k, k < n → ((eD M k).toInt ≤ d1.toInt ↔ (eD M k).toInt ≤ d.toInt)) → fcF M d1 s f z n = fcF M d s f z n
  | 0, _ => rfl
  | n + 1, h => by
    show (if hitF M d1 s f n then eV M n else fcF M d1 s f z n) = if hitF M d s f n then eV M n else fcF M d s f z n
    unfold hitF
    rw [fcF_day (n := n) (fun k hk => h k (by omega))]
    simp only [h n (by omega)]
theorem fcF_new (hs : s < 1000) : ∀ {n : Nat}, (∀ k, k < n → eOK M k) → cnL M n ≤ s → fcF M d s f z n = z
  | 0, _, _ => rfl
  | n + 1, h, hc => by
    have hm := cnL_mono (M := M) (show n ≤ n + 1 by omega)
    show (if hitF M d s f n then eV M n else fcF M d s f z n) = z
    rw [if_neg, fcF_new hs (fun k hk => h k (by omega)) (by omega)]
    rintro ⟨h1, -⟩
    rcases h n (by omega) with ⟨a, b, c⟩ | ⟨a, b, c⟩
    · have hl := cnL_lt (n := n + 1) (Nat.lt_succ_self n) a
      rw [b, nI_eq (by omega) (by omega)] at h1
      omega
    · rw [h1, nI_toInt (by omega)] at c
      omega
theorem fct_congr (e8 : M1 8 0 = M 8 0) (h : ∀ k, k < nE M → eD M1 k = eD M k ∧ eS M1 k = eS M k ∧ eF M1 k = eF M k ∧ eV M1 k = eV M k) (hd : dfF M1 s f = dfF M s f) : fct M1 d s f = fct M d s f := by
  unfold fct
  rw [hd, show nE M1 = nE M by show (M1 8 0).toNatClampNeg = _; rw [e8]]
  exact fcF_congr h
theorem BW.late (h : BW M) (a : (M 6 0).toInt ≤ d.toInt) (b : (M 6 0).toInt ≤ d1.toInt) : fct M d1 s f = fct M d s f :=
  fcF_day (fun k hk => by have := (h.2.1 k hk).2.1; omega)
/-- one more entry -/
def WrS (M M1 : Sl) (s f v : Int32) : Prop := (∀ c, c ≠ 8 → c ≠ 9 → M1 c = M c) ∧ M1 8 0 = M 8 0 + 1 ∧ ∀ j, M1 9 j = if j = 4 * nE M then M 6 0 else if j = 4 * nE M + 1 then s else if j = 4 * nE M + 2 then f else if j = 4 * nE M + 3 then v else M 9 j
theorem WrS.ne {s f v : Int32} (w : WrS M M1 s f v) (h : 0 ≤ (M 8 0).toInt ∧ (M 8 0).toInt < 400) : nE M1 = nE M + 1 ∧ (M1 8 0).toInt = (M 8 0).toInt + 1 := by
  have e : (M1 8 0).toInt = (M 8 0).toInt + 1 := by rw [w.2.1]; exact ti_add rfl ti_1 (by omega) (by omega)
  refine ⟨?_, e⟩
  have a := cl_i (x := M 8 0) h.1
  have b := cl_i (x := M1 8 0) (by omega)
  show (M1 8 0).toNatClampNeg = (M 8 0).toNatClampNeg + 1
  omega
theorem WrS.old {s f v : Int32} (w : WrS M M1 s f v) {k : Nat} (hk : k ≠ nE M) : eD M1 k = eD M k ∧ eS M1 k = eS M k ∧ eF M1 k = eF M k ∧ eV M1 k = eV M k := by
  refine ⟨?_, ?_, ?_, ?_⟩
  · show M1 9 (4 * k) = M 9 (4 * k)
    rw [w.2.2, if_neg (by omega), if_neg (by omega), if_neg (by omega), if_neg (by omega)]
  · show M1 9 (4 * k + 1) = M 9 (4 * k + 1)
    rw [w.2.2, if_neg (by omega), if_neg (by omega), if_neg (by omega), if_neg (by omega)]
  · show M1 9 (4 * k + 2) = M 9 (4 * k + 2)
    rw [w.2.2, if_neg (by omega), if_neg (by omega), if_neg (by omega), if_neg (by omega)]
  · show M1 9 (4 * k + 3) = M 9 (4 * k + 3)
    rw [w.2.2, if_neg (by omega), if_neg (by omega), if_neg (by omega), if_neg (by omega)]
theorem WrS.new {s f v : Int32} (w : WrS M M1 s f v) : eD M1 (nE M) = M 6 0 ∧ eS M1 (nE M) = s ∧ eF M1 (nE M) = f ∧ eV M1 (nE M) = v := by
  refine ⟨?_, ?_, ?_, ?_⟩
  · show M1 9 (4 * nE M) = _
    rw [w.2.2, if_pos rfl]
  · show M1 9 (4 * nE M + 1) = _
    rw [w.2.2, if_neg (by omega), if_pos rfl]
  · show M1 9 (4 * nE M + 2) = _
    rw [w.2.2, if_neg (by omega), if_neg (by omega), if_pos rfl]
  · show M1 9 (4 * nE M + 3) = _
    rw [w.2.2, if_neg (by omega), if_neg (by omega), if_neg (by omega), if_pos rfl]
theorem WrS.df {s' f' v : Int32} (w : WrS M M1 s' f' v) : dfF M1 s f = dfF M s f := by
  unfold dfF
  rw [w.1 10 (by decide) (by decide)]
theorem WrS.fcN {s' f' v : Int32} (w : WrS M M1 s' f' v) (h : 0 ≤ (M 8 0).toInt ∧ (M 8 0).toInt < 400) : fct M1 d s f = if s' = nI s ∧ (M 6 0).toInt ≤ d.toInt ∧ (f' = nI f ∨ (f' = -1 ∧ f = 0)) then v else fct M d s f := by
  unfold fct
  rw [w.df, (w.ne h).1]
  obtain ⟨a, b, c, e⟩ := w.new
  show (if hitF M1 d s f (nE M) then eV M1 (nE M) else fcF M1 d s f (dfF M s f) (nE M)) = _
  unfold hitF
  rw [a, b, c, e, fcF_congr (fun k hk => w.old (by omega))]
theorem WrS.cn {s' f' v : Int32} (w : WrS M M1 s' f' v) {k : Nat} (hk : k ≤ nE M) : cnL M1 k = cnL M k := cnL_congr (fun j hj => (w.old (by omega)).2.2.1)
theorem WrS.cn1 {s' f' v : Int32} (w : WrS M M1 s' f' v) : cnL M1 (nE M + 1) = if f' = -1 then cnL M (nE M) + 1 else cnL M (nE M) := by
  show (if eF M1 (nE M) = -1 then cnL M1 (nE M) + 1 else cnL M1 (nE M)) = _
  rw [w.new.2.2.1, w.cn (Nat.le_refl _)]
/-- what may be told -/
abbrev Ag (g : Nat → Int32) (f v : Int32) : Prop := if f.toInt = 0 then (g 3).toInt < v.toInt else if f.toInt = 3 then v.toInt < (g 0).toInt else if f.toInt = 5 then v.toInt ≤ (g 6).toInt else if f.toInt = 6 then (g 5).toInt ≤ v.toInt else True
theorem Gd.put {g g1 : Nat → Int32} {f v : Int32} (h : Gd g) (r : InR f v) (a : Ag g f v) (e : ∀ i, i < 11 → g1 i = if f = nI i then v else g i) : Gd g1 := by
  obtain ⟨h1, h2, h3⟩ := h
  obtain ⟨⟨r1, r2⟩, r3, r4⟩ := r
  have ef := cl_i r1
  have q : ∀ i, i < 11 → (f = nI i ↔ f.toInt = i) := fun i hi => ⟨fun e => by rw [e, nI_toInt (by omega)], fun e => ti_eq (by rw [e, nI_toInt (by omega)])⟩
  have e0 := e 0 (by decide)
  have e3 := e 3 (by decide)
  have e5 := e 5 (by decide)
  have e6 := e 6 (by decide)
  simp only [q 0 (by decide), q 3 (by decide), q 5 (by decide), q 6 (by decide)] at e0 e3 e5 e6
  unfold Ag at a
  refine ⟨fun i hi => ?_, ?_, ?_⟩
  · rw [e i hi]
    split
    · rename_i hf
      have := (q i hi).mp hf
      have ec : f.toNatClampNeg = i := by omega
      rw [ec] at r3 r4
      exact ⟨r3, r4⟩
    · exact h1 i hi
  · rw [e0, e3]
    by_cases f0 : f.toInt = 0
    · rw [if_pos f0] at a
      rw [if_neg (by omega), if_pos (by omega)]
      exact a
    · by_cases f3 : f.toInt = 3
      · rw [if_neg f0, if_pos f3] at a
        rw [if_pos (by omega), if_neg (by omega)]
        exact a
      · rw [if_neg (by omega), if_neg (by omega)]
        exact h2
  · rw [e5, e6]
    by_cases f5 : f.toInt = 5
    · rw [if_neg (by omega), if_neg (by omega), if_pos f5] at a
      rw [if_pos (by omega), if_neg (by omega)]
      exact a
    · by_cases f6 : f.toInt = 6
      · rw [if_neg (by omega), if_neg (by omega), if_neg (by omega), if_pos f6] at a
        rw [if_neg (by omega), if_pos (by omega)]
        exact a
      · rw [if_neg (by omega), if_neg (by omega)]
        exact h3
theorem BW.tell {s f v : Int32} (h : BW M) (w : WrS M M1 s f v) (he : (M 8 0).toInt < 400) (hs : 0 ≤ s.toInt ∧ s.toInt < (M 5 0).toInt) (r : InR f v) (a : Ag (fct M (M 6 0) s.toNatClampNeg) f v) : BW M1 := by
  obtain ⟨⟨h1, h2, h3, h4⟩, h5, h6, h7, h8⟩ := id h
  have w8 : 0 ≤ (M 8 0).toInt ∧ (M 8 0).toInt < 400 := ⟨h1.1, he⟩
  obtain ⟨n1, n2⟩ := w.ne w8
  have es := cl_i hs.1
  have e5 := cl_i h2.1
  have c5 : M1 5 = M 5 := w.1 5 (by decide) (by decide)
  have c6 : M1 6 = M 6 := w.1 6 (by decide) (by decide)
  have c7 : M1 7 = M 7 := w.1 7 (by decide) (by decide)
  have c10 : M1 10 = M 10 := w.1 10 (by decide) (by decide)
  have fn : f ≠ -1 := fun e => by
    have := r.1.1
    rw [e, ti_m1] at this
    omega
  have ns : nS M1 = nS M := by show (M1 5 0).toNatClampNeg = _; rw [c5]
  refine ⟨⟨by omega, by rw [c5]; exact h2, by rw [c6]; exact h3, by rw [c6, c7]; exact h4⟩, fun k hk => ?_, ?_, fun i hi => ?_, fun d i hi hd => ?_⟩
  · rw [c6]
    by_cases e : k = nE M
    · subst e
      obtain ⟨a1, a2, a3, a4⟩ := w.new
      refine ⟨Or.inr ?_, by rw [a1]; exact Int.le_refl _, fun j hj => ?_⟩
      · rw [a2, a3, w.cn (Nat.le_refl _), h6]
        exact ⟨r.1, hs.1, by show s.toInt < ((M 5 0).toNatClampNeg : Int); omega⟩
      · rw [a1, (w.old (by omega)).1]
        exact (h5 j hj).2.1
    · obtain ⟨a1, a2, a3⟩ := h5 k (by omega)
      obtain ⟨b1, b2, b3, b4⟩ := w.old e
      refine ⟨?_, by rw [b1]; exact a2, fun j hj => ?_⟩
      · unfold eOK
        rw [b1, b2, b3, w.cn (by omega)]
        show (_ ∧ _ ∧ M1 10 _ = _) ∨ _
        rw [c10]
        exact a1
      · rw [b1, (w.old (by omega)).1]
        exact a3 j hj
  · rw [n1, w.cn1, if_neg fn, h6, ns]
  · rw [ns] at hi
    show (M1 10 _).toInt ≤ (M1 6 0).toInt
    rw [c6, c10]
    exact h7 i hi
  · rw [ns] at hi
    have hd : (M1 10 (3 * i)).toInt ≤ d.toInt := hd
    rw [c10] at hd
    have g := h8 d i hi hd
    have hi9 : i < (M 5 0).toNatClampNeg := hi
    have iN : i < 1000 := by omega
    by_cases hq : s = nI i ∧ (M 6 0).toInt ≤ d.toInt
    · have ei : s.toNatClampNeg = i := by rw [hq.1]; exact nI_clamp (by omega)
      rw [ei] at a
      have la : fct M (M 6 0) i = fct M d i := by
        funext f
        exact h.late hq.2 (Int.le_refl _)
      rw [la] at a
      refine g.put r a (fun j _ => ?_)
      rw [w.fcN w8]
      by_cases hf : f = nI j
      · rw [if_pos ⟨hq.1, hq.2, Or.inl hf⟩, if_pos hf]
      · rw [if_neg (fun q => q.2.2.elim hf (fun q => fn q.1)), if_neg hf]
    · have : fct M1 d i = fct M d i := by
        funext j
        rw [w.fcN w8, if_neg (fun q => hq ⟨q.1, q.2.1⟩)]
      rw [this]
      exact g
end BKs
end
section
/-! the book of both sides -/
def LsS (M M1 : Sl) (w st tw : Int32) : Prop := ∃ M7 : Sl, (∀ c, c ≠ 5 → c ≠ 10 → M7 c = M c) ∧ M7 5 0 = M 5 0 + 1 ∧ (∀ j, M7 10 j = if j = 3 * nS M then M 6 0 else if j = 3 * nS M + 1 then st else if j = 3 * nS M + 2 then tw else M 10 j) ∧ WrS M7 M1 (M 5 0) (-1) w
theorem Gd.ls {w st tw : Int32} (h : LsOK w st tw) : Gd (fun i => lsF i w st tw) := by
  refine ⟨fun f hf => ?_, ?_, ?_⟩
  · match f, hf with
    | 0, _ => exact h.1
    | 1, _ => exact h.2.1
    | 2, _ => show (0 : Int) ≤ (0 : Int32).toInt ∧ (0 : Int32).toInt ≤ 3; decide
    | 3, _ => show (0 : Int) ≤ (0 : Int32).toInt ∧ (0 : Int32).toInt ≤ 2000; decide
    | 4, _ => exact h.2.2
    | 5, _ => show (-3000 : Int) ≤ (-3000 : Int32).toInt ∧ (-3000 : Int32).toInt ≤ 1900; decide
    | 6, _ => show (-3000 : Int) ≤ (1900 : Int32).toInt ∧ (1900 : Int32).toInt ≤ 1900; decide
    | 7, _ => show (0 : Int) ≤ (0 : Int32).toInt ∧ (0 : Int32).toInt ≤ 60; decide
    | 8, _ => show (0 : Int) ≤ (0 : Int32).toInt ∧ (0 : Int32).toInt ≤ 9; decide
    | 9, _ => show (0 : Int) ≤ (1 : Int32).toInt ∧ (1 : Int32).toInt ≤ 1; decide
    | 10, _ => show (0 : Int) ≤ (0 : Int32).toInt ∧ (0 : Int32).toInt ≤ 8; decide
    | n + 11, h => omega
  · show (0 : Int32).toInt < w.toInt
    rw [ti_0]
    have := h.1.1
    omega
  · show (-3000 : Int32).toInt ≤ (1900 : Int32).toInt
    decide
section BK2
variable {M M1 : Sl} {d : Int32}
theorem LsS.all {w st tw : Int32} (h : BW M) (l : LsS M M1 w st tw) (he : (M 8 0).toInt < 400) (hs : (M 5 0).toInt < 32) : (∀ c, c ≠ 5 → c ≠ 8 → c ≠ 9 → c ≠ 10 → M1 c = M c) ∧ (nS M1 = nS M + 1 ∧ (M1 5 0).toInt = (M 5 0).toInt + 1 ∧ M 5 0 = nI (nS M)) ∧ (nE M1 = nE M + 1 ∧ M1 8 0 = M 8 0 + 1 ∧ (M1 8 0).toInt = (M 8 0).toInt + 1) ∧ (∀ j, M1 10 j = if j = 3 * nS M then M 6 0 else if j = 3 * nS M + 1 then st else if j = 3 * nS M + 2 then tw else M 10 j) ∧ (∀ k, k ≠ nE M → eD M1 k = eD M k ∧ eS M1 k = eS M k ∧ eF M1 k = eF M k ∧ eV M1 k = eV M k) ∧ (eD M1 (nE M) = M 6 0 ∧ eS M1 (nE M) = M 5 0 ∧ eF M1 (nE M) = -1 ∧ eV M1 (nE M) = w) ∧ (∀ d i f, i < nS M → fct M1 d i f = fct M d i f) ∧ ∀ d f, (M 6 0).toInt ≤ d.toInt → f < 11 → fct M1 d (nS M) f = lsF f w st tw := by
  obtain ⟨⟨h1, h2, h3, h4⟩, h5, h6, h7, h8⟩ := id h
  obtain ⟨M7, k1, k2, k3, wr⟩ := l
  have k8 : M7 8 = M 8 := k1 8 (by decide) (by decide)
  have k9 : M7 9 = M 9 := k1 9 (by decide) (by decide)
  have k6 : M7 6 = M 6 := k1 6 (by decide) (by decide)
  have n7 : nE M7 = nE M := by show (M7 8 0).toNatClampNeg = _; rw [k8]
  have w8 : 0 ≤ (M7 8 0).toInt ∧ (M7 8 0).toInt < 400 := by rw [k8]; exact ⟨h1.1, he⟩
  obtain ⟨n1, n2⟩ := wr.ne w8
  have c5 : M1 5 = M7 5 := wr.1 5 (by decide) (by decide)
  have c10 : M1 10 = M7 10 := wr.1 10 (by decide) (by decide)
  have e5 := cl_i h2.1
  have m5 : (M7 5 0).toInt = (M 5 0).toInt + 1 := by rw [k2]; exact ti_add rfl ti_1 (by omega) (by omega)
  have e57 := cl_i (x := M7 5 0) (by omega)
  have nv : M 5 0 = nI (nS M) := nI_val h2.1
  have o7 : ∀ k, eD M7 k = eD M k ∧ eS M7 k = eS M k ∧ eF M7 k = eF M k ∧ eV M7 k = eV M k := fun k => by
    show M7 9 _ = M 9 _ ∧ M7 9 _ = M 9 _ ∧ M7 9 _ = M 9 _ ∧ M7 9 _ = M 9 _
    rw [k9]
    exact ⟨rfl, rfl, rfl, rfl⟩
  have nN : nS M < 1000 := by show (M 5 0).toNatClampNeg < 1000; omega
  refine ⟨fun c a b c' d => by rw [wr.1 c b c', k1 c a d], ⟨?_, by rw [c5]; exact m5, nv⟩, ⟨by rw [n1, n7], by rw [wr.2.1, k8], by rw [n2, k8]⟩, fun j => by rw [c10, k3], fun k hk => ?_, ?_, fun d i f hi => ?_, fun d f hd hf => ?_⟩
  · show (M1 5 0).toNatClampNeg = (M 5 0).toNatClampNeg + 1
    rw [c5]
    omega
  · obtain ⟨a1, a2, a3, a4⟩ := wr.old (k := k) (by rw [n7]; exact hk)
    obtain ⟨b1, b2, b3, b4⟩ := o7 k
    exact ⟨a1.trans b1, a2.trans b2, a3.trans b3, a4.trans b4⟩
  · have a := wr.new
    rw [n7, k6] at a
    exact a
  · rw [wr.fcN w8, if_neg]
    · refine fct_congr (by rw [k8]) (fun k _ => o7 k) ?_
      have y1 : M7 10 (3 * i + 1) = M 10 (3 * i + 1) := by rw [k3, if_neg (by omega), if_neg (by omega), if_neg (by omega)]
      have y2 : M7 10 (3 * i + 2) = M 10 (3 * i + 2) := by rw [k3, if_neg (by omega), if_neg (by omega), if_neg (by omega)]
      unfold dfF
      rw [y1, y2]
    · rintro ⟨q, -⟩
      rw [nv, nI_eq (by omega) (by omega)] at q
      omega
  · have f7 : fct M7 d (nS M) f = dfF M7 (nS M) f := by
      unfold fct
      rw [n7]
      refine fcF_new nN (fun k hk => ?_) ?_
      · unfold eOK
        obtain ⟨b1, b2, b3, b4⟩ := o7 k
        have cn : cnL M7 k = cnL M k := cnL_congr (fun j _ => (o7 j).2.2.1)
        rw [b1, b2, b3, cn]
        rcases (h5 k hk).1 with ⟨a, b, c⟩ | a
        · refine Or.inl ⟨a, b, ?_⟩
          have hl := cnL_lt (n := nE M) hk a
          show M7 10 (3 * cnL M k) = _
          rw [k3, if_neg (by omega), if_neg (by omega), if_neg (by omega)]
          exact c
        · exact Or.inr a
      · rw [cnL_congr (fun j _ => (o7 j).2.2.1), h6]
        exact Nat.le_refl _
    rw [wr.fcN w8, k6, f7]
    have d7 : dfF M7 (nS M) f = if f = 1 then st else if f = 4 then tw else if f = 5 then -3000 else if f = 6 then 1900 else if f = 9 then 1 else 0 := by
      have y1 : M7 10 (3 * nS M + 1) = st := by rw [k3, if_neg (by omega), if_pos rfl]
      have y2 : M7 10 (3 * nS M + 2) = tw := by rw [k3, if_neg (by omega), if_neg (by omega), if_pos rfl]
      unfold dfF
      rw [y1, y2]
    rw [d7]
    have n1 : ¬ (-1 : Int32) = nI f := fun e => by
      have : (-1 : Int32).toInt = (nI f).toInt := by rw [e]
      rw [ti_m1, nI_toInt (by omega)] at this
      omega
    unfold lsF
    by_cases f0 : f = 0
    · rw [if_pos ⟨nv, hd, Or.inr ⟨rfl, f0⟩⟩, if_pos f0]
    · rw [if_neg (fun q => q.2.2.elim n1 (fun q => f0 q.2)), if_neg f0]
theorem BW.stone {w st tw : Int32} (h : BW M) (l : LsS M M1 w st tw) (he : (M 8 0).toInt < 400) (hs : (M 5 0).toInt < 32) (ok : LsOK w st tw) : BW M1 := by
  obtain ⟨a1, ⟨a2, a3, nv⟩, ⟨a4, a5, a6⟩, a7, a8, ⟨a9, b1, b2, b3⟩, b4, b5⟩ := l.all h he hs
  obtain ⟨⟨h1, h2, h3, h4⟩, h5, h6, h7, h8⟩ := id h
  have c6 : M1 6 = M 6 := a1 6 (by decide) (by decide) (by decide) (by decide)
  have c7 : M1 7 = M 7 := a1 7 (by decide) (by decide) (by decide) (by decide)
  have cn : ∀ k, k ≤ nE M → cnL M1 k = cnL M k := fun k hk => cnL_congr (fun j hj => (a8 j (by omega)).2.2.1)
  have lo : ∀ i, i < nS M → lD M1 i = lD M i := fun i hi => by
    show M1 10 _ = M 10 _
    rw [a7, if_neg (by omega), if_neg (by omega), if_neg (by omega)]
  have ln : lD M1 (nS M) = M 6 0 := by
    show M1 10 _ = _
    rw [a7, if_pos rfl]
  refine ⟨⟨by omega, by omega, by rw [c6]; exact h3, by rw [c6, c7]; exact h4⟩, fun k hk => ?_, ?_, fun i hi => ?_, fun d i hi hd => ?_⟩
  · rw [c6]
    by_cases e : k = nE M
    · subst e
      refine ⟨Or.inl ⟨b2, ?_, ?_⟩, by rw [a9]; exact Int.le_refl _, fun j hj => ?_⟩
      · rw [b1, cn _ (Nat.le_refl _), h6]
        exact nv
      · rw [cn _ (Nat.le_refl _), h6, ln, a9]
      · rw [a9, (a8 j (by omega)).1]
        exact (h5 j hj).2.1
    · obtain ⟨q1, q2, q3⟩ := h5 k (by omega)
      obtain ⟨p1, p2, p3, p4⟩ := a8 k e
      refine ⟨?_, by rw [p1]; exact q2, fun j hj => ?_⟩
      · unfold eOK
        rw [p1, p2, p3, cn k (by omega)]
        rcases q1 with ⟨a, b, c⟩ | a
        · have hl := cnL_lt (n := nE M) (by omega) a
          refine Or.inl ⟨a, b, ?_⟩
          rw [lo _ (by omega)]
          exact c
        · exact Or.inr a
      · rw [p1, (a8 j (by omega)).1]
        exact q3 j hj
  · rw [a4, a2]
    show (if eF M1 (nE M) = -1 then cnL M1 (nE M) + 1 else cnL M1 (nE M)) = _
    rw [if_pos b2, cn _ (Nat.le_refl _), h6]
  · rw [c6]
    by_cases e : i = nS M
    · rw [e, ln]
      exact Int.le_refl _
    · rw [lo i (by omega)]
      exact h7 i (by omega)
  · by_cases e : i = nS M
    · subst e
      rw [ln] at hd
      have g := Gd.ls ok
      obtain ⟨g1, g2, g3⟩ := g
      exact ⟨fun f hf => by rw [b5 d f hd hf]; exact g1 f hf, by rw [b5 d 3 hd (by decide), b5 d 0 hd (by decide)]; exact g2, by rw [b5 d 5 hd (by decide), b5 d 6 hd (by decide)]; exact g3⟩
    · rw [lo i (by omega)] at hd
      have : fct M1 d i = fct M d i := by
        funext f
        exact b4 d i f (by omega)
      rw [this]
      exact h8 d i (by omega) hd
theorem BW.day (h : BW M) (e : ∀ c, c ≠ 6 → M1 c = M c) (h6 : (M 6 0).toInt ≤ (M1 6 0).toInt) (h9 : (M1 6 0).toInt ≤ 9999) : BW M1 ∧ ∀ d s f, fct M1 d s f = fct M d s f := by
  obtain ⟨⟨h1, h2, h3, h4⟩, k5, k6, k7, k8⟩ := h
  have e5 : M1 5 = M 5 := e 5 (by decide)
  have e7 : M1 7 = M 7 := e 7 (by decide)
  have e8 : M1 8 = M 8 := e 8 (by decide)
  have e9 : M1 9 = M 9 := e 9 (by decide)
  have e10 : M1 10 = M 10 := e 10 (by decide)
  have ns : nS M1 = nS M := by show (M1 5 0).toNatClampNeg = _; rw [e5]
  have ne : nE M1 = nE M := by show (M1 8 0).toNatClampNeg = _; rw [e8]
  have o7 : ∀ k, eD M1 k = eD M k ∧ eS M1 k = eS M k ∧ eF M1 k = eF M k ∧ eV M1 k = eV M k := fun k => by
    show M1 9 _ = M 9 _ ∧ M1 9 _ = M 9 _ ∧ M1 9 _ = M 9 _ ∧ M1 9 _ = M 9 _
    rw [e9]
    exact ⟨rfl, rfl, rfl, rfl⟩
  have cn : ∀ k, cnL M1 k = cnL M k := fun k => cnL_congr (fun j _ => (o7 j).2.2.1)
  have fc : ∀ d s f, fct M1 d s f = fct M d s f := fun d s f => fct_congr (by rw [e8]) (fun k _ => o7 k) (by unfold dfF; rw [e10])
  have lo : ∀ i, lD M1 i = lD M i := fun i => by show M1 10 _ = M 10 _; rw [e10]
  refine ⟨⟨⟨by rw [e8]; exact h1, by rw [e5]; exact h2, by omega, ?_⟩, fun k hk => ?_, by rw [ne, ns, cn]; exact k6, fun s hs => ?_, fun d s hs hd => ?_⟩, fc⟩
  · rw [e7]
    rcases h4 with h4 | h4
    · exact Or.inl h4
    · exact Or.inr (by omega)
  · rw [ne] at hk
    obtain ⟨q1, q2, q3⟩ := k5 k hk
    refine ⟨?_, by rw [(o7 k).1]; omega, fun j hj => by rw [(o7 k).1, (o7 j).1]; exact q3 j hj⟩
    unfold eOK
    rw [(o7 k).1, (o7 k).2.1, (o7 k).2.2.1, cn, lo]
    exact q1
  · rw [ns] at hs
    have := k7 s hs
    rw [lo]
    omega
  · rw [ns] at hs
    rw [lo] at hd
    have : fct M1 d s = fct M d s := by
      funext f
      exact fc d s f
    rw [this]
    exact k8 d s hs hd
theorem BW.view (h : BW M) (e : ∀ c, c ≠ 7 → M1 c = M c) (h7 : M1 7 0 = -1 ∨ (0 ≤ (M1 7 0).toInt ∧ (M1 7 0).toInt ≤ (M 6 0).toInt)) : BW M1 ∧ ∀ d s f, fct M1 d s f = fct M d s f := by
  obtain ⟨⟨h1, h2, h3, h4⟩, k5, k6, k7, k8⟩ := h
  have e5 : M1 5 = M 5 := e 5 (by decide)
  have e6 : M1 6 = M 6 := e 6 (by decide)
  have e8 : M1 8 = M 8 := e 8 (by decide)
  have e9 : M1 9 = M 9 := e 9 (by decide)
  have e10 : M1 10 = M 10 := e 10 (by decide)
  have ns : nS M1 = nS M := by show (M1 5 0).toNatClampNeg = _; rw [e5]
  have ne : nE M1 = nE M := by show (M1 8 0).toNatClampNeg = _; rw [e8]
  have o7 : ∀ k, eD M1 k = eD M k ∧ eS M1 k = eS M k ∧ eF M1 k = eF M k ∧ eV M1 k = eV M k := fun k => by
    show M1 9 _ = M 9 _ ∧ M1 9 _ = M 9 _ ∧ M1 9 _ = M 9 _ ∧ M1 9 _ = M 9 _
    rw [e9]
    exact ⟨rfl, rfl, rfl, rfl⟩
  have cn : ∀ k, cnL M1 k = cnL M k := fun k => cnL_congr (fun j _ => (o7 j).2.2.1)
  have fc : ∀ d s f, fct M1 d s f = fct M d s f := fun d s f => fct_congr (by rw [e8]) (fun k _ => o7 k) (by unfold dfF; rw [e10])
  have lo : ∀ i, lD M1 i = lD M i := fun i => by show M1 10 _ = M 10 _; rw [e10]
  refine ⟨⟨⟨by rw [e8]; exact h1, by rw [e5]; exact h2, by rw [e6]; exact h3, by rw [e6]; exact h7⟩, fun k hk => ?_, by rw [ne, ns, cn]; exact k6, fun s hs => ?_, fun d s hs hd => ?_⟩, fc⟩
  · rw [ne] at hk
    obtain ⟨q1, q2, q3⟩ := k5 k hk
    refine ⟨?_, by rw [(o7 k).1, e6]; exact q2, fun j hj => by rw [(o7 k).1, (o7 j).1]; exact q3 j hj⟩
    unfold eOK
    rw [(o7 k).1, (o7 k).2.1, (o7 k).2.2.1, cn, lo]
    exact q1
  · rw [ns] at hs
    rw [lo, e6]
    exact k7 s hs
  · rw [ns] at hs
    rw [lo] at hd
    have : fct M1 d s = fct M d s := by
      funext f
      exact fc d s f
    rw [this]
    exact k8 d s hs hd
end BK2
/-- the class's book beside the reference's -/
def RBk (X M : Sl) : Prop := (X 1 8 = M 5 0 ∧ X 1 10 = M 8 0 ∧ X 1 11 = M 6 0 ∧ X 1 12 = M 7 0) ∧ (∀ k, k < 400 → X 6 k = eD M k ∧ X 7 k = eS M k ∧ X 8 k = eF M k ∧ X 9 k = eV M k) ∧ (∀ s, s < 32 → X 4 s = M 10 (3 * s + 1) ∧ X 5 s = M 10 (3 * s + 2)) ∧ BW M ∧ (0 ≤ (X 1 9).toInt ∧ (X 1 9).toInt ≤ (M 5 0).toInt) ∧ (∀ s : Nat, s < nS M → ((s : Int) < (X 1 9).toInt ↔ (lD M s).toInt ≤ (dvF M).toInt)) ∧ (∀ s f : Nat, s < nS M → f < 11 → X 2 (11 * s + f) = fct M (M 6 0) s f) ∧ ∀ s f : Nat, (s : Int) < (X 1 9).toInt → f < 11 → X 3 (11 * s + f) = fct M (dvF M) s f
theorem slX_arr {D : ADD} {o d n i : Nat} (hm : (d, true, n) ∈ cpL) (hi : i < n) : slX D o d i = D.1 (o + d) i := by
  have hd : ∀ s, s ∈ cpL → s.1 < 31 := by decide
  exact slX_at (hd _ hm) (List.any_eq_true.mpr ⟨_, hm, by simp [cpC, hi]⟩)
theorem slX_fld {D : ADD} {o d n : Nat} (hm : (d, false, n) ∈ cpL) : slX D o d n = D.1 (o + d) n := by
  have hd : ∀ s, s ∈ cpL → s.1 < 31 := by decide
  exact slX_at (hd _ hm) (List.any_eq_true.mpr ⟨_, hm, by simp [cpC]⟩)
abbrev xc (D : ADD) : Sl := fun d i => D.1 (1 + d) i
theorem RBk.cx {X X1 M : Sl} (h : RBk X M) (e1 : ∀ i, 8 ≤ i → i ≤ 12 → X1 1 i = X 1 i) (e2 : ∀ d i, (d = 2 ∨ d = 3) → i < 352 → X1 d i = X d i) (e3 : ∀ d i, (d = 4 ∨ d = 5) → i < 32 → X1 d i = X d i) (e4 : ∀ d i, 6 ≤ d → d ≤ 9 → i < 400 → X1 d i = X d i) : RBk X1 M := by
  obtain ⟨⟨a1, a2, a3, a4⟩, b, c, w, s, t, u, v⟩ := h
  have n5 : ((nS M : Nat) : Int) = (M 5 0).toInt := cl_i w.1.2.1.1
  have h32 := w.1.2.1.2
  refine ⟨⟨by rw [e1 8 (by decide) (by decide)]; exact a1, by rw [e1 10 (by decide) (by decide)]; exact a2, by rw [e1 11 (by decide) (by decide)]; exact a3, by rw [e1 12 (by decide) (by decide)]; exact a4⟩, fun k hk => ?_, fun i hi => ?_, w, by rw [e1 9 (by decide) (by decide)]; exact s, by rw [e1 9 (by decide) (by decide)]; exact t, fun i f hi hf => ?_, fun i f hi hf => ?_⟩
  · rw [e4 6 k (by decide) (by decide) hk, e4 7 k (by decide) (by decide) hk, e4 8 k (by decide) (by decide) hk, e4 9 k (by decide) (by decide) hk]
    exact b k hk
  · rw [e3 4 i (by decide) hi, e3 5 i (by decide) hi]
    exact c i hi
  · rw [e2 2 _ (by decide) (by omega)]
    exact u i f hi hf
  · rw [e1 9 (by decide) (by decide)] at hi
    rw [e2 3 _ (by decide) (by omega)]
    exact v i f hi hf
theorem RBk.to {D : ADD} {M : Sl} : RBk (slX D 1) M ↔ RBk (xc D) M := by
  have m1 : ∀ i, 8 ≤ i → i ≤ 12 → (1, false, i) ∈ cpL := by
    intro i a b
    have : i = 8 ∨ i = 9 ∨ i = 10 ∨ i = 11 ∨ i = 12 := by omega
    rcases this with rfl | rfl | rfl | rfl | rfl <;> decide
  have e1 : ∀ i, 8 ≤ i → i ≤ 12 → slX D 1 1 i = xc D 1 i := fun i a b => slX_fld (m1 i a b)
  have e2 : ∀ d i, (d = 2 ∨ d = 3) → i < 352 → slX D 1 d i = xc D d i := fun d i a b => by
    rcases a with rfl | rfl <;> exact slX_arr (n := 352) (by decide) b
  have e3 : ∀ d i, (d = 4 ∨ d = 5) → i < 32 → slX D 1 d i = xc D d i := fun d i a b => by
    rcases a with rfl | rfl <;> exact slX_arr (n := 32) (by decide) b
  have e4 : ∀ d i, 6 ≤ d → d ≤ 9 → i < 400 → slX D 1 d i = xc D d i := fun d i a b c => by
    have : d = 6 ∨ d = 7 ∨ d = 8 ∨ d = 9 := by omega
    rcases this with rfl | rfl | rfl | rfl <;> exact slX_arr (n := 400) (by decide) c
  exact ⟨fun h => h.cx (fun i a b => (e1 i a b).symm) (fun d i a b => (e2 d i a b).symm) (fun d i a b => (e3 d i a b).symm) (fun d i a b c => (e4 d i a b c).symm), fun h => h.cx e1 e2 e3 e4⟩
end
