section
/-! the reference: the other calls that change it -/
section MT
variable {D : ADD}
theorem QMs.si {c i : Nat} {v : Int32} (h : QMs D) (hc : c ≠ 2 ∧ c ≠ 5 ∧ c ≠ 8 ∧ c ≠ 9 ∧ c ≠ 15 ∧ c ≠ 16 ∧ c ≠ 23) : QMs (aSI D c i v) := by
  have g : ∀ k, k ≠ c → (aSI D c i v).1 k = D.1 k := fun k hk => by
    funext z
    simp [aSI, hk]
  refine ⟨fun t ht => ?_, ?_⟩
  · unfold QMt
    rw [g 5 (by omega), g 8 (by omega), g 9 (by omega), g 15 (by omega), g 16 (by omega), g 2 (by omega)]
    exact h.1 t ht
  · unfold TM
    rw [g 23 (by omega)]
    exact h.2
theorem si_o {D : ADD} {c i : Nat} {v : Int32} {k : Nat} (hk : k ≠ c) : (aSI D c i v).1 k = D.1 k := by
  funext z
  simp [aSI, hk]
theorem si_s {D : ADD} {c i j : Nat} {v : Int32} : (aSI D c i v).1 c j = if j = i then v else D.1 c j := by simp [aSI]
/-- the reference's day -/
theorem sM_day {a : Int32} (h : QMs D) : Wp (fX11_day a D) (fun r D1 => QMs D1 ∧ D1.1 2 = D.1 2 ∧ D1.1 39 = D.1 39 ∧ (r = if (D.1 6 0).toInt ≤ a.toInt ∧ a.toInt ≤ 9999 then 1 else 0) ∧ ∀ i, D1.1 6 i = if i = 0 ∧ (D.1 6 0).toInt ≤ a.toInt ∧ a.toInt ≤ 9999 then a else D.1 6 i) := by
  unfold fX11_day
  have f1 : FmM D (aSI D 0 0 0) := FmM.code
  have h1 := h.fm f1
  have e9 : (9999 : Int32).toInt = 9999 := by decide
  refine Wp.lets (Wp.idd (by decide) (Wp.bindE (eM_is _ _ _ _) ?_))
  rw [cl_0, f1 6 (by omega), e9]
  by_cases hc : (D.1 6 0).toInt ≤ a.toInt ∧ a.toInt ≤ 9999
  · rw [if_pos hc]
    refine Wp.neg (by decide) (Wp.idd (by decide) (Wp.lets (Wp.ret ⟨h1.si (by decide), by rw [si_o (by decide), f1 2 (by omega)], by rw [si_o (by decide), f1 39 (by omega)], rfl, fun i => ?_⟩)))
    rw [si_s, f1 6 (by omega)]
    by_cases hi : i = 0
    · rw [if_pos hi, if_pos ⟨hi, hc⟩]
    · rw [if_neg hi, if_neg (fun q => hi q.1)]
  · rw [if_neg hc]
    refine Wp.pos rfl (Wp.ret ⟨h1, f1 2 (by omega), f1 39 (by omega), rfl, fun i => ?_⟩)
    rw [if_neg (fun q => hc q.2), f1 6 (by omega)]
theorem sM_view {a : Int32} (h : QMs D) : Wp (fX11_view a D) (fun r D1 => QMs D1 ∧ KM D D1 ∧ r = if -1 ≤ a.toInt ∧ a.toInt ≤ (D.1 6 0).toInt then 1 else 0) := by
  unfold fX11_view
  have f1 : FmM D (aSI D 0 0 0) := FmM.code
  have h1 := h.fm f1
  refine Wp.lets (Wp.idd (by decide) (Wp.bindE (eM_is _ _ _ _) ?_))
  rw [cl_0, f1 6 (by omega), ti_m1]
  by_cases hc : -1 ≤ a.toInt ∧ a.toInt ≤ (D.1 6 0).toInt
  · rw [if_pos hc]
    exact Wp.neg (by decide) (Wp.idd (by decide) (Wp.lets (Wp.ret ⟨h1.si (by decide), ⟨by rw [si_o (by decide), f1 2 (by omega)], by rw [si_o (by decide), f1 6 (by omega)], by rw [si_o (by decide), f1 39 (by omega)]⟩, rfl⟩)))
  · rw [if_neg hc]
    exact Wp.pos rfl (Wp.ret ⟨h1, f1.km, rfl⟩)
theorem len_now {D1 : ADD} (h : QMs D) (f : ∀ c, c ≠ 0 → c ≠ 1 → c ≠ 2 → D1.1 c = D.1 c) (g : ∀ i, i ≠ 0 → D1.1 2 i = D.1 2 i) (l : 0 ≤ (D1.1 2 0).toInt ∧ (D1.1 2 0).toInt ≤ 500) : QMs D1 := by
  have q := h.qm
  refine h.now (fun c i hc hi => ?_) ?_ l ?_
  · by_cases c2 : c = 2
    · subst c2
      have s2 : szM 2 = 1 := rfl
      rw [g i (by omega)]
    · rw [f c (by omega) (by omega) c2]
  · unfold QM
    rw [f 5 (by decide) (by decide) (by decide), f 8 (by decide) (by decide) (by decide), f 9 (by decide) (by decide) (by decide), f 15 (by decide) (by decide) (by decide), f 16 (by decide) (by decide) (by decide)]
    exact q
  · unfold TM
    rw [f 23 (by decide) (by decide) (by decide)]
    exact h.2
/-- five times four bytes -/
theorem tM_feed {a b c d e : Int32} {n : Nat} (h0 : (D.1 2 0).toInt = n) (h1 : n ≤ 500) : Wp (fX11_feed a b c d e D) (fun r D1 => (∀ c, c ≠ 0 → c ≠ 1 → c ≠ 2 → D1.1 c = D.1 c) ∧ (∀ i, i ≠ 0 → D1.1 2 i = D.1 2 i) ∧ if n + 20 ≤ 500 then r.toInt = ((n + 20 : Nat) : Int) ∧ r = D1.1 2 0 else r = -1 ∧ D1.1 2 0 = D.1 2 0) := by
  unfold fX11_feed
  refine Wp.leti (fun D1 e1 => Wp.idd (by decide) ?_)
  have g1 : ∀ c, c ≠ 0 → D1.1 c = D.1 c := fun c hc => by rw [e1]; exact si_o hc
  rw [cl_0, g1 2 (by decide)]
  have e20 : (D.1 2 0 + 20).toInt = (n : Int) + 20 := ti_add h0 (by decide) (by omega) (by omega)
  have e5 : (500 : Int32).toInt = 500 := by decide
  refine Wp.ile (fun hl => ?_) (fun hl => Wp.ret ⟨fun c a _ _ => g1 c a, fun i _ => by rw [g1 2 (by decide)], ?_⟩)
  · have F : ∀ (x : Int32) (E : ADD) (m : Nat), (E.1 2 0).toInt = m → m + 4 ≤ 500 → Wp (fX11_four x E) (fun _ E1 => (∀ c, c ≠ 1 → c ≠ 2 → E1.1 c = E.1 c) ∧ (∀ i, i ≠ 0 → E1.1 2 i = E.1 2 i) ∧ (E1.1 2 0).toInt = ((m + 4 : Nat) : Int)) := fun x E m hm hm4 => by
      refine (tM_four (by omega) (by omega)).mono (fun _ E1 q => ⟨q.1, q.2.2.1, ?_⟩)
      have := q.2.2.2.1
      omega
    have z1 : (D1.1 2 0).toInt = n := by rw [g1 2 (by decide)]; exact h0
    refine Wp.bind (F a D1 n z1 (by omega)) (fun _ D2 q2 => Wp.bind (F b D2 (n + 4) q2.2.2 (by omega)) (fun _ D3 q3 => Wp.bind (F c D3 (n + 4 + 4) q3.2.2 (by omega)) (fun _ D4 q4 => Wp.bind (F d D4 (n + 4 + 4 + 4) q4.2.2 (by omega)) (fun _ D5 q5 => Wp.bind (F e D5 (n + 4 + 4 + 4 + 4) q5.2.2 (by omega)) (fun _ D6 q6 => Wp.idd (by decide) (Wp.ret ⟨fun c a b d => ?_, fun i hi => ?_, ?_⟩))))))
    · rw [q6.1 c b d, q5.1 c b d, q4.1 c b d, q3.1 c b d, q2.1 c b d, g1 c a]
    · rw [q6.2.1 i hi, q5.2.1 i hi, q4.2.1 i hi, q3.2.1 i hi, q2.2.1 i hi, g1 2 (by decide)]
    · rw [if_pos (by omega)]
      exact ⟨by have := q6.2.2; omega, rfl⟩
  · rw [if_neg (by omega)]
    exact ⟨rfl, by rw [g1 2 (by decide)]⟩
theorem sM_feed {a b c d e : Int32} (h : QMs D) : Wp (fX11_feed a b c d e D) (fun r D1 => QMs D1 ∧ D1.1 6 = D.1 6 ∧ D1.1 39 = D.1 39 ∧ (∀ i, i ≠ 0 → D1.1 2 i = D.1 2 i) ∧ if (D.1 2 0).toInt + 20 ≤ 500 then r.toInt = (D.1 2 0).toInt + 20 ∧ r = D1.1 2 0 else r = -1 ∧ D1.1 2 0 = D.1 2 0) := by
  have l := h.len
  have el := cl_i l.1
  refine (tM_feed (n := (D.1 2 0).toNatClampNeg) (by omega) (by omega)).mono (fun r D1 q => ?_)
  obtain ⟨q1, q2, q3⟩ := q
  by_cases hc : (D.1 2 0).toInt + 20 ≤ 500
  · rw [if_pos (by omega)] at q3
    refine ⟨len_now h q1 q2 (by rw [← q3.2]; omega), q1 6 (by decide) (by decide) (by decide), q1 39 (by decide) (by decide) (by decide), q2, ?_⟩
    rw [if_pos hc]
    exact ⟨by omega, q3.2⟩
  · rw [if_neg (by omega)] at q3
    refine ⟨len_now h q1 q2 (by rw [q3.2]; exact l), q1 6 (by decide) (by decide) (by decide), q1 39 (by decide) (by decide) (by decide), q2, ?_⟩
    rw [if_neg hc]
    exact q3
theorem sM_end {a : Int32} (h : QMs D) : Wp (fX11_end a D) (fun r D1 => QMs D1 ∧ D1.1 6 = D.1 6 ∧ D1.1 39 = D.1 39 ∧ (∀ i, i ≠ 0 → D1.1 2 i = D.1 2 i) ∧ if 0 ≤ a.toInt ∧ a.toInt ≤ (D.1 2 0).toInt then r = a ∧ D1.1 2 0 = a else r = -1 ∧ D1.1 2 0 = D.1 2 0) := by
  unfold fX11_end
  have l := h.len
  have f1 : FmM D (aSI D 0 0 0) := FmM.code
  have h1 := h.fm f1
  refine Wp.lets (Wp.idd (by decide) (Wp.bindE (eM_is _ _ _ _) ?_))
  generalize aSI D 0 0 0 = D1 at f1 h1 ⊢
  rw [cl_0, f1 2 (by omega), ti_0]
  by_cases hc : 0 ≤ a.toInt ∧ a.toInt ≤ (D.1 2 0).toInt
  · rw [if_pos hc]
    refine Wp.neg (by decide) (Wp.idd (by decide) (Wp.leti (fun D3 e3 => Wp.ret ?_)))
    have g0 : D3.1 2 0 = a := by rw [e3, si_s]; rfl
    have gi : ∀ i, i ≠ 0 → D3.1 2 i = D1.1 2 i := fun i hi => by rw [e3, si_s, if_neg hi]
    have gc : ∀ c, c ≠ 2 → D3.1 c = D1.1 c := fun c hc => by rw [e3]; exact si_o hc
    refine ⟨len_now h1 (fun c _ _ b => gc c b) gi (by rw [g0]; omega), by rw [gc 6 (by decide), f1 6 (by omega)], by rw [gc 39 (by decide), f1 39 (by omega)], fun i hi => by rw [gi i hi, f1 2 (by omega)], ?_⟩
    rw [if_pos hc]
    exact ⟨rfl, g0⟩
  · rw [if_neg hc]
    refine Wp.pos rfl (Wp.ret ⟨h1, f1 6 (by omega), f1 39 (by omega), fun i _ => by rw [f1 2 (by omega)], ?_⟩)
    rw [if_neg hc]
    exact ⟨rfl, by rw [f1 2 (by omega)]⟩
theorem sM_text {a : Int32} (h : QMs D) : Wp (fX11_text a D) (fun _ D1 => QMs D1 ∧ D1.1 6 = D.1 6 ∧ D1.1 39 = D.1 39 ∧ ∀ i, D1.1 2 i = if i = 0 then 0 else D.1 2 i) := by
  have q := h.qm
  refine (oM_text q h.2 h.len).mono (fun _ D1 x => ?_)
  obtain ⟨x1, x2, x3, x4, x5, x6, x7, x8⟩ := x
  have s2 : szM 2 = 1 := rfl
  have s15 : szM 15 = 2 := rfl
  have s16 : szM 16 = 32 := rfl
  refine ⟨h.now (fun c i hc hi => ?_) ⟨by rw [x1 5 (by omega)]; exact q.1, by rw [x1 8 (by omega)]; exact q.2.1, by rw [x1 8 (by omega), x1 9 (by omega)]; exact q.2.2.1, x6, x7⟩ (by rw [x3]; decide) x8, x1 6 (by omega), x1 39 (by omega), fun i => ?_⟩
  · by_cases c2 : c = 2
    · subst c2
      exact x2 2 (by decide) (by decide) i (by omega)
    · by_cases c15 : c = 15
      · subst c15
        exact x4 i (by omega)
      · by_cases c16 : c = 16
        · subst c16
          exact x5 i (by omega)
        · rw [x1 c (by omega)]
  · by_cases hi : i = 0
    · rw [if_pos hi, hi, x3]
    · rw [if_neg hi, x2 2 (by decide) (by decide) i hi]
theorem sM_choose {a b y z m : Int32} (h : QMs D) : Wp (fX11_choose a b y z m D) (fun r D1 => QMs D1 ∧ KM D D1 ∧ r = if ChOK y z m then 1 else 0) := by
  refine (tM_choose (E := D)).mono (fun r D1 k => ?_)
  by_cases hc : ChOK y z m
  · rw [if_pos hc] at k
    obtain ⟨k1, k2, -⟩ := k
    have g : ∀ c, c ≠ 0 → c ≠ 11 → c ≠ 12 → c ≠ 13 → c ≠ 14 → D1.1 c = D.1 c := k2
    refine ⟨⟨fun t ht => ?_, ?_⟩, ⟨g 2 (by decide) (by decide) (by decide) (by decide) (by decide), g 6 (by decide) (by decide) (by decide) (by decide) (by decide), g 39 (by decide) (by decide) (by decide) (by decide) (by decide)⟩, by rw [if_pos hc]; exact k1⟩
    · unfold QMt
      rw [g 5 (by decide) (by decide) (by decide) (by decide) (by decide), g 8 (by decide) (by decide) (by decide) (by decide) (by decide), g 9 (by decide) (by decide) (by decide) (by decide) (by decide), g 15 (by decide) (by decide) (by decide) (by decide) (by decide), g 16 (by decide) (by decide) (by decide) (by decide) (by decide), g 2 (by decide) (by decide) (by decide) (by decide) (by decide)]
      exact h.1 t ht
    · unfold TM
      rw [g 23 (by decide) (by decide) (by decide) (by decide) (by decide)]
      exact h.2
  · rw [if_neg hc] at k
    exact ⟨h.fm k.2.fm, k.2.fm.km, by rw [if_neg hc]; exact k.1⟩
/-- a copy of one slot to another -/
theorem CpT.qs {D1 : ADD} {f t : Nat} (h : QMs D) (hf : f < 4) (ht : t < 4) (k : CpT D D1 f t 23) : QMs D1 ∧ (∀ i, i < 4 → D1.1 2 i = if i = t then D.1 2 f else D.1 2 i) ∧ ∀ i, i < 4 → D1.1 6 i = if i = t then D.1 6 f else D.1 6 i := by
  obtain ⟨k1, k2, k3, k4⟩ := k
  have s1 : ∀ c, szM c = 1 → 2 ≤ c → c < 23 → ∀ i, i < 4 → D1.1 c i = if i = t then D.1 c f else D.1 c i := by
    intro c hs c2 c23 i hi
    rw [k4 c c2 c23 i, hs]
    by_cases e : i = t
    · rw [if_pos (by omega), if_pos e]
      have : i - 1 * t + 1 * f = f := by omega
      rw [this]
    · rw [if_neg (by omega), if_neg e]
  have e2 := s1 2 rfl (by decide) (by decide)
  have e5 := s1 5 rfl (by decide) (by decide)
  have e8 := s1 8 rfl (by decide) (by decide)
  have e9 : ∀ i j, i < 4 → j < 1600 → D1.1 9 (1600 * i + j) = if i = t then D.1 9 (1600 * f + j) else D.1 9 (1600 * i + j) := by
    intro i j hi hj
    have s : szM 9 = 1600 := rfl
    rw [k4 9 (by decide) (by decide), s]
    by_cases e : i = t
    · rw [if_pos (by omega), if_pos e]
      have : 1600 * i + j - 1600 * t + 1600 * f = 1600 * f + j := by omega
      rw [this]
    · rw [if_neg (by omega), if_neg e]
  have e15 : ∀ i j, i < 4 → j < 2 → D1.1 15 (2 * i + j) = if i = t then D.1 15 (2 * f + j) else D.1 15 (2 * i + j) := by
    intro i j hi hj
    have s : szM 15 = 2 := rfl
    rw [k4 15 (by decide) (by decide), s]
    by_cases e : i = t
    · rw [if_pos (by omega), if_pos e]
      have : 2 * i + j - 2 * t + 2 * f = 2 * f + j := by omega
      rw [this]
    · rw [if_neg (by omega), if_neg e]
  have e16 : ∀ i j, i < 4 → j < 32 → D1.1 16 (32 * i + j) = if i = t then D.1 16 (32 * f + j) else D.1 16 (32 * i + j) := by
    intro i j hi hj
    have s : szM 16 = 32 := rfl
    rw [k4 16 (by decide) (by decide), s]
    by_cases e : i = t
    · rw [if_pos (by omega), if_pos e]
      have : 32 * i + j - 32 * t + 32 * f = 32 * f + j := by omega
      rw [this]
    · rw [if_neg (by omega), if_neg e]
  refine ⟨⟨fun i hi => ?_, ?_⟩, e2, s1 6 rfl (by decide) (by decide)⟩
  · by_cases e : i = t
    · obtain ⟨q1, q2, q3, q4, q5, q6⟩ := h.1 f hf
      refine ⟨by rw [e5 i hi, if_pos e]; exact q1, by rw [e8 i hi, if_pos e]; exact q2, fun k hk => ?_, ?_, fun l hl => by rw [e16 i l hi hl, if_pos e]; exact q5 l hl, by rw [e2 i hi, if_pos e]; exact q6⟩
      · rw [e8 i hi, if_pos e] at hk
        rw [e9 i _ hi (by omega), e9 i _ hi (by omega), if_pos e, if_pos e]
        exact q3 k hk
      · have a0 := e15 i 0 hi (by decide)
        rw [if_pos e] at a0
        rw [e15 i 1 hi (by decide), if_pos e]
        exact ⟨by rw [show 2 * i = 2 * i + 0 from rfl, a0]; exact q4.1, q4.2⟩
    · obtain ⟨q1, q2, q3, q4, q5, q6⟩ := h.1 i hi
      refine ⟨by rw [e5 i hi, if_neg e]; exact q1, by rw [e8 i hi, if_neg e]; exact q2, fun k hk => ?_, ?_, fun l hl => by rw [e16 i l hi hl, if_neg e]; exact q5 l hl, by rw [e2 i hi, if_neg e]; exact q6⟩
      · rw [e8 i hi, if_neg e] at hk
        rw [e9 i _ hi (by omega), e9 i _ hi (by omega), if_neg e, if_neg e]
        exact q3 k hk
      · have a0 := e15 i 0 hi (by decide)
        rw [if_neg e] at a0
        rw [e15 i 1 hi (by decide), if_neg e]
        exact ⟨by rw [show 2 * i = 2 * i + 0 from rfl, a0]; exact q4.1, q4.2⟩
  · unfold TM
    rw [k1 23 (by omega)]
    exact h.2
theorem sM_image {a : Int32} (h : QMs D) : Wp (fX11_image a D) (fun r D1 => QMs D1 ∧ if 0 ≤ a.toInt ∧ a.toInt ≤ 2 then r = 1 ∧ (∀ i, D1.1 39 i = if i = a.toNatClampNeg then 1 else D.1 39 i) ∧ (∀ i, i < 4 → D1.1 2 i = if i = a.toNatClampNeg + 1 then D.1 2 0 else D.1 2 i) ∧ ∀ i, i < 4 → D1.1 6 i = if i = a.toNatClampNeg + 1 then D.1 6 0 else D.1 6 i else r = 0 ∧ KM D D1) := by
  unfold fX11_image
  have f1 : FmM D (aSI D 0 0 0) := FmM.code
  have h1 := h.fm f1
  have L2 : (2 : Int32).toInt = 2 := by decide
  refine Wp.lets (Wp.bindE (eM_is _ _ _ _) ?_)
  rw [ti_0, L2]
  by_cases hc : 0 ≤ a.toInt ∧ a.toInt ≤ 2
  · rw [if_pos hc]
    have e1 : (a + 1).toInt = a.toInt + 1 := ti_add rfl (by decide) (by omega) (by omega)
    have ec := cl_i hc.1
    refine Wp.neg (by decide) (Wp.bind (tM_copy (f := 0) (t := a.toNatClampNeg + 1) (by decide) (by omega) (by omega) (by omega) (by omega)) (fun _ D3 k => Wp.idx (i_in (by omega) (by omega)) (Wp.lets (Wp.ret ?_))))
    obtain ⟨k1, k2, k3⟩ := CpT.qs h1 (by decide) (by omega) k
    refine ⟨k1.si (by decide), ?_⟩
    rw [if_pos hc]
    refine ⟨rfl, fun i => ?_, fun i hi => ?_, fun i hi => ?_⟩
    · rw [si_s, k.1 39 (by omega), f1 39 (by omega)]
    · rw [si_o (by decide), k2 i hi, f1 2 (by omega)]
    · rw [si_o (by decide), k3 i hi, f1 6 (by omega)]
  · rw [if_neg hc]
    refine Wp.pos rfl (Wp.ret ⟨h1, ?_⟩)
    rw [if_neg hc]
    exact ⟨rfl, f1.km⟩
theorem sM_again {a : Int32} (h : QMs D) : Wp (fX11_again a D) (fun r D1 => QMs D1 ∧ D1.1 39 = D.1 39 ∧ if (0 ≤ a.toInt ∧ a.toInt ≤ 2) ∧ aBz (D.1 39 a.toNatClampNeg) ≠ 0 then r = 1 ∧ (∀ i, i < 4 → D1.1 2 i = if i = 0 then D.1 2 (a.toNatClampNeg + 1) else D.1 2 i) ∧ ∀ i, i < 4 → D1.1 6 i = if i = 0 then D.1 6 (a.toNatClampNeg + 1) else D.1 6 i else r = 0 ∧ KM D D1) := by
  unfold fX11_again
  have f1 : FmM D (aSI D 0 0 0) := FmM.code
  have h1 := h.fm f1
  have L2 : (2 : Int32).toInt = 2 := by decide
  refine Wp.lets (Wp.bindE (eM_is _ _ _ _) (Wp.lets ?_))
  generalize aSI D 0 0 0 = D1 at f1 h1 ⊢
  rw [ti_0, L2]
  by_cases hc : 0 ≤ a.toInt ∧ a.toInt ≤ 2
  · rw [if_pos hc]
    have e1 : (a + 1).toInt = a.toInt + 1 := ti_add rfl (by decide) (by omega) (by omega)
    have ec := cl_i hc.1
    refine Wp.neg (by decide) (Wp.idx (i_in (by omega) (by omega)) ?_)
    rw [f1 39 (by omega)]
    refine Wp.ite (fun hz => Wp.ret ⟨h1, f1 39 (by omega), ?_⟩) (fun hz => Wp.bind (tM_copy (f := a.toNatClampNeg + 1) (t := 0) (by omega) (by decide) (by omega) (by omega) (by omega)) (fun _ D3 k => Wp.ret ?_))
    · rw [if_neg (fun q => q.2 hz)]
      exact ⟨rfl, f1.km⟩
    · obtain ⟨k1, k2, k3⟩ := CpT.qs h1 (by omega) (by decide) k
      refine ⟨k1, by rw [k.1 39 (by omega), f1 39 (by omega)], ?_⟩
      rw [if_pos ⟨hc, hz⟩]
      exact ⟨rfl, fun i hi => by rw [k2 i hi, f1 2 (by omega)], fun i hi => by rw [k3 i hi, f1 6 (by omega)]⟩
  · rw [if_neg hc]
    refine Wp.pos rfl (Wp.ret ⟨h1, f1 39 (by omega), ?_⟩)
    rw [if_neg (fun q => hc q.1)]
    exact ⟨rfl, f1.km⟩
end MT
end
section
/-! the class: an image is a copy -/
/-- the steps of a copy: (cell, a whole row?, how many or which) -/
def cpL : List (Nat × Bool × Nat) := [(2, true, 352), (3, true, 352), (4, true, 32), (5, true, 32), (6, true, 400), (7, true, 400), (8, true, 400), (9, true, 400), (1, false, 8), (1, false, 9), (1, false, 10), (1, false, 11), (1, false, 12), (11, true, 500), (10, false, 1), (12, false, 0), (13, true, 16), (14, true, 16), (15, true, 16), (16, true, 16), (17, true, 64), (18, true, 64), (19, true, 64), (20, true, 64), (21, false, 0), (22, true, 16), (23, true, 16), (24, true, 16), (25, true, 16), (26, true, 64), (27, true, 64), (28, true, 64), (29, true, 64), (30, false, 0), (30, false, 1), (30, false, 2), (30, false, 3), (30, false, 4), (0, false, 5), (0, false, 6)]
def cpS (o p : Nat) (D : ADD) (s : Nat × Bool × Nat) : ADD := match s with
  | (d, true, n) => aCp D (p + d) (o + d) n
  | (d, false, n) => aSI D (o + d) n (D.1 (p + d) n)
def cpC (s : Nat × Bool × Nat) (d i : Nat) : Bool := match s with
  | (e, true, n) => decide (e = d) && decide (i < n)
  | (e, false, n) => decide (e = d) && decide (i = n)
theorem pth {o p : Nat} {s : Nat × Bool × Nat} {L : List (Nat × Bool × Nat)} {D D1 D2 : ADD} (e : D1 = cpS o p D s) (k : D2 = L.foldl (cpS o p) D1) : D2 = (s :: L).foldl (cpS o p) D := by
  subst e
  exact k
theorem pap {o p : Nat} {L M : List (Nat × Bool × Nat)} {D D1 D2 : ADD} (e : D1 = L.foldl (cpS o p) D) (k : D2 = M.foldl (cpS o p) D1) : D2 = (L ++ M).foldl (cpS o p) D := by
  rw [List.foldl_append, ← e]
  exact k
theorem cp_c0 {o p : Nat} {D : ADD} : Wp (fX0_copyFrom (o + 1) (p + 1) D) (fun _ E => E = ([(2, true, 352), (3, true, 352), (4, true, 32), (5, true, 32), (6, true, 400), (7, true, 400), (8, true, 400), (9, true, 400), (1, false, 8), (1, false, 9), (1, false, 10), (1, false, 11), (1, false, 12)] : List (Nat × Bool × Nat)).foldl (cpS o p) D) := by
  unfold fX0_copyFrom
  exact Wp.leti (fun D1 e1 => Wp.leti (fun D2 e2 => Wp.leti (fun D3 e3 => Wp.leti (fun D4 e4 => Wp.leti (fun D5 e5 => Wp.leti (fun D6 e6 => Wp.leti (fun D7 e7 => Wp.leti (fun D8 e8 => Wp.leti (fun D9 e9 => Wp.leti (fun D10 e10 => Wp.leti (fun D11 e11 => Wp.leti (fun D12 e12 => Wp.leti (fun D13 e13 => Wp.ret (pth e1 (pth e2 (pth e3 (pth e4 (pth e5 (pth e6 (pth e7 (pth e8 (pth e9 (pth e10 (pth e11 (pth e12 (pth e13 rfl))))))))))))))))))))))))))
theorem cp_c9 {o p : Nat} {D : ADD} : Wp (fX9_copyFrom (o + 10) (p + 10) D) (fun _ E => E = ([(11, true, 500), (10, false, 1)] : List (Nat × Bool × Nat)).foldl (cpS o p) D) := by
  unfold fX9_copyFrom
  exact Wp.leti (fun D1 e1 => Wp.leti (fun D2 e2 => Wp.ret (pth e1 (pth e2 rfl))))
theorem cp_c6 {o p : Nat} {D : ADD} : Wp (fX6_copyFrom (o + 12) (p + 12) D) (fun _ E => E = ([(12, false, 0), (13, true, 16), (14, true, 16), (15, true, 16), (16, true, 16), (17, true, 64), (18, true, 64), (19, true, 64), (20, true, 64)] : List (Nat × Bool × Nat)).foldl (cpS o p) D) := by
  unfold fX6_copyFrom
  exact Wp.leti (fun D1 e1 => Wp.leti (fun D2 e2 => Wp.leti (fun D3 e3 => Wp.leti (fun D4 e4 => Wp.leti (fun D5 e5 => Wp.leti (fun D6 e6 => Wp.leti (fun D7 e7 => Wp.leti (fun D8 e8 => Wp.leti (fun D9 e9 => Wp.ret (pth e1 (pth e2 (pth e3 (pth e4 (pth e5 (pth e6 (pth e7 (pth e8 (pth e9 rfl))))))))))))))))))
theorem cp_c7 {o p : Nat} {D : ADD} : Wp (fX6_copyFrom (o + 21) (p + 21) D) (fun _ E => E = ([(21, false, 0), (22, true, 16), (23, true, 16), (24, true, 16), (25, true, 16), (26, true, 64), (27, true, 64), (28, true, 64), (29, true, 64)] : List (Nat × Bool × Nat)).foldl (cpS o p) D) := by
  unfold fX6_copyFrom
  exact Wp.leti (fun D1 e1 => Wp.leti (fun D2 e2 => Wp.leti (fun D3 e3 => Wp.leti (fun D4 e4 => Wp.leti (fun D5 e5 => Wp.leti (fun D6 e6 => Wp.leti (fun D7 e7 => Wp.leti (fun D8 e8 => Wp.leti (fun D9 e9 => Wp.ret (pth e1 (pth e2 (pth e3 (pth e4 (pth e5 (pth e6 (pth e7 (pth e8 (pth e9 rfl))))))))))))))))))
theorem cp_c1 {o p : Nat} {D : ADD} : Wp (fX1_copyFrom (o + 30) (p + 30) D) (fun _ E => E = ([(30, false, 0), (30, false, 1), (30, false, 2), (30, false, 3), (30, false, 4)] : List (Nat × Bool × Nat)).foldl (cpS o p) D) := by
  unfold fX1_copyFrom
  exact Wp.leti (fun D1 e1 => Wp.leti (fun D2 e2 => Wp.leti (fun D3 e3 => Wp.leti (fun D4 e4 => Wp.leti (fun D5 e5 => Wp.ret (pth e1 (pth e2 (pth e3 (pth e4 (pth e5 rfl))))))))))
theorem eX8_copyFrom {o p : Nat} {D : ADD} : Wp (fX8_copyFrom o p D) (fun _ E => E = cpL.foldl (cpS o p) D) := by
  unfold fX8_copyFrom
  refine Wp.bind cp_c0 (fun _ D1 q1 => Wp.bind cp_c9 (fun _ D2 q2 => Wp.bind cp_c6 (fun _ D3 q3 => Wp.bind cp_c7 (fun _ D4 q4 => Wp.bind cp_c1 (fun _ D5 q5 => Wp.leti (fun D6 e6 => Wp.leti (fun D7 e7 => Wp.ret ?_)))))))
  have h : D7 = ([(0, false, 5), (0, false, 6)] : List (Nat × Bool × Nat)).foldl (cpS o p) D5 := pth e6 (pth e7 rfl)
  exact pap q1 (pap q2 (pap q3 (pap q4 (pap q5 h))))
theorem cpS_1 {o p : Nat} {D : ADD} {s : Nat × Bool × Nat} (hd : p + 31 ≤ o ∨ o + 31 ≤ p) (hs : s.1 < 31) : (∀ c, (c < o ∨ o + 31 ≤ c) → (cpS o p D s).1 c = D.1 c) ∧ (cpS o p D s).2 = D.2 ∧ ∀ d i, d < 31 → (cpS o p D s).1 (o + d) i = if cpC s d i = true then D.1 (p + d) i else D.1 (o + d) i := by
  obtain ⟨e, b, n⟩ := s
  have hs : e < 31 := hs
  cases b with
  | true =>
    refine ⟨fun c hc => ?_, rfl, fun d i hd2 => ?_⟩
    · funext z
      show (if c = o + e ∧ z < n then _ else _) = _
      rw [if_neg (by omega)]
    · show (if o + d = o + e ∧ i < n then D.1 (p + e) i else D.1 (o + d) i) = if (decide (e = d) && decide (i < n)) = true then _ else _
      by_cases h : e = d
      · subst h
        by_cases hi : i < n
        · rw [if_pos ⟨rfl, hi⟩, if_pos (by simp [hi])]
        · rw [if_neg (fun q => hi q.2), if_neg (by simp [hi])]
      · rw [if_neg (by omega), if_neg (by simp [h])]
  | false =>
    refine ⟨fun c hc => ?_, rfl, fun d i hd2 => ?_⟩
    · funext z
      show (if c = o + e ∧ z = n then _ else _) = _
      rw [if_neg (by omega)]
    · show (if o + d = o + e ∧ i = n then D.1 (p + e) n else D.1 (o + d) i) = if (decide (e = d) && decide (i = n)) = true then _ else _
      by_cases h : e = d
      · subst h
        by_cases hi : i = n
        · subst hi
          rw [if_pos ⟨rfl, rfl⟩, if_pos (by simp)]
        · rw [if_neg (fun q => hi q.2), if_neg (by simp [hi])]
      · rw [if_neg (by omega), if_neg (by simp [h])]
def CpX (L : List (Nat × Bool × Nat)) (o p : Nat) (D D1 : ADD) : Prop := (∀ c, (c < o ∨ o + 31 ≤ c) → D1.1 c = D.1 c) ∧ D1.2 = D.2 ∧ ∀ d i, d < 31 → D1.1 (o + d) i = if (L.any (fun s => cpC s d i)) = true then D.1 (p + d) i else D.1 (o + d) i
theorem cpX_all {o p : Nat} (hd : p + 31 ≤ o ∨ o + 31 ≤ p) : ∀ (L : List (Nat × Bool × Nat)) (D : ADD), (∀ s, s ∈ L → s.1 < 31) → CpX L o p D (L.foldl (cpS o p) D)
  | [], D, _ => ⟨fun _ _ => rfl, rfl, fun d i _ => rfl⟩
  | s :: L, D, hL => by
    obtain ⟨a1, a2, a3⟩ := cpS_1 (D := D) hd (hL s List.mem_cons_self)
    obtain ⟨b1, b2, b3⟩ := cpX_all hd L (cpS o p D s) (fun s hs => hL s (List.mem_cons_of_mem _ hs))
    refine ⟨fun c hc => (b1 c hc).trans (a1 c hc), b2.trans a2, fun d i hd2 => ?_⟩
    show (L.foldl (cpS o p) (cpS o p D s)).1 (o + d) i = _
    rw [b3 d i hd2, a3 d i hd2, List.any_cons, a1 (p + d) (by omega)]
    by_cases h1 : cpC s d i = true <;> by_cases h2 : (L.any (fun s => cpC s d i)) = true
    · simp [h1, h2]
    · simp [h1, h2]
    · simp [h1, h2]
    · simp [h1, h2]
theorem tX8_copy {o p : Nat} {D : ADD} (hd : p + 31 ≤ o ∨ o + 31 ≤ p) : Wp (fX8_copyFrom o p D) (fun _ D1 => CpX cpL o p D D1) := eX8_copyFrom.mono (fun _ D1 e => by rw [e]; exact cpX_all hd cpL D (by decide))
theorem CpX.at {o p d i : Nat} {D D1 : ADD} (h : CpX cpL o p D D1) (hd : d < 31) (hc : (cpL.any (fun s => cpC s d i)) = true) : D1.1 (o + d) i = D.1 (p + d) i := by
  rw [h.2.2 d i hd, if_pos hc]
end
section
/-! the class: now and its images -/
def QXt (D : ADD) (o : Nat) : Prop := (0 ≤ (D.1 (o + 1) 8).toInt ∧ (D.1 (o + 1) 8).toInt ≤ 32) ∧ (0 ≤ (D.1 (o + 1) 9).toInt ∧ (D.1 (o + 1) 9).toInt ≤ 32) ∧ (0 ≤ (D.1 (o + 1) 10).toInt ∧ (D.1 (o + 1) 10).toInt ≤ 400) ∧ (∀ k : Nat, (k : Int) < (D.1 (o + 1) 10).toInt → 0 ≤ (D.1 (o + 7) k).toInt ∧ (D.1 (o + 7) k).toInt < 32) ∧ (0 ≤ (D.1 (o + 10) 1).toInt ∧ (D.1 (o + 10) 1).toInt ≤ 500) ∧ (0 ≤ (D.1 (o + 12) 0).toInt ∧ (D.1 (o + 12) 0).toInt ≤ 16) ∧ (0 ≤ (D.1 (o + 21) 0).toInt ∧ (D.1 (o + 21) 0).toInt ≤ 16) ∧ 0 ≤ (D.1 (o + 1) 11).toInt
/-- the present is sound, the images are as they were -/
def KX (D D1 : ADD) : Prop := (∀ c, 98 ≤ c → D1.1 c = D.1 c) ∧ TN D1 ∧ QXt D1 1
def SX (D D1 : ADD) : Prop := D1.1 2 11 = D.1 2 11 ∧ D1.1 11 1 = D.1 11 1
section XZ
variable {D : ADD}
theorem QXt.qx (h : QXt D 1) : QX D := ⟨h.2.1, h.2.2.2.2.2.1.2, h.2.2.2.2.2.2.1.2⟩
theorem QXt.fr {D1 : ADD} {o : Nat} (h : QXt D o) (f : ∀ c, o ≤ c → c < o + 31 → D1.1 c = D.1 c) : QXt D1 o := by
  unfold QXt
  rw [f (o + 1) (by omega) (by omega), f (o + 7) (by omega) (by omega), f (o + 10) (by omega) (by omega), f (o + 12) (by omega) (by omega), f (o + 21) (by omega) (by omega)]
  exact h
theorem KX.refl (h : QXt D 1) (t : TN D) : KX D D := ⟨fun _ _ => rfl, t, h⟩
theorem FX.kx {D1 : ADD} (f : FX D D1) (h : QXt D 1) (t : TN D) : KX D D1 ∧ SX D D1 := by
  refine ⟨⟨fun c hc => f c (by omega), ?_, h.fr (fun c _ h2 => f c (by omega))⟩, by rw [f 2 (by omega)], by rw [f 11 (by omega)]⟩
  unfold TN
  rw [f 38 (by omega)]
  exact t
theorem WrX.kx {D1 : ADD} {s f v : Int32} (w : WrX D D1 s f v) (h : QXt D 1) (t : TN D) (he : (D.1 2 10).toInt < 400) (hs : 0 ≤ s.toInt ∧ s.toInt < 32) : KX D D1 ∧ SX D D1 := by
  obtain ⟨h1, h2, h3, h4, h5, h6, h7, h8⟩ := h
  have h1 : 0 ≤ (D.1 2 8).toInt ∧ (D.1 2 8).toInt ≤ 32 := h1
  have h2 : 0 ≤ (D.1 2 9).toInt ∧ (D.1 2 9).toInt ≤ 32 := h2
  have h3 : 0 ≤ (D.1 2 10).toInt ∧ (D.1 2 10).toInt ≤ 400 := h3
  have h4 : ∀ k : Nat, (k : Int) < (D.1 2 10).toInt → 0 ≤ (D.1 8 k).toInt ∧ (D.1 8 k).toInt < 32 := h4
  have h8 : 0 ≤ (D.1 2 11).toInt := h8
  obtain ⟨w1, w2, w3, w4, w5, w6, w7, -⟩ := w
  have g : ∀ c, 11 ≤ c → D1.1 c = D.1 c := fun c hc => w1 c (by omega) (by omega) (by omega) (by omega) (by omega) (by omega) (by omega)
  have ek := cl_i h3.1
  have n10 : (D1.1 2 10).toInt = (D.1 2 10).toInt + 1 := by rw [w4]; exact ti_add rfl ti_1 (by omega) (by omega)
  have s1 : (s + 1).toInt = s.toInt + 1 := ti_add rfl ti_1 (by omega) (by omega)
  have e8 : D1.1 2 8 = D.1 2 8 := w3 8 (by decide) (by decide)
  have e11 : D1.1 2 11 = D.1 2 11 := w3 11 (by decide) (by decide)
  refine ⟨⟨fun c hc => g c (by omega), ?_, ?_⟩, e11, by rw [g 11 (by omega)]⟩
  · unfold TN
    rw [g 38 (by omega)]
    exact t
  · refine ⟨by show 0 ≤ (D1.1 2 8).toInt ∧ (D1.1 2 8).toInt ≤ 32; rw [e8]; exact h1, ?_, by show 0 ≤ (D1.1 2 10).toInt ∧ (D1.1 2 10).toInt ≤ 400; omega, fun k hk => ?_, by show 0 ≤ (D1.1 11 1).toInt ∧ (D1.1 11 1).toInt ≤ 500; rw [g 11 (by omega)]; exact h5, by show 0 ≤ (D1.1 13 0).toInt ∧ (D1.1 13 0).toInt ≤ 16; rw [g 13 (by omega)]; exact h6, by show 0 ≤ (D1.1 22 0).toInt ∧ (D1.1 22 0).toInt ≤ 16; rw [g 22 (by omega)]; exact h7, by show 0 ≤ (D1.1 2 11).toInt; rw [e11]; exact h8⟩
    · show 0 ≤ (D1.1 2 9).toInt ∧ (D1.1 2 9).toInt ≤ 32
      rw [w5]
      split
      · omega
      · exact h2
    · have hk : (k : Int) < (D1.1 2 10).toInt := hk
      show 0 ≤ (D1.1 8 k).toInt ∧ (D1.1 8 k).toInt < 32
      rw [w7 k]
      split
      · exact hs
      · exact h4 k (by omega)
theorem cX_stone {w st tw : Int32} (h : QXt D 1) (t : TN D) : Wp (fX10_stone w st tw D) (fun _ D1 => KX D D1 ∧ SX D D1) := by
  have h1 : 0 ≤ (D.1 2 8).toInt ∧ (D.1 2 8).toInt ≤ 32 := h.1
  have h3 : 0 ≤ (D.1 2 10).toInt ∧ (D.1 2 10).toInt ≤ 400 := h.2.2.1
  refine (tX10_stone h1 h3).mono (fun r D1 k => ?_)
  split at k
  · rename_i hc
    obtain ⟨-, D7, k1, k2, k3, k4, k5, k6⟩ := k
    have n8 : (D7.1 2 8).toInt = (D.1 2 8).toInt + 1 := by rw [k3 8, if_pos rfl]; exact ti_add rfl ti_1 (by omega) (by omega)
    have o2 : ∀ i, i ≠ 8 → D7.1 2 i = D.1 2 i := fun i hi => by rw [k3 i, if_neg hi]
    have g : ∀ c, 7 ≤ c → D7.1 c = D.1 c := fun c hc => k1 c (by omega) (by omega) (by omega)
    have q7 : QXt D7 1 := by
      obtain ⟨a1, a2, a3, a4, a5, a6, a7, a8⟩ := h
      refine ⟨by show 0 ≤ (D7.1 2 8).toInt ∧ (D7.1 2 8).toInt ≤ 32; omega, by show 0 ≤ (D7.1 2 9).toInt ∧ (D7.1 2 9).toInt ≤ 32; rw [o2 9 (by decide)]; exact a2, by show 0 ≤ (D7.1 2 10).toInt ∧ (D7.1 2 10).toInt ≤ 400; rw [o2 10 (by decide)]; exact a3, ?_, by show 0 ≤ (D7.1 11 1).toInt ∧ (D7.1 11 1).toInt ≤ 500; rw [g 11 (by omega)]; exact a5, by show 0 ≤ (D7.1 13 0).toInt ∧ (D7.1 13 0).toInt ≤ 16; rw [g 13 (by omega)]; exact a6, by show 0 ≤ (D7.1 22 0).toInt ∧ (D7.1 22 0).toInt ≤ 16; rw [g 22 (by omega)]; exact a7, by show 0 ≤ (D7.1 2 11).toInt; rw [o2 11 (by decide)]; exact a8⟩
      show ∀ k : Nat, (k : Int) < (D7.1 2 10).toInt → 0 ≤ (D7.1 8 k).toInt ∧ (D7.1 8 k).toInt < 32
      rw [o2 10 (by decide), g 8 (by omega)]
      exact a4
    have t7 : TN D7 := by unfold TN; rw [g 38 (by omega)]; exact t
    obtain ⟨⟨z1, z2, z3⟩, z4, z5⟩ := k6.kx q7 t7 (by rw [o2 10 (by decide)]; exact hc.2.1) ⟨h1.1, hc.1⟩
    exact ⟨⟨fun c hc => by rw [z1 c hc, g c (by omega)], z2, z3⟩, by rw [z4, o2 11 (by decide)], by rw [z5, g 11 (by omega)]⟩
  · obtain ⟨-, rfl⟩ := k
    exact ⟨KX.refl h t, rfl, rfl⟩
theorem cX_tell {s f v : Int32} (h : QXt D 1) (t : TN D) : Wp (fX10_tell s f v D) (fun _ D1 => KX D D1 ∧ SX D D1) := by
  have h1 : 0 ≤ (D.1 2 8).toInt ∧ (D.1 2 8).toInt ≤ 32 := h.1
  have h3 : 0 ≤ (D.1 2 10).toInt ∧ (D.1 2 10).toInt ≤ 400 := h.2.2.1
  refine (oX_tell h1.2 h3.1).mono (fun r D1 k => ?_)
  split at k
  · rename_i hc
    exact k.2.kx h t hc.2.1 ⟨hc.1.1, by have := hc.1.2; omega⟩
  · obtain ⟨-, rfl⟩ := k
    exact ⟨KX.refl h t, rfl, rfl⟩
theorem cX_day {a : Int32} (h : QXt D 1) (t : TN D) : Wp (fX10_day a D) (fun r D1 => KX D D1 ∧ D1.1 11 1 = D.1 11 1 ∧ (r = if (D.1 2 11).toInt ≤ a.toInt ∧ a.toInt ≤ 9999 then 1 else 0) ∧ D1.1 2 11 = if (D.1 2 11).toInt ≤ a.toInt ∧ a.toInt ≤ 9999 then a else D.1 2 11) := by
  refine oX_day.mono (fun r D1 k => ?_)
  have h8 : 0 ≤ (D.1 2 11).toInt := h.2.2.2.2.2.2.2
  by_cases hc : (D.1 2 11).toInt ≤ a.toInt ∧ a.toInt ≤ 9999
  · rw [if_pos hc] at k
    rw [if_pos hc, if_pos hc]
    obtain ⟨k1, k2⟩ := k
    have e11 : D1.1 2 11 = a := by rw [k2]; simp [aSI]
    have ei : ∀ i, i ≠ 11 → D1.1 2 i = D.1 2 i := fun i hi => by rw [k2]; simp [aSI, hi]
    have g : ∀ c, c ≠ 2 → D1.1 c = D.1 c := fun c hc => by rw [k2]; funext z; simp [aSI, hc]
    refine ⟨⟨fun c hc => g c (by omega), by unfold TN; rw [g 38 (by decide)]; exact t, ?_⟩, by rw [g 11 (by decide)], k1, e11⟩
    obtain ⟨a1, a2, a3, a4, a5, a6, a7, a8⟩ := h
    refine ⟨by show 0 ≤ (D1.1 2 8).toInt ∧ (D1.1 2 8).toInt ≤ 32; rw [ei 8 (by decide)]; exact a1, by show 0 ≤ (D1.1 2 9).toInt ∧ (D1.1 2 9).toInt ≤ 32; rw [ei 9 (by decide)]; exact a2, by show 0 ≤ (D1.1 2 10).toInt ∧ (D1.1 2 10).toInt ≤ 400; rw [ei 10 (by decide)]; exact a3, ?_, by show 0 ≤ (D1.1 11 1).toInt ∧ (D1.1 11 1).toInt ≤ 500; rw [g 11 (by omega)]; exact a5, by show 0 ≤ (D1.1 13 0).toInt ∧ (D1.1 13 0).toInt ≤ 16; rw [g 13 (by omega)]; exact a6, by show 0 ≤ (D1.1 22 0).toInt ∧ (D1.1 22 0).toInt ≤ 16; rw [g 22 (by omega)]; exact a7, by show 0 ≤ (D1.1 2 11).toInt; rw [e11]; omega⟩
    show ∀ k : Nat, (k : Int) < (D1.1 2 10).toInt → 0 ≤ (D1.1 8 k).toInt ∧ (D1.1 8 k).toInt < 32
    rw [ei 10 (by decide), g 8 (by omega)]
    exact a4
  · rw [if_neg hc] at k
    rw [if_neg hc, if_neg hc]
    obtain ⟨k1, rfl⟩ := k
    exact ⟨KX.refl h t, rfl, k1, rfl⟩
theorem rpS_le {a : Int32} : ∀ n : Nat, (∀ k, k < n → 0 ≤ (D.1 8 k).toInt ∧ (D.1 8 k).toInt < 32) → 0 ≤ (rpS D a n).2.toInt ∧ (rpS D a n).2.toInt ≤ 32
  | 0, _ => by show 0 ≤ (0 : Int32).toInt ∧ (0 : Int32).toInt ≤ 32; decide
  | n + 1, h => by
    have ih := rpS_le (a := a) n (fun k hk => h k (by omega))
    have hn := h n (by omega)
    have e : (D.1 8 n + 1).toInt = (D.1 8 n).toInt + 1 := ti_add rfl ti_1 (by omega) (by omega)
    unfold rpS
    split
    · show 0 ≤ (if D.1 9 n = -1 then D.1 8 n + 1 else (rpS D a n).2).toInt ∧ (if D.1 9 n = -1 then D.1 8 n + 1 else (rpS D a n).2).toInt ≤ 32
      split
      · omega
      · exact ih
    · exact ih
theorem cX_view {a : Int32} (h : QXt D 1) (t : TN D) : Wp (fX10_view a D) (fun r D1 => (KX D D1 ∧ SX D D1) ∧ r = if a = -1 ∨ (0 ≤ a.toInt ∧ a.toInt ≤ (D.1 2 11).toInt) then 1 else 0) := by
  obtain ⟨a1, a2, a3, a4, a5, a6, a7, a8⟩ := id h
  have a3 : 0 ≤ (D.1 2 10).toInt ∧ (D.1 2 10).toInt ≤ 400 := a3
  have ek := cl_i a3.1
  refine (oX_view a3 a4).mono (fun r D1 k => ?_)
  by_cases hc : a = -1 ∨ (0 ≤ a.toInt ∧ a.toInt ≤ (D.1 2 11).toInt)
  · rw [if_pos hc] at k
    rw [if_pos hc]
    obtain ⟨k1, k2, k3, k4, k5, k6, k7⟩ := k
    have g : ∀ c, 5 ≤ c → D1.1 c = D.1 c := fun c hc => k2 c (by omega) (by omega)
    have ei : ∀ i, i ≠ 9 → i ≠ 12 → D1.1 2 i = D.1 2 i := k4
    refine ⟨⟨⟨fun c hc => g c (by omega), by unfold TN; rw [g 38 (by decide)]; exact t, ?_⟩, ei 11 (by decide) (by decide), by rw [g 11 (by omega)]⟩, k1⟩
    refine ⟨by show 0 ≤ (D1.1 2 8).toInt ∧ (D1.1 2 8).toInt ≤ 32; rw [ei 8 (by decide) (by decide)]; exact a1, ?_, by show 0 ≤ (D1.1 2 10).toInt ∧ (D1.1 2 10).toInt ≤ 400; rw [ei 10 (by decide) (by decide)]; exact a3, ?_, by show 0 ≤ (D1.1 11 1).toInt ∧ (D1.1 11 1).toInt ≤ 500; rw [g 11 (by omega)]; exact a5, by show 0 ≤ (D1.1 13 0).toInt ∧ (D1.1 13 0).toInt ≤ 16; rw [g 13 (by omega)]; exact a6, by show 0 ≤ (D1.1 22 0).toInt ∧ (D1.1 22 0).toInt ≤ 16; rw [g 22 (by omega)]; exact a7, by show 0 ≤ (D1.1 2 11).toInt; rw [ei 11 (by decide) (by decide)]; exact a8⟩
    · show 0 ≤ (D1.1 2 9).toInt ∧ (D1.1 2 9).toInt ≤ 32
      rw [k6]
      exact rpS_le _ (fun k hk => a4 k (by show (k : Int) < (D.1 2 10).toInt; omega))
    · show ∀ k : Nat, (k : Int) < (D1.1 2 10).toInt → 0 ≤ (D1.1 8 k).toInt ∧ (D1.1 8 k).toInt < 32
      rw [ei 10 (by decide) (by decide), g 8 (by omega)]
      exact a4
  · rw [if_neg hc] at k
    rw [if_neg hc]
    obtain ⟨k1, rfl⟩ := k
    exact ⟨⟨KX.refl h t, rfl, rfl⟩, k1⟩
/-- only the tape is another -/
theorem tape_kx {D1 : ADD} (h : QXt D 1) (t : TN D) (g : ∀ c, c ≠ 11 → c ≠ 12 → D1.1 c = D.1 c) (l : 0 ≤ (D1.1 11 1).toInt ∧ (D1.1 11 1).toInt ≤ 500) : KX D D1 := by
  refine ⟨fun c hc => g c (by omega) (by omega), by unfold TN; rw [g 38 (by decide) (by decide)]; exact t, ?_⟩
  obtain ⟨a1, a2, a3, a4, a5, a6, a7, a8⟩ := h
  refine ⟨by show 0 ≤ (D1.1 2 8).toInt ∧ (D1.1 2 8).toInt ≤ 32; rw [g 2 (by decide) (by decide)]; exact a1, by show 0 ≤ (D1.1 2 9).toInt ∧ (D1.1 2 9).toInt ≤ 32; rw [g 2 (by decide) (by decide)]; exact a2, by show 0 ≤ (D1.1 2 10).toInt ∧ (D1.1 2 10).toInt ≤ 400; rw [g 2 (by decide) (by decide)]; exact a3, ?_, l, by show 0 ≤ (D1.1 13 0).toInt ∧ (D1.1 13 0).toInt ≤ 16; rw [g 13 (by decide) (by decide)]; exact a6, by show 0 ≤ (D1.1 22 0).toInt ∧ (D1.1 22 0).toInt ≤ 16; rw [g 22 (by decide) (by decide)]; exact a7, by show 0 ≤ (D1.1 2 11).toInt; rw [g 2 (by decide) (by decide)]; exact a8⟩
  show ∀ k : Nat, (k : Int) < (D1.1 2 10).toInt → 0 ≤ (D1.1 8 k).toInt ∧ (D1.1 8 k).toInt < 32
  rw [g 2 (by decide) (by decide), g 8 (by decide) (by decide)]
  exact a4
theorem cX_feed {a b c d e : Int32} (h : QXt D 1) (t : TN D) : Wp (fX10_feed a b c d e D) (fun r D1 => KX D D1 ∧ D1.1 2 11 = D.1 2 11 ∧ if (D.1 11 1).toInt + 20 ≤ 500 then r.toInt = (D.1 11 1).toInt + 20 ∧ r = D1.1 11 1 else r = -1 ∧ D1.1 11 1 = D.1 11 1) := by
  have l : 0 ≤ (D.1 11 1).toInt ∧ (D.1 11 1).toInt ≤ 500 := h.2.2.2.2.1
  have el := cl_i l.1
  refine (oX_feed (n := (D.1 11 1).toNatClampNeg) (by omega) (by omega)).mono (fun r D1 k => ?_)
  by_cases hc : (D.1 11 1).toInt + 20 ≤ 500
  · rw [if_pos (by omega)] at k
    rw [if_pos hc]
    obtain ⟨k1, k2, k3, k4, k5, k6⟩ := k
    exact ⟨tape_kx h t k3 (by rw [← k2]; omega), by rw [k3 2 (by decide) (by decide)], by omega, k2⟩
  · rw [if_neg (by omega)] at k
    rw [if_neg hc]
    obtain ⟨k1, rfl⟩ := k
    exact ⟨KX.refl h t, rfl, k1, rfl⟩
theorem cX_end {a : Int32} (h : QXt D 1) (t : TN D) : Wp (fX10_end a D) (fun r D1 => KX D D1 ∧ D1.1 2 11 = D.1 2 11 ∧ if 0 ≤ a.toInt ∧ a.toInt ≤ (D.1 11 1).toInt then r = a ∧ D1.1 11 1 = a else r = -1 ∧ D1.1 11 1 = D.1 11 1) := by
  have l : 0 ≤ (D.1 11 1).toInt ∧ (D.1 11 1).toInt ≤ 500 := h.2.2.2.2.1
  refine oX_end.mono (fun r D1 k => ?_)
  by_cases hc : 0 ≤ a.toInt ∧ a.toInt ≤ (D.1 11 1).toInt
  · rw [if_pos hc] at k
    rw [if_pos hc]
    obtain ⟨k1, k2⟩ := k
    have e11 : D1.1 11 1 = a := by rw [k2]; simp [aSI]
    have g : ∀ c, c ≠ 11 → D1.1 c = D.1 c := fun c hc => by rw [k2]; funext z; simp [aSI, hc]
    exact ⟨tape_kx h t (fun c a _ => g c a) (by rw [e11]; omega), by rw [g 2 (by decide)], k1, e11⟩
  · rw [if_neg hc] at k
    rw [if_neg hc]
    obtain ⟨k1, rfl⟩ := k
    exact ⟨KX.refl h t, rfl, k1, rfl⟩
theorem cX_text {a : Int32} (ha : a = 0 ∨ a = 1) (h : QXt D 1) (t : TN D) : Wp (fX10_text a D) (fun _ D1 => KX D D1 ∧ D1.1 2 11 = D.1 2 11 ∧ D1.1 11 1 = 0) := by
  obtain ⟨a1, a2, a3, a4, a5, a6, a7, a8⟩ := h
  refine (oX_text ha t a5.1 ⟨a6, a7⟩).mono (fun r D1 k => ?_)
  obtain ⟨k1, k2, k3, k4, k5⟩ := k
  refine ⟨⟨fun c hc => k1 c (by omega), k2, ?_⟩, by rw [k1 2 (by omega)], k3⟩
  refine ⟨by show 0 ≤ (D1.1 2 8).toInt ∧ (D1.1 2 8).toInt ≤ 32; rw [k1 2 (by omega)]; exact a1, by show 0 ≤ (D1.1 2 9).toInt ∧ (D1.1 2 9).toInt ≤ 32; rw [k1 2 (by omega)]; exact a2, by show 0 ≤ (D1.1 2 10).toInt ∧ (D1.1 2 10).toInt ≤ 400; rw [k1 2 (by omega)]; exact a3, ?_, by show 0 ≤ (D1.1 11 1).toInt ∧ (D1.1 11 1).toInt ≤ 500; rw [k3]; decide, k4, k5, by show 0 ≤ (D1.1 2 11).toInt; rw [k1 2 (by omega)]; exact a8⟩
  show ∀ k : Nat, (k : Int) < (D1.1 2 10).toInt → 0 ≤ (D1.1 8 k).toInt ∧ (D1.1 8 k).toInt < 32
  rw [k1 2 (by omega), k1 8 (by omega)]
  exact a4
theorem cX_choose {a b y z m : Int32} (h : QXt D 1) (t : TN D) : Wp (fX10_choose a b y z m D) (fun r D1 => (KX D D1 ∧ SX D D1) ∧ r = if ChOK y z m then 1 else 0) := by
  refine tX10_choose.mono (fun r D1 k => ?_)
  by_cases hc : ChOK y z m
  · rw [if_pos hc] at k
    rw [if_pos hc]
    obtain ⟨k1, k2, -⟩ := k
    refine ⟨⟨⟨fun c hc => k2 c (by omega), by unfold TN; rw [k2 38 (by decide)]; exact t, ?_⟩, by rw [k2 2 (by decide)], by rw [k2 11 (by decide)]⟩, k1⟩
    obtain ⟨a1, a2, a3, a4, a5, a6, a7, a8⟩ := h
    unfold QXt
    rw [k2 (1 + 1) (by decide), k2 (1 + 7) (by decide), k2 (1 + 10) (by decide), k2 (1 + 12) (by decide), k2 (1 + 21) (by decide)]
    exact ⟨a1, a2, a3, a4, a5, a6, a7, a8⟩
  · rw [if_neg hc] at k
    rw [if_neg hc]
    obtain ⟨k1, rfl⟩ := k
    exact ⟨⟨KX.refl h t, rfl, rfl⟩, k1⟩
/-- a copy of one State to another -/
theorem CpX.qt {D1 : ADD} {o p : Nat} (k : CpX cpL o p D D1) (h : QXt D p) : QXt D1 o := by
  have e : ∀ d i, d < 31 → (cpL.any (fun s => cpC s d i)) = true → D1.1 (o + d) i = D.1 (p + d) i := fun d i hd hc => k.at hd hc
  obtain ⟨a1, a2, a3, a4, a5, a6, a7, a8⟩ := h
  refine ⟨by rw [e 1 8 (by decide) (by decide)]; exact a1, by rw [e 1 9 (by decide) (by decide)]; exact a2, by rw [e 1 10 (by decide) (by decide)]; exact a3, ?_, by rw [e 10 1 (by decide) (by decide)]; exact a5, by rw [e 12 0 (by decide) (by decide)]; exact a6, by rw [e 21 0 (by decide) (by decide)]; exact a7, by rw [e 1 11 (by decide) (by decide)]; exact a8⟩
  rw [e 1 10 (by decide) (by decide)]
  intro k hk
  have hk4 : k < 400 := by omega
  rw [e 7 k (by decide) (by simp [cpL, cpC, hk4])]
  exact a4 k hk
end XZ
end
section
/-! both: what every call keeps -/
def RlA (D : ADD) (o : Nat) (E : ADD) (t : Nat) : Prop := D.1 (o + 1) 11 = E.1 6 t ∧ D.1 (o + 10) 1 = E.1 2 t
def IA (n0 : Nat) (P : APD) (E : ADD) : Prop := Lay n0 P ∧ (TN P.2 ∧ QXt P.2 1) ∧ QMs E ∧ RlA P.2 1 E 0 ∧ ∀ im, imOK n0 P.1 im → ∀ j, j < 3 → (im j = none ∧ aBz (E.1 39 j) = 0) ∨ ∃ z, im j = some z ∧ aBz (E.1 39 j) ≠ 0 ∧ QXt P.2 z ∧ RlA P.2 z E (j + 1)
section IAs
variable {n0 : Nat} {P : APD} {E : ADD}
theorem Lay.far {im : Nat → Option Nat} (h : Lay n0 P) (him : imOK n0 P.1 im) : (∀ j z, j < 3 → im j = some z → 98 ≤ z ∧ z + 31 ≤ P.1.1) ∧ ∀ i j z y, i < 3 → j < 3 → i ≠ j → im i = some z → im j = some y → z + 31 ≤ y ∨ y + 31 ≤ z := by
  obtain ⟨-, -, -, im2, h2, h3, h4⟩ := h
  rw [im_uniq him h2]
  exact ⟨h3, h4⟩
theorem RlA.fr {D D1 E1 : ADD} {o t : Nat} (h : RlA D o E t) (f : ∀ c, o ≤ c → c < o + 31 → D1.1 c = D.1 c) (e2 : E1.1 2 t = E.1 2 t) (e6 : E1.1 6 t = E.1 6 t) : RlA D1 o E1 t := by
  unfold RlA
  rw [f (o + 1) (by omega) (by omega), f (o + 10) (by omega) (by omega), e2, e6]
  exact h
theorem IA.keep (h : IA n0 P E) {D1 E1 : ADD} (kx : KX P.2 D1) (qm : QMs E1) (e39 : E1.1 39 = E.1 39) (e2 : ∀ i, i ≠ 0 → i < 4 → E1.1 2 i = E.1 2 i) (e6 : ∀ i, i ≠ 0 → i < 4 → E1.1 6 i = E.1 6 i) (r1 : D1.1 2 11 = E1.1 6 0) (r2 : D1.1 11 1 = E1.1 2 0) : IA n0 (P.1, D1) E1 := by
  obtain ⟨h1, h2, h3, h4, h5⟩ := h
  refine ⟨h1, kx.2, qm, ⟨r1, r2⟩, fun im him j hj => ?_⟩
  rw [e39]
  rcases h5 im him j hj with h | ⟨z, z1, z2, z3, z4⟩
  · exact Or.inl h
  · have hz := (h1.far him).1 j z hj z1
    exact Or.inr ⟨z, z1, z2, z3.fr (fun c hc _ => kx.1 c (by omega)), z4.fr (fun c hc _ => kx.1 c (by omega)) (e2 _ (by omega) (by omega)) (e6 _ (by omega) (by omega))⟩
theorem IA.same (h : IA n0 P E) {D1 E1 : ADD} (k : KX P.2 D1 ∧ SX P.2 D1) (q : QMs E1 ∧ KM E E1) : IA n0 (P.1, D1) E1 := by
  obtain ⟨a, b, c⟩ := q.2
  have r := h.2.2.2.1
  exact h.keep k.1 q.1 c (fun i _ _ => by rw [a]) (fun i _ _ => by rw [b]) (by rw [k.2.1, b]; exact r.1) (by rw [k.2.2, a]; exact r.2)
abbrev Bt (n0 : Nat) (P : APD) (R : Prop → Prop) {ρ : Type} (f g : Option (ρ × ADD)) : Prop := ∃ (r1 : ρ) (D1 : ADD) (r2 : ρ) (D2 : ADD), f = some (r1, D1) ∧ g = some (r2, D2) ∧ R (r1 = r2) ∧ IA n0 (P.1, D1) D2
theorem Bt.weak {ρ : Type} {f g : Option (ρ × ADD)} (h : Bt n0 P id f g) : Bt n0 P (fun _ => True) f g := by
  obtain ⟨r1, D1, r2, D2, h1, h2, -, h4⟩ := h
  exact ⟨r1, D1, r2, D2, h1, h2, trivial, h4⟩
theorem IA.two {ρ : Type} {f g : Option (ρ × ADD)} (h : IA n0 P E) (hf : Wp f (fun _ D1 => KX P.2 D1 ∧ SX P.2 D1)) (hg : Wp g (fun _ D1 => QMs D1 ∧ KM E D1)) : Bt n0 P (fun _ => True) f g := by
  obtain ⟨r1, D1, e1, q1⟩ := hf
  obtain ⟨r2, D2, e2, q2⟩ := hg
  exact ⟨r1, D1, r2, D2, e1, e2, trivial, h.same q1 q2⟩
theorem IA.ask {ρ : Type} {f g : Option (ρ × ADD)} (h : IA n0 P E) (hf : QX P.2 → Wp f (fun _ D1 => FX P.2 D1)) (hg : QM E → Wp g (fun _ D1 => FmM E D1)) : Bt n0 P (fun _ => True) f g :=
  h.two ((hf h.2.1.2.qx).mono (fun _ _ q => q.kx h.2.1.2 h.2.1.1)) ((hg h.2.2.1.qm).mono (fun _ _ q => ⟨h.2.2.1.fm q, q.km⟩))
theorem Pu.fx {ρ : Type} {f : Option (ρ × ADD)} {D : ADD} (h : Pu f D) : Wp f (fun _ D1 => FX D D1) := h.mono (fun _ _ q => by rw [q]; exact FX.refl D)
theorem ia_day {a : Int32} (h : IA n0 P E) : Bt n0 P id (fX10_day a P.2) (fX11_day a E) := by
  obtain ⟨r1, D1, e1, k1, k2, k3, k4⟩ := cX_day (a := a) h.2.1.2 h.2.1.1
  obtain ⟨r2, D2, e2, q1, q2, q3, q4, q5⟩ := sM_day (a := a) h.2.2.1
  have r : P.2.1 2 11 = E.1 6 0 := h.2.2.2.1.1
  have s : P.2.1 11 1 = E.1 2 0 := h.2.2.2.1.2
  rw [r] at k3 k4
  refine ⟨r1, D1, r2, D2, e1, e2, k3.trans q4.symm, h.keep k1 q1 q3 (fun i _ _ => by rw [q2]) (fun i hi _ => ?_) ?_ (by rw [k2, q2]; exact s)⟩
  · rw [q5 i, if_neg (fun q => hi q.1)]
  · rw [k4, q5 0]
    by_cases hc : (E.1 6 0).toInt ≤ a.toInt ∧ a.toInt ≤ 9999
    · rw [if_pos hc, if_pos ⟨rfl, hc⟩]
    · rw [if_neg hc, if_neg (fun q => hc q.2)]
theorem ia_view {a : Int32} (h : IA n0 P E) : Bt n0 P id (fX10_view a P.2) (fX11_view a E) := by
  obtain ⟨r1, D1, e1, k1, k2⟩ := cX_view (a := a) h.2.1.2 h.2.1.1
  obtain ⟨r2, D2, e2, q1, q2, q3⟩ := sM_view (a := a) h.2.2.1
  have r : P.2.1 2 11 = E.1 6 0 := h.2.2.2.1.1
  have t0 : 0 ≤ (P.2.1 2 11).toInt := h.2.1.2.2.2.2.2.2.2.2
  rw [r] at k2 t0
  refine ⟨r1, D1, r2, D2, e1, e2, ?_, h.same k1 ⟨q1, q2⟩⟩
  show r1 = r2
  rw [k2, q3]
  have am : a = -1 ↔ a.toInt = -1 := ⟨fun e => by rw [e]; decide, fun e => Int32.toInt_inj.mp (by rw [e]; decide)⟩
  by_cases hc : -1 ≤ a.toInt ∧ a.toInt ≤ (E.1 6 0).toInt
  · rw [if_pos hc, if_pos]
    by_cases h1 : a.toInt = -1
    · exact Or.inl (am.mpr h1)
    · exact Or.inr ⟨by omega, hc.2⟩
  · rw [if_neg hc, if_neg]
    rintro (h1 | h1)
    · have := am.mp h1
      omega
    · omega
theorem ia_feed {a b c d e : Int32} (h : IA n0 P E) : Bt n0 P id (fX10_feed a b c d e P.2) (fX11_feed a b c d e E) := by
  obtain ⟨r1, D1, e1, k1, k2, k3⟩ := cX_feed (a := a) (b := b) (c := c) (d := d) (e := e) h.2.1.2 h.2.1.1
  obtain ⟨r2, D2, e2, q1, q2, q3, q4, q5⟩ := sM_feed (a := a) (b := b) (c := c) (d := d) (e := e) h.2.2.1
  have r : P.2.1 2 11 = E.1 6 0 := h.2.2.2.1.1
  have s : P.2.1 11 1 = E.1 2 0 := h.2.2.2.1.2
  rw [s] at k3
  by_cases hc : (E.1 2 0).toInt + 20 ≤ 500
  · rw [if_pos hc] at k3 q5
    have er : r1 = r2 := Int32.toInt_inj.mp (by rw [k3.1, q5.1])
    exact ⟨r1, D1, r2, D2, e1, e2, er, h.keep k1 q1 q3 (fun i hi _ => q4 i hi) (fun i _ _ => by rw [q2]) (by rw [k2, q2]; exact r) (by rw [← k3.2, ← q5.2]; exact er)⟩
  · rw [if_neg hc] at k3 q5
    exact ⟨r1, D1, r2, D2, e1, e2, k3.1.trans q5.1.symm, h.keep k1 q1 q3 (fun i hi _ => q4 i hi) (fun i _ _ => by rw [q2]) (by rw [k2, q2]; exact r) (by rw [k3.2, q5.2])⟩
theorem ia_end {a : Int32} (h : IA n0 P E) : Bt n0 P id (fX10_end a P.2) (fX11_end a E) := by
  obtain ⟨r1, D1, e1, k1, k2, k3⟩ := cX_end (a := a) h.2.1.2 h.2.1.1
  obtain ⟨r2, D2, e2, q1, q2, q3, q4, q5⟩ := sM_end (a := a) h.2.2.1
  have r : P.2.1 2 11 = E.1 6 0 := h.2.2.2.1.1
  have s : P.2.1 11 1 = E.1 2 0 := h.2.2.2.1.2
  rw [s] at k3
  by_cases hc : 0 ≤ a.toInt ∧ a.toInt ≤ (E.1 2 0).toInt
  · rw [if_pos hc] at k3 q5
    exact ⟨r1, D1, r2, D2, e1, e2, k3.1.trans q5.1.symm, h.keep k1 q1 q3 (fun i hi _ => q4 i hi) (fun i _ _ => by rw [q2]) (by rw [k2, q2]; exact r) (by rw [k3.2, q5.2])⟩
  · rw [if_neg hc] at k3 q5
    exact ⟨r1, D1, r2, D2, e1, e2, k3.1.trans q5.1.symm, h.keep k1 q1 q3 (fun i hi _ => q4 i hi) (fun i _ _ => by rw [q2]) (by rw [k2, q2]; exact r) (by rw [k3.2, q5.2])⟩
theorem ia_text {a : Int32} (ha : a = 0 ∨ a = 1) (h : IA n0 P E) : Bt n0 P (fun _ => True) (fX10_text a P.2) (fX11_text a E) := by
  obtain ⟨r1, D1, e1, k1, k2, k3⟩ := cX_text ha h.2.1.2 h.2.1.1
  obtain ⟨r2, D2, e2, q1, q2, q3, q4⟩ := sM_text (a := a) h.2.2.1
  have r : P.2.1 2 11 = E.1 6 0 := h.2.2.2.1.1
  exact ⟨r1, D1, r2, D2, e1, e2, trivial, h.keep k1 q1 q3 (fun i hi _ => by rw [q4 i, if_neg hi]) (fun i _ _ => by rw [q2]) (by rw [k2, q2]; exact r) (by rw [k3, q4 0, if_pos rfl])⟩
theorem ia_choose {a b y z m : Int32} (h : IA n0 P E) : Bt n0 P id (fX10_choose a b y z m P.2) (fX11_choose a b y z m E) := by
  obtain ⟨r1, D1, e1, k1, k2⟩ := cX_choose (a := a) (b := b) (y := y) (z := z) (m := m) h.2.1.2 h.2.1.1
  obtain ⟨r2, D2, e2, q1, q2, q3⟩ := sM_choose (a := a) (b := b) (y := y) (z := z) (m := m) h.2.2.1
  exact ⟨r1, D1, r2, D2, e1, e2, k2.trans q3.symm, h.same k1 ⟨q1, q2⟩⟩
theorem ia_stone {a b c : Int32} (h : IA n0 P E) : Bt n0 P (fun _ => True) (fX10_stone a b c P.2) (fX11_stone a b c E) := h.two (cX_stone h.2.1.2 h.2.1.1) (sM_stone h.2.2.1)
theorem ia_tell {a b c : Int32} (h : IA n0 P E) : Bt n0 P (fun _ => True) (fX10_tell a b c P.2) (fX11_tell a b c E) := h.two (cX_tell h.2.1.2 h.2.1.1) (sM_tell h.2.2.1)
/-- a new or another image -/
theorem IA.img {im im2 : Nat → Option Nat} {w : AWS} {D D1 E1 : ADD} {k o : Nat} (h : IA n0 P E) (him : imOK n0 P.1 im) (hk : k < 3) (hL : ∀ D, Lay n0 (w, D)) (h2 : imOK n0 w im2) (ei : ∀ j, im2 j = if j = k then some o else im j) (fD : ∀ c, c < P.1.1 → D.1 c = P.2.1 c) (ho : 98 ≤ o) (hz : ∀ j z, j < 3 → j ≠ k → im j = some z → z + 31 ≤ o ∨ o + 31 ≤ z) (hc : CpX cpL o 1 D D1) (q : QMs E1) (e39 : ∀ i, E1.1 39 i = if i = k then 1 else E.1 39 i) (e2 : ∀ i, i < 4 → E1.1 2 i = if i = k + 1 then E.1 2 0 else E.1 2 i) (e6 : ∀ i, i < 4 → E1.1 6 i = if i = k + 1 then E.1 6 0 else E.1 6 i) : IA n0 (w, D1) E1 := by
  have hLP : 98 ≤ P.1.1 := h.1.1.1
  have f1 : ∀ c, c < 98 → D1.1 c = P.2.1 c := fun c hc2 => by rw [hc.1 c (by omega), fD c (by omega)]
  have q1 : QXt D 1 := h.2.1.2.fr (fun c _ h2 => fD c (by omega))
  refine ⟨hL D1, ⟨?_, h.2.1.2.fr (fun c _ h2 => f1 c (by omega))⟩, q, h.2.2.2.1.fr (fun c _ h2 => f1 c (by omega)) (by rw [e2 0 (by decide), if_neg (by omega)]) (by rw [e6 0 (by decide), if_neg (by omega)]), fun im3 h3 j hj => ?_⟩
  · show TN D1
    unfold TN
    rw [f1 38 (by decide)]
    exact h.2.1.1
  · rw [im_uniq h3 h2, ei j, e39 j]
    by_cases hjk : j = k
    · rw [if_pos hjk, if_pos hjk]
      refine Or.inr ⟨o, rfl, by decide, hc.qt q1, ?_, ?_⟩
      · rw [hc.at (by decide) (by decide), fD (1 + 1) (by omega), e6 (j + 1) (by omega), if_pos (by omega)]
        exact h.2.2.2.1.1
      · rw [hc.at (by decide) (by decide), fD (1 + 10) (by omega), e2 (j + 1) (by omega), if_pos (by omega)]
        exact h.2.2.2.1.2
    · rw [if_neg hjk, if_neg hjk]
      rcases h.2.2.2.2 im him j hj with hn | ⟨z, z1, z2, z3, z4⟩
      · exact Or.inl hn
      · have far := (h.1.far him).1 j z hj z1
        have dis := hz j z hj hjk z1
        have fz : ∀ c, z ≤ c → c < z + 31 → D1.1 c = P.2.1 c := fun c a b => by rw [hc.1 c (by omega), fD c (by omega)]
        exact Or.inr ⟨z, z1, z2, z3.fr fz, z4.fr fz (by rw [e2 _ (by omega), if_neg (by omega)]) (by rw [e6 _ (by omega), if_neg (by omega)])⟩
theorem ia_image (h : IA n0 P E) {im : Nat → Option Nat} (him : imOK n0 P.1 im) (a : Int32) : ∃ r1 X r2 D2, fImg n0 im P.1 a P.2 = some (r1, X) ∧ fX11_image a E = some (r2, D2) ∧ r1 = r2 ∧ IA n0 X D2 ∧ P.1.1 ≤ X.1.1 ∧
  (∀ P3, P3 = aPR (fI_X8_init n0 P.1.1 (aNO (P.1, P.2) 7)) 32 a.toNatClampNeg (n0 + P.1.1) → aLSw n0 P3.1 P.1.1 ∧ aLSw n0 P3.1 1) ∧
  (∀ P2, P2 = fI_X8_init n0 P.1.1 (aNO (P.1, P.2) 7) → (32 ∈ P2.1.2.1 ∧ P2.1.2.2 32 = (15, 3, fun j => (im j).map (n0 + ·))) ∧ (P2.1.2.2 0).2.2 1 = some (n0 + 32) ∧ (P2.1.2.2 0).2.2 0 = some (n0 + 1)) := by
  have hL := h.1
  have L3 : (3 : Int32).toInt = 3 := by decide
  obtain ⟨g1, g2, g3, g4, g5, g6, g7, g8⟩ := Lay.img (k := a.toNatClampNeg) hL him
  have hN1 : ∀ P3, P3 = aPR (fI_X8_init n0 P.1.1 (aNO (P.1, P.2) 7)) 32 a.toNatClampNeg (n0 + P.1.1) → aLSw n0 P3.1 P.1.1 ∧ aLSw n0 P3.1 1 := by
    intro P3 e
    rw [sOps_run] at e
    rw [e]
    exact ⟨g3, g4⟩
  have hN2 : ∀ P2, P2 = fI_X8_init n0 P.1.1 (aNO (P.1, P.2) 7) → (32 ∈ P2.1.2.1 ∧ P2.1.2.2 32 = (15, 3, fun j => (im j).map (n0 + ·))) ∧ (P2.1.2.2 0).2.2 1 = some (n0 + 32) ∧ (P2.1.2.2 0).2.2 0 = some (n0 + 1) := by
    intro P2 e
    rw [sOps_run] at e
    rw [e]
    exact ⟨g5, g6, g7⟩
  obtain ⟨r2, D2, e2, q1, q2⟩ := sM_image (a := a) h.2.2.1
  have K : ∃ r1 X, fImg n0 im P.1 a P.2 = some (r1, X) ∧ r1 = r2 ∧ IA n0 X D2 ∧ P.1.1 ≤ X.1.1 := by
    by_cases hc : 0 ≤ a.toInt ∧ a.toInt ≤ 2
    · rw [if_pos hc] at q2
      obtain ⟨q2, q3, q4, q5⟩ := q2
      have l1 : ¬ a < 0 := fun q => by have := Int32.lt_iff_toInt_lt.mp q; rw [ti_0] at this; omega
      have l2 : a < 3 := Int32.lt_iff_toInt_lt.mpr (by omega)
      have ec := cl_i hc.1
      have hk : a.toNatClampNeg < 3 := by omega
      cases hi : im a.toNatClampNeg with
      | some z =>
        have far := (hL.far him).1 _ z hk hi
        obtain ⟨x, D1, e1, c1⟩ := tX8_copy (o := z) (p := 1) (D := P.2) (by omega)
        refine ⟨1, (P.1, D1), ?_, q2.symm, h.img him hk (fun _ => hL) him (fun j => ?_) (fun _ _ => rfl) far.1 (fun j y hj hjk hy => ?_) c1 q1 q3 q4 q5, Nat.le_refl _⟩
        · unfold fImg
          rw [if_neg l1, if_pos l2, hi]
          simp only []
          rw [e1]
          rfl
        · by_cases e : j = a.toNatClampNeg
          · rw [if_pos e, e, hi]
          · rw [if_neg e]
        · exact (hL.far him).2 j _ y z hj hk hjk hy hi
      | none =>
        have hd : ∀ c, c < P.1.1 → (opB n0 P.1.1 P sOps).2.1 c = P.2.1 c := fun c hc2 => by
          funext f
          exact (opB_spec n0 P.1.1 P rfl sOps sOps_all).2.2.2.2.1 c f hc2
        have l98 : 98 ≤ P.1.1 := hL.1.1
        obtain ⟨x, D1, e1, c1⟩ := tX8_copy (o := P.1.1) (p := 1) (D := (opB n0 P.1.1 P sOps).2) (by omega)
        refine ⟨1, ((aPR (opB n0 P.1.1 P sOps) 32 a.toNatClampNeg (n0 + P.1.1)).1, D1), ?_, q2.symm, h.img him hk g1 g2 (fun j => rfl) hd l98 (fun j y hj hjk hy => ?_) c1 q1 q3 q4 q5, ?_⟩
        · unfold fImg
          rw [if_neg l1, if_pos l2, hi]
          simp only [aLet]
          rw [sOps_run]
          show aBind (fX8_copyFrom P.1.1 1 (opB n0 P.1.1 P sOps).2) _ = _
          rw [e1]
          rfl
        · exact Or.inl ((hL.far him).1 j y hj hy).2
        · show P.1.1 ≤ (opB n0 P.1.1 P sOps).1.1
          omega
    · rw [if_neg hc] at q2
      refine ⟨0, P, ?_, q2.1.symm, ?_, Nat.le_refl _⟩
      · unfold fImg
        by_cases l1 : a < 0
        · rw [if_pos l1]
        · rw [if_neg l1, if_neg]
          intro q
          have := Int32.lt_iff_toInt_lt.mp q
          have l1 : ¬ a.toInt < 0 := fun q => l1 (Int32.lt_iff_toInt_lt.mpr (by rw [ti_0]; omega))
          omega
      · exact h.same (D1 := P.2) ⟨KX.refl h.2.1.2 h.2.1.1, rfl, rfl⟩ ⟨q1, q2.2⟩
  obtain ⟨r1, X, k1, k2, k3, k4⟩ := K
  exact ⟨r1, X, r2, D2, k1, e2, k2, k3, k4, hN1, hN2⟩
theorem ia_again (h : IA n0 P E) {im : Nat → Option Nat} (him : imOK n0 P.1 im) (a : Int32) : Bt n0 P id (fAgn im a P.2) (fX11_again a E) := by
  have hL := h.1
  have L3 : (3 : Int32).toInt = 3 := by decide
  obtain ⟨r2, D2, e2, q1, q2, q3⟩ := sM_again (a := a) h.2.2.1
  by_cases hc : 0 ≤ a.toInt ∧ a.toInt ≤ 2
  · have l1 : ¬ a < 0 := fun q => by have := Int32.lt_iff_toInt_lt.mp q; rw [ti_0] at this; omega
    have l2 : a < 3 := Int32.lt_iff_toInt_lt.mpr (by omega)
    have ec := cl_i hc.1
    have hk : a.toNatClampNeg < 3 := by omega
    rcases h.2.2.2.2 im him _ hk with ⟨n1, n2⟩ | ⟨z, z1, z2, z3, z4⟩
    · rw [if_neg (fun q => q.2 n2)] at q3
      refine ⟨0, P.2, r2, D2, ?_, e2, q3.1.symm, h.same ⟨KX.refl h.2.1.2 h.2.1.1, rfl, rfl⟩ ⟨q1, q3.2⟩⟩
      unfold fAgn
      rw [if_neg l1, if_pos l2, n1]
    · rw [if_pos ⟨hc, z2⟩] at q3
      have far := (hL.far him).1 _ z hk z1
      obtain ⟨x, D1, e1, c1⟩ := tX8_copy (o := 1) (p := z) (D := P.2) (by omega)
      refine ⟨1, D1, r2, D2, ?_, e2, q3.1.symm, h.keep ⟨fun c hc2 => c1.1 c (by omega), ?_, c1.qt z3⟩ q1 q2 (fun i hi h4 => ?_) (fun i hi h4 => ?_) ?_ ?_⟩
      · unfold fAgn
        rw [if_neg l1, if_pos l2, z1]
        simp only []
        rw [e1]
        rfl
      · unfold TN
        rw [c1.1 38 (by omega)]
        exact h.2.1.1
      · rw [q3.2.1 i h4, if_neg hi]
      · rw [q3.2.2 i h4, if_neg hi]
      · have : D1.1 (1 + 1) 11 = _ := c1.at (by decide) (by decide)
        show D1.1 (1 + 1) 11 = _
        rw [this, q3.2.2 0 (by decide), if_pos rfl]
        exact z4.1
      · have : D1.1 (1 + 10) 1 = _ := c1.at (by decide) (by decide)
        show D1.1 (1 + 10) 1 = _
        rw [this, q3.2.1 0 (by decide), if_pos rfl]
        exact z4.2
  · rw [if_neg (fun q => hc q.1)] at q3
    refine ⟨0, P.2, r2, D2, ?_, e2, q3.1.symm, h.same ⟨KX.refl h.2.1.2 h.2.1.1, rfl, rfl⟩ ⟨q1, q3.2⟩⟩
    unfold fAgn
    by_cases l1 : a < 0
    · rw [if_pos l1]
    · rw [if_neg l1, if_neg]
      intro q
      have := Int32.lt_iff_toInt_lt.mp q
      have l1 : ¬ a.toInt < 0 := fun q => l1 (Int32.lt_iff_toInt_lt.mpr (by rw [ti_0]; omega))
      omega
end IAs
end
section
theorem id_all (n0 : Nat) : LAll n0 (IA n0) (IA n0) := by
  refine ⟨fun P Dm h => h.1.lays, fun P Dm h => h.1.1, fun P Dm h => h, ?_, ?_, ?_, ?_, ?_, ?_, ?_, ?_, ?_, ?_, ?_, ?_, ?_, ?_, ?_, ?_, ?_, ?_, ?_, ?_, ?_, ?_, ?_, ?_, ?_, ?_, ?_, ?_, ?_, ?_⟩
  · intro P Dm h a1 a2 a3
    exact ia_stone h
  · intro P Dm h a1 a2 a3
    exact ia_tell h
  · intro P Dm h a1
    exact (ia_day h).weak
  · intro P Dm h a1
    exact (ia_view h).weak
  · intro P Dm h a1 a2
    exact h.ask (fun _ => Pu.fx ⟨_, _, oX_fact, rfl⟩) (fun q => oM_fact q)
  · intro P Dm h a1 a2
    exact h.ask (fun _ => Pu.fx oX_entry) (fun q => oM_entry q)
  · intro P Dm h a1 a2 a3 a4 a5
    exact (ia_feed h).weak
  · intro P Dm h a1
    exact (ia_end h).weak
  · intro P Dm h a1 ha
    exact ia_text ha h
  · intro P Dm h a1
    exact h.ask (fun _ => Pu.fx oX_fault) (fun _ => oM_fault)
  · intro P Dm h a1 a2 a3 a4 a5
    exact (ia_choose h).weak
  · intro P Dm h a1 a2
    exact h.ask (fun q => oX_span q) (fun q => oM_span q)
  · intro P Dm h a1 a2 a3
    exact h.ask (fun q => oX_by q) (fun q => oM_by q)
  · intro P Dm h a1
    exact h.ask (fun q => oX_score q) (fun q => oM_score q)
  · intro P Dm h a1 a2
    exact h.ask (fun q => oX_best q) (fun q => oM_best q)
  · intro P Dm h a1 a2 a3
    exact h.ask (fun q => oX_peak q) (fun q => oM_peak q)
  · intro P Dm h a1 a2
    exact h.ask (fun q => oX_pair q) (fun q => oM_pair q)
  · intro P Dm h a1 a2
    exact h.ask (fun q => oX_sum q) (fun q => oM_sum q)
  · intro P Dm h a1
    exact h.ask (fun q => oX_chance q) (fun q => oM_chance q)
  · intro P Dm h a1 a2 a3
    exact h.ask (fun q => oX_verdict q) (fun q => oM_verdict q)
  · intro P Dm h a1 a2 a3
    exact h.ask (fun q => oX_set q) (fun q => oM_set q)
  · intro P Dm h a1 a2 a3 a4 a5
    exact h.ask (fun q => oX_rate q) (fun q => oM_rate q)
  · intro P Dm h a1 a2 a3
    exact h.ask (fun q => oX_drift q) (fun q => oM_drift q)
  · intro P Dm h a1 a2 a3
    exact h.ask (fun q => oX_owner q) (fun q => oM_owner q)
  · intro P Dm h a1 a2
    exact h.ask (fun q => oX_heap q) (fun q => oM_heap q)
  · intro P Dm h a1 a2
    exact h.ask (fun q => oX_anew q) (fun q => oM_anew q)
  · intro P Dm h a1 a2 a3
    exact h.ask (fun q => oX_worth q) (fun q => oM_worth q)
  · intro P Dm h a1
    exact h.ask (fun q => oX_count q) (fun q => oM_count q)
  · intro P Dm h im him a1
    obtain ⟨r1, X, r2, D2, k1, k2, k3, k4⟩ := ia_image h him a1
    exact ⟨r1, X, r2, D2, k1, k2, trivial, k4⟩
  · intro P Dm h im him a1
    exact ia_again h him a1
end
section
theorem xI (n0 q f : Nat) : (xB n0).2.1 q f = opInt xOps q f := by
  show (x0 n0).2.1 q f = _
  rw [x0_run]
  exact (opRun_spec n0 xOps).2.2.2.1 q f
theorem mI (n1 q f : Nat) : (m0 n1).2.1 q f = opInt mOps q f := by
  rw [m0_run]
  exact (opRun_spec n1 mOps).2.2.2.1 q f
theorem xB_im (n0 : Nat) : imOK n0 (xB n0).1 (fun _ => none) := ⟨⟨by show 32 ∈ List.range 58; decide, rfl⟩, fun j z _ h => by cases h⟩
theorem xB_Lay (n0 : Nat) : Lay n0 (xB n0) := by
  refine ⟨⟨Nat.le_refl _, fun k hk => ?_⟩, fun k S hS => ?_, aLSw_tab.mpr (fun q hq => ?_), _, xB_im n0, fun j z _ h => (by cases h), fun i j z y _ _ _ h => (by cases h)⟩
  · have := List.mem_range.mp hk
    exact ⟨Or.inl this, by show k < 98; omega⟩
  · have hl := (xTab_lt _ hS).1
    refine ⟨List.mem_range.mpr hl, ?_⟩
    simp only [xTab, List.mem_cons, List.not_mem_nil, or_false, Prod.mk.injEq] at hS
    rcases hS with ⟨rfl, rfl⟩ | ⟨rfl, rfl⟩ | ⟨rfl, rfl⟩ | ⟨rfl, rfl⟩ | ⟨rfl, rfl⟩ | ⟨rfl, rfl⟩ | ⟨rfl, rfl⟩ | ⟨rfl, rfl⟩ | ⟨rfl, rfl⟩ | ⟨rfl, rfl⟩ | ⟨rfl, rfl⟩ | ⟨rfl, rfl⟩ | ⟨rfl, rfl⟩ | ⟨rfl, rfl⟩ | ⟨rfl, rfl⟩ | ⟨rfl, rfl⟩ | ⟨rfl, rfl⟩ | ⟨rfl, rfl⟩ | ⟨rfl, rfl⟩ | ⟨rfl, rfl⟩ | ⟨rfl, rfl⟩ | ⟨rfl, rfl⟩ | ⟨rfl, rfl⟩ | ⟨rfl, rfl⟩ | ⟨rfl, rfl⟩ | ⟨rfl, rfl⟩ | ⟨rfl, rfl⟩ | ⟨rfl, rfl⟩ | ⟨rfl, rfl⟩ | ⟨rfl, rfl⟩ | ⟨rfl, rfl⟩ | ⟨rfl, rfl⟩ | ⟨rfl, rfl⟩ | ⟨rfl, rfl⟩ | ⟨rfl, rfl⟩ | ⟨rfl, rfl⟩ | ⟨rfl, rfl⟩ | ⟨rfl, rfl⟩ | ⟨rfl, rfl⟩ | ⟨rfl, rfl⟩ | ⟨rfl, rfl⟩ | ⟨rfl, rfl⟩ | ⟨rfl, rfl⟩ | ⟨rfl, rfl⟩ | ⟨rfl, rfl⟩ | ⟨rfl, rfl⟩ | ⟨rfl, rfl⟩ | ⟨rfl, rfl⟩ | ⟨rfl, rfl⟩ | ⟨rfl, rfl⟩ | ⟨rfl, rfl⟩ | ⟨rfl, rfl⟩ | ⟨rfl, rfl⟩ | ⟨rfl, rfl⟩ | ⟨rfl, rfl⟩ | ⟨rfl, rfl⟩ | ⟨rfl, rfl⟩ <;> rfl
  · refine ⟨List.mem_range.mpr (by have := sTab_lt q hq; omega), ?_⟩
    simp only [sTab, List.mem_cons, List.not_mem_nil, or_false] at hq
    rcases hq with rfl | rfl | rfl | rfl | rfl | rfl | rfl | rfl | rfl | rfl | rfl | rfl | rfl | rfl | rfl | rfl | rfl | rfl | rfl | rfl | rfl | rfl | rfl | rfl | rfl | rfl | rfl | rfl | rfl | rfl | rfl <;> rfl
theorem xB_TN (n0 : Nat) : TN (xB n0).2 := by
  have : ∀ l, l < 16 → 0 ≤ (opInt xOps 38 l).toInt := by decide +kernel
  exact fun l hl => by rw [xI]; exact this l hl
theorem xB_QX (n0 : Nat) : QXt (xB n0).2 1 := by
  have e10 : (xB n0).2.1 (1 + 1) 10 = 0 := by rw [xI]; decide +kernel
  refine ⟨?_, ?_, ?_, fun k hk => ?_, ?_, ?_, ?_, ?_⟩
  case refine_4 =>
    rw [e10, ti_0] at hk
    omega
  all_goals (simp only [xI]; decide +kernel)
theorem mB_QM (n1 : Nat) : QMs (m0 n1).2 := by
  have e8 : ∀ t, t < 4 → opInt mOps 8 t = 0 := by decide +kernel
  have e5 : ∀ t, t < 4 → opInt mOps 5 t = 0 := by decide +kernel
  have e2 : ∀ t, t < 4 → opInt mOps 2 t = 0 := by decide +kernel
  have e15 : ∀ t, t < 8 → opInt mOps 15 t = 0 := by decide +kernel
  have e16 : ∀ t, t < 128 → opInt mOps 16 t = 0 := by decide +kernel
  have e23 : ∀ t, t < 17 → opInt mOps 23 t = 0 := by decide +kernel
  refine ⟨fun t ht => ⟨?_, ?_, fun k hk => ?_, ⟨?_, ?_⟩, fun l hl => ?_, ?_⟩, fun i hi => ?_⟩
  · rw [mI, e5 t ht]; decide
  · rw [mI, e8 t ht]; decide
  · rw [mI, e8 t ht, ti_0] at hk
    omega
  · rw [mI, e15 _ (by omega)]; decide
  · rw [mI, e15 _ (by omega)]; decide
  · rw [mI, e16 _ (by omega)]; decide
  · rw [mI, e2 t ht]; decide
  · rw [mI, e23 i hi]; decide
theorem ia_first (n0 n1 : Nat) : IA n0 (xB n0) (m0 n1).2 := by
  refine ⟨xB_Lay n0, ⟨xB_TN n0, xB_QX n0⟩, mB_QM n1, ⟨?_, ?_⟩, fun im him j hj => ?_⟩
  · rw [xI, mI]; decide +kernel
  · rw [xI, mI]; decide +kernel
  · rw [im_uniq him (xB_im n0), mI]
    have : ∀ j, j < 3 → aBz (opInt mOps 39 j) = 0 := by decide +kernel
    exact Or.inl ⟨rfl, this j hj⟩
end
