/-! the reference: the other calls that change it -/
section MT
variable {D : ADD}
theorem QMs.si {c i : Nat} {v : Int32} (h : QMs D) (hc : c ≠ 2 ∧ c ≠ 5 ∧ c ≠ 8 ∧ c ≠ 9 ∧ c ≠ 15 ∧ c ≠ 16 ∧ c ≠ 23) : QMs (aSI D c i v) := by
  have g : ∀ k, k ≠ c → (aSI D c i v).1 k = D.1 k := fun k hk => by
    funext z
    simp [aSI, hk]
  refine ⟨fun t ht => ?_, ?_⟩
  · unfold QMt
    rw [g 5 (by omega), g 8 (by omega), g 9 (by omega), g 15 (by omega), g 16 (by omega), g 2 (by omega)]
    exact h.1 t ht
  · unfold TM
    rw [g 23 (by omega)]
    exact h.2
theorem si_o {D : ADD} {c i : Nat} {v : Int32} {k : Nat} (hk : k ≠ c) : (aSI D c i v).1 k = D.1 k := by
  funext z
  simp [aSI, hk]
theorem si_s {D : ADD} {c i j : Nat} {v : Int32} : (aSI D c i v).1 c j = if j = i then v else D.1 c j := by simp [aSI]
/-- the reference's day -/
theorem sM_day {a : Int32} (h : QMs D) : Wp (fX11_day a D) (fun r D1 => QMs D1 ∧ D1.1 2 = D.1 2 ∧ D1.1 39 = D.1 39 ∧ (r = if (D.1 6 0).toInt ≤ a.toInt ∧ a.toInt ≤ 9999 then 1 else 0) ∧ ∀ i, D1.1 6 i = if i = 0 ∧ (D.1 6 0).toInt ≤ a.toInt ∧ a.toInt ≤ 9999 then a else D.1 6 i) := by
  unfold fX11_day
  have f1 : FmM D (aSI D 0 0 0) := FmM.code
  have h1 := h.fm f1
  have e9 : (9999 : Int32).toInt = 9999 := by decide
  refine Wp.lets (Wp.idd (by decide) (Wp.bindE (eM_is _ _ _ _) ?_))
  rw [cl_0, f1 6 (by omega), e9]
  by_cases hc : (D.1 6 0).toInt ≤ a.toInt ∧ a.toInt ≤ 9999
  · rw [if_pos hc]
    refine Wp.neg (by decide) (Wp.idd (by decide) (Wp.lets (Wp.ret ⟨h1.si (by decide), by rw [si_o (by decide), f1 2 (by omega)], by rw [si_o (by decide), f1 39 (by omega)], rfl, fun i => ?_⟩)))
    rw [si_s, f1 6 (by omega)]
    by_cases hi : i = 0
    · rw [if_pos hi, if_pos ⟨hi, hc⟩]
    · rw [if_neg hi, if_neg (fun q => hi q.1)]
  · rw [if_neg hc]
    refine Wp.pos rfl (Wp.ret ⟨h1, f1 2 (by omega), f1 39 (by omega), rfl, fun i => ?_⟩)
    rw [if_neg (fun q => hc q.2), f1 6 (by omega)]
theorem sM_view {a : Int32} (h : QMs D) : Wp (fX11_view a D) (fun r D1 => QMs D1 ∧ KM D D1 ∧ r = if -1 ≤ a.toInt ∧ a.toInt ≤ (D.1 6 0).toInt then 1 else 0) := by
  unfold fX11_view
  have f1 : FmM D (aSI D 0 0 0) := FmM.code
  have h1 := h.fm f1
  refine Wp.lets (Wp.idd (by decide) (Wp.bindE (eM_is _ _ _ _) ?_))
  rw [cl_0, f1 6 (by omega), ti_m1]
  by_cases hc : -1 ≤ a.toInt ∧ a.toInt ≤ (D.1 6 0).toInt
  · rw [if_pos hc]
    exact Wp.neg (by decide) (Wp.idd (by decide) (Wp.lets (Wp.ret ⟨h1.si (by decide), ⟨by rw [si_o (by decide), f1 2 (by omega)], by rw [si_o (by decide), f1 6 (by omega)], by rw [si_o (by decide), f1 39 (by omega)]⟩, rfl⟩)))
  · rw [if_neg hc]
    exact Wp.pos rfl (Wp.ret ⟨h1, f1.km, rfl⟩)
theorem len_now {D1 : ADD} (h : QMs D) (f : ∀ c, c ≠ 0 → c ≠ 1 → c ≠ 2 → D1.1 c = D.1 c) (g : ∀ i, i ≠ 0 → D1.1 2 i = D.1 2 i) (l : 0 ≤ (D1.1 2 0).toInt ∧ (D1.1 2 0).toInt ≤ 500) : QMs D1 := by
  have q := h.qm
  refine h.now (fun c i hc hi => ?_) ?_ l ?_
  · by_cases c2 : c = 2
    · subst c2
      have s2 : szM 2 = 1 := rfl
      rw [g i (by omega)]
    · rw [f c (by omega) (by omega) c2]
  · unfold QM
    rw [f 5 (by decide) (by decide) (by decide), f 8 (by decide) (by decide) (by decide), f 9 (by decide) (by decide) (by decide), f 15 (by decide) (by decide) (by decide), f 16 (by decide) (by decide) (by decide)]
    exact q
  · unfold TM
    rw [f 23 (by decide) (by decide) (by decide)]
    exact h.2
/-- five times four bytes -/
theorem tM_feed {a b c d e : Int32} {n : Nat} (h0 : (D.1 2 0).toInt = n) (h1 : n ≤ 500) : Wp (fX11_feed a b c d e D) (fun r D1 => (∀ c, c ≠ 0 → c ≠ 1 → c ≠ 2 → D1.1 c = D.1 c) ∧ (∀ i, i ≠ 0 → D1.1 2 i = D.1 2 i) ∧ if n + 20 ≤ 500 then r.toInt = ((n + 20 : Nat) : Int) ∧ r = D1.1 2 0 else r = -1 ∧ D1.1 2 0 = D.1 2 0) := by
  unfold fX11_feed
  refine Wp.leti (fun D1 e1 => Wp.idd (by decide) ?_)
  have g1 : ∀ c, c ≠ 0 → D1.1 c = D.1 c := fun c hc => by rw [e1]; exact si_o hc
  rw [cl_0, g1 2 (by decide)]
  have e20 : (D.1 2 0 + 20).toInt = (n : Int) + 20 := ti_add h0 (by decide) (by omega) (by omega)
  have e5 : (500 : Int32).toInt = 500 := by decide
  refine Wp.ile (fun hl => ?_) (fun hl => Wp.ret ⟨fun c a _ _ => g1 c a, fun i _ => by rw [g1 2 (by decide)], ?_⟩)
  · have F : ∀ (x : Int32) (E : ADD) (m : Nat), (E.1 2 0).toInt = m → m + 4 ≤ 500 → Wp (fX11_four x E) (fun _ E1 => (∀ c, c ≠ 1 → c ≠ 2 → E1.1 c = E.1 c) ∧ (∀ i, i ≠ 0 → E1.1 2 i = E.1 2 i) ∧ (E1.1 2 0).toInt = ((m + 4 : Nat) : Int)) := fun x E m hm hm4 => by
      refine (tM_four (by omega) (by omega)).mono (fun _ E1 q => ⟨q.1, q.2.2.1, ?_⟩)
      have := q.2.2.2.1
      omega
    have z1 : (D1.1 2 0).toInt = n := by rw [g1 2 (by decide)]; exact h0
    refine Wp.bind (F a D1 n z1 (by omega)) (fun _ D2 q2 => Wp.bind (F b D2 (n + 4) q2.2.2 (by omega)) (fun _ D3 q3 => Wp.bind (F c D3 (n + 4 + 4) q3.2.2 (by omega)) (fun _ D4 q4 => Wp.bind (F d D4 (n + 4 + 4 + 4) q4.2.2 (by omega)) (fun _ D5 q5 => Wp.bind (F e D5 (n + 4 + 4 + 4 + 4) q5.2.2 (by omega)) (fun _ D6 q6 => Wp.idd (by decide) (Wp.ret ⟨fun c a b d => ?_, fun i hi => ?_, ?_⟩))))))
    · rw [q6.1 c b d, q5.1 c b d, q4.1 c b d, q3.1 c b d, q2.1 c b d, g1 c a]
    · rw [q6.2.1 i hi, q5.2.1 i hi, q4.2.1 i hi, q3.2.1 i hi, q2.2.1 i hi, g1 2 (by decide)]
    · rw [if_pos (by omega)]
      exact ⟨by have := q6.2.2; omega, rfl⟩
  · rw [if_neg (by omega)]
    exact ⟨rfl, by rw [g1 2 (by decide)]⟩
theorem sM_feed {a b c d e : Int32} (h : QMs D) : Wp (fX11_feed a b c d e D) (fun r D1 => QMs D1 ∧ D1.1 6 = D.1 6 ∧ D1.1 39 = D.1 39 ∧ (∀ i, i ≠ 0 → D1.1 2 i = D.1 2 i) ∧ if (D.1 2 0).toInt + 20 ≤ 500 then r.toInt = (D.1 2 0).toInt + 20 ∧ r = D1.1 2 0 else r = -1 ∧ D1.1 2 0 = D.1 2 0) := by
  have l := h.len
  have el := cl_i l.1
  refine (tM_feed (n := (D.1 2 0).toNatClampNeg) (by omega) (by omega)).mono (fun r D1 q => ?_)
  obtain ⟨q1, q2, q3⟩ := q
  by_cases hc : (D.1 2 0).toInt + 20 ≤ 500
  · rw [if_pos (by omega)] at q3
    refine ⟨len_now h q1 q2 (by rw [← q3.2]; omega), q1 6 (by decide) (by decide) (by decide), q1 39 (by decide) (by decide) (by decide), q2, ?_⟩
    rw [if_pos hc]
    exact ⟨by omega, q3.2⟩
  · rw [if_neg (by omega)] at q3
    refine ⟨len_now h q1 q2 (by rw [q3.2]; exact l), q1 6 (by decide) (by decide) (by decide), q1 39 (by decide) (by decide) (by decide), q2, ?_⟩
    rw [if_neg hc]
    exact q3
theorem sM_end {a : Int32} (h : QMs D) : Wp (fX11_end a D) (fun r D1 => QMs D1 ∧ D1.1 6 = D.1 6 ∧ D1.1 39 = D.1 39 ∧ (∀ i, i ≠ 0 → D1.1 2 i = D.1 2 i) ∧ if 0 ≤ a.toInt ∧ a.toInt ≤ (D.1 2 0).toInt then r = a ∧ D1.1 2 0 = a else r = -1 ∧ D1.1 2 0 = D.1 2 0) := by
  unfold fX11_end
  have l := h.len
  have f1 : FmM D (aSI D 0 0 0) := FmM.code
  have h1 := h.fm f1
  refine Wp.lets (Wp.idd (by decide) (Wp.bindE (eM_is _ _ _ _) ?_))
  generalize aSI D 0 0 0 = D1 at f1 h1 ⊢
  rw [cl_0, f1 2 (by omega), ti_0]
  by_cases hc : 0 ≤ a.toInt ∧ a.toInt ≤ (D.1 2 0).toInt
  · rw [if_pos hc]
    refine Wp.neg (by decide) (Wp.idd (by decide) (Wp.leti (fun D3 e3 => Wp.ret ?_)))
    have g0 : D3.1 2 0 = a := by rw [e3, si_s]; rfl
    have gi : ∀ i, i ≠ 0 → D3.1 2 i = D1.1 2 i := fun i hi => by rw [e3, si_s, if_neg hi]
    have gc : ∀ c, c ≠ 2 → D3.1 c = D1.1 c := fun c hc => by rw [e3]; exact si_o hc
    refine ⟨len_now h1 (fun c _ _ b => gc c b) gi (by rw [g0]; omega), by rw [gc 6 (by decide), f1 6 (by omega)], by rw [gc 39 (by decide), f1 39 (by omega)], fun i hi => by rw [gi i hi, f1 2 (by omega)], ?_⟩
    rw [if_pos hc]
    exact ⟨rfl, g0⟩
  · rw [if_neg hc]
    refine Wp.pos rfl (Wp.ret ⟨h1, f1 6 (by omega), f1 39 (by omega), fun i _ => by rw [f1 2 (by omega)], ?_⟩)
    rw [if_neg hc]
    exact ⟨rfl, by rw [f1 2 (by omega)]⟩
theorem sM_text {a : Int32} (h : QMs D) : Wp (fX11_text a D) (fun _ D1 => QMs D1 ∧ D1.1 6 = D.1 6 ∧ D1.1 39 = D.1 39 ∧ ∀ i, D1.1 2 i = if i = 0 then 0 else D.1 2 i) := by
  have q := h.qm
  refine (oM_text q h.2 h.len).mono (fun _ D1 x => ?_)
  obtain ⟨x1, x2, x3, x4, x5, x6, x7, x8⟩ := x
  have s2 : szM 2 = 1 := rfl
  have s15 : szM 15 = 2 := rfl
  have s16 : szM 16 = 32 := rfl
  refine ⟨h.now (fun c i hc hi => ?_) ⟨by rw [x1 5 (by omega)]; exact q.1, by rw [x1 8 (by omega)]; exact q.2.1, by rw [x1 8 (by omega), x1 9 (by omega)]; exact q.2.2.1, x6, x7⟩ (by rw [x3]; decide) x8, x1 6 (by omega), x1 39 (by omega), fun i => ?_⟩
  · by_cases c2 : c = 2
    · subst c2
      exact x2 2 (by decide) (by decide) i (by omega)
    · by_cases c15 : c = 15
      · subst c15
        exact x4 i (by omega)
      · by_cases c16 : c = 16
        · subst c16
          exact x5 i (by omega)
        · rw [x1 c (by omega)]
  · by_cases hi : i = 0
    · rw [if_pos hi, hi, x3]
    · rw [if_neg hi, x2 2 (by decide) (by decide) i hi]
theorem sM_choose {a b y z m : Int32} (h : QMs D) : Wp (fX11_choose a b y z m D) (fun r D1 => QMs D1 ∧ KM D D1 ∧ r = if ChOK y z m then 1 else 0) := by
  refine (tM_choose (E := D)).mono (fun r D1 k => ?_)
  by_cases hc : ChOK y z m
  · rw [if_pos hc] at k
    obtain ⟨k1, k2, -⟩ := k
    have g : ∀ c, c ≠ 0 → c ≠ 11 → c ≠ 12 → c ≠ 13 → c ≠ 14 → D1.1 c = D.1 c := k2
    refine ⟨⟨fun t ht => ?_, ?_⟩, ⟨g 2 (by decide) (by decide) (by decide) (by decide) (by decide), g 6 (by decide) (by decide) (by decide) (by decide) (by decide), g 39 (by decide) (by decide) (by decide) (by decide) (by decide)⟩, by rw [if_pos hc]; exact k1⟩
    · unfold QMt
      rw [g 5 (by decide) (by decide) (by decide) (by decide) (by decide), g 8 (by decide) (by decide) (by decide) (by decide) (by decide), g 9 (by decide) (by decide) (by decide) (by decide) (by decide), g 15 (by decide) (by decide) (by decide) (by decide) (by decide), g 16 (by decide) (by decide) (by decide) (by decide) (by decide), g 2 (by decide) (by decide) (by decide) (by decide) (by decide)]
      exact h.1 t ht
    · unfold TM
      rw [g 23 (by decide) (by decide) (by decide) (by decide) (by decide)]
      exact h.2
  · rw [if_neg hc] at k
    exact ⟨h.fm k.2.fm, k.2.fm.km, by rw [if_neg hc]; exact k.1⟩
/-- a copy of one slot to another -/
theorem CpT.qs {D1 : ADD} {f t : Nat} (h : QMs D) (hf : f < 4) (ht : t < 4) (k : CpT D D1 f t 23) : QMs D1 ∧ (∀ i, i < 4 → D1.1 2 i = if i = t then D.1 2 f else D.1 2 i) ∧ ∀ i, i < 4 → D1.1 6 i = if i = t then D.1 6 f else D.1 6 i := by
  obtain ⟨k1, k2, k3, k4⟩ := k
  have s1 : ∀ c, szM c = 1 → 2 ≤ c → c < 23 → ∀ i, i < 4 → D1.1 c i = if i = t then D.1 c f else D.1 c i := by
    intro c hs c2 c23 i hi
    rw [k4 c c2 c23 i, hs]
    by_cases e : i = t
    · rw [if_pos (by omega), if_pos e]
      have : i - 1 * t + 1 * f = f := by omega
      rw [this]
    · rw [if_neg (by omega), if_neg e]
  have e2 := s1 2 rfl (by decide) (by decide)
  have e5 := s1 5 rfl (by decide) (by decide)
  have e8 := s1 8 rfl (by decide) (by decide)
  have e9 : ∀ i j, i < 4 → j < 1600 → D1.1 9 (1600 * i + j) = if i = t then D.1 9 (1600 * f + j) else D.1 9 (1600 * i + j) := by
    intro i j hi hj
    have s : szM 9 = 1600 := rfl
    rw [k4 9 (by decide) (by decide), s]
    by_cases e : i = t
    · rw [if_pos (by omega), if_pos e]
      have : 1600 * i + j - 1600 * t + 1600 * f = 1600 * f + j := by omega
      rw [this]
    · rw [if_neg (by omega), if_neg e]
  have e15 : ∀ i j, i < 4 → j < 2 → D1.1 15 (2 * i + j) = if i = t then D.1 15 (2 * f + j) else D.1 15 (2 * i + j) := by
    intro i j hi hj
    have s : szM 15 = 2 := rfl
    rw [k4 15 (by decide) (by decide), s]
    by_cases e : i = t
    · rw [if_pos (by omega), if_pos e]
      have : 2 * i + j - 2 * t + 2 * f = 2 * f + j := by omega
      rw [this]
    · rw [if_neg (by omega), if_neg e]
  have e16 : ∀ i j, i < 4 → j < 32 → D1.1 16 (32 * i + j) = if i = t then D.1 16 (32 * f + j) else D.1 16 (32 * i + j) := by
    intro i j hi hj
    have s : szM 16 = 32 := rfl
    rw [k4 16 (by decide) (by decide), s]
    by_cases e : i = t
    · rw [if_pos (by omega), if_pos e]
      have : 32 * i + j - 32 * t + 32 * f = 32 * f + j := by omega
      rw [this]
    · rw [if_neg (by omega), if_neg e]
  refine ⟨⟨fun i hi => ?_, ?_⟩, e2, s1 6 rfl (by decide) (by decide)⟩
  · by_cases e : i = t
    · obtain ⟨q1, q2, q3, q4, q5, q6⟩ := h.1 f hf
      refine ⟨by rw [e5 i hi, if_pos e]; exact q1, by rw [e8 i hi, if_pos e]; exact q2, fun k hk => ?_, ?_, fun l hl => by rw [e16 i l hi hl, if_pos e]; exact q5 l hl, by rw [e2 i hi, if_pos e]; exact q6⟩
      · rw [e8 i hi, if_pos e] at hk
        rw [e9 i _ hi (by omega), e9 i _ hi (by omega), if_pos e, if_pos e]
        exact q3 k hk
      · have a0 := e15 i 0 hi (by decide)
        rw [if_pos e] at a0
        rw [e15 i 1 hi (by decide), if_pos e]
        exact ⟨by rw [show 2 * i = 2 * i + 0 from rfl, a0]; exact q4.1, q4.2⟩
    · obtain ⟨q1, q2, q3, q4, q5, q6⟩ := h.1 i hi
      refine ⟨by rw [e5 i hi, if_neg e]; exact q1, by rw [e8 i hi, if_neg e]; exact q2, fun k hk => ?_, ?_, fun l hl => by rw [e16 i l hi hl, if_neg e]; exact q5 l hl, by rw [e2 i hi, if_neg e]; exact q6⟩
      · rw [e8 i hi, if_neg e] at hk
        rw [e9 i _ hi (by omega), e9 i _ hi (by omega), if_neg e, if_neg e]
        exact q3 k hk
      · have a0 := e15 i 0 hi (by decide)
        rw [if_neg e] at a0
        rw [e15 i 1 hi (by decide), if_neg e]
        exact ⟨by rw [show 2 * i = 2 * i + 0 from rfl, a0]; exact q4.1, q4.2⟩
  · unfold TM
    rw [k1 23 (by omega)]
    exact h.2
theorem sM_image {a : Int32} (h : QMs D) : Wp (fX11_image a D) (fun r D1 => QMs D1 ∧ if 0 ≤ a.toInt ∧ a.toInt ≤ 2 then r = 1 ∧ (∀ i, D1.1 39 i = if i = a.toNatClampNeg then 1 else D.1 39 i) ∧ (∀ i, i < 4 → D1.1 2 i = if i = a.toNatClampNeg + 1 then D.1 2 0 else D.1 2 i) ∧ ∀ i, i < 4 → D1.1 6 i = if i = a.toNatClampNeg + 1 then D.1 6 0 else D.1 6 i else r = 0 ∧ KM D D1) := by
  unfold fX11_image
  have f1 : FmM D (aSI D 0 0 0) := FmM.code
  have h1 := h.fm f1
  have L2 : (2 : Int32).toInt = 2 := by decide
  refine Wp.lets (Wp.bindE (eM_is _ _ _ _) ?_)
  rw [ti_0, L2]
  by_cases hc : 0 ≤ a.toInt ∧ a.toInt ≤ 2
  · rw [if_pos hc]
    have e1 : (a + 1).toInt = a.toInt + 1 := ti_add rfl (by decide) (by omega) (by omega)
    have ec := cl_i hc.1
    refine Wp.neg (by decide) (Wp.bind (tM_copy (f := 0) (t := a.toNatClampNeg + 1) (by decide) (by omega) (by omega) (by omega) (by omega)) (fun _ D3 k => Wp.idx (i_in (by omega) (by omega)) (Wp.lets (Wp.ret ?_))))
    obtain ⟨k1, k2, k3⟩ := CpT.qs h1 (by decide) (by omega) k
    refine ⟨k1.si (by decide), ?_⟩
    rw [if_pos hc]
    refine ⟨rfl, fun i => ?_, fun i hi => ?_, fun i hi => ?_⟩
    · rw [si_s, k.1 39 (by omega), f1 39 (by omega)]
    · rw [si_o (by decide), k2 i hi, f1 2 (by omega)]
    · rw [si_o (by decide), k3 i hi, f1 6 (by omega)]
  · rw [if_neg hc]
    refine Wp.pos rfl (Wp.ret ⟨h1, ?_⟩)
    rw [if_neg hc]
    exact ⟨rfl, f1.km⟩
theorem sM_again {a : Int32} (h : QMs D) : Wp (fX11_again a D) (fun r D1 => QMs D1 ∧ D1.1 39 = D.1 39 ∧ if (0 ≤ a.toInt ∧ a.toInt ≤ 2) ∧ aBz (D.1 39 a.toNatClampNeg) ≠ 0 then r = 1 ∧ (∀ i, i < 4 → D1.1 2 i = if i = 0 then D.1 2 (a.toNatClampNeg + 1) else D.1 2 i) ∧ ∀ i, i < 4 → D1.1 6 i = if i = 0 then D.1 6 (a.toNatClampNeg + 1) else D.1 6 i else r = 0 ∧ KM D D1) := by
  unfold fX11_again
  have f1 : FmM D (aSI D 0 0 0) := FmM.code
  have h1 := h.fm f1
  have L2 : (2 : Int32).toInt = 2 := by decide
  refine Wp.lets (Wp.bindE (eM_is _ _ _ _) (Wp.lets ?_))
  generalize aSI D 0 0 0 = D1 at f1 h1 ⊢
  rw [ti_0, L2]
  by_cases hc : 0 ≤ a.toInt ∧ a.toInt ≤ 2
  · rw [if_pos hc]
    have e1 : (a + 1).toInt = a.toInt + 1 := ti_add rfl (by decide) (by omega) (by omega)
    have ec := cl_i hc.1
    refine Wp.neg (by decide) (Wp.idx (i_in (by omega) (by omega)) ?_)
    rw [f1 39 (by omega)]
    refine Wp.ite (fun hz => Wp.ret ⟨h1, f1 39 (by omega), ?_⟩) (fun hz => Wp.bind (tM_copy (f := a.toNatClampNeg + 1) (t := 0) (by omega) (by decide) (by omega) (by omega) (by omega)) (fun _ D3 k => Wp.ret ?_))
    · rw [if_neg (fun q => q.2 hz)]
      exact ⟨rfl, f1.km⟩
    · obtain ⟨k1, k2, k3⟩ := CpT.qs h1 (by omega) (by decide) k
      refine ⟨k1, by rw [k.1 39 (by omega), f1 39 (by omega)], ?_⟩
      rw [if_pos ⟨hc, hz⟩]
      exact ⟨rfl, fun i hi => by rw [k2 i hi, f1 2 (by omega)], fun i hi => by rw [k3 i hi, f1 6 (by omega)]⟩
  · rw [if_neg hc]
    refine Wp.pos rfl (Wp.ret ⟨h1, f1 39 (by omega), ?_⟩)
    rw [if_neg (fun q => hc q.1)]
    exact ⟨rfl, f1.km⟩
end MT
