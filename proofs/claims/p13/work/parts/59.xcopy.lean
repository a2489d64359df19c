/-! the class: an image is a copy -/
/-- the steps of a copy: (cell, a whole row?, how many or which) -/
def cpL : List (Nat × Bool × Nat) := [(2, true, 352), (3, true, 352), (4, true, 32), (5, true, 32), (6, true, 400), (7, true, 400), (8, true, 400), (9, true, 400), (1, false, 8), (1, false, 9), (1, false, 10), (1, false, 11), (1, false, 12), (11, true, 500), (10, false, 1), (12, false, 0), (13, true, 16), (14, true, 16), (15, true, 16), (16, true, 16), (17, true, 64), (18, true, 64), (19, true, 64), (20, true, 64), (21, false, 0), (22, true, 16), (23, true, 16), (24, true, 16), (25, true, 16), (26, true, 64), (27, true, 64), (28, true, 64), (29, true, 64), (30, false, 0), (30, false, 1), (30, false, 2), (30, false, 3), (30, false, 4), (0, false, 5), (0, false, 6)]
def cpS (o p : Nat) (D : ADD) (s : Nat × Bool × Nat) : ADD := match s with
  | (d, true, n) => aCp D (p + d) (o + d) n
  | (d, false, n) => aSI D (o + d) n (D.1 (p + d) n)
def cpC (s : Nat × Bool × Nat) (d i : Nat) : Bool := match s with
  | (e, true, n) => decide (e = d) && decide (i < n)
  | (e, false, n) => decide (e = d) && decide (i = n)
theorem pth {o p : Nat} {s : Nat × Bool × Nat} {L : List (Nat × Bool × Nat)} {D D1 D2 : ADD} (e : D1 = cpS o p D s) (k : D2 = L.foldl (cpS o p) D1) : D2 = (s :: L).foldl (cpS o p) D := by
  subst e
  exact k
theorem pap {o p : Nat} {L M : List (Nat × Bool × Nat)} {D D1 D2 : ADD} (e : D1 = L.foldl (cpS o p) D) (k : D2 = M.foldl (cpS o p) D1) : D2 = (L ++ M).foldl (cpS o p) D := by
  rw [List.foldl_append, ← e]
  exact k
theorem cp_c0 {o p : Nat} {D : ADD} : Wp (fX0_copyFrom (o + 1) (p + 1) D) (fun _ E => E = ([(2, true, 352), (3, true, 352), (4, true, 32), (5, true, 32), (6, true, 400), (7, true, 400), (8, true, 400), (9, true, 400), (1, false, 8), (1, false, 9), (1, false, 10), (1, false, 11), (1, false, 12)] : List (Nat × Bool × Nat)).foldl (cpS o p) D) := by
  unfold fX0_copyFrom
  exact Wp.leti (fun D1 e1 => Wp.leti (fun D2 e2 => Wp.leti (fun D3 e3 => Wp.leti (fun D4 e4 => Wp.leti (fun D5 e5 => Wp.leti (fun D6 e6 => Wp.leti (fun D7 e7 => Wp.leti (fun D8 e8 => Wp.leti (fun D9 e9 => Wp.leti (fun D10 e10 => Wp.leti (fun D11 e11 => Wp.leti (fun D12 e12 => Wp.leti (fun D13 e13 => Wp.ret (pth e1 (pth e2 (pth e3 (pth e4 (pth e5 (pth e6 (pth e7 (pth e8 (pth e9 (pth e10 (pth e11 (pth e12 (pth e13 rfl))))))))))))))))))))))))))
theorem cp_c9 {o p : Nat} {D : ADD} : Wp (fX9_copyFrom (o + 10) (p + 10) D) (fun _ E => E = ([(11, true, 500), (10, false, 1)] : List (Nat × Bool × Nat)).foldl (cpS o p) D) := by
  unfold fX9_copyFrom
  exact Wp.leti (fun D1 e1 => Wp.leti (fun D2 e2 => Wp.ret (pth e1 (pth e2 rfl))))
theorem cp_c6 {o p : Nat} {D : ADD} : Wp (fX6_copyFrom (o + 12) (p + 12) D) (fun _ E => E = ([(12, false, 0), (13, true, 16), (14, true, 16), (15, true, 16), (16, true, 16), (17, true, 64), (18, true, 64), (19, true, 64), (20, true, 64)] : List (Nat × Bool × Nat)).foldl (cpS o p) D) := by
  unfold fX6_copyFrom
  exact Wp.leti (fun D1 e1 => Wp.leti (fun D2 e2 => Wp.leti (fun D3 e3 => Wp.leti (fun D4 e4 => Wp.leti (fun D5 e5 => Wp.leti (fun D6 e6 => Wp.leti (fun D7 e7 => Wp.leti (fun D8 e8 => Wp.leti (fun D9 e9 => Wp.ret (pth e1 (pth e2 (pth e3 (pth e4 (pth e5 (pth e6 (pth e7 (pth e8 (pth e9 rfl))))))))))))))))))
theorem cp_c7 {o p : Nat} {D : ADD} : Wp (fX6_copyFrom (o + 21) (p + 21) D) (fun _ E => E = ([(21, false, 0), (22, true, 16), (23, true, 16), (24, true, 16), (25, true, 16), (26, true, 64), (27, true, 64), (28, true, 64), (29, true, 64)] : List (Nat × Bool × Nat)).foldl (cpS o p) D) := by
  unfold fX6_copyFrom
  exact Wp.leti (fun D1 e1 => Wp.leti (fun D2 e2 => Wp.leti (fun D3 e3 => Wp.leti (fun D4 e4 => Wp.leti (fun D5 e5 => Wp.leti (fun D6 e6 => Wp.leti (fun D7 e7 => Wp.leti (fun D8 e8 => Wp.leti (fun D9 e9 => Wp.ret (pth e1 (pth e2 (pth e3 (pth e4 (pth e5 (pth e6 (pth e7 (pth e8 (pth e9 rfl))))))))))))))))))
theorem cp_c1 {o p : Nat} {D : ADD} : Wp (fX1_copyFrom (o + 30) (p + 30) D) (fun _ E => E = ([(30, false, 0), (30, false, 1), (30, false, 2), (30, false, 3), (30, false, 4)] : List (Nat × Bool × Nat)).foldl (cpS o p) D) := by
  unfold fX1_copyFrom
  exact Wp.leti (fun D1 e1 => Wp.leti (fun D2 e2 => Wp.leti (fun D3 e3 => Wp.leti (fun D4 e4 => Wp.leti (fun D5 e5 => Wp.ret (pth e1 (pth e2 (pth e3 (pth e4 (pth e5 rfl))))))))))
theorem eX8_copyFrom {o p : Nat} {D : ADD} : Wp (fX8_copyFrom o p D) (fun _ E => E = cpL.foldl (cpS o p) D) := by
  unfold fX8_copyFrom
  refine Wp.bind cp_c0 (fun _ D1 q1 => Wp.bind cp_c9 (fun _ D2 q2 => Wp.bind cp_c6 (fun _ D3 q3 => Wp.bind cp_c7 (fun _ D4 q4 => Wp.bind cp_c1 (fun _ D5 q5 => Wp.leti (fun D6 e6 => Wp.leti (fun D7 e7 => Wp.ret ?_)))))))
  have h : D7 = ([(0, false, 5), (0, false, 6)] : List (Nat × Bool × Nat)).foldl (cpS o p) D5 := pth e6 (pth e7 rfl)
  exact pap q1 (pap q2 (pap q3 (pap q4 (pap q5 h))))
theorem cpS_1 {o p : Nat} {D : ADD} {s : Nat × Bool × Nat} (hd : p + 31 ≤ o ∨ o + 31 ≤ p) (hs : s.1 < 31) : (∀ c, (c < o ∨ o + 31 ≤ c) → (cpS o p D s).1 c = D.1 c) ∧ (cpS o p D s).2 = D.2 ∧ ∀ d i, d < 31 → (cpS o p D s).1 (o + d) i = if cpC s d i = true then D.1 (p + d) i else D.1 (o + d) i := by
  obtain ⟨e, b, n⟩ := s
  have hs : e < 31 := hs
  cases b with
  | true =>
    refine ⟨fun c hc => ?_, rfl, fun d i hd2 => ?_⟩
    · funext z
      show (if c = o + e ∧ z < n then _ else _) = _
      rw [if_neg (by omega)]
    · show (if o + d = o + e ∧ i < n then D.1 (p + e) i else D.1 (o + d) i) = if (decide (e = d) && decide (i < n)) = true then _ else _
      by_cases h : e = d
      · subst h
        by_cases hi : i < n
        · rw [if_pos ⟨rfl, hi⟩, if_pos (by simp [hi])]
        · rw [if_neg (fun q => hi q.2), if_neg (by simp [hi])]
      · rw [if_neg (by omega), if_neg (by simp [h])]
  | false =>
    refine ⟨fun c hc => ?_, rfl, fun d i hd2 => ?_⟩
    · funext z
      show (if c = o + e ∧ z = n then _ else _) = _
      rw [if_neg (by omega)]
    · show (if o + d = o + e ∧ i = n then D.1 (p + e) n else D.1 (o + d) i) = if (decide (e = d) && decide (i = n)) = true then _ else _
      by_cases h : e = d
      · subst h
        by_cases hi : i = n
        · subst hi
          rw [if_pos ⟨rfl, rfl⟩, if_pos (by simp)]
        · rw [if_neg (fun q => hi q.2), if_neg (by simp [hi])]
      · rw [if_neg (by omega), if_neg (by simp [h])]
def CpX (L : List (Nat × Bool × Nat)) (o p : Nat) (D D1 : ADD) : Prop := (∀ c, (c < o ∨ o + 31 ≤ c) → D1.1 c = D.1 c) ∧ D1.2 = D.2 ∧ ∀ d i, d < 31 → D1.1 (o + d) i = if (L.any (fun s => cpC s d i)) = true then D.1 (p + d) i else D.1 (o + d) i
theorem cpX_all {o p : Nat} (hd : p + 31 ≤ o ∨ o + 31 ≤ p) : ∀ (L : List (Nat × Bool × Nat)) (D : ADD), (∀ s, s ∈ L → s.1 < 31) → CpX L o p D (L.foldl (cpS o p) D)
  | [], D, _ => ⟨fun _ _ => rfl, rfl, fun d i _ => rfl⟩
  | s :: L, D, hL => by
    obtain ⟨a1, a2, a3⟩ := cpS_1 (D := D) hd (hL s List.mem_cons_self)
    obtain ⟨b1, b2, b3⟩ := cpX_all hd L (cpS o p D s) (fun s hs => hL s (List.mem_cons_of_mem _ hs))
    refine ⟨fun c hc => (b1 c hc).trans (a1 c hc), b2.trans a2, fun d i hd2 => ?_⟩
    show (L.foldl (cpS o p) (cpS o p D s)).1 (o + d) i = _
    rw [b3 d i hd2, a3 d i hd2, List.any_cons, a1 (p + d) (by omega)]
    by_cases h1 : cpC s d i = true <;> by_cases h2 : (L.any (fun s => cpC s d i)) = true
    · simp [h1, h2]
    · simp [h1, h2]
    · simp [h1, h2]
    · simp [h1, h2]
theorem tX8_copy {o p : Nat} {D : ADD} (hd : p + 31 ≤ o ∨ o + 31 ≤ p) : Wp (fX8_copyFrom o p D) (fun _ D1 => CpX cpL o p D D1) := eX8_copyFrom.mono (fun _ D1 e => by rw [e]; exact cpX_all hd cpL D (by decide))
theorem CpX.at {o p d i : Nat} {D D1 : ADD} (h : CpX cpL o p D D1) (hd : d < 31) (hc : (cpL.any (fun s => cpC s d i)) = true) : D1.1 (o + d) i = D.1 (p + d) i := by
  rw [h.2.2 d i hd, if_pos hc]
