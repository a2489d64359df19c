/-! a text, both sides: all of it -/
section TAs
variable {D D1 E E1 : ADD}
/-- both refuse: only tape and fault are others -/
theorem tx_bad {fl pl : Int32} {D4 E4 : ADD} (h : RTx (xc D) (slM E 0)) (fD : ∀ c, ((c < 33 ∧ c ≠ 1 ∧ c ≠ 11) ∨ 43 ≤ c) → D4.1 c = D.1 c) (v4 : D4.1 1 5 = fl ∧ D4.1 1 6 = pl ∧ D4.1 11 1 = 0) (fE : ∀ c, ((1 ≤ c ∧ c ≤ 22) ∨ 30 ≤ c) → c ≠ 2 → c ≠ 3 → c ≠ 4 → E4.1 c = E.1 c) (e2 : ∀ i, E4.1 2 i = if i = 0 then 0 else E.1 2 i) (e3 : ∀ i, E4.1 3 i = if i = 0 then fl else E.1 3 i) (e4 : ∀ i, E4.1 4 i = if i = 0 then pl else E.1 4 i) : TxO D D4 E E4 := by
  obtain ⟨⟨t1, t2⟩, f, w, p⟩ := h
  refine ⟨⟨⟨?_, fun j hj => ?_⟩, ⟨?_, ?_⟩, ?_, ?_⟩, fun c i c1 c2 c3 => ?_, fun c hc => fD c (by omega), fun c c1 c2 => fE c (by omega) (by omega) (by omega) (by omega)⟩
  · rw [sm0 (by decide) (by decide), e2, if_pos rfl]
    exact v4.2.2
  · have q := t2 j hj
    show aB (D4.1 12 j) = _
    rw [fD 12 (by omega), slM_row (fE 1 (by omega) (by decide) (by decide) (by decide))]
    exact q
  · rw [sm0 (by decide) (by decide), e3, if_pos rfl]
    exact v4.1
  · rw [sm0 (by decide) (by decide), e4, if_pos rfl]
    exact v4.2.1
  · have z : ∀ c, 15 ≤ c → c ≤ 22 → slM E4 0 c = slM E 0 c := fun c a b => slM_row (fE c (by omega) (by omega) (by omega) (by omega))
    refine w.fr (fun i j hi => ?_) (by rw [z 15 (by decide) (by decide)]) (fun l _ => ?_)
    · show D4.1 (1 + (12 + i)) j = D.1 (1 + (12 + i)) j
      rw [fD _ (by omega)]
    · rw [z 16 (by decide) (by decide), z 17 (by decide) (by decide), z 18 (by decide) (by decide), z 19 (by decide) (by decide), z 20 (by decide) (by decide), z 21 (by decide) (by decide), z 22 (by decide) (by decide)]
      exact ⟨⟨rfl, rfl, rfl, rfl⟩, fun _ _ => ⟨rfl, rfl, rfl⟩⟩
  · have z : ∀ c, 15 ≤ c → c ≤ 22 → slM E4 0 c = slM E 0 c := fun c a b => slM_row (fE c (by omega) (by omega) (by omega) (by omega))
    refine p.fr (fun i j hi => ?_) (by rw [z 15 (by decide) (by decide)]) (fun l _ => ?_)
    · show D4.1 (1 + (21 + i)) j = D.1 (1 + (21 + i)) j
      rw [fD _ (by omega)]
    · rw [z 16 (by decide) (by decide), z 17 (by decide) (by decide), z 18 (by decide) (by decide), z 19 (by decide) (by decide), z 20 (by decide) (by decide), z 21 (by decide) (by decide), z 22 (by decide) (by decide)]
      exact ⟨⟨rfl, rfl, rfl, rfl⟩, fun _ _ => ⟨rfl, rfl, rfl⟩⟩
  · by_cases h2 : c = 2
    · subst h2
      have c3 : 1 ≤ i := c3
      rw [e2, if_neg (by omega)]
    · by_cases h3 : c = 3
      · subst h3
        have c3 : 1 ≤ i := c3
        rw [e3, if_neg (by omega)]
      · by_cases h4 : c = 4
        · subst h4
          have c3 : 1 ≤ i := c3
          rw [e4, if_neg (by omega)]
        · rw [fE c (by omega) h2 h3 h4]
/-- both take the text: its rules are others, too -/
theorem tx_good {a : Int32} {L : Nat} {D' E' D4 Dn Es En : ADD} {s e n : Nat} {B : Nat → Int32} {D0 E0 : ADD} (ha : a = 0 ∨ a = 1) (h : RTx (xc D) (slM E 0)) (hL : L ≤ 16) (ps : PS B n a D0 E0 L D' E' s e 0) (hf : D'.1 33 1 = 0)
    (fD : ∀ c, ((c < 33 ∧ c ≠ 1 ∧ c ≠ 11) ∨ 43 ≤ c) → D4.1 c = D.1 c) (v4 : D4.1 1 5 = 0 ∧ D4.1 1 6 = -1 ∧ D4.1 11 1 = 0)
    (n1 : ∀ c, (c < (if a = 0 then 13 else 22) ∨ (if a = 0 then 13 else 22) + 9 ≤ c) → Dn.1 c = D4.1 c) (n2 : Dn.1 (if a = 0 then 13 else 22) 0 = nI L) (n3 : ∀ i j, 1 ≤ i → i ≤ 4 → j < 16 → Dn.1 ((if a = 0 then 13 else 22) + i) j = D'.1 (34 + i) j) (n4 : ∀ i j, 5 ≤ i → i ≤ 8 → j < 64 → Dn.1 ((if a = 0 then 13 else 22) + i) j = D'.1 (34 + i) j)
    (fE : ∀ c, ((1 ≤ c ∧ c ≤ 14) ∨ (16 ≤ c ∧ c ≤ 22) ∨ 30 ≤ c) → c ≠ 2 → c ≠ 3 → c ≠ 4 → Es.1 c = E.1 c) (fS : ∀ c, 23 ≤ c → c ≤ 29 → Es.1 c = E'.1 c) (e2 : ∀ i, Es.1 2 i = if i = 0 then 0 else E.1 2 i) (e3 : ∀ i, Es.1 3 i = if i = 0 then 0 else E.1 3 i) (e4 : ∀ i, Es.1 4 i = if i = 0 then -1 else E.1 4 i) (e15 : ∀ i, Es.1 15 i = if i = (if a = 0 then 0 else 1) then nI L else E.1 15 i)
    (cp : CpL (if a = 0 then 0 else 16) L Es En) : TxO D Dn E En := by
  obtain ⟨⟨t1, t2⟩, f, w, p⟩ := h
  obtain ⟨c1, c2, c3, c4⟩ := cp
  have lines : ∀ l, l < L → (∃ m, LnT a D' E' l m) ∧ LnD a D' E' l := fun l hl => ps.2.2.2.2.2 l hl (by omega)
  have t23 : ∀ l, l < L → Es.1 23 l = E'.1 23 l := fun l _ => by rw [fS 23 (by decide) (by decide)]
  -- what is read, as the reference keeps it
  have nw : ∀ bb, (bb = if a = 0 then 0 else 16) → ∀ l, l < L → (slM En 0 16 (bb + l) = E'.1 23 l ∧ slM En 0 20 (bb + l) = E'.1 27 l ∧ slM En 0 21 (bb + l) = E'.1 28 l ∧ slM En 0 22 (bb + l) = E'.1 29 l) ∧ ∀ t : Nat, (t : Int) < (E'.1 23 l).toInt → slM En 0 17 (4 * (bb + l) + t) = E'.1 24 (4 * l + t) ∧ slM En 0 18 (4 * (bb + l) + t) = E'.1 25 (4 * l + t) ∧ slM En 0 19 (4 * (bb + l) + t) = E'.1 26 (4 * l + t) := by
    intro bb hbb l hl
    have b16 : bb ≤ 16 := by rw [hbb]; split <;> decide
    rw [← hbb] at c4
    obtain ⟨⟨d1, d2, d3, d4⟩, d5⟩ := c4 l hl
    rw [sm0 (by decide) (by show bb + l < 32; omega), sm0 (by decide) (by show bb + l < 32; omega), sm0 (by decide) (by show bb + l < 32; omega), sm0 (by decide) (by show bb + l < 32; omega), d1, d2, d3, d4, fS 23 (by decide) (by decide), fS 27 (by decide) (by decide), fS 28 (by decide) (by decide), fS 29 (by decide) (by decide)]
    refine ⟨⟨rfl, rfl, rfl, rfl⟩, fun t ht => ?_⟩
    obtain ⟨⟨m, ⟨q1, q2, q3⟩, -⟩, -⟩ := lines l hl
    have vm : (nI m).toInt = (m : Int) := nI_toInt (by omega)
    have t4 : t < 4 := by rw [q2, vm] at ht; omega
    obtain ⟨u1, u2, u3⟩ := d5 t (by rw [fS 23 (by decide) (by decide)]; exact ht)
    rw [sm0 (by decide) (by show _ < 128; omega), sm0 (by decide) (by show _ < 128; omega), sm0 (by decide) (by show _ < 128; omega), u1, u2, u3, fS 24 (by decide) (by decide), fS 25 (by decide) (by decide), fS 26 (by decide) (by decide)]
    exact ⟨rfl, rfl, rfl⟩
  have row : ∀ c, ((1 ≤ c ∧ c ≤ 14) ∨ 30 ≤ c) → c ≠ 2 → c ≠ 3 → c ≠ 4 → En.1 c = E.1 c := fun c hc a b d => by rw [c1 c (by omega), fE c (by omega) a b d]
  have g2 : En.1 2 = Es.1 2 := c1 2 (by omega)
  have g3 : En.1 3 = Es.1 3 := c1 3 (by omega)
  have g4 : En.1 4 = Es.1 4 := c1 4 (by omega)
  have g15 : En.1 15 = Es.1 15 := c1 15 (by omega)
  have L16 : ∀ c, 16 ≤ c → c ≤ 22 → Es.1 c = E.1 c := fun c a b => fE c (by omega) (by omega) (by omega) (by omega)
  refine ⟨⟨⟨?_, fun j hj => ?_⟩, ⟨?_, ?_⟩, ?_, ?_⟩, fun c i k1 k2 k3 => ?_, fun c hc => ?_, fun c k1 k2 => row c (by omega) (by omega) (by omega) (by omega)⟩
  · rw [sm0 (by decide) (by decide), g2, e2, if_pos rfl]
    show Dn.1 11 1 = 0
    rw [n1 11 (by split <;> omega)]
    exact v4.2.2
  · have q := t2 j hj
    show aB (Dn.1 12 j) = _
    rw [n1 12 (by split <;> omega), fD 12 (by omega), slM_row (row 1 (by omega) (by decide) (by decide) (by decide))]
    exact q
  · rw [sm0 (by decide) (by decide), g3, e3, if_pos rfl]
    show Dn.1 1 5 = 0
    rw [n1 1 (by split <;> omega)]
    exact v4.1
  · rw [sm0 (by decide) (by decide), g4, e4, if_pos rfl]
    show Dn.1 1 6 = -1
    rw [n1 1 (by split <;> omega)]
    exact v4.2.1
  · -- WEAR
    rcases ha with rfl | rfl
    · rw [if_pos rfl] at n1 n2 n3 n4 c2 c3 e15
      refine RuS_new (p := 0) hL lines hf (fun _ => rfl) n2 ?_ (fun i j a b c => ?_) (fun i j a b c => ?_) (nw 0 rfl)
      · rw [sm0 (by decide) (by decide), g15, e15, if_pos rfl]
      · show Dn.1 (1 + (12 + i)) j = _
        rw [show 1 + (12 + i) = 13 + i by omega]
        exact n3 i j a b c
      · show Dn.1 (1 + (12 + i)) j = _
        rw [show 1 + (12 + i) = 13 + i by omega]
        exact n4 i j a b c
    · rw [if_neg (by decide)] at n1 c2 c3 e15
      refine w.fr (fun i j hi => ?_) ?_ (fun l hl => ⟨?_, fun t ht => ?_⟩)
      · show Dn.1 (1 + (12 + i)) j = D.1 (1 + (12 + i)) j
        rw [n1 _ (by omega), fD _ (by omega)]
      · rw [sm0 (by decide) (by decide), g15, e15, if_neg (by decide), sm0 (by decide) (by decide)]
      · obtain ⟨d1, d2, d3, d4⟩ := c2 (0 + l) (by omega)
        have b : 0 + l < 32 := by omega
        rw [sm0 (by decide) b, sm0 (by decide) b, sm0 (by decide) b, sm0 (by decide) b, sm0 (by decide) b, sm0 (by decide) b, sm0 (by decide) b, sm0 (by decide) b, d1, d2, d3, d4, L16 16 (by decide) (by decide), L16 20 (by decide) (by decide), L16 21 (by decide) (by decide), L16 22 (by decide) (by decide)]
        exact ⟨rfl, rfl, rfl, rfl⟩
      · obtain ⟨d1, d2, d3⟩ := c3 (4 * (0 + l) + t) (by omega)
        have b : 4 * (0 + l) + t < 128 := by omega
        rw [sm0 (by decide) b, sm0 (by decide) b, sm0 (by decide) b, sm0 (by decide) b, sm0 (by decide) b, sm0 (by decide) b, d1, d2, d3, L16 17 (by decide) (by decide), L16 18 (by decide) (by decide), L16 19 (by decide) (by decide)]
        exact ⟨rfl, rfl, rfl⟩
  · -- PROOF
    rcases ha with rfl | rfl
    · rw [if_pos rfl] at n1 c2 c3 e15
      refine p.fr (fun i j hi => ?_) ?_ (fun l hl => ⟨?_, fun t ht => ?_⟩)
      · show Dn.1 (1 + (21 + i)) j = D.1 (1 + (21 + i)) j
        rw [n1 _ (by omega), fD _ (by omega)]
      · rw [sm0 (by decide) (by decide), g15, e15, if_neg (by decide), sm0 (by decide) (by decide)]
      · obtain ⟨d1, d2, d3, d4⟩ := c2 (16 + l) (by omega)
        have b : 16 + l < 32 := by omega
        rw [sm0 (by decide) b, sm0 (by decide) b, sm0 (by decide) b, sm0 (by decide) b, sm0 (by decide) b, sm0 (by decide) b, sm0 (by decide) b, sm0 (by decide) b, d1, d2, d3, d4, L16 16 (by decide) (by decide), L16 20 (by decide) (by decide), L16 21 (by decide) (by decide), L16 22 (by decide) (by decide)]
        exact ⟨rfl, rfl, rfl, rfl⟩
      · obtain ⟨d1, d2, d3⟩ := c3 (4 * (16 + l) + t) (by omega)
        have b : 4 * (16 + l) + t < 128 := by omega
        rw [sm0 (by decide) b, sm0 (by decide) b, sm0 (by decide) b, sm0 (by decide) b, sm0 (by decide) b, sm0 (by decide) b, d1, d2, d3, L16 17 (by decide) (by decide), L16 18 (by decide) (by decide), L16 19 (by decide) (by decide)]
        exact ⟨rfl, rfl, rfl⟩
    · rw [if_neg (by decide)] at n1 n2 n3 n4 c2 c3 e15
      refine RuS_new (p := 1) hL lines hf (fun z => z.elim) n2 ?_ (fun i j a b c => ?_) (fun i j a b c => ?_) (nw 16 rfl)
      · rw [sm0 (by decide) (by decide), g15, e15, if_pos rfl]
      · show Dn.1 (1 + (21 + i)) j = _
        rw [show 1 + (21 + i) = 22 + i by omega]
        exact n3 i j a b c
      · show Dn.1 (1 + (21 + i)) j = _
        rw [show 1 + (21 + i) = 22 + i by omega]
        exact n4 i j a b c
  · by_cases q2 : c = 2
    · subst q2
      have k3 : 1 ≤ i := k3
      rw [g2, e2, if_neg (by omega)]
    · by_cases q3 : c = 3
      · subst q3
        have k3 : 1 ≤ i := k3
        rw [g3, e3, if_neg (by omega)]
      · by_cases q4 : c = 4
        · subst q4
          have k3 : 1 ≤ i := k3
          rw [g4, e4, if_neg (by omega)]
        · by_cases q5 : c = 15
          · subst q5
            have k3 : 2 ≤ i := k3
            rw [g15, e15, if_neg (by split <;> omega)]
          · by_cases q6 : c ≤ 14
            · rw [row c (by omega) q2 q3 q4]
            · have bb : (if a = 0 then 0 else 16) + L ≤ 32 := by split <;> omega
              have r1 : (c = 16 ∨ c = 20 ∨ c = 21 ∨ c = 22) → 32 ≤ i → En.1 c i = Es.1 c i := fun hc hi => by
                obtain ⟨d1, d2, d3, d4⟩ := c2 i (by omega)
                rcases hc with rfl | rfl | rfl | rfl <;> assumption
              have r2 : (c = 17 ∨ c = 18 ∨ c = 19) → 128 ≤ i → En.1 c i = Es.1 c i := fun hc hi => by
                obtain ⟨d1, d2, d3⟩ := c3 i (by omega)
                rcases hc with rfl | rfl | rfl <;> assumption
              have cc : (c = 16 ∨ c = 20 ∨ c = 21 ∨ c = 22) ∨ (c = 17 ∨ c = 18 ∨ c = 19) := by omega
              rcases cc with cc | cc
              · rw [r1 cc (by rcases cc with rfl | rfl | rfl | rfl <;> exact k3), L16 c (by omega) (by omega)]
              · rw [r2 cc (by rcases cc with rfl | rfl | rfl <;> exact k3), L16 c (by omega) (by omega)]
  · rw [n1 c (by split <;> omega), fD c (by omega)]
end TAs
