/-! p1: one call -/
def I1 (n0 : Nat) (k : Nat) (P : APD) (Dm : ADD) : Prop := match k with
  | 0 => Lay n0 P ∧ (∀ im, imOK n0 P.1 im → ∀ j, im j = none) ∧ XFr P.2 ∧ MFr Dm
  | _ => LLay P
theorem p1_28 {n0 : Nat} : LOp28 n0 (I1 n0 0) (I1 n0 1) := by
  intro P Dm hI im him a
  obtain ⟨hL, hno, hX, hM⟩ := hI
  have L0 : (0 : Int32).toInt = 0 := by decide
  have L2 : (2 : Int32).toInt = 2 := by decide
  have L3 : (3 : Int32).toInt = 3 := by decide
  obtain ⟨g1, g2, g3, g4, g5, g6, g7, g8⟩ := Lay.img (k := a.toNatClampNeg) hL him
  have hN1 : ∀ P3, P3 = aPR (fI_X8_init n0 P.1.1 (aNO (P.1, P.2) 7)) 32 a.toNatClampNeg (n0 + P.1.1) → aLSw n0 P3.1 P.1.1 ∧ aLSw n0 P3.1 1 := by
    intro P3 e
    rw [sOps_run] at e
    rw [e]
    exact ⟨g3, g4⟩
  have hN2 : ∀ P2, P2 = fI_X8_init n0 P.1.1 (aNO (P.1, P.2) 7) → (32 ∈ P2.1.2.1 ∧ P2.1.2.2 32 = (15, 3, fun j => (im j).map (n0 + ·))) ∧ (P2.1.2.2 0).2.2 1 = some (n0 + 32) ∧ (P2.1.2.2 0).2.2 0 = some (n0 + 1) := by
    intro P2 e
    rw [sOps_run] at e
    rw [e]
    exact ⟨g5, g6, g7⟩
  have K : ∃ r1 E r2 D2, fImg n0 im P.1 a P.2 = some (r1, E) ∧ fX11_image a Dm = some (r2, D2) ∧ r1 = r2 ∧ LLay E ∧ P.1.1 ≤ E.1.1 := by
    have hm : Wp (fX11_image a Dm) (fun r _ => r = if 0 ≤ a.toInt ∧ a.toInt ≤ 2 then 1 else 0) := by
      unfold fX11_image
      refine Wp.lets (Wp.bindE (eM_is _ _ _ _) ?_)
      rw [L0, L2]
      by_cases h : 0 ≤ a.toInt ∧ a.toInt ≤ 2
      · rw [if_pos h]
        have e1 : (a + 1).toInt = a.toInt + 1 := ti_add rfl (by decide) (by omega) (by omega)
        have ec := cl_i h.1
        exact Wp.neg (by decide) (Wp.bind (tM_copy (f := 0) (t := a.toNatClampNeg + 1) (by decide) (by omega) (by omega) (by omega) (by omega)) (fun _ D3 _ => Wp.idx (i_in (by omega) (by omega)) (Wp.lets (Wp.ret rfl))))
      · rw [if_neg h]
        exact Wp.pos rfl (Wp.ret rfl)
    obtain ⟨r2, D2, e2, q2⟩ := hm
    by_cases h : 0 ≤ a.toInt ∧ a.toInt ≤ 2
    · rw [if_pos h] at q2
      have l1 : ¬ a < 0 := fun q => by have := Int32.lt_iff_toInt_lt.mp q; omega
      have l2 : a < 3 := Int32.lt_iff_toInt_lt.mpr (by omega)
      obtain ⟨x, D1, e1, -⟩ := tX8_copyFrom (o := P.1.1) (p := 1) (D := (aPR (fI_X8_init n0 P.1.1 (aNO (P.1, P.2) 7)) 32 a.toNatClampNeg (n0 + P.1.1)).2)
      refine ⟨1, ((aPR (fI_X8_init n0 P.1.1 (aNO (P.1, P.2) 7)) 32 a.toNatClampNeg (n0 + P.1.1)).1, D1), r2, D2, ?_, e2, q2.symm, ?_, ?_⟩
      · unfold fImg
        rw [if_neg l1, if_pos l2, hno im him]
        simp only [aLet]
        rw [e1]
        rfl
      · rw [sOps_run]
        exact (g1 D1).1
      · rw [sOps_run]
        show P.1.1 ≤ (opB n0 P.1.1 P sOps).1.1
        omega
    · rw [if_neg h] at q2
      refine ⟨0, P, r2, D2, ?_, e2, q2.symm, hL.1, Nat.le_refl _⟩
      unfold fImg
      by_cases l1 : a < 0
      · rw [if_pos l1]
      · rw [if_neg l1, if_neg]
        intro q
        have := Int32.lt_iff_toInt_lt.mp q
        have l1 : ¬ a.toInt < 0 := fun q => l1 (Int32.lt_iff_toInt_lt.mpr (by omega))
        omega
  obtain ⟨r1, E, r2, D2, k1, k2, k3, k4, k5⟩ := K
  exact ⟨r1, E, r2, D2, k1, k2, k3, k4, k5, hN1, hN2⟩
theorem p1_29 {n0 : Nat} : LOp29 n0 (I1 n0 0) (I1 n0 1) := by
  intro P Dm hI im him a
  obtain ⟨hL, hno, hX, hM⟩ := hI
  have L0 : (0 : Int32).toInt = 0 := by decide
  have L2 : (2 : Int32).toInt = 2 := by decide
  have hm : Wp (fX11_again a Dm) (fun r _ => r = 0) := by
    unfold fX11_again
    refine Wp.lets (Wp.bindE (eM_is _ _ _ _) (Wp.lets ?_))
    rw [L0, L2]
    by_cases h : 0 ≤ a.toInt ∧ a.toInt ≤ 2
    · rw [if_pos h]
      have ec := cl_i h.1
      refine Wp.neg (by decide) (Wp.idx (i_in (by omega) (by omega)) (Wp.pos ?_ (Wp.ret rfl)))
      show aBz (Dm.1 39 a.toNatClampNeg) = 0
      rw [hM.2.2.2.2.2.2.2.2.2 _ (by omega)]
      decide
    · rw [if_neg h]
      exact Wp.pos rfl (Wp.ret rfl)
  obtain ⟨r2, D2, e2, q2⟩ := hm
  refine ⟨0, P.2, r2, D2, ?_, e2, q2.symm, hL.1⟩
  unfold fAgn
  rw [hno im him]
  split
  · rfl
  · split <;> rfl
theorem p1_all (n0 : Nat) : LAll n0 (I1 n0 0) (I1 n0 1) := by
  refine ⟨fun P Dm h => h.1.lays, fun P Dm h => h, fun P Dm h => h.1.1, ?_, ?_, ?_, ?_, ?_, ?_, ?_, ?_, ?_, ?_, ?_, ?_, ?_, ?_, ?_, ?_, ?_, ?_, ?_, ?_, ?_, ?_, ?_, ?_, ?_, ?_, ?_, ?_, p1_28, p1_29⟩
  · intro P Dm hI a1 a2 a3
    obtain ⟨r1, D1, r2, D2, e1, e2, e3⟩ := p1_0 (D := P.2) (E := Dm) a1 a2 a3 hI.2.2.1 hI.2.2.2
    exact ⟨r1, D1, r2, D2, e1, e2, e3, hI.1.1⟩
  · intro P Dm hI a1 a2 a3
    obtain ⟨r1, D1, r2, D2, e1, e2, e3⟩ := p1_1 (D := P.2) (E := Dm) a1 a2 a3 hI.2.2.1 hI.2.2.2
    exact ⟨r1, D1, r2, D2, e1, e2, e3, hI.1.1⟩
  · intro P Dm hI a1
    obtain ⟨r1, D1, r2, D2, e1, e2, e3⟩ := p1_2 (D := P.2) (E := Dm) a1 hI.2.2.1 hI.2.2.2
    exact ⟨r1, D1, r2, D2, e1, e2, e3, hI.1.1⟩
  · intro P Dm hI a1
    obtain ⟨r1, D1, r2, D2, e1, e2, e3⟩ := p1_3 (D := P.2) (E := Dm) a1 hI.2.2.1 hI.2.2.2
    exact ⟨r1, D1, r2, D2, e1, e2, e3, hI.1.1⟩
  · intro P Dm hI a1 a2
    obtain ⟨r1, D1, r2, D2, e1, e2, e3⟩ := p1_4 (D := P.2) (E := Dm) a1 a2 hI.2.2.1 hI.2.2.2
    exact ⟨r1, D1, r2, D2, e1, e2, e3, hI.1.1⟩
  · intro P Dm hI a1 a2
    obtain ⟨r1, D1, r2, D2, e1, e2, e3⟩ := p1_5 (D := P.2) (E := Dm) a1 a2 hI.2.2.1 hI.2.2.2
    exact ⟨r1, D1, r2, D2, e1, e2, e3, hI.1.1⟩
  · intro P Dm hI a1 a2 a3 a4 a5
    obtain ⟨r1, D1, r2, D2, e1, e2, e3⟩ := p1_6 (D := P.2) (E := Dm) a1 a2 a3 a4 a5 hI.2.2.1 hI.2.2.2
    exact ⟨r1, D1, r2, D2, e1, e2, e3, hI.1.1⟩
  · intro P Dm hI a1
    obtain ⟨r1, D1, r2, D2, e1, e2, e3⟩ := p1_7 (D := P.2) (E := Dm) a1 hI.2.2.1 hI.2.2.2
    exact ⟨r1, D1, r2, D2, e1, e2, e3, hI.1.1⟩
  · intro P Dm hI a1 h
    obtain ⟨r1, D1, r2, D2, e1, e2, e3⟩ := p1_8 (D := P.2) (E := Dm) a1 h hI.2.2.1 hI.2.2.2
    exact ⟨r1, D1, r2, D2, e1, e2, e3, hI.1.1⟩
  · intro P Dm hI a1
    obtain ⟨r1, D1, r2, D2, e1, e2, e3⟩ := p1_9 (D := P.2) (E := Dm) a1 hI.2.2.1 hI.2.2.2
    exact ⟨r1, D1, r2, D2, e1, e2, e3, hI.1.1⟩
  · intro P Dm hI a1 a2 a3 a4 a5
    obtain ⟨r1, D1, r2, D2, e1, e2, e3⟩ := p1_10 (D := P.2) (E := Dm) a1 a2 a3 a4 a5 hI.2.2.1 hI.2.2.2
    exact ⟨r1, D1, r2, D2, e1, e2, e3, hI.1.1⟩
  · intro P Dm hI a1 a2
    obtain ⟨r1, D1, r2, D2, e1, e2, e3⟩ := p1_11 (D := P.2) (E := Dm) a1 a2 hI.2.2.1 hI.2.2.2
    exact ⟨r1, D1, r2, D2, e1, e2, e3, hI.1.1⟩
  · intro P Dm hI a1 a2 a3
    obtain ⟨r1, D1, r2, D2, e1, e2, e3⟩ := p1_12 (D := P.2) (E := Dm) a1 a2 a3 hI.2.2.1 hI.2.2.2
    exact ⟨r1, D1, r2, D2, e1, e2, e3, hI.1.1⟩
  · intro P Dm hI a1
    obtain ⟨r1, D1, r2, D2, e1, e2, e3⟩ := p1_13 (D := P.2) (E := Dm) a1 hI.2.2.1 hI.2.2.2
    exact ⟨r1, D1, r2, D2, e1, e2, e3, hI.1.1⟩
  · intro P Dm hI a1 a2
    obtain ⟨r1, D1, r2, D2, e1, e2, e3⟩ := p1_14 (D := P.2) (E := Dm) a1 a2 hI.2.2.1 hI.2.2.2
    exact ⟨r1, D1, r2, D2, e1, e2, e3, hI.1.1⟩
  · intro P Dm hI a1 a2 a3
    obtain ⟨r1, D1, r2, D2, e1, e2, e3⟩ := p1_15 (D := P.2) (E := Dm) a1 a2 a3 hI.2.2.1 hI.2.2.2
    exact ⟨r1, D1, r2, D2, e1, e2, e3, hI.1.1⟩
  · intro P Dm hI a1 a2
    obtain ⟨r1, D1, r2, D2, e1, e2, e3⟩ := p1_16 (D := P.2) (E := Dm) a1 a2 hI.2.2.1 hI.2.2.2
    exact ⟨r1, D1, r2, D2, e1, e2, e3, hI.1.1⟩
  · intro P Dm hI a1 a2
    obtain ⟨r1, D1, r2, D2, e1, e2, e3⟩ := p1_17 (D := P.2) (E := Dm) a1 a2 hI.2.2.1 hI.2.2.2
    exact ⟨r1, D1, r2, D2, e1, e2, e3, hI.1.1⟩
  · intro P Dm hI a1
    obtain ⟨r1, D1, r2, D2, e1, e2, e3⟩ := p1_18 (D := P.2) (E := Dm) a1 hI.2.2.1 hI.2.2.2
    exact ⟨r1, D1, r2, D2, e1, e2, e3, hI.1.1⟩
  · intro P Dm hI a1 a2 a3
    obtain ⟨r1, D1, r2, D2, e1, e2, e3⟩ := p1_19 (D := P.2) (E := Dm) a1 a2 a3 hI.2.2.1 hI.2.2.2
    exact ⟨r1, D1, r2, D2, e1, e2, e3, hI.1.1⟩
  · intro P Dm hI a1 a2 a3
    obtain ⟨r1, D1, r2, D2, e1, e2, e3⟩ := p1_20 (D := P.2) (E := Dm) a1 a2 a3 hI.2.2.1 hI.2.2.2
    exact ⟨r1, D1, r2, D2, e1, e2, e3, hI.1.1⟩
  · intro P Dm hI a1 a2 a3 a4 a5
    obtain ⟨r1, D1, r2, D2, e1, e2, e3⟩ := p1_21 (D := P.2) (E := Dm) a1 a2 a3 a4 a5 hI.2.2.1 hI.2.2.2
    exact ⟨r1, D1, r2, D2, e1, e2, e3, hI.1.1⟩
  · intro P Dm hI a1 a2 a3
    obtain ⟨r1, D1, r2, D2, e1, e2, e3⟩ := p1_22 (D := P.2) (E := Dm) a1 a2 a3 hI.2.2.1 hI.2.2.2
    exact ⟨r1, D1, r2, D2, e1, e2, e3, hI.1.1⟩
  · intro P Dm hI a1 a2 a3
    obtain ⟨r1, D1, r2, D2, e1, e2, e3⟩ := p1_23 (D := P.2) (E := Dm) a1 a2 a3 hI.2.2.1 hI.2.2.2
    exact ⟨r1, D1, r2, D2, e1, e2, e3, hI.1.1⟩
  · intro P Dm hI a1 a2
    obtain ⟨r1, D1, r2, D2, e1, e2, e3⟩ := p1_24 (D := P.2) (E := Dm) a1 a2 hI.2.2.1 hI.2.2.2
    exact ⟨r1, D1, r2, D2, e1, e2, e3, hI.1.1⟩
  · intro P Dm hI a1 a2
    obtain ⟨r1, D1, r2, D2, e1, e2, e3⟩ := p1_25 (D := P.2) (E := Dm) a1 a2 hI.2.2.1 hI.2.2.2
    exact ⟨r1, D1, r2, D2, e1, e2, e3, hI.1.1⟩
  · intro P Dm hI a1 a2 a3
    obtain ⟨r1, D1, r2, D2, e1, e2, e3⟩ := p1_26 (D := P.2) (E := Dm) a1 a2 a3 hI.2.2.1 hI.2.2.2
    exact ⟨r1, D1, r2, D2, e1, e2, e3, hI.1.1⟩
  · intro P Dm hI a1
    obtain ⟨r1, D1, r2, D2, e1, e2, e3⟩ := p1_27 (D := P.2) (E := Dm) a1 hI.2.2.1 hI.2.2.2
    exact ⟨r1, D1, r2, D2, e1, e2, e3, hI.1.1⟩
theorem xI (n0 q f : Nat) : (xB n0).2.1 q f = opInt xOps q f := by
  show (x0 n0).2.1 q f = _
  rw [x0_run]
  exact (opRun_spec n0 xOps).2.2.2.1 q f
theorem mI (n1 q f : Nat) : (m0 n1).2.1 q f = opInt mOps q f := by
  rw [m0_run]
  exact (opRun_spec n1 mOps).2.2.2.1 q f
theorem xB_Fr (n0 : Nat) : XFr (xB n0).2 := by
  refine ⟨?_, ?_, ?_, ?_, ?_, ?_, ?_, ?_, ?_, ?_⟩ <;> rw [xI] <;> decide +kernel
theorem mB_Fr (n1 : Nat) : MFr (m0 n1).2 := by
  refine ⟨?_, ?_, ?_, ?_, ?_, ?_, ?_, ?_, ?_, fun k hk => ?_⟩ <;> rw [mI]
  case refine_10 =>
    have : ∀ k, k < 3 → opInt mOps 39 k = 0 := by decide +kernel
    exact this k hk
  all_goals decide +kernel
theorem xB_im (n0 : Nat) : imOK n0 (xB n0).1 (fun _ => none) := ⟨⟨by show 32 ∈ List.range 58; decide, rfl⟩, fun j z _ h => by cases h⟩
theorem xB_Lay (n0 : Nat) : Lay n0 (xB n0) := by
  refine ⟨⟨Nat.le_refl _, fun k hk => ?_⟩, fun k S hS => ?_, aLSw_tab.mpr (fun q hq => ?_), _, xB_im n0, fun j z _ h => (by cases h), fun i j z y _ _ _ h => (by cases h)⟩
  · have := List.mem_range.mp hk
    exact ⟨Or.inl this, by show k < 98; omega⟩
  · have hl := (xTab_lt _ hS).1
    refine ⟨List.mem_range.mpr hl, ?_⟩
    simp only [xTab, List.mem_cons, List.not_mem_nil, or_false, Prod.mk.injEq] at hS
    rcases hS with ⟨rfl, rfl⟩ | ⟨rfl, rfl⟩ | ⟨rfl, rfl⟩ | ⟨rfl, rfl⟩ | ⟨rfl, rfl⟩ | ⟨rfl, rfl⟩ | ⟨rfl, rfl⟩ | ⟨rfl, rfl⟩ | ⟨rfl, rfl⟩ | ⟨rfl, rfl⟩ | ⟨rfl, rfl⟩ | ⟨rfl, rfl⟩ | ⟨rfl, rfl⟩ | ⟨rfl, rfl⟩ | ⟨rfl, rfl⟩ | ⟨rfl, rfl⟩ | ⟨rfl, rfl⟩ | ⟨rfl, rfl⟩ | ⟨rfl, rfl⟩ | ⟨rfl, rfl⟩ | ⟨rfl, rfl⟩ | ⟨rfl, rfl⟩ | ⟨rfl, rfl⟩ | ⟨rfl, rfl⟩ | ⟨rfl, rfl⟩ | ⟨rfl, rfl⟩ | ⟨rfl, rfl⟩ | ⟨rfl, rfl⟩ | ⟨rfl, rfl⟩ | ⟨rfl, rfl⟩ | ⟨rfl, rfl⟩ | ⟨rfl, rfl⟩ | ⟨rfl, rfl⟩ | ⟨rfl, rfl⟩ | ⟨rfl, rfl⟩ | ⟨rfl, rfl⟩ | ⟨rfl, rfl⟩ | ⟨rfl, rfl⟩ | ⟨rfl, rfl⟩ | ⟨rfl, rfl⟩ | ⟨rfl, rfl⟩ | ⟨rfl, rfl⟩ | ⟨rfl, rfl⟩ | ⟨rfl, rfl⟩ | ⟨rfl, rfl⟩ | ⟨rfl, rfl⟩ | ⟨rfl, rfl⟩ | ⟨rfl, rfl⟩ | ⟨rfl, rfl⟩ | ⟨rfl, rfl⟩ | ⟨rfl, rfl⟩ | ⟨rfl, rfl⟩ | ⟨rfl, rfl⟩ | ⟨rfl, rfl⟩ | ⟨rfl, rfl⟩ | ⟨rfl, rfl⟩ | ⟨rfl, rfl⟩ <;> rfl
  · refine ⟨List.mem_range.mpr (by have := sTab_lt q hq; omega), ?_⟩
    simp only [sTab, List.mem_cons, List.not_mem_nil, or_false] at hq
    rcases hq with rfl | rfl | rfl | rfl | rfl | rfl | rfl | rfl | rfl | rfl | rfl | rfl | rfl | rfl | rfl | rfl | rfl | rfl | rfl | rfl | rfl | rfl | rfl | rfl | rfl | rfl | rfl | rfl | rfl | rfl | rfl <;> rfl
