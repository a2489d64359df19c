section P3
variable {D E : ADD}
theorem p1_20 (a b c : Int32) (hX : XFr D) (hM : MFr E) : Bth (fX10_set a b c D) (fX11_set a b c E) := by
  have L1 : (1 : Int32).toInt = 1 := by decide
  have L8 : (8 : Int32).toInt = 8 := by decide
  have L3 : (3 : Int32).toInt = 3 := by decide
  have L0 : (0 : Int32).toInt = 0 := by decide
  refine both (if (1 ≤ a.toInt ∧ a.toInt ≤ 8) ∧ (10 ≤ b.toInt ∧ b.toInt ≤ 2000) ∧ 0 ≤ c.toInt ∧ c.toInt ≤ 3 then 0 else -1) ?_ ?_
  · unfold fX10_set
    refine Wp.lets (Wp.ilt (fun h => Wp.ret ?_) (fun h => Wp.ilt (fun h2 => Wp.ret ?_) (fun h2 => Wp.bindE (eX_isUnit b D) ?_)))
    · rw [if_neg (by omega)]
    · rw [if_neg (by omega)]
    · by_cases hb : 10 ≤ b.toInt ∧ b.toInt ≤ 2000
      · rw [if_pos hb]
        refine Wp.neg (by decide) (Wp.bindE (zX_gather hX.2.1) (Wp.tab (fun i K hK hc => ?_) (fun hc => Wp.ret ?_)))
        · rw [if_pos (by have := (List.getElem?_eq_some_iff.mp hK).1; simp at this; omega)]
          match i, hK with
          | 0, hK => cases hK; exact Wp.ret rfl
          | 1, hK => cases hK; exact Wp.bindE (zX_doublesBy rfl) (Wp.ret rfl)
          | 2, hK => cases hK; exact Wp.bindE (zX_lacksBy rfl) (Wp.ret rfl)
          | 3, hK => cases hK; exact Wp.bindE (zX_greatest rfl) (Wp.ret rfl)
          | i + 4, hK => cases hK
        · have hc : c.toInt < 0 ∨ 0 + 4 ≤ c.toInt := hc
          rw [if_neg (by omega)]
      · rw [if_neg hb]
        exact Wp.pos rfl (Wp.ret (by rw [if_neg (fun q => hb q.2.1)]))
  · unfold fX11_set
    refine Wp.lets (Wp.bindE (eM_is _ _ _ _) (Wp.lets ?_))
    rw [L1, L8]
    by_cases ha : 1 ≤ a.toInt ∧ a.toInt ≤ 8
    · rw [if_pos ha]
      refine Wp.neg (by decide) (Wp.bindE (eM_isUnit b _) ?_)
      by_cases hb : 10 ≤ b.toInt ∧ b.toInt ≤ 2000
      · rw [if_pos hb]
        refine Wp.neg (by decide) (Wp.bindE (eM_is _ _ _ _) ?_)
        rw [L0, L3]
        by_cases hc : 0 ≤ c.toInt ∧ c.toInt ≤ 3
        · rw [if_pos hc]
          refine Wp.neg (by decide) (Wp.bind (mLook hM) (fun _ F q => ?_))
          subst q
          refine Wp.lets (Wp.lets ?_)
          rw [aFix_go]
          unfold lX11_set_52
          refine Wp.pos (show (0 : Int32) ≤ 0 by decide) (Wp.lets (Wp.lets ?_))
          have v : (if (1 ≤ a.toInt ∧ a.toInt ≤ 8) ∧ (10 ≤ b.toInt ∧ b.toInt ≤ 2000) ∧ 0 ≤ c.toInt ∧ c.toInt ≤ 3 then (0 : Int32) else -1) = 0 := if_pos ⟨ha, hb, hc⟩
          rw [v]
          refine Wp.fix2 (fun n y x D' => (0 ≤ x.toInt ∧ x.toInt ≤ 6 ∧ 6 - x.toInt < (n : Int)) ∧ y = 0) ?_ ?_ aFuel 1000000 _ _ _ (Nat.le_refl _) ⟨⟨by decide, by decide, by decide⟩, rfl⟩
          · intro n g hg y x D' hI
            obtain ⟨⟨i0, i1, i2⟩, i3⟩ := hI
            subst i3
            have e6 : (6 : Int32).toInt = 6 := by decide
            unfold lX11_set_218
            refine Wp.ile (fun _ => Wp.lets ?_) (fun k => Wp.lets (Wp.lets ?_))
            · exact Wp.ite (fun _ => Wp.ret rfl) (fun _ => Wp.ite (fun _ => Wp.ret rfl) (fun _ => Wp.ite (fun _ => Wp.ret rfl) (fun _ => Wp.ret rfl)))
            · have c2 : (x + 1).toInt = x.toInt + 1 := ti_add rfl ti_1 (by omega) (by omega)
              have hp : (0 : Int32) < (1 : Int32) <<< (x &&& 31) := by
                have : x.toInt = 0 ∨ x.toInt = 1 ∨ x.toInt = 2 ∨ x.toInt = 3 ∨ x.toInt = 4 ∨ x.toInt = 5 := by omega
                rcases this with h | h | h | h | h | h
                · rw [ti_eq (x := x) (y := 0) (by rw [h]; decide)]; decide
                · rw [ti_eq (x := x) (y := 1) (by rw [h]; decide)]; decide
                · rw [ti_eq (x := x) (y := 2) (by rw [h]; decide)]; decide
                · rw [ti_eq (x := x) (y := 3) (by rw [h]; decide)]; decide
                · rw [ti_eq (x := x) (y := 4) (by rw [h]; decide)]; decide
                · rw [ti_eq (x := x) (y := 5) (by rw [h]; decide)]; decide
              refine Wp.pos hp (Wp.lets (Wp.lets (hg _ _ _ ⟨by omega, by decide⟩)))
          · intro y x D' hI
            obtain ⟨⟨i0, i1, i2⟩, -⟩ := hI
            omega
        · rw [if_neg hc]
          exact Wp.pos rfl (Wp.ret (by rw [if_neg (fun q => hc q.2.2)]))
      · rw [if_neg hb]
        exact Wp.pos rfl (Wp.ret (by rw [if_neg (fun q => hb q.2.1)]))
    · rw [if_neg ha]
      exact Wp.pos rfl (Wp.ret (by rw [if_neg (fun q => ha q.1)]))
theorem p1_21 (a b c d e : Int32) (hX : XFr D) (hM : MFr E) : Bth (fX10_rate a b c d e D) (fX11_rate a b c d e E) := by
  refine both (-1) ?_ ?_
  · unfold fX10_rate
    refine Wp.bindE (eX_isTown a D) (Wp.lets (Wp.ite (fun _ => Wp.ret rfl) (fun _ => Wp.bindE (eX_isTown b D) (Wp.ite (fun _ => Wp.ret rfl) (fun _ => Wp.ite (fun _ => Wp.ret rfl) (fun _ => Wp.ite (fun _ => Wp.ret rfl) (fun _ => Wp.ite (fun _ => Wp.ret rfl) (fun _ => Wp.bindE (eX_isRange c d 300 D) (Wp.ite (fun _ => Wp.ret rfl) (fun _ => Wp.bindE (zX_bestAmong hX.2.1) (Wp.bindE (zX_bestAmong hX.2.1) (Wp.lets (Wp.lets (Wp.pos rfl (Wp.ret rfl)))))))))))))))
  · unfold fX11_rate
    refine Wp.lets (Wp.bindE (eM_is _ _ _ _) (Wp.lets (Wp.ite (fun _ => Wp.ret rfl) (fun _ => Wp.bindE (eM_is _ _ _ _) (Wp.ite (fun _ => Wp.ret rfl) (fun _ => Wp.ite (fun _ => Wp.ret rfl) (fun _ => Wp.bindE (eM_areUnits c d _) (Wp.ite (fun _ => Wp.ret rfl) (fun _ => Wp.bindE (eM_is _ _ _ _) (Wp.ite (fun _ => Wp.ret rfl) (fun _ => Wp.bind (mLook hM) (fun _ F q => ?_)))))))))))) 
    subst q
    refine Wp.bindE (zM_keep rfl) (Wp.bind (zM_bestOfTown rfl) (fun r1 F1 q1 => ?_))
    obtain ⟨rfl, rfl⟩ := q1
    refine Wp.bind (zM_bestOfTown rfl) (fun r1 F1 q1 => ?_)
    obtain ⟨rfl, rfl⟩ := q1
    exact Wp.lets (Wp.pos rfl (Wp.ret rfl))
theorem p1_22 (a b c : Int32) (hX : XFr D) (hM : MFr E) : Bth (fX10_drift a b c D) (fX11_drift a b c E) := by
  refine both (-100000) ?_ ?_
  · unfold fX10_drift
    exact Wp.bindE (eX_isRange b c 300 D) (Wp.ite (fun _ => Wp.ret rfl) (fun _ => Wp.bindE (zX_bestAmong hX.2.1) (Wp.bindE (zX_bestAmong hX.2.1) (Wp.lets (Wp.lets (Wp.pos rfl (Wp.ret rfl)))))))
  · unfold fX11_drift
    refine Wp.lets (Wp.bindE (eM_is _ _ _ _) (Wp.lets (Wp.ite (fun _ => Wp.ret rfl) (fun _ => Wp.bindE (eM_areUnits b c _) (Wp.ite (fun _ => Wp.ret rfl) (fun _ => Wp.bind (mLook hM) (fun _ F q => ?_)))))))
    subst q
    refine Wp.bindE (zM_keep rfl) (Wp.lets (Wp.lets ?_))
    rw [aFix_go]
    unfold lX11_drift_40
    refine Wp.pos (show (0 : Int32) ≤ 0 by decide) (Wp.bindE (zM_those rfl) (Wp.lets (Wp.pos rfl (Wp.lets (Wp.lets ?_)))))
    rw [aFix_go]
    unfold lX11_drift_110
    exact Wp.pos (show (0 : Int32) ≤ 0 by decide) (Wp.bindE (zM_those rfl) (Wp.lets (Wp.pos rfl (Wp.lets (Wp.lets (Wp.pos rfl (Wp.ret rfl)))))))
theorem p1_23 (a b c : Int32) (hX : XFr D) (hM : MFr E) : Bth (fX10_owner a b c D) (fX11_owner a b c E) := by
  have L1 : (1 : Int32).toInt = 1 := by decide
  have L9 : (9 : Int32).toInt = 9 := by decide
  have L2 : (2 : Int32).toInt = 2 := by decide
  have L0 : (0 : Int32).toInt = 0 := by decide
  obtain ⟨V, hV⟩ : ∃ V : Int32, V = (sL pB 0 0 33).toInt32 := ⟨_, rfl⟩
  refine both (if (1 ≤ a.toInt ∧ a.toInt ≤ 9) ∧ (10 ≤ b.toInt ∧ b.toInt ≤ 2000) ∧ 0 ≤ c.toInt ∧ c.toInt ≤ 2 then (if c = 2 then V else 0) else -1) ?_ ?_
  · unfold fX10_owner
    refine Wp.lets (Wp.ilt (fun h => Wp.ret ?_) (fun h => Wp.ilt (fun h2 => Wp.ret ?_) (fun h2 => Wp.bindE (eX_isUnit b D) ?_)))
    · rw [if_neg (by omega)]
    · rw [if_neg (by omega)]
    · by_cases hb : 10 ≤ b.toInt ∧ b.toInt ≤ 2000
      · rw [if_pos hb]
        refine Wp.neg (by decide) (Wp.bindE (zX_gather hX.2.1) (Wp.tab3 (fun hc => Wp.ret ?_) (fun hc => Wp.bindE (zX_shortsBy rfl) (Wp.ret ?_)) (fun hc => Wp.bindE (zX_shortsBy rfl) (Wp.bind zX_ofShort (fun r D1 q => Wp.ret ?_))) (fun hc => Wp.ret ?_)))
        · rw [if_pos (by omega), if_neg (fun q => by rw [q, L2] at hc; omega)]
          exact (show (aSI D 43 0 0).1 43 0 = 0 from rfl)
        · rw [if_pos (by omega), if_neg (fun q => by rw [q, L2] at hc; omega)]
        · rw [if_pos (by omega), if_pos (ti_eq (by rw [hc, L2]))]
          exact q.2.trans hV.symm
        · rw [if_neg (by omega)]
      · rw [if_neg hb]
        exact Wp.pos rfl (Wp.ret (by rw [if_neg (fun q => hb q.2.1)]))
  · unfold fX11_owner
    refine Wp.lets (Wp.bindE (eM_is _ _ _ _) (Wp.lets ?_))
    rw [L1, L9]
    by_cases ha : 1 ≤ a.toInt ∧ a.toInt ≤ 9
    · rw [if_pos ha]
      refine Wp.neg (by decide) (Wp.bindE (eM_isUnit b _) ?_)
      by_cases hb : 10 ≤ b.toInt ∧ b.toInt ≤ 2000
      · rw [if_pos hb]
        refine Wp.neg (by decide) (Wp.bindE (eM_is _ _ _ _) ?_)
        rw [L0, L2]
        by_cases hc : 0 ≤ c.toInt ∧ c.toInt ≤ 2
        · rw [if_pos hc]
          refine Wp.neg (by decide) (Wp.bind (mLook hM) (fun _ F q => ?_))
          subst q
          refine Wp.bind tM_begin (fun _ D7 q7 => Wp.lets (Wp.lets ?_))
          rw [aFix_go]
          unfold lX11_owner_50
          have v : (if (1 ≤ a.toInt ∧ a.toInt ≤ 9) ∧ (10 ≤ b.toInt ∧ b.toInt ≤ 2000) ∧ 0 ≤ c.toInt ∧ c.toInt ≤ 2 then (if c = 2 then V else 0) else -1) = if c = 2 then V else 0 := if_pos ⟨ha, hb, hc⟩
          rw [v]
          refine Wp.pos (by rw [q7.1]; exact (show (0 : Int32) ≤ 0 by decide)) (Wp.lets (Wp.ite (fun h => Wp.ret ?_) (fun h => Wp.ite (fun h2 => Wp.ret ?_) (fun h2 => Wp.bind (tM_from (by decide) (by decide)) (fun r D8 q8 => Wp.ret ?_)))))
          · rw [h, if_neg (by decide)]
          · rw [h2, if_neg (by decide)]
          · have h := ti_ne h
            have h2 := ti_ne h2
            rw [L0] at h
            rw [L1] at h2
            rw [if_pos (ti_eq (by rw [L2]; omega)), q8.2, hV]
            exact congrArg _ (sL_congr 33 0 0 (fun j _ hj => q7.2.2 j (by omega)))
        · rw [if_neg hc]
          exact Wp.pos rfl (Wp.ret (by rw [if_neg (fun q => hc q.2.2)]))
      · rw [if_neg hb]
        exact Wp.pos rfl (Wp.ret (by rw [if_neg (fun q => hb q.2.1)]))
    · rw [if_neg ha]
      exact Wp.pos rfl (Wp.ret (by rw [if_neg (fun q => ha q.1)]))
theorem p1_24 (a b : Int32) (hX : XFr D) (hM : MFr E) : Bth (fX10_heap a b D) (fX11_heap a b E) := by
  refine both (-1) ?_ ?_
  · unfold fX10_heap
    exact Wp.lets (Wp.ite (fun _ => Wp.ret rfl) (fun _ => Wp.ite (fun _ => Wp.bindE (zX_gather hX.2.1) (Wp.bindE (zX_indexOf rfl) (Wp.lets (Wp.pos rfl (Wp.ret rfl))))) (fun _ => Wp.ret rfl)))
  · unfold fX11_heap
    exact Wp.lets (Wp.bindE (zM_isStone hM.2.2.2.1) (Wp.lets (Wp.pos rfl (Wp.ret rfl))))
theorem p1_25 (a b : Int32) (hX : XFr D) (hM : MFr E) : Bth (fX10_anew a b D) (fX11_anew a b E) := by
  refine both (-1) ?_ ?_
  · unfold fX10_anew
    exact Wp.bindE (eX_isRange a b 300 D) (Wp.lets (Wp.ite (fun _ => Wp.ret rfl) (fun _ => Wp.bindE (zX_gather hX.2.1) (Wp.pos rfl (Wp.ret rfl)))))
  · unfold fX11_anew
    refine Wp.lets (Wp.bindE (eM_areUnits a b _) (Wp.ite (fun _ => Wp.ret rfl) (fun _ => Wp.bind (mLook hM) (fun _ F q => ?_))))
    subst q
    refine Wp.lets (Wp.lets ?_)
    rw [aFix_go]
    unfold lX11_anew_27
    exact Wp.pos (show (0 : Int32) ≤ 0 by decide) (Wp.ret rfl)
theorem p1_26 (a b c : Int32) (hX : XFr D) (hM : MFr E) : Bth (fX10_worth a b c D) (fX11_worth a b c E) := by
  refine both (-1) ?_ ?_
  · unfold fX10_worth
    exact Wp.bindE (eX_isRange b c 300 D) (Wp.ite (fun _ => Wp.ret rfl) (fun _ => Wp.bindE (zX_gather hX.2.1) (Wp.bindE (zX_indexOf rfl) (Wp.pos rfl (Wp.ret rfl)))))
  · unfold fX11_worth
    exact Wp.lets (Wp.bindE (zM_isStone hM.2.2.2.1) (Wp.lets (Wp.pos rfl (Wp.ret rfl))))
theorem p1_27 (a : Int32) (hX : XFr D) (hM : MFr E) : Bth (fX10_count a D) (fX11_count a E) := by
  obtain ⟨h8, h9, h10, h11, h12, -, h13, h22, -⟩ := hX
  have hM0 := hM
  obtain ⟨-, -, -, m5, m6, m7, m8, m15, m151, -⟩ := hM
  have L10 : (10 : Int32).toInt = 10 := by decide
  have L15 : (15 : Int32).toInt = 15 := by decide
  have L16 : (16 : Int32).toInt = 16 := by decide
  refine both (if a.toInt = 4 then -1 else if (0 ≤ a.toInt ∧ a.toInt < 7) ∨ (10 ≤ a.toInt ∧ a.toInt ≤ 15) then 0 else -1) ?_ ?_
  · unfold fX10_count
    refine Wp.tab (fun i K hK hc => ?_) (fun hc => ?_)
    · match i, hK with
      | 0, hK => cases hK; exact Wp.ret (by rw [h9, if_neg (by omega), if_pos (by omega)])
      | 1, hK => cases hK; exact Wp.bindE (zX_gather h9) (Wp.ret (by rw [if_neg (by omega), if_pos (by omega)]))
      | 2, hK => cases hK; exact Wp.ret (by rw [h10, if_neg (by omega), if_pos (by omega)])
      | 3, hK => cases hK; exact Wp.ret (by rw [h11, if_neg (by omega), if_pos (by omega)])
      | 4, hK => cases hK; exact Wp.ret (by rw [h12, if_pos (by omega)])
      | 5, hK => cases hK; exact Wp.ret (by rw [h13, if_neg (by omega), if_pos (by omega)])
      | 6, hK => cases hK; exact Wp.ret (by rw [h22, if_neg (by omega), if_pos (by omega)])
      | i + 7, hK => cases hK
    · have hc : a.toInt < 0 ∨ 0 + 7 ≤ a.toInt := hc
      refine Wp.lets (Wp.lets (Wp.ilt (fun h => Wp.ret ?_) (fun h => Wp.ile (fun h2 => Wp.ret ?_) (fun h2 => Wp.bindE (zX_gather h9) (Wp.ret ?_)))))
      · rw [if_neg (by omega), if_neg (by omega)]
      · rw [if_neg (by omega), if_neg (by omega)]
      · rw [if_neg (by omega), if_pos (by omega)]
  · unfold fX11_count
    refine Wp.lets (Wp.bind (mLook hM0) (fun _ F q => ?_))
    subst q
    refine Wp.tab (fun i K hK hc => ?_) (fun hc => ?_)
    · match i, hK with
      | 0, hK =>
        cases hK
        refine Wp.lets (Wp.lets ?_)
        rw [aFix_go]
        unfold lX11_count_58
        exact Wp.pos (show (0 : Int32) ≤ 0 by decide) (Wp.ret (by rw [if_neg (by omega), if_pos (by omega)]))
      | 1, hK => cases hK; exact Wp.bindE (zM_those rfl) (Wp.ret (by rw [if_neg (by omega), if_pos (by omega)]))
      | 2, hK => cases hK; exact Wp.idd (by decide) (Wp.ret (by rw [if_neg (by omega), if_pos (by omega)]; exact m8))
      | 3, hK => cases hK; exact Wp.idd (by decide) (Wp.ret (by rw [if_neg (by omega), if_pos (by omega)]; exact m6))
      | 4, hK => cases hK; exact Wp.idd (by decide) (Wp.ret (by rw [if_pos (by omega)]; exact m7))
      | 5, hK => cases hK; exact Wp.idd (by decide) (Wp.ret (by rw [if_neg (by omega), if_pos (by omega)]; exact m15))
      | 6, hK => cases hK; exact Wp.idd (by decide) (Wp.ret (by rw [if_neg (by omega), if_pos (by omega)]; exact m151))
      | i + 7, hK => cases hK
    · have hc : a.toInt < 0 ∨ 0 + 7 ≤ a.toInt := hc
      refine Wp.lets (Wp.lets ?_)
      rw [aFix_go]
      unfold lX11_count_133
      refine Wp.pos (show (0 : Int32) ≤ 0 by decide) (Wp.bindE (eM_is _ _ _ _) (Wp.lets ?_))
      rw [L10, L15]
      by_cases h : 10 ≤ a.toInt ∧ a.toInt ≤ 15
      · rw [if_pos h]
        exact Wp.neg (by decide) (Wp.ret (by rw [if_neg (by omega), if_pos (by omega)]))
      · rw [if_neg h]
        exact Wp.pos rfl (Wp.ret (by rw [if_neg (by omega), if_neg (by omega)]))
end P3
