section
/-! the reference's questions: never none, and nothing told is changed -/
/-- what looking left is kept -/
def GM (D D1 : ADD) : Prop := ∀ c, (c ≤ 29 ∨ c = 39) → D1.1 c = D.1 c
theorem GM.refl (D : ADD) : GM D D := fun _ _ => rfl
theorem GM.trans {D D1 D2 : ADD} (h : GM D D1) (k : GM D1 D2) : GM D D2 := fun c hc => (k c hc).trans (h c hc)
theorem GM.mn {D D1 : ADD} (h : GM D D1) (m : MN D) : MN D1 := by
  unfold MN
  rw [h 0 (by omega)]
  exact m
theorem GM.fm {D D1 : ADD} (h : GM D D1) : FmM D D1 := fun c hc => h c (by omega)
theorem GM.si {D D1 : ADD} (h : GM D D1) {c i : Nat} {v : Int32} (hc : 29 < c) (h9 : c ≠ 39) : GM D (aSI D1 c i v) := fun k hk => by
  rw [← h k hk]
  funext z
  have : k ≠ c := by omega
  simp [aSI, this]
section MO
variable {D : ADD}
theorem tM_un {a : Int32} : Wp (fX11_isUnit a D) (fun x D1 => D1 = D ∧ (x ≠ 0 → 10 ≤ a.toInt ∧ a.toInt ≤ 2000)) := by
  rw [eM_isUnit]
  by_cases h : 10 ≤ a.toInt ∧ a.toInt ≤ 2000
  · exact Wp.ret ⟨rfl, fun _ => h⟩
  · rw [if_neg h]
    exact Wp.ret ⟨rfl, fun k => absurd rfl k⟩
theorem tM_ar {a b : Int32} : Wp (fX11_areUnits a b D) (fun x D1 => D1 = D ∧ (x ≠ 0 → UR a b 300)) := by
  rw [eM_areUnits]
  by_cases h : UR a b 300
  · exact Wp.ret ⟨rfl, fun _ => h⟩
  · rw [if_neg h]
    exact Wp.ret ⟨rfl, fun k => absurd rfl k⟩
theorem tM_is {a l u : Int32} : Wp (fX11_is a l u D) (fun x D1 => D1 = D ∧ (x ≠ 0 → l.toInt ≤ a.toInt ∧ a.toInt ≤ u.toInt)) := by
  rw [eM_is]
  by_cases h : l.toInt ≤ a.toInt ∧ a.toInt ≤ u.toInt
  · exact Wp.ret ⟨rfl, fun _ => h⟩
  · rw [if_neg h]
    exact Wp.ret ⟨rfl, fun k => absurd rfl k⟩
theorem tM_st {a : Int32} (h : QM D) : Wp (fX11_isStone a D) (fun x D1 => D1 = D ∧ (x ≠ 0 → 0 ≤ a.toInt ∧ a.toInt < 32)) := by
  unfold fX11_isStone
  refine Wp.idd (by decide) ?_
  rw [cl_0]
  have e1 : (D.1 5 0 - 1).toInt = (D.1 5 0).toInt - 1 := ti_sub rfl ti_1 (by have := h.1; omega) (by have := h.1; omega)
  refine Wp.bind tM_is (fun x D1 q => ?_)
  obtain ⟨rfl, q⟩ := q
  have h5 := h.1
  have z0 : Wp (aZ 0 (some ((0 : Int32), D1))) (fun x D2 => D2 = D1 ∧ (x ≠ 0 → 0 ≤ a.toInt ∧ a.toInt < 32)) := Wp.z (Or.inl rfl) (Wp.ret ⟨rfl, fun k => absurd rfl k⟩)
  refine Wp.lets (Wp.lets (Wp.ite (fun _ => z0) (fun hx => ?_)))
  have q := q hx
  rw [ti_0] at q
  have e3 : ((3 : Int32) * a).toInt = 3 * a.toInt := ti_mul (by decide) rfl (by omega) (by omega)
  refine Wp.idx (i_in (by omega) (by omega)) (Wp.bind tM_day (fun y D2 q2 => ?_))
  subst q2
  exact Wp.ite (fun _ => z0) (fun _ => Wp.z (Or.inr rfl) (Wp.ret ⟨rfl, fun _ => ⟨q.1, by omega⟩⟩))
theorem tM_lk (h : QM D) : Wp (fX11_look D) (fun _ D1 => FmM D D1 ∧ MN D1) := by
  refine (tM_look h).mono (fun _ D1 q => ⟨fun c hc => q.1 c (by omega), ?_⟩)
  unfold MN
  rw [q.2]
  exact h.1
theorem tM_fs {a b : Int32} (hm : MN D) (hU : UR a b 300) : Wp (fX11_findScores a b D) (fun _ D1 => GM D D1) := by
  obtain ⟨u0, u1, u2, u3⟩ := id hU
  refine (tM_findScores hU (fun u D' e h1 h2 => tM_scoreOf (by unfold MN; rw [e 0 (by decide)]; exact hm) (by omega))).mono (fun _ D1 q => fun c hc => q.1 c (by omega))
theorem tM_bo {a b : Int32} (hm : MN D) (hU : UR a b 300) : Wp (fX11_bestOf a b D) (fun _ D1 => GM D D1) := (tM_bestOf hm hU).mono (fun _ D1 q => fun c hc => q.1 c (by omega))
theorem oM_span {a b : Int32} (h : QM D) : Wp (fX11_span a b D) (fun _ D1 => FmM D D1) := by
  unfold fX11_span
  have f1 : FmM D (aSI D 0 0 0) := FmM.code
  refine Wp.lets (Wp.bind (tM_st (h.fr f1)) (fun x D2 q => ?_))
  obtain ⟨rfl, q⟩ := q
  refine Wp.ite (fun _ => Wp.ret f1) (fun hx => Wp.bind (tM_lk (h.fr f1)) (fun _ D3 q3 => ?_))
  have f3 := f1.trans q3.1
  have ia : vp_in a 32 := i_in (q hx).1 (q hx).2
  exact Wp.lets (Wp.ite (fun _ => Wp.idx ia (Wp.ret f3)) (fun _ => Wp.ite (fun _ => Wp.idx ia (Wp.ret f3)) (fun _ => Wp.ite (fun _ => Wp.idx ia (Wp.ite (fun _ => Wp.ret f3) (fun _ => Wp.ret f3))) (fun _ => Wp.ret f3))))
theorem oM_by {a b c : Int32} (h : QM D) : Wp (fX11_by a b c D) (fun _ D1 => FmM D D1) := by
  unfold fX11_by
  have f1 : FmM D (aSI D 0 0 0) := FmM.code
  refine Wp.lets (Wp.bind (tM_st (h.fr f1)) (fun x D2 q => ?_))
  obtain ⟨rfl, q⟩ := q
  refine Wp.lets (Wp.ite (fun _ => Wp.ret f1) (fun hx => Wp.bind tM_un (fun x2 D4 q4 => ?_)))
  obtain ⟨rfl, q4⟩ := q4
  refine Wp.ite (fun _ => Wp.ret f1) (fun hy => Wp.bind (tM_lk (h.fr f1)) (fun _ D3 q3 => ?_))
  have f3 := f1.trans q3.1
  have hu := q4 hy
  have nu := u_ne (show 1 ≤ b.toInt by omega)
  exact Wp.tab4 (fun _ => Wp.bindE (eM_off (q hx) nu) (Wp.ret f3)) (fun _ => Wp.bindE (eM_off (q hx) nu) (Wp.lets (Wp.ite (fun _ => Wp.ret f3) (fun _ => Wp.ret f3)))) (fun _ => Wp.bind (tM_shortOf (q hx) nu) (fun y D5 q5 => by subst q5; exact Wp.ret f3)) (fun _ => Wp.bindE (eM_timesOf (q hx) nu) (Wp.ret f3)) (fun _ => Wp.ret f3)
theorem oM_score {a : Int32} (h : QM D) : Wp (fX11_score a D) (fun _ D1 => FmM D D1) := by
  unfold fX11_score
  have f1 : FmM D (aSI D 0 0 0) := FmM.code
  refine Wp.lets (Wp.bind tM_un (fun x D2 q => ?_))
  obtain ⟨rfl, q⟩ := q
  refine Wp.ite (fun _ => Wp.ret f1) (fun hx => Wp.bind (tM_lk (h.fr f1)) (fun _ D3 q3 => Wp.bind (tM_scoreOf q3.2 (by have := q hx; omega)) (fun y D4 q4 => ?_)))
  subst q4
  exact Wp.ret (f1.trans q3.1)
theorem oM_best {a b : Int32} (h : QM D) : Wp (fX11_best a b D) (fun _ D1 => FmM D D1) := by
  unfold fX11_best
  have f1 : FmM D (aSI D 0 0 0) := FmM.code
  refine Wp.lets (Wp.bind tM_ar (fun x D2 q => ?_))
  obtain ⟨rfl, q⟩ := q
  refine Wp.ite (fun _ => Wp.ret f1) (fun hx => Wp.bind (tM_lk (h.fr f1)) (fun _ D3 q3 => Wp.bind (tM_those q3.2) (fun y D4 q4 => ?_)))
  subst q4
  have f3 := f1.trans q3.1
  exact Wp.lets (Wp.ite (fun _ => Wp.ret f3) (fun _ => Wp.bind (tM_bo q3.2 (q hx)) (fun z D5 q5 => Wp.ret (f3.trans q5.fm))))
theorem oM_chance {a : Int32} (h : QM D) : Wp (fX11_chance a D) (fun _ D1 => FmM D D1) := by
  unfold fX11_chance
  have f1 : FmM D (aSI D 0 0 0) := FmM.code
  refine Wp.lets (Wp.bind tM_un (fun x D2 q => ?_))
  obtain ⟨rfl, q⟩ := q
  refine Wp.ite (fun _ => Wp.ret f1) (fun hx => Wp.bind (tM_lk (h.fr f1)) (fun _ D3 q3 => Wp.bind (tM_chanceOf q3.2 (by have := q hx; omega)) (fun y D4 q4 => Wp.ret (fun c hc => ?_))))
  rw [q4]
  exact f1.trans q3.1 c hc
theorem oM_sum {a b : Int32} (h : QM D) : Wp (fX11_sum a b D) (fun _ D1 => FmM D D1) := by
  unfold fX11_sum
  have f1 : FmM D (aSI D 0 0 0) := FmM.code
  refine Wp.lets (Wp.bind tM_un (fun x D2 q => ?_))
  obtain ⟨rfl, q⟩ := q
  refine Wp.lets (Wp.ite (fun _ => Wp.ret f1) (fun hx => Wp.bind tM_un (fun x4 D4 q4 => ?_)))
  obtain ⟨rfl, q4⟩ := q4
  refine Wp.ite (fun _ => Wp.ret f1) (fun hy => Wp.ite (fun _ => Wp.bind (tM_lk (h.fr f1)) (fun _ D3 q3 => Wp.bind (tM_sumOf q3.2 (by have := q hx; omega) (by have := q4 hy; omega)) (fun y D5 q5 => ?_))) (fun _ => Wp.ret f1))
  subst q5
  exact Wp.ret (f1.trans q3.1)
theorem oM_pair {a b : Int32} (h : QM D) : Wp (fX11_pair a b D) (fun _ D1 => FmM D D1) := by
  unfold fX11_pair
  have f1 : FmM D (aSI D 0 0 0) := FmM.code
  refine Wp.lets (Wp.bind tM_ar (fun x D2 q => ?_))
  obtain ⟨rfl, q⟩ := q
  refine Wp.lets (Wp.ite (fun _ => Wp.ret f1) (fun hx => Wp.ite (fun _ => Wp.ret f1) (fun _ => Wp.ite (fun _ => Wp.bind (tM_lk (h.fr f1)) (fun _ D3 q3 => Wp.bind (tM_those q3.2) (fun y D4 q4 => ?_))) (fun _ => Wp.ret f1))))
  subst q4
  have f3 := f1.trans q3.1
  obtain ⟨u0, u1, u2, u3⟩ := q hx
  have e1 : (a + 1).toInt = a.toInt + 1 := ti_add rfl ti_1 (by omega) (by omega)
  refine Wp.ite (fun _ => Wp.ret f3) (fun _ => Wp.lets (Wp.lets (Wp.lets ?_)))
  refine Wp.up4 (D := D4) 2001 (by decide) (a.toInt + 1) (by omega) (fun g p q r x h0 k => ?_) (by omega) (by omega)
  unfold lX11_pair_54
  refine Wp.ilt (fun _ => Wp.ret f3) (fun hxb => Wp.letQ (fun Q j => ∀ a b c, Wp (j a b c D4) Q) (fun p q r => Wp.lets (k (by omega) _ _ _)) (fun j K => Wp.lets ?_))
  refine Wp.up4 (D := D4) 2001 (by decide) a.toInt (by omega) (fun g p q r y g0 k => ?_) (by omega) (by omega)
  unfold lX11_pair_63
  refine Wp.ile (fun _ => K _ _ _) (fun hy => Wp.bind (tM_sumOf q3.2 (by omega) (by omega)) (fun w D5 q5 => ?_))
  subst q5
  have k := k (by omega)
  exact Wp.lets (Wp.lets (Wp.ite (fun _ => Wp.lets (k _ _ _)) (fun _ => Wp.ite (fun _ => Wp.lets (k _ _ _)) (fun _ => Wp.lets (k _ _ _)))))
theorem oM_worth {a b c : Int32} (h : QM D) : Wp (fX11_worth a b c D) (fun _ D1 => FmM D D1) := by
  unfold fX11_worth
  have f1 : FmM D (aSI D 0 0 0) := FmM.code
  refine Wp.lets (Wp.bind (tM_st (h.fr f1)) (fun x D2 q => ?_))
  obtain ⟨rfl, q⟩ := q
  refine Wp.lets (Wp.ite (fun _ => Wp.ret f1) (fun hx => Wp.bind tM_ar (fun x2 D4 q4 => ?_)))
  obtain ⟨rfl, q4⟩ := q4
  refine Wp.ite (fun _ => Wp.ret f1) (fun hy => Wp.bind (tM_lk (h.fr f1)) (fun _ D3 q3 => ?_))
  have f3 := f1.trans q3.1
  exact Wp.idx (i_in (q hx).1 (q hx).2) (Wp.lets (Wp.ite (fun _ => Wp.ret f3) (fun _ => Wp.bind (tM_worthOf q3.2 (q hx) (q4 hy)) (fun y D5 q5 => Wp.ret (f3.trans (fun c hc => q5 c (by omega) (by omega) (by omega)))))))
theorem oM_anew {a b : Int32} (h : QM D) : Wp (fX11_anew a b D) (fun _ D1 => FmM D D1) := by
  unfold fX11_anew
  have f1 : FmM D (aSI D 0 0 0) := FmM.code
  refine Wp.lets (Wp.bind tM_ar (fun x D2 q => ?_))
  obtain ⟨rfl, q⟩ := q
  refine Wp.ite (fun _ => Wp.ret f1) (fun hx => Wp.bind (tM_lk (h.fr f1)) (fun _ D3 q3 => Wp.lets (Wp.lets ?_)))
  have f3 := f1.trans q3.1
  refine Wp.fix3 (fun n _ _ x D' => (0 ≤ x.toInt ∧ x.toInt ≤ 32 ∧ 32 - x.toInt < (n : Int)) ∧ GM D3 D') ?_ ?_ aFuel 1000000 _ _ _ _ (Nat.le_refl _) ⟨⟨by decide, by decide, by decide⟩, GM.refl D3⟩
  · intro n g hg y w x D' hI
    obtain ⟨⟨i0, i1, i2⟩, i3⟩ := hI
    have m := i3.mn q3.2
    unfold lX11_anew_27
    refine Wp.ile (fun _ => Wp.ret (f3.trans i3.fm)) (fun hl => ?_)
    have hl : x.toInt < (D'.1 0 41).toInt := hl
    have c2 : (x + 1).toInt = x.toInt + 1 := ti_add rfl ti_1 (by omega) (by omega)
    refine Wp.idx (i_in i0 (by omega)) (Wp.letQ (fun Q j => ∀ a b D6, GM D3 D6 → Wp (j a b D6) Q) (fun _ _ D6 g6 => Wp.lets (hg _ _ _ _ ⟨⟨by omega, by omega, by omega⟩, g6⟩)) (fun j K => Wp.ite (fun _ => K _ _ _ i3) (fun _ => Wp.bind (tM_worthOf m ⟨i0, by omega⟩ (q hx)) (fun z D5 q5 => ?_))))
    have g5 : GM D3 D5 := i3.trans (fun c hc => q5 c (by omega) (by omega) (by omega))
    exact Wp.ite (fun _ => K _ _ _ g5) (fun _ => K _ _ _ g5)
  · intro y w x D' hI
    obtain ⟨⟨i0, i1, i2⟩, -⟩ := hI
    omega
theorem oM_heap {a b : Int32} (h : QM D) : Wp (fX11_heap a b D) (fun _ D1 => FmM D D1) := by
  unfold fX11_heap
  have f1 : FmM D (aSI D 0 0 0) := FmM.code
  refine Wp.lets (Wp.bind (tM_st (h.fr f1)) (fun x D2 q => ?_))
  obtain ⟨rfl, q⟩ := q
  refine Wp.lets (Wp.ite (fun _ => Wp.ret f1) (fun hx => Wp.bind tM_is (fun x2 D4 q4 => ?_)))
  obtain ⟨rfl, -⟩ := q4
  refine Wp.ite (fun _ => Wp.ret f1) (fun hy => Wp.bind (tM_lk (h.fr f1)) (fun _ D3 q3 => ?_))
  have f3 := f1.trans q3.1
  refine Wp.idx (i_in (q hx).1 (q hx).2) (Wp.ite (fun _ => Wp.ret f3) (fun _ => Wp.lets (Wp.letQ (fun Q j => ∀ x, bt x a.toNatClampNeg = true → Wp (j x D3) Q) (fun y hy => ?_) (fun j K => Wp.lets ?_))))
  · exact Wp.letQ (fun Q j => ∀ x, Wp (j x D3) Q) (fun w => Wp.ret f3) (fun j K => Wp.lets (tM_least (q hx) hy K))
  · exact tM_heapGo q3.2 (q hx) K
theorem oM_count {a : Int32} (h : QM D) : Wp (fX11_count a D) (fun _ D1 => FmM D D1) := by
  unfold fX11_count
  have f1 : FmM D (aSI D 0 0 0) := FmM.code
  refine Wp.lets (Wp.bind (tM_lk (h.fr f1)) (fun _ D3 q3 => ?_))
  have f3 := f1.trans q3.1
  have m := q3.2
  refine Wp.tab7 (fun _ => Wp.lets (Wp.lets (Wp.up2 (D := D3) 32 (by decide) (fun g y x h0 k => ?_) (by decide) (by decide)))) (fun _ => Wp.bind (tM_those m) (fun y D4 q4 => by subst q4; exact Wp.ret f3)) (fun _ => Wp.idd (by decide) (Wp.ret f3)) (fun _ => Wp.idd (by decide) (Wp.ret f3)) (fun _ => Wp.idd (by decide) (Wp.ret f3)) (fun _ => Wp.idd (by decide) (Wp.ret f3)) (fun _ => Wp.idd (by decide) (Wp.ret f3)) (fun _ => Wp.lets (Wp.lets (Wp.up2 (D := D3) 32 (by decide) (fun g y x h0 k => ?_) (by decide) (by decide))))
  · unfold lX11_count_58
    exact Wp.ile (fun _ => Wp.ret f3) (fun h => Wp.idx (i_in h0 (by omega)) (Wp.lets (Wp.ite (fun _ => Wp.lets (Wp.lets (k (by omega) _))) (fun _ => Wp.lets (Wp.lets (k (by omega) _))))))
  · unfold lX11_count_133
    refine Wp.ile (fun _ => Wp.bind tM_is (fun z D4 q4 => ?_)) (fun h => Wp.idx (i_in h0 (by omega)) (Wp.lets (Wp.lets (Wp.ite (fun _ => Wp.lets (Wp.lets (k (by omega) _))) (fun _ => Wp.bindE (eM_f ⟨h0, by omega⟩ ⟨by decide, by decide⟩) (Wp.ite (fun _ => Wp.lets (Wp.lets (k (by omega) _))) (fun _ => Wp.lets (Wp.lets (k (by omega) _)))))))))
    obtain ⟨rfl, -⟩ := q4
    exact Wp.lets (Wp.ite (fun _ => Wp.ret f3) (fun _ => Wp.ret f3))
theorem oM_fault {a : Int32} : Wp (fX11_fault a D) (fun _ D1 => FmM D D1) := by
  unfold fX11_fault
  have f1 : FmM D (aSI D 0 0 0) := FmM.code
  exact Wp.lets (Wp.lets (Wp.ite (fun _ => Wp.idd (by decide) (Wp.ret f1)) (fun _ => Wp.ite (fun _ => Wp.idd (by decide) (Wp.ret f1)) (fun _ => Wp.ret f1))))
theorem oM_entry {a b : Int32} (h : QM D) : Wp (fX11_entry a b D) (fun _ D1 => FmM D D1) := by
  unfold fX11_entry
  have f1 : FmM D (aSI D 0 0 0) := FmM.code
  refine Wp.lets (Wp.idd (by decide) ?_)
  rw [cl_0, f1 8 (by omega)]
  have h8 := h.2.1
  have e1 : (D.1 8 0 - 1).toInt = (D.1 8 0).toInt - 1 := ti_sub rfl ti_1 (by omega) (by omega)
  refine Wp.bind tM_is (fun x D2 q => ?_)
  obtain ⟨rfl, q⟩ := q
  refine Wp.lets (Wp.lets (Wp.ite (fun _ => Wp.ret f1) (fun hx => Wp.bind tM_is (fun x2 D4 q4 => ?_))))
  obtain ⟨rfl, q4⟩ := q4
  refine Wp.ite (fun _ => Wp.ret f1) (fun hy => Wp.idx ?_ (Wp.ret f1))
  have q := q hx
  have q4 := q4 hy
  rw [ti_0] at q q4
  have e3 : (3 : Int32).toInt = 3 := by decide
  rw [e3] at q4
  have e4 : ((4 : Int32) * a).toInt = 4 * a.toInt := ti_mul (by decide) rfl (by omega) (by omega)
  have e5 : ((4 : Int32) * a + b).toInt = 4 * a.toInt + b.toInt := ti_add e4 rfl (by omega) (by omega)
  exact i_in (by omega) (by omega)
theorem tM_factOn {a b d : Int32} (h : QM D) (ha : 0 ≤ a.toInt ∧ a.toInt < 32) : Pu (fX11_factOn a b d D) D := by
  unfold fX11_factOn
  have h8 := h.2.1
  have e3 : ((3 : Int32) * a).toInt = 3 * a.toInt := ti_mul (by decide) rfl (by omega) (by omega)
  have e31 : ((3 : Int32) * a + 1).toInt = 3 * a.toInt + 1 := ti_add e3 ti_1 (by omega) (by omega)
  have e32 : ((3 : Int32) * a + 2).toInt = 3 * a.toInt + 2 := ti_add e3 (by decide) (by omega) (by omega)
  refine Wp.letQ (fun Q j => ∀ x, Wp (j x D) Q) (fun x => ?_) (fun j K => Wp.ite (fun _ => Wp.idx (i_in (by omega) (by omega)) (K _)) (fun _ => Wp.ite (fun _ => Wp.idx (i_in (by omega) (by omega)) (K _)) (fun _ => Wp.ite (fun _ => K _) (fun _ => Wp.ite (fun _ => K _) (fun _ => Wp.ite (fun _ => K _) (fun _ => K _))))))
  refine Wp.lets (Wp.lets (Wp.up2 (D := D) 400 (by decide) (fun g y x h0 k => ?_) (by decide) (by decide)))
  unfold lX11_factOn_75
  refine Wp.idd (by decide) ?_
  rw [cl_0]
  refine Wp.ile (fun _ => Wp.ret rfl) (fun hl => ?_)
  have e4 : ((4 : Int32) * x).toInt = 4 * x.toInt := ti_mul (by decide) rfl (by omega) (by omega)
  refine Wp.leti (fun w ew => ?_)
  rw [← ew] at e4
  have e41 : (w + 1).toInt = 4 * x.toInt + 1 := ti_add e4 ti_1 (by omega) (by omega)
  have e42 : (w + 2).toInt = 4 * x.toInt + 2 := ti_add e4 (by decide) (by omega) (by omega)
  have e43 : (w + 3).toInt = 4 * x.toInt + 3 := ti_add e4 (by decide) (by omega) (by omega)
  have k := k (by omega)
  have i1 : vp_in (w + 1) 6400 := i_in (by omega) (by omega)
  have i2 : vp_in (w + 2) 6400 := i_in (by omega) (by omega)
  have i3 : vp_in (w + 3) 6400 := i_in (by omega) (by omega)
  have i0 : vp_in w 6400 := i_in (by omega) (by omega)
  refine Wp.idx i1 (Wp.letQ (fun Q j => ∀ x, Wp (j x D) Q) (fun z => ?_) (fun j K => Wp.lets (Wp.ite (fun _ => Wp.idx i0 (Wp.ite (fun _ => K _) (fun _ => K _))) (fun _ => K _))))
  exact Wp.lets (Wp.ite (fun _ => Wp.lets (k _)) (fun _ => Wp.idx i2 (Wp.lets (Wp.ite (fun _ => Wp.idx i3 (Wp.lets (Wp.lets (k _)))) (fun _ => Wp.idx i2 (Wp.ite (fun _ => Wp.ite (fun _ => Wp.idx i3 (Wp.lets (Wp.lets (k _)))) (fun _ => Wp.lets (k _))) (fun _ => Wp.lets (k _))))))))
theorem oM_fact {a b : Int32} (h : QM D) : Wp (fX11_fact a b D) (fun _ D1 => FmM D D1) := by
  unfold fX11_fact
  have f1 : FmM D (aSI D 0 0 0) := FmM.code
  refine Wp.lets (Wp.bind (tM_st (h.fr f1)) (fun x D2 q => ?_))
  obtain ⟨rfl, q⟩ := q
  refine Wp.lets (Wp.lets (Wp.ite (fun _ => Wp.ret f1) (fun hx => Wp.bind tM_is (fun x2 D4 q4 => ?_))))
  obtain ⟨rfl, -⟩ := q4
  refine Wp.ite (fun _ => Wp.ret f1) (fun hy => Wp.bind tM_day (fun y D5 q5 => ?_))
  subst q5
  refine Wp.bind (tM_factOn (h.fr f1) (q hx)) (fun y D5 q5 => ?_)
  subst q5
  exact Wp.ret f1
end MO
end
section
/-! the reference's questions, the longer ones -/
section F5
variable {ρ σ τ υ κ μ : Type} {Q : ρ → ADD → Prop}
theorem Wp.fix5 {F : (σ → τ → υ → κ → μ → ADD → Option (ρ × ADD)) → σ → τ → υ → κ → μ → ADD → Option (ρ × ADD)} {z : σ → τ → υ → κ → μ → ADD → Option (ρ × ADD)} (I : Nat → σ → τ → υ → κ → μ → ADD → Prop) (h : ∀ n g, (∀ x y w v u D, I n x y w v u D → Wp (g x y w v u D) Q) → ∀ x y w v u D, I (n + 1) x y w v u D → Wp (F g x y w v u D) Q) (h0 : ∀ x y w v u D, ¬ I 0 x y w v u D) : ∀ m n x y w v u D, n ≤ m → I n x y w v u D → Wp (aFix m F z x y w v u D) Q
  | 0, n, x, y, w, v, u, D, hn, hI => by
    have e : n = 0 := by omega
    rw [e] at hI
    exact absurd hI (h0 x y w v u D)
  | m + 1, 0, x, y, w, v, u, D, hn, hI => absurd hI (h0 x y w v u D)
  | m + 1, n + 1, x, y, w, v, u, D, hn, hI => h n (aFix m F z) (fun x' y' w' v' u' D' hI' => Wp.fix5 I h h0 m n x' y' w' v' u' D' (by omega) hI') x y w v u D hI
theorem Wp.up5 {D : ADD} (B : Int) (hB : B ≤ 100000) {F : (σ → τ → υ → κ → Int32 → ADD → Option (ρ × ADD)) → σ → τ → υ → κ → Int32 → ADD → Option (ρ × ADD)} {z : σ → τ → υ → κ → Int32 → ADD → Option (ρ × ADD)}
    (hF : ∀ (g : σ → τ → υ → κ → Int32 → ADD → Option (ρ × ADD)) (a : σ) (b : τ) (c : υ) (d : κ) (x : Int32), 0 ≤ x.toInt → (x.toInt < B → ∀ a b c d, Wp (g a b c d (x + 1) D) Q) → Wp (F g a b c d x D) Q) {a : σ} {b : τ} {c : υ} {d : κ} {x0 : Int32} (h0 : 0 ≤ x0.toInt) (h1 : x0.toInt ≤ 100000) : Wp (aFix aFuel F z a b c d x0 D) Q := by
  refine Wp.fix5 (fun n a b c d x D' => (0 ≤ x.toInt ∧ x.toInt ≤ 100001 ∧ 100001 - x.toInt < (n : Int)) ∧ D' = D) ?_ ?_ aFuel 1000000 _ _ _ _ _ _ (Nat.le_refl _) ⟨⟨h0, by omega, by omega⟩, rfl⟩
  · intro n g hg a b c d x D' hI
    obtain ⟨⟨i0, i1, i2⟩, i3⟩ := hI
    subst i3
    refine hF g a b c d x i0 (fun hx a b c d => hg _ _ _ _ _ _ ⟨?_, rfl⟩)
    have c2 : (x + 1).toInt = x.toInt + 1 := ti_add rfl ti_1 (by omega) (by omega)
    omega
  · intro a b c d x D' hI
    obtain ⟨⟨i0, i1, i2⟩, -⟩ := hI
    omega
end F5
section MP
variable {D : ADD}
theorem mul_nz {a x : Int32} (ha : 1 ≤ a.toInt ∧ a.toInt ≤ 2000) (hx : x ≠ 0) : a.toInt64 * x.toInt64 ≠ 0 := by
  intro e
  have e1 : (a.toInt64 * x.toInt64).toInt = 0 := by rw [e]; rfl
  rw [Int64.toInt_mul, Int32.toInt_toInt64, Int32.toInt_toInt64] at e1
  have lo := ti_lo x
  have hi := ti_hi x
  have hn : (a.toInt * x.toInt).natAbs ≤ 2000 * 2147483648 := by
    rw [Int.natAbs_mul]
    exact Nat.mul_le_mul (by omega) (by omega)
  have hb : (a.toInt * x.toInt).bmod (2 ^ 64) = a.toInt * x.toInt := by
    generalize a.toInt * x.toInt = p at hn ⊢
    exact Int.bmod_eq_of_le (by omega) (by omega)
  rw [hb] at e1
  rcases Int.mul_eq_zero.mp e1 with h | h
  · omega
  · exact hx (Int32.toInt_inj.mp (by rw [h]; rfl))
theorem oM_peak {a b c : Int32} (h : QM D) : Wp (fX11_peak a b c D) (fun _ D1 => FmM D D1) := by
  unfold fX11_peak
  have f1 : FmM D (aSI D 0 0 0) := FmM.code
  refine Wp.lets (Wp.bind tM_ar (fun x D2 q => ?_))
  obtain ⟨rfl, q⟩ := q
  refine Wp.ite (fun _ => Wp.ret f1) (fun hx => Wp.bind (tM_lk (h.fr f1)) (fun _ D3 q3 => Wp.bind (tM_those q3.2) (fun y D4 q4 => ?_)))
  subst q4
  have f3 := f1.trans q3.1
  refine Wp.lets (Wp.ite (fun _ => Wp.ret f3) (fun _ => Wp.bind tM_is (fun x2 D5 q5 => ?_)))
  obtain ⟨rfl, -⟩ := q5
  have hU := q hx
  obtain ⟨u0, u1, u2, u3⟩ := id hU
  refine Wp.ite (fun _ => Wp.ret f3) (fun _ => Wp.bind (tM_fs q3.2 hU) (fun _ D6 q6 => Wp.lets (Wp.lets ?_)))
  have f6 := f3.trans q6.fm
  refine Wp.fix1 (fun n x D' => (a.toInt ≤ x.toInt ∧ x.toInt ≤ b.toInt + 1 ∧ b.toInt + 1 - x.toInt < (n : Int)) ∧ D' = D6) ?_ ?_ aFuel 1000000 _ _ (Nat.le_refl _) ⟨⟨by omega, by omega, by omega⟩, rfl⟩
  · intro n g hg x D' hI
    obtain ⟨⟨i0, i1, i2⟩, i3⟩ := hI
    subst i3
    unfold lX11_peak_48
    refine Wp.ilt (fun _ => Wp.ret f6) (fun hb => Wp.bind (tM_placeOf hU i0 hb) (fun z D7 q7 => ?_))
    subst q7
    have c2 : (x + 1).toInt = x.toInt + 1 := ti_add rfl ti_1 (by omega) (by omega)
    exact Wp.ite (fun _ => Wp.ret f6) (fun _ => Wp.lets (hg _ _ ⟨⟨by omega, by omega, by omega⟩, rfl⟩))
  · intro x D' hI
    obtain ⟨⟨i0, i1, i2⟩, -⟩ := hI
    omega
theorem tM_fp {u a b : Int32} (hm : MN D) (hU : UR a b 300) (h1 : a.toInt ≤ u.toInt) (h2 : u.toInt ≤ b.toInt) : Wp (fX11_findProof u a b D) (fun _ D1 => GM D D1) := by
  unfold fX11_findProof
  obtain ⟨u0, u1, u2, u3⟩ := id hU
  refine Wp.bind (tM_those hm) (fun x1 D1 q1 => ?_)
  subst q1
  refine Wp.bind (tM_chanceOf hm (by omega)) (fun x2 D2 q2 => Wp.lets ?_)
  have g2 : GM D1 D2 := fun c _ => by rw [q2]
  have m2 := g2.mn hm
  refine Wp.letQ (fun Q j => ∀ x y, Wp (j x y D2) Q) (fun x4 x5 => ?_) (fun j K => Wp.lets ?_)
  · refine Wp.letQ (fun Q j => ∀ x, Wp (j x D2) Q) (fun x6 => ?_) (fun j K => Wp.lets ?_)
    · refine Wp.bind (tM_fs m2 hU) (fun _ D5 q5 => Wp.idd (by decide) (Wp.leti (fun D6 e6 => ?_)))
      have g6 : GM D1 D6 := by rw [e6]; exact (g2.trans q5).si (by decide) (by decide)
      refine Wp.bind (tM_nearOf (g6.mn hm) (by omega)) (fun x7 D7 q7 => ?_)
      obtain ⟨rfl, -⟩ := q7
      refine Wp.idd (by decide) (Wp.leti (fun D8 e8 => ?_))
      have g8 : GM D1 D8 := by rw [e8]; exact g6.si (by decide) (by decide)
      have es : (u - a).toInt = u.toInt - a.toInt := ti_sub rfl rfl (by omega) (by omega)
      refine Wp.letQ (fun Q j => ∀ x, Wp (j x D8) Q) (fun x8 => ?_) (fun j K => Wp.ite (fun _ => K _) (fun hx => Wp.idx (i_in (by omega) (by omega)) (Wp.nzl (mul_nz (by omega) hx) (K _))))
      refine Wp.idd (by decide) (Wp.leti (fun D10 e10 => ?_))
      have g10 : GM D1 D10 := by rw [e10]; exact g8.si (by decide) (by decide)
      refine Wp.bind tM_thousands (fun x9 D11 q11 => ?_)
      subst q11
      refine Wp.idd (by decide) (Wp.leti (fun D12 e12 => ?_))
      have g12 : GM D1 D12 := by rw [e12]; exact g10.si (by decide) (by decide)
      refine Wp.letQ (fun Q j => ∀ x, Wp (j x D12) Q) (fun x10 => ?_) (fun j K => Wp.ite (fun _ => K _) (fun _ => K _))
      refine Wp.bind tM_thousands (fun x11 D14 q14 => ?_)
      subst q14
      refine Wp.idd (by decide) (Wp.leti (fun D15 e15 => ?_))
      have g15 : GM D1 D15 := by rw [e15]; exact g12.si (by decide) (by decide)
      refine Wp.letQ (fun Q j => ∀ x, Wp (j x D15) Q) (fun x12 => ?_) (fun j K => Wp.ite (fun _ => K _) (fun _ => Wp.bind (tM_placeOf hU h1 h2) (fun z D16 q16 => by subst q16; exact K _)))
      refine Wp.idd (by decide) (Wp.leti (fun D17 e17 => Wp.idd (by decide) (Wp.leti (fun D18 e18 => Wp.idd (by decide) (Wp.leti (fun D19 e19 => Wp.ret ?_))))))
      rw [e19, e18, e17]
      exact ((g15.si (by decide) (by decide)).si (by decide) (by decide)).si (by decide) (by decide)
    · refine Wp.up2 (D := D2) 6 (by decide) (fun g y x h0 k => ?_) (by decide) (by decide)
      unfold lX11_findProof_113
      have e6 : (6 : Int32).toInt = 6 := by decide
      exact Wp.ile (fun _ => K _) (fun hl => Wp.lets (Wp.lets (k (by omega) _)))
  · refine Wp.up3 (D := D2) 32 (by decide) (fun g p r x h0 k => ?_) (by decide) (by decide)
    unfold lX11_findProof_33
    refine Wp.ile (fun _ => K _ _) (fun hl => ?_)
    have k := k (by omega)
    refine Wp.idx (i_in h0 (by omega)) (Wp.letQ (fun Q j => ∀ a b, Wp (j a b D2) Q) (fun a b => Wp.lets (k _ _)) (fun j K2 => Wp.ite (fun _ => K2 _ _) (fun _ => Wp.bindE (eM_off ⟨h0, by omega⟩ (u_ne (by omega))) (Wp.ite (fun _ => K2 _ _) (fun _ => Wp.bindE (eM_f ⟨h0, by omega⟩ ⟨by decide, by decide⟩) (Wp.lets (Wp.bindE (eM_f ⟨h0, by omega⟩ ⟨by decide, by decide⟩) (Wp.lets (Wp.ite (fun _ => Wp.lets (K2 _ _)) (fun _ => Wp.lets (K2 _ _)))))))))))
theorem oM_verdict {u a b : Int32} (h : QM D) : Wp (fX11_verdict u a b D) (fun _ D1 => FmM D D1) := by
  unfold fX11_verdict
  have f1 : FmM D (aSI D 0 0 0) := FmM.code
  refine Wp.lets (Wp.bind tM_ar (fun x D2 q => ?_))
  obtain ⟨rfl, q⟩ := q
  refine Wp.lets (Wp.ite (fun _ => Wp.ret f1) (fun hx => Wp.bind tM_is (fun x2 D5 q5 => ?_)))
  obtain ⟨rfl, q5⟩ := q5
  refine Wp.ite (fun _ => Wp.ret f1) (fun hy => Wp.bind (tM_lk (h.fr f1)) (fun _ D3 q3 => Wp.bind (tM_fp q3.2 (q hx) (q5 hy).1 (q5 hy).2) (fun _ D6 q6 => Wp.lets (Wp.lets ?_))))
  have f6 := (f1.trans q3.1).trans q6.fm
  have h6 := h.fr f6
  have l1 := h6.2.2.2.1
  have l2 := h6.2.2.2.2
  refine Wp.up1 (D := D6) 16 (by decide) (fun g x i0 k => ?_) (by decide) (by decide)
  unfold lX11_verdict_38
  have c1 : (1 : Int32).toNatClampNeg = 1 := rfl
  refine Wp.idd (by decide) ?_
  rw [c1]
  refine Wp.ile (fun _ => Wp.ret f6) (fun hl => ?_)
  have e16 : ((16 : Int32) + x).toInt = 16 + x.toInt := ti_add (by decide) rfl (by omega) (by omega)
  have ec := cl_i (x := (16 : Int32) + x) (by omega)
  refine Wp.bind (tM_holds ⟨by omega, by omega⟩ (l2 _ (by omega))) (fun y D7 q7 => ?_)
  subst q7
  exact Wp.ite (fun _ => Wp.lets (k (by omega))) (fun _ => Wp.idx (i_in (by omega) (by omega)) (Wp.ret f6))
theorem tM_ofSet {k s : Int32} (hk : 0 ≤ k.toInt ∧ k.toInt < 32) : Pu (fX11_isOfSet k s D) D := by
  unfold fX11_isOfSet
  have z0 : Wp (aZ 0 (some ((0 : Int32), D))) (fun _ D1 => D1 = D) := Wp.z (Or.inl rfl) (Wp.ret rfl)
  have z1 : Wp (aZ 1 (some ((1 : Int32), D))) (fun _ D1 => D1 = D) := Wp.z (Or.inr rfl) (Wp.ret rfl)
  exact Wp.idx (i_in hk.1 hk.2) (Wp.lets (Wp.lets (Wp.ite (fun _ => z0) (fun _ => Wp.bindE (eM_f hk ⟨by decide, by decide⟩) (Wp.ite (fun _ => Wp.bindE (eM_f hk ⟨by decide, by decide⟩) (Wp.ite (fun _ => z1) (fun _ => z0))) (fun _ => z0))))))
theorem oM_set {a b c : Int32} (h : QM D) : Wp (fX11_set a b c D) (fun _ D1 => FmM D D1) := by
  unfold fX11_set
  have f1 : FmM D (aSI D 0 0 0) := FmM.code
  refine Wp.lets (Wp.bind tM_is (fun x D2 q => ?_))
  obtain ⟨rfl, -⟩ := q
  refine Wp.lets (Wp.ite (fun _ => Wp.ret f1) (fun hx => Wp.bind tM_un (fun x2 D5 q5 => ?_)))
  obtain ⟨rfl, q5⟩ := q5
  refine Wp.ite (fun _ => Wp.ret f1) (fun hy => Wp.bind tM_is (fun x3 D6 q6 => ?_))
  obtain ⟨rfl, -⟩ := q6
  refine Wp.ite (fun _ => Wp.ret f1) (fun hz => Wp.bind (tM_lk (h.fr f1)) (fun _ D3 q3 => ?_))
  have f3 := f1.trans q3.1
  have m := q3.2
  have nu := u_ne (u := b) (by have := q5 hy; omega)
  have e6 : (6 : Int32).toInt = 6 := by decide
  refine Wp.letQ (fun Q j => ∀ x y z w, Wp (j x y z w D3) Q) (fun x4 x5 x6 x7 => ?_) (fun j K => Wp.lets ?_)
  · refine Wp.letQ (fun Q j => ∀ x, Wp (j x D3) Q) (fun x8 => Wp.lets (Wp.ite (fun _ => Wp.ret f3) (fun _ => Wp.ite (fun _ => Wp.ret f3) (fun _ => Wp.ite (fun _ => Wp.ret f3) (fun _ => Wp.ret f3))))) (fun j K => Wp.lets ?_)
    refine Wp.up2 (D := D3) 6 (by decide) (fun g y x h0 k => ?_) (by decide) (by decide)
    unfold lX11_set_218
    refine Wp.ile (fun _ => K _) (fun hl => ?_)
    have k := k (by omega)
    exact Wp.letQ (fun Q j => ∀ x, Wp (j x D3) Q) (fun x => Wp.lets (Wp.lets (k _))) (fun j K2 => Wp.lets (Wp.ite (fun _ => K2 _) (fun _ => Wp.ite (fun _ => K2 _) (fun _ => K2 _))))
  · refine Wp.up5 (D := D3) 32 (by decide) (fun g p r s t x h0 k => ?_) (by decide) (by decide)
    unfold lX11_set_52
    refine Wp.ile (fun _ => K _ _ _ _) (fun hl => ?_)
    have k := k (by omega)
    refine Wp.bind (tM_ofSet ⟨h0, by omega⟩) (fun y D4 q4 => ?_)
    subst q4
    refine Wp.letQ (fun Q j => ∀ x y z w, Wp (j x y z w D4) Q) (fun _ _ _ _ => Wp.lets (k _ _ _ _)) (fun j K2 => Wp.ite (fun _ => K2 _ _ _ _) (fun _ => Wp.lets (Wp.bindE (eM_timesOf ⟨h0, by omega⟩ nu) ?_)))
    refine Wp.letQ (fun Q j => ∀ x, Wp (j x D4) Q) (fun x28 => ?_) (fun j K3 => Wp.ite (fun _ => K3 _) (fun _ => K3 _))
    refine Wp.letQ (fun Q j => ∀ x, Wp (j x D4) Q) (fun x29 => ?_) (fun j K3 => Wp.lets ?_)
    · refine Wp.letQ (fun Q j => ∀ x, Wp (j x D4) Q) (fun x30 => Wp.lets (Wp.lets ?_)) (fun j K3 => Wp.ite (fun _ => K3 _) (fun _ => K3 _))
      refine Wp.up2 (D := D4) 6 (by decide) (fun g y x h0 k => ?_) (by decide) (by decide)
      unfold lX11_set_171
      refine Wp.ile (fun _ => K2 _ _ _ _) (fun hl => ?_)
      have k := k (by omega)
      exact Wp.letQ (fun Q j => ∀ x, Wp (j x D4) Q) (fun x => Wp.lets (Wp.lets (k _))) (fun j K2 => Wp.ite (fun _ => K2 _) (fun _ => K2 _))
    · refine Wp.up2 (D := D4) 32 (by decide) (fun g y w h1 k => ?_) (by decide) (by decide)
      unfold lX11_set_108
      refine Wp.ile (fun _ => K3 _) (fun hl2 => ?_)
      have k := k (by omega)
      refine Wp.bind (tM_ofSet ⟨h1, by omega⟩) (fun z D5 q5 => ?_)
      subst q5
      exact Wp.letQ (fun Q j => ∀ x, Wp (j x D5) Q) (fun x => Wp.lets (Wp.lets (k _))) (fun j K4 => Wp.lets (Wp.ite (fun _ => K4 _) (fun _ => Wp.bindE (eM_timesOf ⟨h1, by omega⟩ nu) (Wp.ite (fun _ => K4 _) (fun _ => K4 _)))))
/-- the loops that choose anew among those kept -/
theorem tM_town {t a b : Int32} (hm : MN D) (hU : UR a b 300) : Wp (fX11_bestOfTown t a b D) (fun _ D1 => GM D D1) := by
  unfold fX11_bestOfTown
  refine Wp.letQ (fun Q j => ∀ D1, GM D D1 → Wp (j D1) Q) (fun D1 g1 => Wp.bind (tM_those (g1.mn hm)) (fun x D2 q2 => ?_)) (fun j K => Wp.lets ?_)
  · subst q2
    exact Wp.lets (Wp.ite (fun _ => Wp.ret g1) (fun _ => Wp.bind (tM_bo (g1.mn hm) hU) (fun y D3 q3 => Wp.ret (g1.trans q3))))
  · refine Wp.fix1 (fun n x D' => (0 ≤ x.toInt ∧ x.toInt ≤ 32 ∧ 32 - x.toInt < (n : Int)) ∧ GM D D') ?_ ?_ aFuel 1000000 _ _ (Nat.le_refl _) ⟨⟨by decide, by decide, by decide⟩, GM.refl D⟩
    · intro n g hg x D' hI
      obtain ⟨⟨i0, i1, i2⟩, i3⟩ := hI
      have m := i3.mn hm
      unfold lX11_bestOfTown_3
      refine Wp.ile (fun _ => K _ i3) (fun hl => ?_)
      have c2 : (x + 1).toInt = x.toInt + 1 := ti_add rfl ti_1 (by omega) (by omega)
      have ix : vp_in x 32 := i_in i0 (by omega)
      exact Wp.idx ix (Wp.letQ (fun Q j => ∀ y, Wp (j y D') Q) (fun y => Wp.idx ix (Wp.lets (Wp.lets (hg _ _ ⟨⟨by omega, by omega, by omega⟩, i3.si (by decide) (by decide)⟩)))) (fun j K2 => Wp.lets (Wp.ite (fun _ => K2 _) (fun _ => Wp.bindE (eM_f ⟨i0, by omega⟩ ⟨by decide, by decide⟩) (Wp.ite (fun _ => K2 _) (fun _ => K2 _))))))
    · intro x D' hI
      obtain ⟨⟨i0, i1, i2⟩, -⟩ := hI
      omega
theorem oM_drift {a b c : Int32} (h : QM D) : Wp (fX11_drift a b c D) (fun _ D1 => FmM D D1) := by
  unfold fX11_drift
  have f1 : FmM D (aSI D 0 0 0) := FmM.code
  refine Wp.lets (Wp.bind tM_is (fun x D2 q => ?_))
  obtain ⟨rfl, -⟩ := q
  refine Wp.lets (Wp.ite (fun _ => Wp.ret f1) (fun hx => Wp.bind tM_ar (fun x2 D5 q5 => ?_)))
  obtain ⟨rfl, q5⟩ := q5
  refine Wp.ite (fun _ => Wp.ret f1) (fun hy => Wp.bind (tM_lk (h.fr f1)) (fun _ D3 q3 => Wp.bind (tM_keep q3.2) (fun _ D6 q6 => ?_)))
  have hU := q5 hy
  have f3 := f1.trans q3.1
  have g6 : GM D3 D6 := fun c hc => q6 c (by omega)
  have hm := q3.2
  refine Wp.letQ (fun Q j => ∀ D1, GM D3 D1 → Wp (j D1) Q) (fun D7 g7 => Wp.bind (tM_those (g7.mn hm)) (fun x D8 q8 => ?_)) (fun j K => Wp.lets ?_)
  · subst q8
    refine Wp.letQ (fun Q j => ∀ x D1, GM D3 D1 → Wp (j x D1) Q) (fun x4 D9 g9 => ?_) (fun j K => Wp.ite (fun _ => K _ _ g7) (fun _ => Wp.bind (tM_bo (g7.mn hm) hU) (fun y D3 q3 => K _ _ (g7.trans q3))))
    refine Wp.letQ (fun Q j => ∀ D1, GM D3 D1 → Wp (j D1) Q) (fun D10 g10 => Wp.bind (tM_those (g10.mn hm)) (fun x D11 q11 => ?_)) (fun j K => Wp.lets ?_)
    · subst q11
      refine Wp.letQ (fun Q j => ∀ x D1, GM D3 D1 → Wp (j x D1) Q) (fun x6 D12 g12 => ?_) (fun j K => Wp.ite (fun _ => K _ _ g10) (fun _ => Wp.bind (tM_bo (g10.mn hm) hU) (fun y D3 q3 => K _ _ (g10.trans q3))))
      have f12 := f3.trans g12.fm
      exact Wp.lets (Wp.lets (Wp.ite (fun _ => Wp.ret f12) (fun _ => Wp.ite (fun _ => Wp.ret f12) (fun _ => Wp.ret f12))))
    · refine Wp.fix1 (fun n x D' => (0 ≤ x.toInt ∧ x.toInt ≤ 32 ∧ 32 - x.toInt < (n : Int)) ∧ GM D3 D') ?_ ?_ aFuel 1000000 _ _ (Nat.le_refl _) ⟨⟨by decide, by decide, by decide⟩, g9⟩
      · intro n g hg x D' hI
        obtain ⟨⟨i0, i1, i2⟩, i3⟩ := hI
        have m := i3.mn hm
        unfold lX11_drift_110
        refine Wp.ile (fun _ => K _ i3) (fun hl => ?_)
        have c2 : (x + 1).toInt = x.toInt + 1 := ti_add rfl ti_1 (by omega) (by omega)
        have ix : vp_in x 32 := i_in i0 (by omega)
        exact Wp.idx ix (Wp.letQ (fun Q j => ∀ y, Wp (j y D') Q) (fun y => Wp.idx ix (Wp.lets (Wp.lets (hg _ _ ⟨⟨by omega, by omega, by omega⟩, i3.si (by decide) (by decide)⟩)))) (fun j K2 => Wp.lets (Wp.ite (fun _ => K2 _) (fun _ => Wp.bindE (eM_f ⟨i0, by omega⟩ ⟨by decide, by decide⟩) (Wp.ite (fun _ => K2 _) (fun _ => K2 _))))))
      · intro x D' hI
        obtain ⟨⟨i0, i1, i2⟩, -⟩ := hI
        omega
  · refine Wp.fix1 (fun n x D' => (0 ≤ x.toInt ∧ x.toInt ≤ 32 ∧ 32 - x.toInt < (n : Int)) ∧ GM D3 D') ?_ ?_ aFuel 1000000 _ _ (Nat.le_refl _) ⟨⟨by decide, by decide, by decide⟩, g6⟩
    · intro n g hg x D' hI
      obtain ⟨⟨i0, i1, i2⟩, i3⟩ := hI
      have m := i3.mn hm
      unfold lX11_drift_40
      refine Wp.ile (fun _ => K _ i3) (fun hl => ?_)
      have c2 : (x + 1).toInt = x.toInt + 1 := ti_add rfl ti_1 (by omega) (by omega)
      have ix : vp_in x 32 := i_in i0 (by omega)
      exact Wp.idx ix (Wp.letQ (fun Q j => ∀ y, Wp (j y D') Q) (fun y => Wp.idx ix (Wp.lets (Wp.lets (hg _ _ ⟨⟨by omega, by omega, by omega⟩, i3.si (by decide) (by decide)⟩)))) (fun j K2 => Wp.lets (Wp.ite (fun _ => K2 _) (fun _ => Wp.bindE (eM_f ⟨i0, by omega⟩ ⟨by decide, by decide⟩) (Wp.ite (fun _ => K2 _) (fun _ => K2 _))))))
    · intro x D' hI
      obtain ⟨⟨i0, i1, i2⟩, -⟩ := hI
      omega
theorem gcd_step : ∀ x, x < 13 → ∀ y, y < 13 → y ≠ 0 → 0 ≤ (nI x - nI x / nI y * nI y).toInt ∧ (nI x - nI x / nI y * nI y).toInt < y := by decide +kernel
theorem tM_gcd {a b : Int32} (ha : 0 ≤ a.toInt ∧ a.toInt ≤ 12) (hb : 0 ≤ b.toInt ∧ b.toInt ≤ 12) : Pu (fX11_gcd a b D) D := by
  unfold fX11_gcd
  refine Wp.lets (Wp.lets ?_)
  refine Wp.fix2 (fun n x y D' => (0 ≤ x.toInt ∧ x.toInt ≤ 12) ∧ (0 ≤ y.toInt ∧ y.toInt ≤ 12 ∧ y.toInt < (n : Int)) ∧ D' = D) ?_ ?_ aFuel 1000000 _ _ _ (Nat.le_refl _) ⟨ha, ⟨hb.1, hb.2, by omega⟩, rfl⟩
  · intro n g hg x y D' hI
    obtain ⟨hx, ⟨y0, y1, y2⟩, rfl⟩ := hI
    unfold lX11_gcd_4
    refine Wp.ite (fun _ => Wp.ret rfl) (fun hy => Wp.nz hy (Wp.lets (hg _ _ _ ⟨⟨y0, y1⟩, ?_, rfl⟩)))
    have ex := cl_i hx.1
    have ey := cl_i y0
    have yn : y.toNatClampNeg ≠ 0 := fun e => hy (by rw [nI_val y0, e]; rfl)
    have s := gcd_step x.toNatClampNeg (by omega) y.toNatClampNeg (by omega) yn
    rw [← nI_val hx.1, ← nI_val y0] at s
    omega
  · intro x y D' hI
    have := hI.2.1
    omega
theorem oM_rate {a b c d e : Int32} (h : QM D) : Wp (fX11_rate a b c d e D) (fun _ D1 => FmM D D1) := by
  unfold fX11_rate
  have f1 : FmM D (aSI D 0 0 0) := FmM.code
  refine Wp.lets (Wp.bind tM_is (fun x D2 q => ?_))
  obtain ⟨rfl, -⟩ := q
  refine Wp.lets (Wp.ite (fun _ => Wp.ret f1) (fun hx => Wp.bind tM_is (fun x2 D5 q5 => ?_)))
  obtain ⟨rfl, -⟩ := q5
  refine Wp.ite (fun _ => Wp.ret f1) (fun hx => Wp.ite (fun _ => Wp.ret f1) (fun _ => Wp.bind tM_ar (fun x2 D5 q5 => ?_)))
  obtain ⟨rfl, q5⟩ := q5
  refine Wp.ite (fun _ => Wp.ret f1) (fun hy => Wp.bind tM_is (fun x2 D4 q4 => ?_))
  obtain ⟨rfl, -⟩ := q4
  refine Wp.ite (fun _ => Wp.ret f1) (fun _ => Wp.bind (tM_lk (h.fr f1)) (fun _ D3 q3 => Wp.bind (tM_keep q3.2) (fun _ D6 q6 => ?_)))
  have hU := q5 hy
  have hm := q3.2
  have g6 : GM D3 D6 := fun c hc => q6 c (by omega)
  refine Wp.bind (tM_town (g6.mn hm) hU) (fun x5 D7 g7 => Wp.bind (tM_town (g7.mn (g6.mn hm)) hU) (fun x6 D8 g8 => ?_))
  have f8 : FmM D D8 := (f1.trans q3.1).trans ((g6.trans g7).trans g8).fm
  refine Wp.lets (Wp.ite (fun _ => Wp.ret f8) (fun _ => Wp.ite (fun _ => Wp.ret f8) (fun _ => Wp.lets (Wp.lets ?_))))
  have e24 : (24 : Int32).toInt = 24 := by decide
  have e13 : (13 : Int32).toInt = 13 := by decide
  refine Wp.up1 (D := D8) 25 (by decide) (fun g x h0 k => ?_) (by decide) (by decide)
  unfold lX11_rate_96
  refine Wp.ilt (fun _ => Wp.ret f8) (fun hl => Wp.letQ (fun Q j => Wp (j D8) Q) (Wp.lets (k (by omega))) (fun j K => Wp.lets ?_))
  refine Wp.fix1 (fun n y D' => (1 ≤ y.toInt ∧ y.toInt ≤ 100001 ∧ 100001 - y.toInt < (n : Int)) ∧ D' = D8) ?_ ?_ aFuel 1000000 _ _ (Nat.le_refl _) ⟨⟨by decide, by decide, by decide⟩, rfl⟩
  · intro n g hg y D' hI
    obtain ⟨⟨i0, i1, i2⟩, rfl⟩ := hI
    unfold lX11_rate_106
    refine Wp.ile (fun _ => K) (fun hy => Wp.leti (fun w ew => Wp.lets ?_))
    have c2 : (y + 1).toInt = y.toInt + 1 := ti_add rfl ti_1 (by omega) (by omega)
    have e1 : w.toInt = x.toInt - y.toInt := by rw [ew]; exact ti_sub rfl rfl (by omega) (by omega)
    refine Wp.letQ (fun Q j => ∀ y, Wp (j y D') Q) (fun v => ?_) (fun j K2 => Wp.ite (fun _ => K2 _) (fun _ => K2 _))
    refine Wp.letQ (fun Q j => Wp (j D') Q) (Wp.lets (hg _ _ ⟨⟨by omega, by omega, by omega⟩, rfl⟩)) (fun j K3 => Wp.ile (fun _ => K3) (fun h1 => Wp.ile (fun _ => K3) (fun h2 => Wp.bind (tM_gcd (by omega) (by omega)) (fun s D9 q9 => ?_))))
    subst q9
    exact Wp.ite (fun _ => Wp.ite (fun _ => K3) (fun _ => Wp.ret f8)) (fun _ => K3)
  · intro x D' hI
    obtain ⟨⟨i0, i1, i2⟩, -⟩ := hI
    omega
theorem oM_owner {a b c : Int32} (h : QM D) : Wp (fX11_owner a b c D) (fun _ D1 => FmM D D1) := by
  unfold fX11_owner
  have f1 : FmM D (aSI D 0 0 0) := FmM.code
  refine Wp.lets (Wp.bind tM_is (fun x D2 q => ?_))
  obtain ⟨rfl, -⟩ := q
  refine Wp.lets (Wp.ite (fun _ => Wp.ret f1) (fun hx => Wp.bind tM_un (fun x2 D5 q5 => ?_)))
  obtain ⟨rfl, q5⟩ := q5
  refine Wp.ite (fun _ => Wp.ret f1) (fun hy => Wp.bind tM_is (fun x2 D4 q4 => ?_))
  obtain ⟨rfl, -⟩ := q4
  refine Wp.ite (fun _ => Wp.ret f1) (fun _ => Wp.bind (tM_lk (h.fr f1)) (fun _ D3 q3 => Wp.bind tM_begin (fun _ D6 q6 => ?_)))
  have hm := q3.2
  have nu := u_ne (u := b) (by have := q5 hy; omega)
  have f3 := f1.trans q3.1
  refine Wp.letQ (fun Q j => ∀ x y D1, (0 ≤ y.toInt ∧ y.toInt ≤ 32) → D1.1 = D3.1 → Wp (j x y D1) Q) (fun x4 x5 D8 hy q8 => ?_) (fun j K => Wp.lets ?_)
  · have f8 : FmM D D8 := fun c hc => by rw [q8]; exact f3 c hc
    refine Wp.lets (Wp.ite (fun _ => Wp.ret f8) (fun _ => Wp.ite (fun _ => Wp.ret f8) (fun _ => Wp.bind (tM_from hy.1 (by omega)) (fun s D9 q9 => ?_))))
    obtain ⟨rfl, -⟩ := q9
    exact Wp.ret f8
  · refine Wp.fix3 (fun n p r x D' => (0 ≤ x.toInt ∧ x.toInt ≤ 32 ∧ 32 - x.toInt < (n : Int)) ∧ (0 ≤ r.toInt ∧ r.toInt ≤ x.toInt) ∧ D'.1 = D3.1) ?_ ?_ aFuel 1000000 _ _ _ _ (Nat.le_refl _) ⟨⟨by decide, by decide, by decide⟩, ⟨by decide, by decide⟩, q6.1⟩
    · intro n g hg p r x D' hI
      obtain ⟨⟨i0, i1, i2⟩, i3, i4⟩ := hI
      unfold lX11_owner_50
      rw [i4]
      refine Wp.ile (fun _ => K _ _ _ (by omega) i4) (fun hl => ?_)
      have hl : x.toInt < (D3.1 0 41).toInt := hl
      have c2 : (x + 1).toInt = x.toInt + 1 := ti_add rfl ti_1 (by omega) (by omega)
      have r1 : (r + 1).toInt = r.toInt + 1 := ti_add rfl ti_1 (by omega) (by omega)
      have r0 : (r + 0).toInt = r.toInt := by rw [Int32.add_zero]
      refine Wp.idx (i_in i0 (by omega)) (Wp.letQ (fun Q j => ∀ a b D1, (0 ≤ b.toInt ∧ b.toInt ≤ x.toInt + 1) → D1.1 = D3.1 → Wp (j a b D1) Q) (fun a b D1 hb e1 => Wp.lets (hg _ _ _ _ ⟨⟨by omega, by omega, by omega⟩, ⟨hb.1, by omega⟩, e1⟩)) (fun j K2 => Wp.ite (fun _ => K2 _ _ _ (by omega) i4) (fun _ => Wp.bindE (eM_f ⟨i0, by omega⟩ ⟨by decide, by decide⟩) (Wp.ite (fun _ => Wp.lets (Wp.bind (tM_shortOf ⟨i0, by omega⟩ nu) (fun y D5 q5 => ?_))) (fun _ => K2 _ _ _ (by omega) i4)))))
      subst q5
      exact Wp.lets (Wp.ite (fun _ => Wp.lets (Wp.bind (tM_draw (by decide)) (fun _ D7 q7 => K2 _ _ _ (by omega) (by rw [q7.1, i4])))) (fun _ => Wp.lets (Wp.bind (tM_draw (by decide)) (fun _ D7 q7 => K2 _ _ _ (by omega) (by rw [q7.1, i4])))))
    · intro p r x D' hI
      obtain ⟨⟨i0, i1, i2⟩, -⟩ := hI
      omega
end MP
end
section
/-! the reference: reading -/
def RM (D : ADD) : Prop := (0 ≤ (D.1 0 23).toInt ∧ (D.1 0 23).toInt ≤ (D.1 0 24).toInt) ∧ (D.1 0 24).toInt ≤ 500
def TM (D : ADD) : Prop := ∀ i, i < 17 → (D.1 23 i).toInt ≤ 4
def seF (D : ADD) : Int32 := if D.1 0 24 ≤ D.1 0 23 then -1 else aB (D.1 1 (D.1 0 23).toNatClampNeg) &&& 255
theorem and255 (x : Int32) : 0 ≤ (x &&& 255).toInt ∧ (x &&& 255).toInt < 256 := by
  obtain ⟨j, hj, ej⟩ := pk_andE x (m := 255) 8 (by decide)
  have hj : j < 256 := hj
  rw [ej]
  have e : (Int32.ofNat j).toInt = (j : Int) := ti_nI (by omega)
  have e2 : (nI j).toInt = (j : Int) := ti_nI (by omega)
  first | (rw [e]; omega) | (rw [e2]; omega)
section MR
variable {D : ADD}
theorem eM_see (h : RM D) : fX11_see D = some (seF D, D) := by
  refine eq_Pu ?_
  unfold fX11_see seF
  obtain ⟨⟨h0, h1⟩, h2⟩ := h
  by_cases hc : D.1 0 24 ≤ D.1 0 23
  · rw [if_pos hc]
    exact Wp.lets (Wp.pos hc (Wp.ret ⟨rfl, rfl⟩))
  · rw [if_neg hc]
    have hc2 : ¬ (D.1 0 24).toInt ≤ (D.1 0 23).toInt := fun q => hc (Int32.le_iff_toInt_le.mpr q)
    exact Wp.lets (Wp.neg hc (Wp.idx (i_in h0 (by omega)) (Wp.ret ⟨rfl, rfl⟩)))
theorem tM_is2 {a l u : Int32} : Wp (fX11_is a l u D) (fun x D1 => D1 = D ∧ (x ≠ 0 → l.toInt ≤ a.toInt ∧ a.toInt ≤ u.toInt) ∧ (x = 0 → ¬ (l.toInt ≤ a.toInt ∧ a.toInt ≤ u.toInt))) := by
  rw [eM_is]
  by_cases h : l.toInt ≤ a.toInt ∧ a.toInt ≤ u.toInt
  · rw [if_pos h]
    exact Wp.ret ⟨rfl, fun _ => h, fun k => absurd k (by decide)⟩
  · rw [if_neg h]
    exact Wp.ret ⟨rfl, fun k => absurd rfl k, fun _ => h⟩
theorem seF_lt (h : 0 ≤ (seF D).toInt) : (D.1 0 23).toInt < (D.1 0 24).toInt := by
  unfold seF at h
  by_cases hc : D.1 0 24 ≤ D.1 0 23
  · rw [if_pos hc, ti_m1] at h
    omega
  · have hc2 : ¬ (D.1 0 24).toInt ≤ (D.1 0 23).toInt := fun q => hc (Int32.le_iff_toInt_le.mpr q)
    omega
/-- the reader went on -/
def NP (D D1 : ADD) : Prop := (∀ c, c ≠ 0 → D1.1 c = D.1 c) ∧ D1.1 0 24 = D.1 0 24 ∧ (D1.1 0 32 = D.1 0 32 ∧ D1.1 0 30 = D.1 0 30) ∧ (D.1 0 23).toInt ≤ (D1.1 0 23).toInt ∧ (D1.1 0 23).toInt ≤ (D.1 0 24).toInt
theorem NP.refl (h : RM D) : NP D D := ⟨fun _ _ => rfl, rfl, ⟨rfl, rfl⟩, Int.le_refl _, h.1.2⟩
theorem NP.trans {D1 D2 : ADD} (h : NP D D1) (k : NP D1 D2) : NP D D2 := by
  obtain ⟨h1, h2, h3, h4, h5⟩ := h
  obtain ⟨k1, k2, k3, k4, k5⟩ := k
  exact ⟨fun c hc => (k1 c hc).trans (h1 c hc), k2.trans h2, ⟨k3.1.trans h3.1, k3.2.trans h3.2⟩, by omega, by rw [h2] at k5; exact k5⟩
theorem NP.rm {D1 : ADD} (h : NP D D1) (r : RM D) : RM D1 := by
  obtain ⟨h1, h2, h3, h4, h5⟩ := h
  obtain ⟨⟨r0, r1⟩, r2⟩ := r
  unfold RM
  rw [h2]
  exact ⟨⟨by omega, h5⟩, r2⟩
theorem NP.set {D1 : ADD} (h : NP D D1) {i : Nat} {v : Int32} (a : i ≠ 23) (b : i ≠ 24) (c : i ≠ 32) (d : i ≠ 30) : NP D (aSI D1 0 i v) := by
  obtain ⟨h1, h2, h3, h4, h5⟩ := h
  have e : ∀ j, i ≠ j → (aSI D1 0 i v).1 0 j = D1.1 0 j := fun j hj => by
    have : ¬ j = i := fun q => hj q.symm
    simp [aSI, this]
  refine ⟨fun k hk => ?_, by rw [e 24 b, h2], ⟨by rw [e 32 c, h3.1], by rw [e 30 d, h3.2]⟩, by rw [e 23 a]; exact h4, by rw [e 23 a]; exact h5⟩
  rw [← h1 k hk]
  funext z
  simp [aSI, hk]
theorem NP.setL {D1 : ADD} (h : NP D D1) {c i : Nat} {v : Int64} : NP D (aSL D1 c i v) := h
theorem up_ti {x : Int32} (h0 : 0 ≤ x.toInt) (h1 : x.toInt < 500) : (x + 1).toInt = x.toInt + 1 := ti_add rfl ti_1 (by omega) (by omega)
theorem NP.up {D1 : ADD} (h : NP D D1) (r : RM D) (l : (D1.1 0 23).toInt < (D1.1 0 24).toInt) : NP D (aSI D1 0 23 (D1.1 0 23 + 1)) ∧ ((aSI D1 0 23 (D1.1 0 23 + 1)).1 0 23).toInt = (D1.1 0 23).toInt + 1 := by
  have r1 := h.rm r
  obtain ⟨h1, h2, h3, h4, h5⟩ := h
  obtain ⟨⟨r0, r1⟩, r2⟩ := r1
  have e : ((aSI D1 0 23 (D1.1 0 23 + 1)).1 0 23).toInt = (D1.1 0 23).toInt + 1 := by
    have : (aSI D1 0 23 (D1.1 0 23 + 1)).1 0 23 = D1.1 0 23 + 1 := by simp [aSI]
    rw [this]
    exact up_ti r0 (by omega)
  refine ⟨⟨fun k hk => ?_, ?_, ?_, by rw [e]; omega, by rw [e, ← h2]; omega⟩, e⟩
  · rw [← h1 k hk]
    funext z
    simp [aSI, hk]
  · rw [← h2]
    simp [aSI]
  · rw [← h3.1, ← h3.2]
    exact ⟨by simp [aSI], by simp [aSI]⟩
theorem NP.see {D1 : ADD} (h : NP D D1) (e : (D1.1 0 23).toInt = (D.1 0 23).toInt) : seF D1 = seF D := by
  obtain ⟨h1, h2, h3, h4, h5⟩ := h
  have e := Int32.toInt_inj.mp e
  unfold seF
  rw [h2, e, h1 1 (by decide)]
def NX (D D1 : ADD) : Prop := NP D D1 ∧ (D1.1 0 26 = 0 ∨ (D.1 0 23).toInt < (D1.1 0 23).toInt)
theorem tM_next (h : RM D) : Wp (fX11_next D) (fun _ D1 => NX D D1) := by
  unfold fX11_next
  refine Wp.lets ?_
  refine Wp.fix0 (fun n D' => NP D D' ∧ (D.1 0 24).toInt - (D'.1 0 23).toInt < (n : Int)) ?_ ?_ aFuel 1000000 _ (Nat.le_refl _) ⟨NP.refl h, by have := h.1; have := h.2; omega⟩
  · intro n g hg D1 hI
    obtain ⟨i0, i1⟩ := hI
    have r1 := i0.rm h
    unfold lX11_next_0
    refine Wp.bindE (eM_see r1) (Wp.letQ (fun Q j => (D1.1 0 23).toInt < (D1.1 0 24).toInt → Wp (j D1) Q) (fun l => ?_) (fun j18 K18 => ?_))
    · obtain ⟨u1, u2⟩ := i0.up h l
      exact Wp.lets (hg _ ⟨u1, by rw [u2]; omega⟩)
    · refine Wp.ite (fun q => K18 (seF_lt (by rw [q]; decide))) (fun _ => Wp.bindE (eM_see r1) (Wp.ite (fun q => K18 (seF_lt (by rw [q]; decide))) (fun _ => Wp.leti (fun D6 e6 => ?_))))
      have n6 : NP D1 D6 := by rw [e6]; exact (NP.refl r1).set (by decide) (by decide) (by decide) (by decide)
      have s6 : D6.1 0 23 = D1.1 0 23 := by rw [e6]; simp [aSI]
      have r6 := n6.rm r1
      refine Wp.bindE (eM_see r6) (Wp.leti (fun D8 e8 => Wp.leti (fun D9 e9 => ?_)))
      have n9 : NP D6 D9 := by rw [e9, e8]; exact ((NP.refl r6).set (by decide) (by decide) (by decide) (by decide)).setL
      have s9 : D9.1 0 23 = D6.1 0 23 := by rw [e9, e8]; simp [aSI, aSL]
      have r9 := n9.rm r6
      have nn : NP D D9 := (i0.trans n6).trans n9
      have se9 : seF D9 = seF D6 := n9.see (by rw [s9])
      refine Wp.letQ (fun Q j => ∀ D1, NX D D1 → Wp (j D1) Q) (fun D10 q10 => Wp.ret q10) (fun j295 K295 => ?_)
      refine Wp.ile (fun hx => ?_) (fun _ => ?_)
      · rw [ti_0] at hx
        rw [← se9] at hx
        have l9 := seF_lt hx
        refine Wp.bind tM_is (fun x4 D11 q11 => ?_)
        obtain ⟨rfl, q11⟩ := q11
        -- the words
        refine Wp.letQ (fun Q j => ∀ x D12, NP D11 D12 → (D11.1 0 23).toInt < (D12.1 0 23).toInt → Wp (j x D12) Q) (fun x5 D12 n12 l12 => ?_) (fun j126 K126 => ?_)
        · refine Wp.letQ (fun Q j => ∀ x, Wp (j x D12) Q) (fun x6 => Wp.leti (fun D14 e14 => Wp.leti (fun D15 e15 => K295 _ ⟨?_, Or.inr ?_⟩))) (fun j K => Wp.ite (fun _ => K _) (fun _ => K _))
          · rw [e15, e14]
            exact ((nn.trans n12).setL).set (by decide) (by decide) (by decide) (by decide)
          · have : D15.1 0 23 = D12.1 0 23 := by rw [e15, e14]; simp [aSI, aSL]
            rw [this]
            have := nn.2.2.2.1
            omega
        · refine Wp.letQ (fun Q j => x4 ≠ 0 → Wp (j 0 D11) Q) (fun hx4 => ?_) (fun j79 K79 => ?_)
          · have q11 := q11 hx4
            rw [← se9] at q11
            refine Wp.fix1 (fun n x D' => NP D11 D' ∧ (D11.1 0 24).toInt - (D'.1 0 23).toInt < (n : Int)) ?_ ?_ aFuel 1000000 _ _ (Nat.le_refl _) ⟨NP.refl r9, by have := r9.1; have := r9.2; omega⟩
            · intro n g2 hg2 x D' hI
              obtain ⟨k0, k1⟩ := hI
              have rk := k0.rm r9
              unfold lX11_next_79
              refine Wp.bindE (eM_see rk) (Wp.bind tM_is2 (fun x9 D18 q18 => ?_))
              obtain ⟨rfl, q18, w18⟩ := q18
              refine Wp.ite (fun hz => K126 _ _ k0 ?_) (fun hz => Wp.bindE (eM_see rk) (Wp.leti (fun D20 e20 => Wp.leti (fun D21 e21 => Wp.lets (hg2 _ _ ?_)))))
              · false_or_by_contra
                rename_i hno
                have es := k0.see (by have := k0.2.2.2.1; omega)
                rw [es] at w18
                exact w18 hz q11
              · have q18 := q18 hz
                have e97 : (97 : Int32).toInt = 97 := by decide
                have lk := seF_lt (D := D18) (by omega)
                have k20 : NP D11 D20 := by rw [e20]; exact k0.setL
                have s20 : D20.1 = D18.1 := by rw [e20]; rfl
                obtain ⟨u1, u2⟩ := k20.up r9 (by rw [s20]; exact lk)
                rw [e21]
                refine ⟨u1, ?_⟩
                rw [u2, s20]
                omega
            · intro x D' hI
              obtain ⟨k0, k1⟩ := hI
              have := k0.2.2.2.2
              omega
          · refine Wp.ite (fun _ => Wp.bind tM_is (fun x12 D22 q22 => ?_)) (fun hz => K79 hz)
            obtain ⟨rfl, q22⟩ := q22
            refine Wp.ite (fun _ => Wp.leti (fun D23 e23 => ?_)) (fun hz => Wp.leti (fun D27 e27 => ?_))
            · obtain ⟨u1, u2⟩ := nn.up h l9
              rw [← e23] at u1 u2
              refine Wp.letQ (fun Q j => ∀ x, Wp (j x D23) Q) (fun x13 => Wp.leti (fun D25 e25 => K295 _ ⟨?_, Or.inr ?_⟩)) (fun j K => Wp.lets (Wp.ite (fun _ => K _) (fun _ => Wp.ite (fun _ => K _) (fun _ => Wp.ite (fun _ => K _) (fun _ => Wp.ite (fun _ => K _) (fun _ => Wp.ite (fun _ => K _) (fun _ => K _)))))))
              · rw [e25]
                exact u1.set (by decide) (by decide) (by decide) (by decide)
              · have : D25.1 0 23 = D23.1 0 23 := by rw [e25]; simp [aSI]
                rw [this, u2]
                have := nn.2.2.2.1
                omega
            · have q22 := q22 hz
              rw [← se9] at q22
              have n27 : NP D22 D27 := by rw [e27]; exact (NP.refl r9).set (by decide) (by decide) (by decide) (by decide)
              have s27 : D27.1 0 23 = D22.1 0 23 := by rw [e27]; simp [aSI]
              have se27 : seF D27 = seF D22 := n27.see (by rw [s27])
              rw [← se27] at q22
              have r27 := n27.rm r9
              refine Wp.letQ (fun Q j => ∀ x D12, NP D27 D12 → (D27.1 0 23).toInt < (D12.1 0 23).toInt → Wp (j x D12) Q) (fun x14 D28 n28 l28 => ?_) (fun j229 K229 => Wp.lets ?_)
              · refine Wp.letQ (fun Q j => ∀ x, Wp (j x D28) Q) (fun x15 => Wp.leti (fun D30 e30 => K295 _ ⟨?_, Or.inr ?_⟩)) (fun j K => Wp.ite (fun _ => K _) (fun _ => K _))
                · rw [e30]
                  exact ((nn.trans n27).trans n28).set (by decide) (by decide) (by decide) (by decide)
                · have : D30.1 0 23 = D28.1 0 23 := by rw [e30]; simp [aSI]
                  rw [this]
                  have := nn.2.2.2.1
                  rw [s27] at l28
                  omega
              · refine Wp.fix1 (fun n x D' => NP D27 D' ∧ (D27.1 0 24).toInt - (D'.1 0 23).toInt < (n : Int)) ?_ ?_ aFuel 1000000 _ _ (Nat.le_refl _) ⟨NP.refl r27, by have := r27.1; have := r27.2; omega⟩
                · intro n g2 hg2 x D' hI
                  obtain ⟨k0, k1⟩ := hI
                  have rk := k0.rm r27
                  unfold lX11_next_168
                  refine Wp.bindE (eM_see rk) (Wp.bind tM_is2 (fun x9 D18 q18 => ?_))
                  obtain ⟨rfl, q18, w18⟩ := q18
                  refine Wp.ite (fun hz => K229 _ _ k0 ?_) (fun hz => ?_)
                  · false_or_by_contra
                    rename_i hno
                    have es := k0.see (by have := k0.2.2.2.1; omega)
                    rw [es] at w18
                    exact w18 hz q22
                  · have q18 := q18 hz
                    have e48 : (48 : Int32).toInt = 48 := by decide
                    have lk := seF_lt (D := D18) (by omega)
                    refine Wp.letQ (fun Q j => ∀ x, Wp (j x D18) Q) (fun x19 => Wp.leti (fun D35 e35 => Wp.leti (fun D36 e36 => Wp.lets (hg2 _ _ ?_)))) (fun j K => Wp.ite (fun _ => K _) (fun _ => Wp.bindE (eM_see rk) (K _)))
                    have k35 : NP D27 D35 := by rw [e35]; exact k0.set (by decide) (by decide) (by decide) (by decide)
                    have s35 : D35.1 0 23 = D18.1 0 23 := by rw [e35]; simp [aSI]
                    have t35 : D35.1 0 24 = D18.1 0 24 := by rw [e35]; simp [aSI]
                    obtain ⟨u1, u2⟩ := k35.up r27 (by rw [s35, t35]; exact lk)
                    rw [e36]
                    refine ⟨u1, ?_⟩
                    rw [u2, s35]
                    omega
                · intro x D' hI
                  obtain ⟨k0, k1⟩ := hI
                  have := k0.2.2.2.2
                  omega
      · refine Wp.leti (fun D38 e38 => K295 _ ⟨?_, Or.inl ?_⟩)
        · rw [e38]
          exact nn.set (by decide) (by decide) (by decide) (by decide)
        · rw [e38]
          simp [aSI]
  · intro D' hI
    obtain ⟨k0, k1⟩ := hI
    have := k0.2.2.2.2
    omega
end MR
end
section
/-! the reference: lines of a text -/
def mzF (D : ADD) : Int := (D.1 0 24).toInt - (D.1 0 23).toInt + (if D.1 0 26 = 0 then 0 else 1)
section MX
variable {D : ADD}
theorem NX.mz {D1 : ADD} (h : NX D D1) : mzF D1 ≤ mzF D ∧ (D.1 0 26 ≠ 0 → mzF D1 < mzF D) := by
  obtain ⟨⟨h1, h2, h3, h4, h5⟩, h6⟩ := h
  unfold mzF
  rw [h2]
  by_cases a : D.1 0 26 = 0 <;> by_cases b : D1.1 0 26 = 0
  · rw [if_pos a, if_pos b]
    exact ⟨by omega, fun k => absurd a k⟩
  · rw [if_pos a, if_neg b]
    rcases h6 with h6 | h6
    · exact absurd h6 b
    · exact ⟨by omega, fun k => absurd a k⟩
  · rw [if_neg a, if_pos b]
    exact ⟨by omega, fun _ => by omega⟩
  · rw [if_neg a, if_neg b]
    rcases h6 with h6 | h6
    · exact absurd h6 b
    · exact ⟨by omega, fun _ => by omega⟩
/-- a piece of a line was read -/
def PT (D D1 : ADD) : Prop := (∀ c, (1 ≤ c ∧ c ≤ 22) ∨ 30 ≤ c → D1.1 c = D.1 c) ∧ D1.1 0 32 = D.1 0 32 ∧ (RM D1 ∧ TM D1) ∧ mzF D1 ≤ mzF D ∧ (0 ≤ (D.1 0 30).toInt → 0 ≤ (D1.1 0 30).toInt) ∧ (0 < (D.1 0 30).toInt → 0 < (D1.1 0 30).toInt)
theorem PT.refl (r : RM D) (t : TM D) : PT D D := ⟨fun _ _ => rfl, rfl, ⟨r, t⟩, Int.le_refl _, id, id⟩
theorem PT.trans {D1 D2 : ADD} (h : PT D D1) (k : PT D1 D2) : PT D D2 := by
  obtain ⟨h1, h2, h3, h4, h5, h6⟩ := h
  obtain ⟨k1, k2, k3, k4, k5, k6⟩ := k
  exact ⟨fun c hc => (k1 c hc).trans (h1 c hc), k2.trans h2, k3, Int.le_trans k4 h4, fun x => k5 (h5 x), fun x => k6 (h6 x)⟩
theorem NX.pt {D1 : ADD} (h : NX D D1) (r : RM D) (t : TM D) : PT D D1 := by
  refine ⟨fun c hc => h.1.1 c (by omega), h.1.2.2.1.1, ⟨h.1.rm r, ?_⟩, h.mz.1, ?_, ?_⟩
  · unfold TM
    rw [h.1.1 23 (by decide)]
    exact t
  · rw [h.1.2.2.1.2]; exact id
  · rw [h.1.2.2.1.2]; exact id
theorem PT.s0 {D1 : ADD} (h : PT D D1) {i : Nat} {v : Int32} (a : i ≠ 23) (b : i ≠ 24) (c : i ≠ 26) (d : i ≠ 32) (f : i ≠ 30) : PT D (aSI D1 0 i v) := by
  refine h.trans ?_
  have e : ∀ j, i ≠ j → (aSI D1 0 i v).1 0 j = D1.1 0 j := fun j hj => by
    have : ¬ j = i := fun q => hj q.symm
    simp [aSI, this]
  have g : ∀ k, k ≠ 0 → (aSI D1 0 i v).1 k = D1.1 k := fun k hk => by
    funext z
    simp [aSI, hk]
  refine ⟨fun k hk => g k (by omega), e 32 d, ⟨?_, ?_⟩, ?_, ?_, ?_⟩
  · unfold RM
    rw [e 23 a, e 24 b]
    exact h.2.2.1.1
  · unfold TM
    rw [g 23 (by decide)]
    exact h.2.2.1.2
  · unfold mzF
    rw [e 23 a, e 24 b, e 26 c]
    exact Int.le_refl _
  · rw [e 30 f]; exact id
  · rw [e 30 f]; exact id
theorem PT.sl {D1 : ADD} (h : PT D D1) {c i : Nat} {v : Int32} (hc : 24 ≤ c ∧ c ≤ 29) : PT D (aSI D1 c i v) := by
  refine h.trans ?_
  have g : ∀ k, k ≠ c → (aSI D1 c i v).1 k = D1.1 k := fun k hk => by
    funext z
    simp [aSI, hk]
  refine ⟨fun k hk => g k (by omega), by rw [g 0 (by omega)], ⟨?_, ?_⟩, ?_, ?_, ?_⟩
  · unfold RM
    rw [g 0 (by omega)]
    exact h.2.2.1.1
  · unfold TM
    rw [g 23 (by omega)]
    exact h.2.2.1.2
  · unfold mzF
    rw [g 0 (by omega)]
    exact Int.le_refl _
  · rw [g 0 (by omega)]; exact id
  · rw [g 0 (by omega)]; exact id
theorem PT.s23 {D1 : ADD} (h : PT D D1) {i : Nat} {v : Int32} (hv : v.toInt ≤ 4) : PT D (aSI D1 23 i v) := by
  refine h.trans ?_
  have g : ∀ k, k ≠ 23 → (aSI D1 23 i v).1 k = D1.1 k := fun k hk => by
    funext z
    simp [aSI, hk]
  refine ⟨fun k hk => g k (by omega), by rw [g 0 (by omega)], ⟨?_, ?_⟩, ?_, ?_, ?_⟩
  · unfold RM
    rw [g 0 (by omega)]
    exact h.2.2.1.1
  · intro z hz
    show (if 23 = 23 ∧ z = i then v else D1.1 23 z).toInt ≤ 4
    split
    · exact hv
    · exact h.2.2.1.2 z hz
  · unfold mzF
    rw [g 0 (by omega)]
    exact Int.le_refl _
  · rw [g 0 (by omega)]; exact id
  · rw [g 0 (by omega)]; exact id
theorem PT.nx {D1 D2 : ADD} (h : PT D D1) (k : NX D1 D2) : PT D D2 := h.trans (k.pt h.2.2.1.1 h.2.2.1.2)
theorem tM_wrong : fX11_wrong D = some (0, aSI D 0 29 (D.1 0 25)) := rfl
theorem PT.wrong {D1 : ADD} (h : PT D D1) : PT D (aSI D1 0 29 (D1.1 0 25)) := h.s0 (by decide) (by decide) (by decide) (by decide) (by decide)
/-- a word that is wrong here -/
theorem Wp.wrong {D0 : ADD} {Q : Int32 → ADD → Prop} (k : Q 0 (aSI D 0 29 (D.1 0 25))) : Wp (aBind (fX11_wrong D) (fun x D1 => aZ x (some (x, D1)))) Q := Wp.bindE tM_wrong (Wp.z (Or.inl rfl) (Wp.ret k))
theorem tM_isSign {a : Int32} : Pu (fX11_isSign a D) D := by
  unfold fX11_isSign
  have z0 : Wp (aZ 0 (some ((0 : Int32), D))) (fun _ D1 => D1 = D) := Wp.z (Or.inl rfl) (Wp.ret rfl)
  have z1 : Wp (aZ 1 (some ((1 : Int32), D))) (fun _ D1 => D1 = D) := Wp.z (Or.inr rfl) (Wp.ret rfl)
  exact Wp.lets (Wp.lets (Wp.ite (fun _ => Wp.ite (fun _ => z1) (fun _ => z0)) (fun _ => z0)))
theorem tM_isWord {a : Int64} : Wp (fX11_isWord a D) (fun x D1 => D1 = D ∧ (x ≠ 0 → D.1 0 26 = 2)) := by
  unfold fX11_isWord
  have z0 : Wp (aZ 0 (some ((0 : Int32), D))) (fun x D1 => D1 = D ∧ (x ≠ 0 → D.1 0 26 = 2)) := Wp.z (Or.inl rfl) (Wp.ret ⟨rfl, fun k => absurd rfl k⟩)
  exact Wp.lets (Wp.lets (Wp.ite (fun h => Wp.ite (fun _ => Wp.z (Or.inr rfl) (Wp.ret ⟨rfl, fun _ => h⟩)) (fun _ => z0)) (fun _ => z0)))
theorem Wp.wd {Q : Int32 → ADD → Prop} {v : Int64} {A B : ADD → Option (Int32 × ADD)} (ha : Wp (A D) Q) (hb : D.1 0 26 = 2 → Wp (B D) Q) : Wp (aBind (fX11_isWord v D) (fun x D1 => if x = 0 then A D1 else B D1)) Q := by
  refine Wp.bind tM_isWord (fun x D1 q => ?_)
  obtain ⟨rfl, q⟩ := q
  exact Wp.ite (fun _ => ha) (fun h => hb (q h))
theorem Wp.wl {Q : Int32 → ADD → Prop} {v : Int64} {J : Int32 → ADD → Option (Int32 × ADD)} {A B : (Int32 → ADD → Option (Int32 × ADD)) → ADD → Option (Int32 × ADD)} (ha : Wp (A J D) Q) (hb : D.1 0 26 = 2 → Wp (B J D) Q) : Wp (aBind (fX11_isWord v D) (fun x D1 => aLet J (fun j => if x = 0 then A j D1 else B j D1))) Q := by
  refine Wp.bind tM_isWord (fun x D1 q => ?_)
  obtain ⟨rfl, q⟩ := q
  exact Wp.lets (Wp.ite (fun _ => ha) (fun h => hb (q h)))
theorem tM_actWord {a : Int32} : Wp (fX11_actWord a D) (fun x D1 => D1 = D ∧ (x ≠ -1 → D.1 0 26 = 2)) := by
  unfold fX11_actWord
  have n : (fun (x : Int32) (D1 : ADD) => D1 = D ∧ (x ≠ -1 → D.1 0 26 = 2)) (-1) D := ⟨rfl, fun k => absurd rfl k⟩
  have y : ∀ v, D.1 0 26 = 2 → (fun (x : Int32) (D1 : ADD) => D1 = D ∧ (x ≠ -1 → D.1 0 26 = 2)) v D := fun v h => ⟨rfl, fun _ => h⟩
  exact Wp.ite (fun _ => Wp.wl (Wp.wd (Wp.wd (Wp.ret n) (fun h => Wp.ret (y _ h))) (fun h => Wp.ret (y _ h))) (fun h => Wp.ret (y _ h))) (fun _ => Wp.wl (Wp.wd (Wp.wd (Wp.wd (Wp.ret n) (fun h => Wp.ret (y _ h))) (fun h => Wp.ret (y _ h))) (fun h => Wp.ret (y _ h))) (fun h => Wp.ret (y _ h)))
theorem tM_testWord {a : Int32} : Pu (fX11_testWord a D) D := by
  unfold fX11_testWord
  have y : ∀ v : Int32, Wp (some (v, D)) (fun _ D1 => D1 = D) := fun v => Wp.ret rfl
  exact Wp.ite (fun _ => Wp.wl (Wp.wd (Wp.wd (Wp.wd (Wp.wd (Wp.wd (Wp.wd (y _) (fun _ => y _)) (fun _ => y _)) (fun _ => y _)) (fun _ => y _)) (fun _ => y _)) (fun _ => y _)) (fun _ => y _)) (fun _ => Wp.wl (Wp.wd (Wp.wd (Wp.wd (Wp.wd (Wp.wd (Wp.wd (Wp.wd (y _) (fun _ => y _)) (fun _ => y _)) (fun _ => y _)) (fun _ => y _)) (fun _ => y _)) (fun _ => y _)) (fun _ => y _)) (fun _ => y _))
/-- a fault of the whole text is kept -/
theorem tM_later {a b : Int32} (r : RM D) (t : TM D) (ha : 0 < a.toInt) : Wp (fX11_later a b D) (fun _ D1 => PT D D1 ∧ (0 ≤ (D.1 0 30).toInt → 0 < (D1.1 0 30).toInt)) := by
  unfold fX11_later
  refine Wp.lets (Wp.ite (fun h => Wp.leti (fun D2 e2 => Wp.leti (fun D3 e3 => Wp.ret ?_))) (fun h => Wp.ret ⟨PT.refl r t, fun h0 => ?_⟩))
  · have e30 : D2.1 0 30 = a := by rw [e2]; simp [aSI]
    have g : ∀ j, j ≠ 30 → D2.1 0 j = D.1 0 j := fun j hj => by rw [e2]; simp [aSI, hj]
    have g0 : ∀ k, k ≠ 0 → D2.1 k = D.1 k := fun k hk => by rw [e2]; funext z; simp [aSI, hk]
    have p2 : PT D D2 := by
      refine ⟨fun k hk => g0 k (by omega), g 32 (by decide), ⟨?_, ?_⟩, ?_, fun _ => by rw [e30]; omega, fun _ => by rw [e30]; omega⟩
      · unfold RM
        rw [g 23 (by decide), g 24 (by decide)]
        exact r
      · unfold TM
        rw [g0 23 (by decide)]
        exact t
      · unfold mzF
        rw [g 23 (by decide), g 24 (by decide), g 26 (by decide)]
        exact Int.le_refl _
    rw [e3]
    refine ⟨p2.s0 (by decide) (by decide) (by decide) (by decide) (by decide), fun _ => ?_⟩
    have : (aSI D2 0 31 b).1 0 30 = D2.1 0 30 := by simp [aSI]
    rw [this, e30]
    exact ha
  · have : (D.1 0 30).toInt ≠ 0 := fun q => h (Int32.toInt_inj.mp (by rw [q]; rfl))
    omega
theorem tM_need {a : Int32} (r : RM D) (t : TM D) : Wp (fX11_need a D) (fun x D1 => PT D D1 ∧ (x = 0 ∨ x = 1)) := by
  unfold fX11_need
  refine Wp.bind tM_isSign (fun x D1 q => ?_)
  subst q
  exact Wp.ite (fun _ => Wp.wrong (D0 := D1) ⟨(PT.refl r t).wrong, Or.inl rfl⟩) (fun _ => Wp.bind (tM_next r) (fun _ D2 q2 => Wp.ret ⟨q2.pt r t, Or.inr rfl⟩))
theorem tM_numbers {k : Int32} (r : RM D) (t : TM D) (hk : 0 ≤ k.toInt ∧ k.toInt < 17) : Wp (fX11_numbers k D) (fun x D1 => PT D D1) := by
  unfold fX11_numbers
  have ik : vp_in k 17 := i_in hk.1 hk.2
  refine Wp.ite (fun _ => Wp.idx ik (Wp.leti (fun D1 e1 => Wp.idx ik (Wp.leti (fun D2 e2 => ?_))))) (fun _ => Wp.wrong (D0 := D) (PT.refl r t).wrong)
  have p2 : PT D D2 := by rw [e2, e1]; exact ((PT.refl r t).sl (by decide)).sl (by decide)
  refine Wp.bind (tM_next p2.2.2.1.1) (fun _ D3 q3 => ?_)
  have p3 := p2.nx q3
  refine Wp.bind tM_isWord (fun x1 D4 q4 => ?_)
  obtain ⟨rfl, -⟩ := q4
  refine Wp.letQ (fun Q j => ∀ D1, PT D D1 → Wp (j D1) Q) (fun D5 p5 => Wp.ret p5) (fun j K => Wp.ite (fun _ => K _ p3) (fun _ => Wp.bind (tM_next p3.2.2.1.1) (fun _ D6 q6 => ?_)))
  have p6 := p3.nx q6
  refine Wp.ite (fun _ => Wp.idx ik (Wp.letQ (fun Q j => ∀ D1, PT D D1 → Wp (j D1) Q) (fun D7 p7 => Wp.idx ik (Wp.leti (fun D8 e8 => ?_))) (fun j K2 => Wp.ite (fun _ => K2 _ p6) (fun _ => Wp.bind (tM_later p6.2.2.1.1 p6.2.2.1.2 (by decide)) (fun _ D9 q9 => K2 _ (p6.trans q9.1)))))) (fun _ => Wp.wrong (D0 := D6) p6.wrong)
  have p8 : PT D D8 := by rw [e8]; exact p7.sl (by decide)
  exact Wp.bind (tM_next p8.2.2.1.1) (fun _ D9 q9 => K _ (p8.nx q9))
theorem tM_test {a k n : Int32} (r : RM D) (t : TM D) (hk : 0 ≤ k.toInt ∧ k.toInt < 17) (hn : 0 ≤ n.toInt) : Wp (fX11_test a k n D) (fun x D1 => PT D D1) := by
  unfold fX11_test
  have ik : vp_in k 17 := i_in hk.1 hk.2
  have p0 := PT.refl r t
  refine Wp.letQ (fun Q j => ∀ D1, PT D D1 → Wp (j D1) Q) (fun D1 p1 => ?_) (fun j K => Wp.ite (fun _ => Wp.bind (tM_later r t (by decide)) (fun _ D9 q9 => K _ q9.1)) (fun _ => K _ p0))
  refine Wp.bind tM_isWord (fun x1 D2 q2 => ?_)
  obtain ⟨rfl, -⟩ := q2
  refine Wp.letQ (fun Q j => ∀ D1, PT D D1 → Wp (j D1) Q) (fun D3 p3 => ?_) (fun j K => Wp.ite (fun _ => K _ p1) (fun _ => Wp.bind (tM_next p1.2.2.1.1) (fun _ D9 q9 => K _ (p1.nx q9))))
  refine Wp.bind tM_testWord (fun x2 D4 q4 => ?_)
  subst q4
  refine Wp.ite (fun _ => Wp.wrong (D0 := D4) p3.wrong) (fun _ => Wp.bind (tM_next p3.2.2.1.1) (fun _ D5 q5 => Wp.lets ?_))
  have p5 := p3.nx q5
  refine Wp.letQ (fun Q j => Wp (j D5) Q) (Wp.wrong (D0 := D5) p5.wrong) (fun j89 K89 => Wp.ite (fun _ => ?_) (fun _ => K89))
  refine Wp.letQ (fun Q j => Wp (j D5) Q) ?_ (fun j K => Wp.ite (fun _ => K) (fun _ => Wp.ite (fun _ => K) (fun _ => Wp.ite (fun _ => K) (fun _ => K89))))
  refine Wp.bind (tM_next p5.2.2.1.1) (fun _ D9 q9 => ?_)
  have p9 := p5.nx q9
  refine Wp.ite (fun _ => Wp.lets (Wp.bind (tM_next p9.2.2.1.1) (fun _ D10 q10 => ?_))) (fun _ => Wp.wrong (D0 := D9) p9.wrong)
  have p10 := p9.nx q10
  have e4 : (4 : Int32).toInt = 4 := by decide
  have e16 : (16 : Int32).toInt = 16 := by decide
  refine Wp.letQ (fun Q j => ∀ D1, PT D D1 → Wp (j D1) Q) (fun D11 p11 => Wp.ret p11) (fun j K => Wp.ile (fun _ => K _ p10) (fun h4 => Wp.ile (fun _ => K _ p10) (fun h16 => Wp.leti (fun w ew => ?_))))
  have e1 : ((4 : Int32) * k).toInt = 4 * k.toInt := ti_mul e4 rfl (by omega) (by omega)
  have e2 : w.toInt = 4 * k.toInt + n.toInt := by rw [ew]; exact ti_add e1 rfl (by omega) (by omega)
  have n1 : (n + 1).toInt = n.toInt + 1 := ti_add rfl ti_1 (by omega) (by omega)
  have iw : vp_in w 64 := i_in (by omega) (by omega)
  refine Wp.letQ (fun Q j => ∀ x, Wp (j x D10) Q) (fun x7 => Wp.idx iw (Wp.lets (Wp.idx iw (Wp.lets (Wp.idx iw (Wp.lets (Wp.idx ik (Wp.lets (K _ ?_))))))))) (fun j K2 => Wp.ite (fun _ => K2 _) (fun _ => K2 _))
  exact (((p10.sl (by decide)).sl (by decide)).sl (by decide)).s23 (by omega)
end MX
end
section
/-! the reference: a line, a text -/
section MY
variable {D : ADD}
theorem mz_0 (r : RM D) : 0 ≤ mzF D ∧ mzF D ≤ 501 := by
  obtain ⟨⟨r0, r1⟩, r2⟩ := r
  unfold mzF
  split <;> omega
def CL (D D1 : ADD) : Prop := PT D D1 ∧ ((D.1 0 32).toInt = 16 → 0 ≤ (D.1 0 30).toInt → 0 < (D1.1 0 30).toInt)
theorem CL.pt {D1 D2 : ADD} (h : CL D D1) (k : PT D1 D2) : CL D D2 := ⟨h.1.trans k, fun a b => k.2.2.2.2.2 (h.2 a b)⟩
theorem CL.rt {D1 : ADD} (h : CL D D1) : RM D1 ∧ TM D1 := h.1.2.2.1
/-- a line was read, or not -/
def OL (D : ADD) (x : Int32) (D1 : ADD) : Prop := (∀ c, (1 ≤ c ∧ c ≤ 22) ∨ 30 ≤ c → D1.1 c = D.1 c) ∧ (RM D1 ∧ TM D1) ∧ (x ≠ 0 → D1.1 0 32 = D.1 0 32 + 1 ∧ mzF D1 < mzF D ∧ (0 ≤ (D.1 0 30).toInt → 0 ≤ (D1.1 0 30).toInt) ∧ (0 < (D.1 0 30).toInt → 0 < (D1.1 0 30).toInt) ∧ ((D.1 0 32).toInt = 16 → 0 ≤ (D.1 0 30).toInt → 0 < (D1.1 0 30).toInt))
theorem CL.no {D1 : ADD} (h : CL D D1) : OL D 0 D1 := ⟨h.1.1, h.rt, fun k => absurd rfl k⟩
theorem tM_oneLine {a : Int32} (r : RM D) (t : TM D) (hl : 0 ≤ (D.1 0 32).toInt) : Wp (fX11_oneLine a D) (fun x D1 => OL D x D1) := by
  unfold fX11_oneLine
  have e16 : (16 : Int32).toInt = 16 := by decide
  refine Wp.letQ (fun Q j => ∀ x : Int32, (0 ≤ x.toInt ∧ x.toInt < 17) → Wp (j x D) Q) (fun x1 hx1 => ?_) (fun j K => Wp.ile (fun _ => K _ (by decide)) (fun h => K _ ⟨hl, by omega⟩))
  have ix : vp_in x1 17 := i_in hx1.1 hx1.2
  refine Wp.letQ (fun Q j => ∀ D1, CL D D1 → Wp (j D1) Q) (fun D2 c2 => ?_) (fun j K => Wp.ite (fun _ => Wp.bind (tM_later r t (by decide)) (fun _ D3 q3 => K _ ⟨q3.1, fun _ => q3.2⟩)) (fun h => K _ ⟨PT.refl r t, fun q => absurd (Int32.toInt_inj.mp (by rw [q]; rfl)) h⟩))
  refine Wp.idx ix (Wp.leti (fun D3 e3 => ?_))
  have c3 : CL D D3 := by rw [e3]; exact c2.pt ((PT.refl c2.rt.1 c2.rt.2).s23 (by decide))
  refine Wp.bind tM_isWord (fun x2 D4 q4 => ?_)
  obtain ⟨rfl, q4⟩ := q4
  refine Wp.letQ (fun Q j => ∀ D1, CL D D1 → Wp (j D1) Q) (fun D5 c5 => ?_) (fun j105 K105 => Wp.ite (fun _ => K105 _ c3) (fun h2 => ?_))
  · refine Wp.bind tM_actWord (fun x3 D6 q6 => ?_)
    obtain ⟨rfl, q6⟩ := q6
    refine Wp.idx ix (Wp.leti (fun D7 e7 => Wp.idx ix ?_))
    have p7 : PT D6 D7 := by rw [e7]; exact (PT.refl c5.rt.1 c5.rt.2).sl (by decide)
    have c7 := c5.pt p7
    have v7 : D7.1 27 x1.toNatClampNeg = x3 := by rw [e7]; simp [aSI]
    rw [v7]
    refine Wp.ite (fun _ => Wp.wrong (D0 := D7) (c7.pt (PT.refl c7.rt.1 c7.rt.2).wrong).no) (fun h3 => Wp.bind (tM_next c7.rt.1) (fun _ D8 q8 => ?_))
    have t7 : D7.1 0 26 ≠ 0 := by
      have : D7.1 0 26 = D6.1 0 26 := by rw [e7]; simp [aSI]
      rw [this, q6 h3]
      decide
    have m8 := q8.mz.2 t7
    have c8 := c7.pt (q8.pt c7.rt.1 c7.rt.2)
    have m7 := c7.1.2.2.2.1
    refine Wp.letQ (fun Q j => ∀ D1, CL D D1 → mzF D1 < mzF D → Wp (j D1) Q) (fun D9 c9 m9 => Wp.leti (fun D10 e10 => ?_)) (fun j159 K159 => ?_)
    · have g : ∀ j, j ≠ 32 → D10.1 0 j = D9.1 0 j := fun j hj => by rw [e10]; simp [aSI, hj]
      have g0 : ∀ k, k ≠ 0 → D10.1 k = D9.1 k := fun k hk => by rw [e10]; funext z; simp [aSI, hk]
      have g32 : D10.1 0 32 = D9.1 0 32 + 1 := by rw [e10]; simp [aSI]
      have r10 : RM D10 := by unfold RM; rw [g 23 (by decide), g 24 (by decide)]; exact c9.rt.1
      have t10 : TM D10 := by unfold TM; rw [g0 23 (by decide)]; exact c9.rt.2
      have z10 : mzF D10 = mzF D9 := by unfold mzF; rw [g 23 (by decide), g 24 (by decide), g 26 (by decide)]
      refine Wp.bind (tM_need r10 t10) (fun x4 D11 q11 => Wp.z q11.2 (Wp.ret ?_))
      obtain ⟨⟨k1, k2, k3, k4, k5, k6⟩, -⟩ := q11
      obtain ⟨⟨l1, l2, l3, l4, l5, l6⟩, l7⟩ := c9
      rw [g 30 (by decide)] at k5 k6
      exact ⟨fun c hc => by rw [k1 c hc, g0 c (by omega), l1 c hc], k3, fun _ => ⟨by rw [k2, g32, l2], by omega, fun x => k5 (l5 x), fun x => k6 (l6 x), fun x y => k6 (l7 x y)⟩⟩
    · refine Wp.ite (fun _ => Wp.idx ix (Wp.ite (fun _ => K159 _ c8 (by omega)) (fun _ => Wp.bind (tM_numbers c8.rt.1 c8.rt.2 hx1) (fun x5 D12 q12 => ?_)))) (fun _ => K159 _ c8 (by omega))
      have := q12.2.2.2.1
      exact Wp.ite (fun _ => Wp.ret (c8.pt q12).no) (fun _ => K159 _ (c8.pt q12) (by omega))
  · refine Wp.letQ (fun Q j => ∀ D1, CL D D1 → Wp (j D1) Q) (fun D14 c14 => Wp.bind (tM_need c14.rt.1 c14.rt.2) (fun x7 D15 q15 => ?_)) (fun j94 K94 => Wp.lets ?_)
    · exact Wp.ite (fun _ => Wp.ret (c14.pt q15.1).no) (fun _ => K105 _ (c14.pt q15.1))
    · have t4 : D4.1 0 26 ≠ 0 := by rw [q4 h2]; decide
      have z4 := mz_0 c3.rt.1
      refine Wp.fix2 (fun n x y D' => CL D D' ∧ (x ≠ 0 → D'.1 0 26 ≠ 0) ∧ (mzF D' + 1 < (n : Int) ∧ 0 ≤ y.toInt ∧ y.toInt + mzF D' ≤ 600)) ?_ ?_ aFuel 1000000 _ _ _ (Nat.le_refl _) ⟨c3, fun _ => t4, by omega, by decide, by rw [ti_0]; omega⟩
      · intro n g hg x y D' hI
        obtain ⟨i0, i1, i2, i3, i4⟩ := hI
        unfold lX11_oneLine_59
        refine Wp.ite (fun _ => K94 _ i0) (fun hx => Wp.bind (tM_next i0.rt.1) (fun _ D17 q17 => ?_))
        have m17 := q17.mz.2 (i1 hx)
        have c17 := i0.pt (q17.pt i0.rt.1 i0.rt.2)
        refine Wp.bind (tM_test c17.rt.1 c17.rt.2 hx1 i3) (fun x10 D18 q18 => ?_)
        have c18 := c17.pt q18
        have m18 := q18.2.2.2.1
        refine Wp.ite (fun _ => Wp.ret c18.no) (fun _ => Wp.bind tM_isWord (fun x11 D19 q19 => ?_))
        obtain ⟨rfl, q19⟩ := q19
        have z18 := mz_0 c18.rt.1
        have y1 : (y + 1).toInt = y.toInt + 1 := ti_add rfl ti_1 (by omega) (by omega)
        exact Wp.lets (hg _ _ _ ⟨c18, (fun q => by rw [q19 q]; decide), by omega, by omega, by omega⟩)
      · intro x y D' hI
        obtain ⟨i0, i1, i2, i3, i4⟩ := hI
        have := mz_0 i0.rt.1
        omega
/-- what a text leaves -/
def TXM (D D1 : ADD) : Prop := (∀ c, (5 ≤ c ∧ c ≤ 14) ∨ c = 1 ∨ 30 ≤ c → D1.1 c = D.1 c) ∧ (∀ c, 2 ≤ c → c ≤ 4 → ∀ i, i ≠ 0 → D1.1 c i = D.1 c i) ∧ D1.1 2 0 = 0 ∧ (∀ i, 2 ≤ i → D1.1 15 i = D.1 15 i) ∧ (∀ i, 32 ≤ i → D1.1 16 i = D.1 16 i) ∧ ((D1.1 15 0).toInt ≤ 16 ∧ (D1.1 15 1).toInt ≤ 16) ∧ (∀ i, i < 32 → (D1.1 16 i).toInt ≤ 4) ∧ TM D1
theorem oM_text {a : Int32} (h : QM D) (t : TM D) (hl : 0 ≤ (D.1 2 0).toInt ∧ (D.1 2 0).toInt ≤ 500) : Wp (fX11_text a D) (fun _ D1 => TXM D D1) := by
  unfold fX11_text
  obtain ⟨h5, h8, h9, h15, h16⟩ := h
  have c0 : (0 : Int32).toNatClampNeg = 0 := rfl
  refine Wp.leti (fun D1 e1 => Wp.idd (by decide) (Wp.leti (fun D2 e2 => Wp.idd (by decide) (Wp.leti (fun D3 e3 => Wp.idd (by decide) (Wp.leti (fun D4 e4 => Wp.idd (by decide) (Wp.leti (fun D5 e5 => Wp.leti (fun D6 e6 => Wp.leti (fun D7 e7 => Wp.leti (fun D8 e8 => Wp.leti (fun D9 e9 => ?_)))))))))))))
  rw [c0] at e2 e3 e4 e5
  have w0 : ∀ c, c = 1 ∨ 5 ≤ c → D9.1 c = D.1 c := by
    intro c hc
    funext z
    have a0 : c ≠ 0 := by omega
    have a2 : c ≠ 2 := by omega
    have a3 : c ≠ 3 := by omega
    have a4 : c ≠ 4 := by omega
    rw [e9, e8, e7, e6, e5, e4, e3, e2, e1]
    simp [aSI, a0, a2, a3, a4]
  have w1 : ∀ c, 2 ≤ c → c ≤ 4 → ∀ i, i ≠ 0 → D9.1 c i = D.1 c i := by
    intro c c2 c4 i hi
    have a0 : c ≠ 0 := by omega
    rw [e9, e8, e7, e6, e5, e4, e3, e2, e1]
    simp [aSI, a0, hi]
  have w2 : D9.1 2 0 = 0 := by
    rw [e9, e8, e7, e6, e5, e4, e3, e2, e1]
    simp [aSI]
  have v24 : D9.1 0 24 = D.1 2 0 := by
    rw [e9, e8, e7, e6, e5, e4, e3, e2, e1]
    simp [aSI]
  have v23 : D9.1 0 23 = 0 := by
    rw [e9, e8, e7, e6, e5, e4, e3, e2, e1]
    simp [aSI]
  have v30 : D9.1 0 30 = 0 := by
    rw [e9, e8, e7, e6, e5, e4, e3, e2, e1]
    simp [aSI]
  have v32 : D9.1 0 32 = 0 := by
    rw [e9, e8, e7, e6, e5, e4, e3, e2, e1]
    simp [aSI]
  clear e1 e2 e3 e4 e5 e6 e7 e8 e9
  have r9 : RM D9 := by unfold RM; rw [v24, v23, ti_0]; omega
  have t9 : TM D9 := by unfold TM; rw [w0 23 (by omega)]; exact t
  refine Wp.bind (tM_next r9) (fun _ D10 q10 => ?_)
  have p10 := q10.pt r9 t9
  have v30' : D10.1 0 30 = 0 := by rw [q10.1.2.2.1.2, v30]
  have v32' : D10.1 0 32 = 0 := by rw [q10.1.2.2.1.1, v32]
  have z10 := mz_0 p10.2.2.1.1
  refine Wp.letQ (fun Q j => ∀ (x : Int32) D', (∀ c, (1 ≤ c ∧ c ≤ 22) ∨ 30 ≤ c → D'.1 c = D9.1 c) → TM D' → (x ≠ 0 → 0 ≤ (D'.1 0 32).toInt ∧ (16 < (D'.1 0 32).toInt → 0 < (D'.1 0 30).toInt)) → Wp (j x D') Q) (fun x1 D11 f11 t11 l11 => ?_) (fun j82 K82 => Wp.lets ?_)
  · have F : ∀ D', (∀ c, c ≠ 3 → c ≠ 4 → D'.1 c = D11.1 c) → (∀ c i, i ≠ 0 → D'.1 c i = D11.1 c i) → TXM D D' := by
      intro D' f g
      refine ⟨fun c hc => by rw [f c (by omega) (by omega), f11 c (by omega), w0 c (by omega)], fun c c2 c4 i hi => by rw [g c i hi, f11 c (by omega), w1 c c2 c4 i hi], by rw [f 2 (by decide) (by decide), f11 2 (by omega), w2], fun i _ => by rw [f 15 (by decide) (by decide), f11 15 (by omega), w0 15 (by omega)], fun i _ => by rw [f 16 (by decide) (by decide), f11 16 (by omega), w0 16 (by omega)], by rw [f 15 (by decide) (by decide), f11 15 (by omega), w0 15 (by omega)]; exact h15, fun i hi => by rw [f 16 (by decide) (by decide), f11 16 (by omega), w0 16 (by omega)]; exact h16 i hi, ?_⟩
      unfold TM
      rw [f 23 (by decide) (by decide)]
      exact t11
    refine Wp.letQ (fun Q j => Wp (j D11) Q) ?_ (fun j93 K93 => Wp.ite (fun _ => K93) (fun hx => Wp.ile (fun h30 => ?_) (fun _ => K93)))
    · refine Wp.letQ (fun Q j => ∀ x, Wp (j x D11) Q) (fun x2 => Wp.idd (by decide) (Wp.leti (fun D14 e14 => ?_))) (fun j K => Wp.ite (fun _ => K _) (fun _ => K _))
      refine Wp.letQ (fun Q j => ∀ x, Wp (j x D14) Q) (fun x3 => Wp.idd (by decide) (Wp.leti (fun D16 e16 => Wp.ret (F _ (fun c a b => ?_) (fun c i hi => ?_))))) (fun j K => Wp.ite (fun _ => K _) (fun _ => K _))
      · funext z
        rw [e16, e14]
        simp [aSI, a, b]
      · rw [c0] at e16 e14
        rw [e16, e14]
        simp [aSI, hi]
    · have l11 := l11 hx
      rw [ti_0] at h30
      have hL : (D11.1 0 32).toInt ≤ 16 := by
        false_or_by_contra
        have := l11.2 (by omega)
        omega
      refine Wp.letQ (fun Q j => ∀ x : Int32, (x.toInt = 0 ∨ x.toInt = 16) → Wp (j x D11) Q) (fun x4 hx4 => ?_) (fun j K => Wp.ite (fun _ => K _ (by decide)) (fun _ => K _ (by decide)))
      refine Wp.letQ (fun Q j => ∀ x : Int32, (0 ≤ x.toInt ∧ x.toInt < 2) → Wp (j x D11) Q) (fun x5 hx5 => ?_) (fun j K => Wp.ite (fun _ => K _ (by decide)) (fun _ => K _ (by decide)))
      have ex5 := cl_i hx5.1
      refine Wp.idx (i_in hx5.1 (by omega)) (Wp.leti (fun D19 e19 => Wp.lets (Wp.lets ?_)))
      have g19 : ∀ c, c ≠ 15 → D19.1 c = D11.1 c := fun c hc => by rw [e19]; funext z; simp [aSI, hc]
      have g15 : ∀ i, D19.1 15 i = if i = x5.toNatClampNeg then D11.1 0 32 else D11.1 15 i := fun i => by rw [e19]; simp [aSI]
      have m19 : ∀ i, i < 32 → (D19.1 16 i).toInt ≤ 4 := fun i hi => by rw [g19 16 (by decide), f11 16 (by omega), w0 16 (by omega)]; exact h16 i hi
      refine Wp.fix1 (fun n x D' => (0 ≤ x.toInt ∧ x.toInt ≤ 16 ∧ 16 - x.toInt < (n : Int)) ∧ (∀ c, c < 16 ∨ 23 ≤ c → D'.1 c = D19.1 c) ∧ (∀ i, 32 ≤ i → D'.1 16 i = D19.1 16 i) ∧ ∀ i, i < 32 → (D'.1 16 i).toInt ≤ 4) ?_ ?_ aFuel 1000000 _ _ (Nat.le_refl _) ⟨⟨by decide, by decide, by decide⟩, fun _ _ => rfl, fun _ _ => rfl, m19⟩
      · intro n g hg x D' hI
        obtain ⟨⟨i0, i1, i2⟩, i3, i4, i5⟩ := hI
        unfold lX11_text_166
        have e32 : D'.1 0 32 = D11.1 0 32 := by rw [i3 0 (by omega), g19 0 (by decide)]
        have t' : TM D' := by unfold TM; rw [i3 23 (by omega), g19 23 (by decide)]; exact t11
        rw [e32]
        refine Wp.ile (fun _ => Wp.ret ?_) (fun hl2 => ?_)
        · have k15 : D'.1 15 = D19.1 15 := i3 15 (by omega)
          refine ⟨fun c hc => by rw [i3 c (by omega), g19 c (by omega), f11 c (by omega), w0 c (by omega)], fun c c2 c4 i hi => by rw [i3 c (by omega), g19 c (by omega), f11 c (by omega), w1 c c2 c4 i hi], by rw [i3 2 (by omega), g19 2 (by decide), f11 2 (by omega), w2], fun i hi => ?_, fun i hi => by rw [i4 i hi, g19 16 (by decide), f11 16 (by omega), w0 16 (by omega)], ⟨?_, ?_⟩, i5, t'⟩
          · rw [k15, g15, if_neg (by omega), f11 15 (by omega), w0 15 (by omega)]
          · rw [k15, g15]
            split
            · exact hL
            · rw [f11 15 (by omega), w0 15 (by omega)]; exact h15.1
          · rw [k15, g15]
            split
            · exact hL
            · rw [f11 15 (by omega), w0 15 (by omega)]; exact h15.2
        · have ex := cl_i i0
          have c2 : (x + 1).toInt = x.toInt + 1 := ti_add rfl ti_1 (by omega) (by omega)
          have e4 : (x4 + x).toInt = x4.toInt + x.toInt := ti_add rfl rfl (by omega) (by omega)
          have ix : vp_in x 17 := i_in i0 (by omega)
          have iy : vp_in (x4 + x) 128 := i_in (by omega) (by omega)
          have ey := cl_i (x := x4 + x) (by omega)
          refine Wp.idx ix (Wp.idx iy (Wp.leti (fun D22 e22 => Wp.idx ix (Wp.idx iy (Wp.leti (fun D23 e23 => Wp.idx ix (Wp.idx iy (Wp.leti (fun D24 e24 => Wp.idx ix (Wp.idx iy (Wp.leti (fun D25 e25 => ?_))))))))))))
          have g25 : ∀ c, c < 16 ∨ 23 ≤ c → D25.1 c = D'.1 c := fun c hc => by
            funext z
            have a16 : c ≠ 16 := by omega
            have a20 : c ≠ 20 := by omega
            have a21 : c ≠ 21 := by omega
            have a22 : c ≠ 22 := by omega
            rw [e25, e24, e23, e22]
            simp [aSI, a16, a20, a21, a22]
          have s25 : ∀ i, D25.1 16 i = if i = (x4 + x).toNatClampNeg then D'.1 23 x.toNatClampNeg else D'.1 16 i := fun i => by
            rw [e25, e24, e23, e22]
            simp [aSI]
          have t23 : (D'.1 23 x.toNatClampNeg).toInt ≤ 4 := t' _ (by omega)
          refine Wp.letQ (fun Q j => ∀ D26, (∀ c, c < 17 ∨ 20 ≤ c → D26.1 c = D25.1 c) → Wp (j D26) Q) (fun D26 f26 => Wp.lets (hg _ _ ⟨⟨by omega, by omega, by omega⟩, fun c hc => by rw [f26 c (by omega), g25 c hc, i3 c hc], fun i hi => ?_, fun i hi => ?_⟩)) (fun j K => Wp.lets ?_)
          · rw [f26 16 (by omega), s25, if_neg (by omega), i4 i hi]
          · rw [f26 16 (by omega), s25]
            split
            · exact t23
            · exact i5 i hi
          · refine Wp.fix1 (fun n y D' => (0 ≤ y.toInt ∧ y.toInt ≤ 4 ∧ 4 - y.toInt < (n : Int)) ∧ (∀ c, c < 17 ∨ 20 ≤ c → D'.1 c = D25.1 c)) ?_ ?_ aFuel 1000000 _ _ (Nat.le_refl _) ⟨⟨by decide, by decide, by decide⟩, fun _ _ => rfl⟩
            · intro n g2 hg2 y D27 hI
              obtain ⟨⟨y0, y1, y2⟩, y3⟩ := hI
              unfold lX11_text_242
              have e23' : D27.1 23 = D'.1 23 := by rw [y3 23 (by omega), g25 23 (by omega)]
              rw [e23']
              refine Wp.idx ix (Wp.ile (fun _ => K _ y3) (fun hy => ?_))
              have y4 : (y + 1).toInt = y.toInt + 1 := ti_add rfl ti_1 (by omega) (by omega)
              have a1 : ((4 : Int32) * x).toInt = 4 * x.toInt := ti_mul (by decide) rfl (by omega) (by omega)
              have a2 : ((4 : Int32) * x + y).toInt = 4 * x.toInt + y.toInt := ti_add a1 rfl (by omega) (by omega)
              have a3 : ((4 : Int32) * (x4 + x)).toInt = 4 * (x4.toInt + x.toInt) := ti_mul (by decide) e4 (by omega) (by omega)
              have a4 : ((4 : Int32) * (x4 + x) + y).toInt = 4 * (x4.toInt + x.toInt) + y.toInt := ti_add a3 rfl (by omega) (by omega)
              have ip : vp_in ((4 : Int32) * x + y) 64 := i_in (by omega) (by omega)
              have iq : vp_in ((4 : Int32) * (x4 + x) + y) 512 := i_in (by omega) (by omega)
              refine Wp.idx ip (Wp.idx iq (Wp.leti (fun D28 e28 => Wp.idx ip (Wp.idx iq (Wp.leti (fun D29 e29 => Wp.idx ip (Wp.idx iq (Wp.leti (fun D30 e30 => Wp.lets (hg2 _ _ ⟨⟨by omega, by omega, by omega⟩, fun c hc => ?_⟩))))))))))
              rw [← y3 c hc]
              funext z
              have b17 : c ≠ 17 := by omega
              have b18 : c ≠ 18 := by omega
              have b19 : c ≠ 19 := by omega
              rw [e30, e29, e28]
              simp [aSI, b17, b18, b19]
            · intro y D' hI
              obtain ⟨⟨y0, y1, y2⟩, -⟩ := hI
              omega
      · intro x D' hI
        obtain ⟨⟨y0, y1, y2⟩, -⟩ := hI
        omega
  · refine Wp.fix1 (fun n x D' => 0 < n ∧ (∀ c, (1 ≤ c ∧ c ≤ 22) ∨ 30 ≤ c → D'.1 c = D9.1 c) ∧ (RM D' ∧ TM D') ∧ (x ≠ 0 → mzF D' + 1 < (n : Int) ∧ 0 ≤ (D'.1 0 32).toInt ∧ (D'.1 0 32).toInt + mzF D' ≤ 501 ∧ 0 ≤ (D'.1 0 30).toInt ∧ (16 < (D'.1 0 32).toInt → 0 < (D'.1 0 30).toInt))) ?_ ?_ aFuel 1000000 _ _ (Nat.le_refl _) ⟨by decide, p10.1, p10.2.2.1, fun _ => ⟨by omega, by rw [v32']; decide, by rw [v32', ti_0]; omega, by rw [v30']; decide, by rw [v32', ti_0]; omega⟩⟩
    · intro n g hg x D' hI
      obtain ⟨i0, i1, i2, i3⟩ := hI
      unfold lX11_text_62
      refine Wp.ite (fun hx => K82 _ _ i1 i2.2 (fun q => absurd hx q)) (fun hx => Wp.ite (fun _ => K82 _ _ i1 i2.2 (fun q => ⟨(i3 q).2.1, (i3 q).2.2.2.2⟩)) (fun _ => ?_))
      obtain ⟨j1, j2, j3, j4, j5⟩ := i3 hx
      have z' := mz_0 i2.1
      refine Wp.bind (tM_oneLine i2.1 i2.2 j2) (fun x11 D32 q => hg _ _ ?_)
      obtain ⟨q1, q2, q3⟩ := q
      have z2 := mz_0 q2.1
      refine ⟨by omega, fun c hc => by rw [q1 c hc, i1 c hc], q2, fun hy => ?_⟩
      obtain ⟨a1, a2, a3, a4, a5⟩ := q3 hy
      have e1 : (D32.1 0 32).toInt = (D'.1 0 32).toInt + 1 := by rw [a1]; exact ti_add rfl ti_1 (by omega) (by omega)
      refine ⟨by omega, by omega, by omega, a3 j4, fun q => ?_⟩
      by_cases e : (D'.1 0 32).toInt = 16
      · exact a5 e j4
      · exact a4 (j5 (by omega))
    · intro x D' hI
      have := hI.1
      omega
end MY
end
section
/-! the reference: now and its images -/
def QMt (D : ADD) (t : Nat) : Prop := (0 ≤ (D.1 5 t).toInt ∧ (D.1 5 t).toInt ≤ 32) ∧ (0 ≤ (D.1 8 t).toInt ∧ (D.1 8 t).toInt ≤ 400) ∧ (∀ k : Nat, (k : Int) < (D.1 8 t).toInt → (0 ≤ (D.1 9 (1600 * t + (4 * k + 1))).toInt ∧ (D.1 9 (1600 * t + (4 * k + 1))).toInt < 32) ∧ -1 ≤ (D.1 9 (1600 * t + (4 * k + 2))).toInt ∧ (D.1 9 (1600 * t + (4 * k + 2))).toInt ≤ 10) ∧ ((D.1 15 (2 * t)).toInt ≤ 16 ∧ (D.1 15 (2 * t + 1)).toInt ≤ 16) ∧ (∀ l, l < 32 → (D.1 16 (32 * t + l)).toInt ≤ 4) ∧ 0 ≤ (D.1 2 t).toInt ∧ (D.1 2 t).toInt ≤ 500
def QMs (D : ADD) : Prop := (∀ t, t < 4 → QMt D t) ∧ TM D
section MS
variable {D : ADD}
theorem QMt.qm (h : QMt D 0) : QM D := by
  obtain ⟨h1, h2, h3, h4, h5, -⟩ := h
  refine ⟨h1, h2, fun k hk => ?_, h4, fun l hl => ?_⟩
  · have := h3 k hk
    rw [Nat.mul_zero, Nat.zero_add, Nat.zero_add] at this
    exact this
  · have := h5 l hl
    rw [Nat.mul_zero, Nat.zero_add] at this
    exact this
theorem QMs.qm (h : QMs D) : QM D := (h.1 0 (by decide)).qm
theorem QMs.len (h : QMs D) : 0 ≤ (D.1 2 0).toInt ∧ (D.1 2 0).toInt ≤ 500 := (h.1 0 (by decide)).2.2.2.2.2
theorem QM.qt (h : QM D) (l : 0 ≤ (D.1 2 0).toInt ∧ (D.1 2 0).toInt ≤ 500) : QMt D 0 := by
  obtain ⟨h1, h2, h3, h4, h5⟩ := h
  refine ⟨h1, h2, fun k hk => ?_, h4, fun i hi => ?_, l⟩
  · rw [Nat.mul_zero, Nat.zero_add, Nat.zero_add]
    exact h3 k hk
  · rw [Nat.mul_zero, Nat.zero_add]
    exact h5 i hi
/-- only the present is changed -/
def NowM (D D1 : ADD) : Prop := ∀ c i, (c = 2 ∨ c = 5 ∨ c = 8 ∨ c = 9 ∨ c = 15 ∨ c = 16) → szM c ≤ i → D1.1 c i = D.1 c i
theorem QMs.now {D1 : ADD} (h : QMs D) (n : NowM D D1) (q : QM D1) (l : 0 ≤ (D1.1 2 0).toInt ∧ (D1.1 2 0).toInt ≤ 500) (t : TM D1) : QMs D1 := by
  refine ⟨fun t ht => ?_, t⟩
  by_cases h0 : t = 0
  · subst h0
    exact q.qt l
  · obtain ⟨h1, h2, h3, h4, h5, h6⟩ := h.1 t ht
    have s2 : szM 2 = 1 := rfl
    have s5 : szM 5 = 1 := rfl
    have s8 : szM 8 = 1 := rfl
    have s9 : szM 9 = 1600 := rfl
    have s15 : szM 15 = 2 := rfl
    have s16 : szM 16 = 32 := rfl
    have e5 := n 5 t (by omega) (by omega)
    have e8 := n 8 t (by omega) (by omega)
    have e2 := n 2 t (by omega) (by omega)
    refine ⟨by rw [e5]; exact h1, by rw [e8]; exact h2, fun k hk => ?_, ?_, fun l hl => ?_, by rw [e2]; exact h6⟩
    · rw [e8] at hk
      rw [n 9 _ (by omega) (by omega), n 9 _ (by omega) (by omega)]
      exact h3 k hk
    · rw [n 15 _ (by omega) (by omega), n 15 _ (by omega) (by omega)]
      exact h4
    · rw [n 16 _ (by omega) (by omega)]
      exact h5 l hl
theorem QMs.fm {D1 : ADD} (h : QMs D) (f : FmM D D1) : QMs D1 := by
  refine h.now (fun c i hc _ => by rw [f c (by omega)]) (h.qm.fr f) (by rw [f 2 (by omega)]; exact h.len) ?_
  unfold TM
  rw [f 23 (by omega)]
  exact h.2
/-- length, today and which images are there, as they were -/
def KM (D D1 : ADD) : Prop := D1.1 2 = D.1 2 ∧ D1.1 6 = D.1 6 ∧ D1.1 39 = D.1 39
theorem FmM.km {D1 : ADD} (f : FmM D D1) : KM D D1 := ⟨f 2 (by omega), f 6 (by omega), f 39 (by omega)⟩
theorem SmM.fm {D1 : ADD} (f : SmM D D1) : FmM D D1 := fun c hc => f.1 c (by omega)
theorem WrM.qs {D1 : ADD} {s f v : Int32} (h : QMs D) (w : WrM D D1 s f v) (he : (D.1 8 0).toInt < 400) (hs : 0 ≤ s.toInt ∧ s.toInt < 32) (hf : -1 ≤ f.toInt ∧ f.toInt ≤ 10) : QMs D1 := by
  obtain ⟨w1, w2, w3, w4⟩ := w
  have q := h.qm
  obtain ⟨q1, q2, q3, q4, q5⟩ := q
  have ek := cl_i q2.1
  have s8 : szM 8 = 1 := rfl
  have s9 : szM 9 = 1600 := rfl
  have n8 : (D1.1 8 0).toInt = (D.1 8 0).toInt + 1 := by rw [w3 0, if_pos rfl]; exact ti_add rfl ti_1 (by omega) (by omega)
  refine h.now (fun c i hc hi => ?_) ⟨by rw [w1 5 (by decide) (by decide)]; exact q1, by omega, fun k hk => ?_, by rw [w1 15 (by decide) (by decide)]; exact q4, by rw [w1 16 (by decide) (by decide)]; exact q5⟩ (by rw [w1 2 (by decide) (by decide)]; exact h.len) ?_
  · by_cases c8 : c = 8
    · subst c8
      rw [w3, if_neg (by omega)]
    · by_cases c9 : c = 9
      · subst c9
        rw [w4, if_neg (by omega), if_neg (by omega), if_neg (by omega), if_neg (by omega)]
      · rw [w1 c c8 c9]
  · by_cases hk2 : k = (D.1 8 0).toNatClampNeg
    · subst hk2
      have a1 : D1.1 9 (4 * (D.1 8 0).toNatClampNeg + 1) = s := by rw [w4, if_neg (by omega), if_pos rfl]
      have a2 : D1.1 9 (4 * (D.1 8 0).toNatClampNeg + 2) = f := by rw [w4, if_neg (by omega), if_neg (by omega), if_pos rfl]
      rw [a1, a2]
      exact ⟨hs, hf⟩
    · have a1 : D1.1 9 (4 * k + 1) = D.1 9 (4 * k + 1) := by rw [w4, if_neg (by omega), if_neg (by omega), if_neg (by omega), if_neg (by omega)]
      have a2 : D1.1 9 (4 * k + 2) = D.1 9 (4 * k + 2) := by rw [w4, if_neg (by omega), if_neg (by omega), if_neg (by omega), if_neg (by omega)]
      rw [a1, a2]
      exact q3 k (by omega)
  · unfold TM
    rw [w1 23 (by decide) (by decide)]
    exact h.2
theorem sM_stone {w st tw : Int32} (h : QMs D) : Wp (fX11_stone w st tw D) (fun _ D1 => QMs D1 ∧ KM D D1) := by
  have q := h.qm
  refine (tM_stone q.1 q.2.1).mono (fun r D1 k => ?_)
  split at k
  · rename_i hc
    obtain ⟨-, D7, k1, k2, k3, k4, k5⟩ := k
    have n5 : (D7.1 5 0).toInt = (D.1 5 0).toInt + 1 := by rw [k3 0, if_pos rfl]; exact ti_add rfl ti_1 (by have := q.1; omega) (by have := q.1; omega)
    have h7 : QMs D7 := by
      refine h.now (fun c i hc hi => ?_) ⟨by have := q.1; omega, by rw [k1 8 (by decide) (by decide) (by decide)]; exact q.2.1, by rw [k1 8 (by decide) (by decide) (by decide), k1 9 (by decide) (by decide) (by decide)]; exact q.2.2.1, by rw [k1 15 (by decide) (by decide) (by decide)]; exact q.2.2.2.1, by rw [k1 16 (by decide) (by decide) (by decide)]; exact q.2.2.2.2⟩ (by rw [k1 2 (by decide) (by decide) (by decide)]; exact h.len) ?_
      · by_cases c5 : c = 5
        · subst c5
          have s5 : szM 5 = 1 := rfl
          rw [k3, if_neg (by omega)]
        · rw [k1 c (by omega) c5 (by omega)]
      · unfold TM
        rw [k1 23 (by decide) (by decide) (by decide)]
        exact h.2
    refine ⟨k5.qs h7 (by rw [k1 8 (by decide) (by decide) (by decide)]; omega) ⟨q.1.1, hc.1⟩ (by decide), ?_⟩
    exact ⟨by rw [k5.1 2 (by decide) (by decide), k1 2 (by decide) (by decide) (by decide)], by rw [k5.1 6 (by decide) (by decide), k1 6 (by decide) (by decide) (by decide)], by rw [k5.1 39 (by decide) (by decide), k1 39 (by decide) (by decide) (by decide)]⟩
  · exact ⟨h.fm k.2.fm, k.2.fm.km⟩
theorem tM_canBe {s f v : Int32} (h : QM D) (hs : 0 ≤ s.toInt ∧ s.toInt < 32) : Wp (fX11_canBe s f v D) (fun x D1 => D1 = D ∧ (x ≠ 0 → 0 ≤ f.toInt ∧ f.toInt ≤ 10)) := by
  unfold fX11_canBe
  have n : (fun (x : Int32) (D1 : ADD) => D1 = D ∧ (x ≠ 0 → 0 ≤ f.toInt ∧ f.toInt ≤ 10)) 0 D := ⟨rfl, fun k => absurd rfl k⟩
  refine Wp.tab (fun i K hK hc => ?_) (fun _ => Wp.ret n)
  have hi : i < 11 := by
    have := List.getElem?_eq_some_iff.mp hK
    obtain ⟨hlt, -⟩ := this
    exact hlt
  have hf : 0 ≤ f.toInt ∧ f.toInt ≤ 10 := by omega
  have y : ∀ x : Int32, (fun (x : Int32) (D1 : ADD) => D1 = D ∧ (x ≠ 0 → 0 ≤ f.toInt ∧ f.toInt ≤ 10)) x D := fun x => ⟨rfl, fun _ => hf⟩
  have z : ∀ {x : Int32}, (x = 0 ∨ x = 1) → Wp (aZ x (some (x, D))) (fun x D1 => D1 = D ∧ (x ≠ 0 → 0 ≤ f.toInt ∧ f.toInt ≤ 10)) := fun hx => Wp.z hx (Wp.ret (y _))
  have is01 : ∀ l u : Int32, Wp (aBind (fX11_is v l u D) (fun x D1 => aZ x (some (x, D1)))) (fun x D1 => D1 = D ∧ (x ≠ 0 → 0 ≤ f.toInt ∧ f.toInt ≤ 10)) := fun l u => by
    refine Wp.bindE (eM_is _ _ _ _) ?_
    by_cases hc : l.toInt ≤ v.toInt ∧ v.toInt ≤ u.toInt
    · rw [if_pos hc]
      exact z (Or.inr rfl)
    · rw [if_neg hc]
      exact z (Or.inl rfl)
  have fo : ∀ g : Int32, ∀ {G : Int32 → ADD → Option (Int32 × ADD)}, (∀ x, Wp (G x D) (fun x D1 => D1 = D ∧ (x ≠ 0 → 0 ≤ f.toInt ∧ f.toInt ≤ 10))) → Wp (aIn 0 4 (aBind (fX11_factOn s g (D.1 6 (0 : Int32).toNatClampNeg) D) G)) (fun x D1 => D1 = D ∧ (x ≠ 0 → 0 ≤ f.toInt ∧ f.toInt ≤ 10)) := fun g G k => by
    refine Wp.idd (by decide) (Wp.bind (tM_factOn h hs) (fun x D1 q => ?_))
    subst q
    exact k x
  match i, hK with
  | 0, hK =>
    cases hK
    exact Wp.bind tM_is (fun x D1 q => by obtain ⟨rfl, -⟩ := q; exact Wp.lets (Wp.lets (Wp.ite (fun _ => z (Or.inl rfl)) (fun _ => fo 3 (fun x => Wp.ite (fun _ => z (Or.inl rfl)) (fun _ => z (Or.inr rfl)))))))
  | 1, hK => cases hK; exact is01 _ _
  | 2, hK => cases hK; exact is01 _ _
  | 3, hK =>
    cases hK
    exact Wp.bind tM_is (fun x D1 q => by obtain ⟨rfl, -⟩ := q; exact Wp.lets (Wp.lets (Wp.ite (fun _ => z (Or.inl rfl)) (fun _ => fo 0 (fun x => Wp.ite (fun _ => z (Or.inl rfl)) (fun _ => z (Or.inr rfl)))))))
  | 4, hK => cases hK; exact is01 _ _
  | 5, hK => cases hK; exact fo 6 (fun x => is01 _ _)
  | 6, hK => cases hK; exact fo 5 (fun x => is01 _ _)
  | 7, hK => cases hK; exact is01 _ _
  | 8, hK => cases hK; exact is01 _ _
  | 9, hK => cases hK; exact is01 _ _
  | 10, hK => cases hK; exact is01 _ _
  | i + 11, hK => cases hK
theorem sM_tell {s f v : Int32} (h : QMs D) : Wp (fX11_tell s f v D) (fun _ D1 => QMs D1 ∧ KM D D1) := by
  unfold fX11_tell
  have f1 : FmM D (aSI D 0 0 0) := FmM.code
  have h1 := h.fm f1
  have q := h1.qm
  refine Wp.lets (Wp.idd (by decide) ?_)
  generalize aSI D 0 0 0 = D1 at f1 h1 q ⊢
  rw [cl_0]
  have e1 : (D1.1 5 0 - 1).toInt = (D1.1 5 0).toInt - 1 := ti_sub rfl ti_1 (by have := q.1; omega) (by have := q.1; omega)
  have q0 := q.1
  have q8 := q.2.1
  refine Wp.bind tM_is (fun x D2 k => ?_)
  obtain ⟨rfl, k⟩ := k
  refine Wp.lets (Wp.ite (fun _ => Wp.ret ⟨h1, f1.km⟩) (fun hx => Wp.idd (by decide) (Wp.ite (fun _ => Wp.ret ⟨h1, f1.km⟩) (fun h4 => ?_))))
  have k := k hx
  rw [ti_0] at k
  have n4 : (D2.1 8 0).toInt ≠ 400 := fun e => h4 (Int32.toInt_inj.mp (by rw [e]; rfl))
  refine Wp.bind (tM_canBe q ⟨k.1, by omega⟩) (fun y D4 q4 => ?_)
  obtain ⟨rfl, q4⟩ := q4
  refine Wp.ite (fun _ => Wp.ret ⟨h1, f1.km⟩) (fun hy => Wp.bind (tM_enter ⟨q8.1, by omega⟩) (fun _ D5 w => Wp.ret ⟨w.qs h1 (by omega) ⟨k.1, by omega⟩ (by have := q4 hy; omega), ?_⟩))
  obtain ⟨a, b, c⟩ := f1.km
  exact ⟨by rw [w.1 2 (by decide) (by decide), a], by rw [w.1 6 (by decide) (by decide), b], by rw [w.1 39 (by decide) (by decide), c]⟩
end MS
end
section
/-! choose, both sides -/
section CH
variable {D E : ADD}
abbrev ChOK (y z m : Int32) : Prop := (-3000 ≤ y.toInt ∧ y.toInt ≤ z.toInt ∧ z.toInt ≤ 1900) ∧ 0 ≤ m.toInt ∧ m.toInt ≤ 2
theorem tX10_choose {a b y z m : Int32} : Wp (fX10_choose a b y z m D) (fun r D1 => if ChOK y z m then r = 1 ∧ (∀ c, c ≠ 31 → D1.1 c = D.1 c) ∧ D1.2 = D.2 ∧ D1.1 31 0 = a &&& 63 ∧ D1.1 31 1 = b &&& 31 ∧ D1.1 31 2 = y ∧ D1.1 31 3 = z ∧ D1.1 31 4 = m else r = 0 ∧ D1 = D) := by
  unfold fX10_choose
  refine Wp.bind (P := fun r D1 => if ChOK y z m then r = 1 ∧ (∀ c, c ≠ 31 → D1.1 c = D.1 c) ∧ D1.2 = D.2 ∧ D1.1 31 0 = a &&& 63 ∧ D1.1 31 1 = b &&& 31 ∧ D1.1 31 2 = y ∧ D1.1 31 3 = z ∧ D1.1 31 4 = m else r = 0 ∧ D1 = D) ?_ (fun x D1 q => Wp.z ?_ (Wp.ret q))
  · unfold fX1_change
    have e1 : (1900 : Int32).toInt = 1900 := by decide
    have e2 : (2 : Int32).toInt = 2 := by decide
    refine Wp.lets (Wp.ilt (fun h => Wp.ret ?_) (fun h => Wp.ilt (fun h2 => Wp.ret ?_) (fun h2 => Wp.ilt (fun h3 => Wp.ret ?_) (fun h3 => Wp.ilt (fun h4 => Wp.ret ?_) (fun h4 => Wp.ile (fun h5 => ?_) (fun h5 => Wp.ret ?_))))))
    · rw [tn_3000] at h
      rw [if_neg (by omega)]; exact ⟨rfl, rfl⟩
    · rw [if_neg (by omega)]; exact ⟨rfl, rfl⟩
    · rw [if_neg (by omega)]; exact ⟨rfl, rfl⟩
    · rw [ti_0] at h4
      rw [if_neg (by omega)]; exact ⟨rfl, rfl⟩
    · rw [tn_3000] at h
      rw [ti_0] at h4
      refine Wp.lets (Wp.lets (Wp.lets (Wp.lets (Wp.lets (Wp.ret ?_)))))
      rw [if_pos (by omega)]
      refine ⟨rfl, fun c hc => ?_, rfl, rfl, rfl, rfl, rfl, rfl⟩
      funext k
      simp [aSI, hc]
    · rw [if_neg (by omega)]; exact ⟨rfl, rfl⟩
  · by_cases h : ChOK y z m
    · rw [if_pos h] at q; exact Or.inr q.1
    · rw [if_neg h] at q; exact Or.inl q.1
theorem tM_choose {a b y z m : Int32} : Wp (fX11_choose a b y z m E) (fun r D1 => if ChOK y z m then r = 1 ∧ (∀ c, c ≠ 0 → c ≠ 11 → c ≠ 12 → c ≠ 13 → c ≠ 14 → D1.1 c = E.1 c) ∧ D1.2 = E.2 ∧ (∀ i, D1.1 11 i = if i = 0 then a else E.1 11 i) ∧ (∀ i, D1.1 12 i = if i = 0 then b else E.1 12 i) ∧ (∀ i, D1.1 13 i = if i = 1 then z else if i = 0 then y else E.1 13 i) ∧ (∀ i, D1.1 14 i = if i = 0 then m else E.1 14 i) else r = 0 ∧ SmM E D1) := by
  unfold fX11_choose
  have L1 : (1900 : Int32).toInt = 1900 := by decide
  have L2 : (2 : Int32).toInt = 2 := by decide
  have L0 : (0 : Int32).toInt = 0 := by decide
  refine Wp.lets (Wp.bindE (eM_is _ _ _ _) (Wp.lets ?_))
  rw [tn_3000]
  by_cases h1 : -3000 ≤ y.toInt ∧ y.toInt ≤ (1900 : Int32).toInt
  · rw [if_pos h1]
    refine Wp.neg (by decide) (Wp.bindE (eM_is _ _ _ _) ?_)
    by_cases h2 : y.toInt ≤ z.toInt ∧ z.toInt ≤ (1900 : Int32).toInt
    · rw [if_pos h2]
      refine Wp.neg (by decide) (Wp.bindE (eM_is _ _ _ _) ?_)
      by_cases h3 : (0 : Int32).toInt ≤ m.toInt ∧ m.toInt ≤ (2 : Int32).toInt
      · rw [if_pos h3]
        refine Wp.neg (by decide) (Wp.idd (by decide) (Wp.lets (Wp.idd (by decide) (Wp.lets (Wp.idd (by decide) (Wp.lets (Wp.idd (by decide) (Wp.lets (Wp.idd (by decide) (Wp.lets (Wp.ret ?_)))))))))))
        rw [if_pos (by omega)]
        have c1 : (1 : Int32).toNatClampNeg = 1 := by decide
        simp only [cl_0, c1]
        refine ⟨trivial, fun c c0 c11 c12 c13 c14 => ?_, rfl, fun i => ?_, fun i => ?_, fun i => ?_, fun i => ?_⟩
        · funext k
          simp [aSI, c0, c11, c12, c13, c14]
        · simp [aSI]
        · simp [aSI]
        · simp [aSI]
        · simp [aSI]
      · rw [if_neg h3]
        refine Wp.pos rfl (Wp.ret ?_)
        rw [if_neg (by omega)]; exact ⟨rfl, SmM.code⟩
    · rw [if_neg h2]
      refine Wp.pos rfl (Wp.ret ?_)
      rw [if_neg (by omega)]; exact ⟨rfl, SmM.code⟩
  · rw [if_neg h1]
    refine Wp.pos rfl (Wp.ret ?_)
    rw [if_neg (by omega)]; exact ⟨rfl, SmM.code⟩
end CH
end
