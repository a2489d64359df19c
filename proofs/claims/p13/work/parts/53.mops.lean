/-! the reference's questions: never none, and nothing told is changed -/
/-- what looking left is kept -/
def GM (D D1 : ADD) : Prop := ∀ c, (c ≤ 29 ∨ c = 39) → D1.1 c = D.1 c
theorem GM.refl (D : ADD) : GM D D := fun _ _ => rfl
theorem GM.trans {D D1 D2 : ADD} (h : GM D D1) (k : GM D1 D2) : GM D D2 := fun c hc => (k c hc).trans (h c hc)
theorem GM.mn {D D1 : ADD} (h : GM D D1) (m : MN D) : MN D1 := by
  unfold MN
  rw [h 0 (by omega)]
  exact m
theorem GM.fm {D D1 : ADD} (h : GM D D1) : FmM D D1 := fun c hc => h c (by omega)
theorem GM.si {D D1 : ADD} (h : GM D D1) {c i : Nat} {v : Int32} (hc : 29 < c) (h9 : c ≠ 39) : GM D (aSI D1 c i v) := fun k hk => by
  rw [← h k hk]
  funext z
  have : k ≠ c := by omega
  simp [aSI, this]
section MO
variable {D : ADD}
theorem tM_un {a : Int32} : Wp (fX11_isUnit a D) (fun x D1 => D1 = D ∧ (x ≠ 0 → 10 ≤ a.toInt ∧ a.toInt ≤ 2000)) := by
  rw [eM_isUnit]
  by_cases h : 10 ≤ a.toInt ∧ a.toInt ≤ 2000
  · exact Wp.ret ⟨rfl, fun _ => h⟩
  · rw [if_neg h]
    exact Wp.ret ⟨rfl, fun k => absurd rfl k⟩
theorem tM_ar {a b : Int32} : Wp (fX11_areUnits a b D) (fun x D1 => D1 = D ∧ (x ≠ 0 → UR a b 300)) := by
  rw [eM_areUnits]
  by_cases h : UR a b 300
  · exact Wp.ret ⟨rfl, fun _ => h⟩
  · rw [if_neg h]
    exact Wp.ret ⟨rfl, fun k => absurd rfl k⟩
theorem tM_is {a l u : Int32} : Wp (fX11_is a l u D) (fun x D1 => D1 = D ∧ (x ≠ 0 → l.toInt ≤ a.toInt ∧ a.toInt ≤ u.toInt)) := by
  rw [eM_is]
  by_cases h : l.toInt ≤ a.toInt ∧ a.toInt ≤ u.toInt
  · exact Wp.ret ⟨rfl, fun _ => h⟩
  · rw [if_neg h]
    exact Wp.ret ⟨rfl, fun k => absurd rfl k⟩
theorem tM_st {a : Int32} (h : QM D) : Wp (fX11_isStone a D) (fun x D1 => D1 = D ∧ (x ≠ 0 → 0 ≤ a.toInt ∧ a.toInt < 32)) := by
  unfold fX11_isStone
  refine Wp.idd (by decide) ?_
  rw [cl_0]
  have e1 : (D.1 5 0 - 1).toInt = (D.1 5 0).toInt - 1 := ti_sub rfl ti_1 (by have := h.1; omega) (by have := h.1; omega)
  refine Wp.bind tM_is (fun x D1 q => ?_)
  obtain ⟨rfl, q⟩ := q
  have h5 := h.1
  have z0 : Wp (aZ 0 (some ((0 : Int32), D1))) (fun x D2 => D2 = D1 ∧ (x ≠ 0 → 0 ≤ a.toInt ∧ a.toInt < 32)) := Wp.z (Or.inl rfl) (Wp.ret ⟨rfl, fun k => absurd rfl k⟩)
  refine Wp.lets (Wp.lets (Wp.ite (fun _ => z0) (fun hx => ?_)))
  have q := q hx
  rw [ti_0] at q
  have e3 : ((3 : Int32) * a).toInt = 3 * a.toInt := ti_mul (by decide) rfl (by omega) (by omega)
  refine Wp.idx (i_in (by omega) (by omega)) (Wp.bind tM_day (fun y D2 q2 => ?_))
  subst q2
  exact Wp.ite (fun _ => z0) (fun _ => Wp.z (Or.inr rfl) (Wp.ret ⟨rfl, fun _ => ⟨q.1, by omega⟩⟩))
theorem tM_lk (h : QM D) : Wp (fX11_look D) (fun _ D1 => FmM D D1 ∧ MN D1) := by
  refine (tM_look h).mono (fun _ D1 q => ⟨fun c hc => q.1 c (by omega), ?_⟩)
  unfold MN
  rw [q.2]
  exact h.1
theorem tM_fs {a b : Int32} (hm : MN D) (hU : UR a b 300) : Wp (fX11_findScores a b D) (fun _ D1 => GM D D1) := by
  obtain ⟨u0, u1, u2, u3⟩ := id hU
  refine (tM_findScores hU (fun u D' e h1 h2 => tM_scoreOf (by unfold MN; rw [e 0 (by decide)]; exact hm) (by omega))).mono (fun _ D1 q => fun c hc => q.1 c (by omega))
theorem tM_bo {a b : Int32} (hm : MN D) (hU : UR a b 300) : Wp (fX11_bestOf a b D) (fun _ D1 => GM D D1) := (tM_bestOf hm hU).mono (fun _ D1 q => fun c hc => q.1 c (by omega))
theorem oM_span {a b : Int32} (h : QM D) : Wp (fX11_span a b D) (fun _ D1 => FmM D D1) := by
  unfold fX11_span
  have f1 : FmM D (aSI D 0 0 0) := FmM.code
  refine Wp.lets (Wp.bind (tM_st (h.fr f1)) (fun x D2 q => ?_))
  obtain ⟨rfl, q⟩ := q
  refine Wp.ite (fun _ => Wp.ret f1) (fun hx => Wp.bind (tM_lk (h.fr f1)) (fun _ D3 q3 => ?_))
  have f3 := f1.trans q3.1
  have ia : vp_in a 32 := i_in (q hx).1 (q hx).2
  exact Wp.lets (Wp.ite (fun _ => Wp.idx ia (Wp.ret f3)) (fun _ => Wp.ite (fun _ => Wp.idx ia (Wp.ret f3)) (fun _ => Wp.ite (fun _ => Wp.idx ia (Wp.ite (fun _ => Wp.ret f3) (fun _ => Wp.ret f3))) (fun _ => Wp.ret f3))))
theorem oM_by {a b c : Int32} (h : QM D) : Wp (fX11_by a b c D) (fun _ D1 => FmM D D1) := by
  unfold fX11_by
  have f1 : FmM D (aSI D 0 0 0) := FmM.code
  refine Wp.lets (Wp.bind (tM_st (h.fr f1)) (fun x D2 q => ?_))
  obtain ⟨rfl, q⟩ := q
  refine Wp.lets (Wp.ite (fun _ => Wp.ret f1) (fun hx => Wp.bind tM_un (fun x2 D4 q4 => ?_)))
  obtain ⟨rfl, q4⟩ := q4
  refine Wp.ite (fun _ => Wp.ret f1) (fun hy => Wp.bind (tM_lk (h.fr f1)) (fun _ D3 q3 => ?_))
  have f3 := f1.trans q3.1
  have hu := q4 hy
  have nu := u_ne (show 1 ≤ b.toInt by omega)
  exact Wp.tab4 (fun _ => Wp.bindE (eM_off (q hx) nu) (Wp.ret f3)) (fun _ => Wp.bindE (eM_off (q hx) nu) (Wp.lets (Wp.ite (fun _ => Wp.ret f3) (fun _ => Wp.ret f3)))) (fun _ => Wp.bind (tM_shortOf (q hx) nu) (fun y D5 q5 => by subst q5; exact Wp.ret f3)) (fun _ => Wp.bindE (eM_timesOf (q hx) nu) (Wp.ret f3)) (fun _ => Wp.ret f3)
theorem oM_score {a : Int32} (h : QM D) : Wp (fX11_score a D) (fun _ D1 => FmM D D1) := by
  unfold fX11_score
  have f1 : FmM D (aSI D 0 0 0) := FmM.code
  refine Wp.lets (Wp.bind tM_un (fun x D2 q => ?_))
  obtain ⟨rfl, q⟩ := q
  refine Wp.ite (fun _ => Wp.ret f1) (fun hx => Wp.bind (tM_lk (h.fr f1)) (fun _ D3 q3 => Wp.bind (tM_scoreOf q3.2 (by have := q hx; omega)) (fun y D4 q4 => ?_)))
  subst q4
  exact Wp.ret (f1.trans q3.1)
theorem oM_best {a b : Int32} (h : QM D) : Wp (fX11_best a b D) (fun _ D1 => FmM D D1) := by
  unfold fX11_best
  have f1 : FmM D (aSI D 0 0 0) := FmM.code
  refine Wp.lets (Wp.bind tM_ar (fun x D2 q => ?_))
  obtain ⟨rfl, q⟩ := q
  refine Wp.ite (fun _ => Wp.ret f1) (fun hx => Wp.bind (tM_lk (h.fr f1)) (fun _ D3 q3 => Wp.bind (tM_those q3.2) (fun y D4 q4 => ?_)))
  subst q4
  have f3 := f1.trans q3.1
  exact Wp.lets (Wp.ite (fun _ => Wp.ret f3) (fun _ => Wp.bind (tM_bo q3.2 (q hx)) (fun z D5 q5 => Wp.ret (f3.trans q5.fm))))
theorem oM_chance {a : Int32} (h : QM D) : Wp (fX11_chance a D) (fun _ D1 => FmM D D1) := by
  unfold fX11_chance
  have f1 : FmM D (aSI D 0 0 0) := FmM.code
  refine Wp.lets (Wp.bind tM_un (fun x D2 q => ?_))
  obtain ⟨rfl, q⟩ := q
  refine Wp.ite (fun _ => Wp.ret f1) (fun hx => Wp.bind (tM_lk (h.fr f1)) (fun _ D3 q3 => Wp.bind (tM_chanceOf q3.2 (by have := q hx; omega)) (fun y D4 q4 => Wp.ret (fun c hc => ?_))))
  rw [q4]
  exact f1.trans q3.1 c hc
theorem oM_sum {a b : Int32} (h : QM D) : Wp (fX11_sum a b D) (fun _ D1 => FmM D D1) := by
  unfold fX11_sum
  have f1 : FmM D (aSI D 0 0 0) := FmM.code
  refine Wp.lets (Wp.bind tM_un (fun x D2 q => ?_))
  obtain ⟨rfl, q⟩ := q
  refine Wp.lets (Wp.ite (fun _ => Wp.ret f1) (fun hx => Wp.bind tM_un (fun x4 D4 q4 => ?_)))
  obtain ⟨rfl, q4⟩ := q4
  refine Wp.ite (fun _ => Wp.ret f1) (fun hy => Wp.ite (fun _ => Wp.bind (tM_lk (h.fr f1)) (fun _ D3 q3 => Wp.bind (tM_sumOf q3.2 (by have := q hx; omega) (by have := q4 hy; omega)) (fun y D5 q5 => ?_))) (fun _ => Wp.ret f1))
  subst q5
  exact Wp.ret (f1.trans q3.1)
theorem oM_pair {a b : Int32} (h : QM D) : Wp (fX11_pair a b D) (fun _ D1 => FmM D D1) := by
  unfold fX11_pair
  have f1 : FmM D (aSI D 0 0 0) := FmM.code
  refine Wp.lets (Wp.bind tM_ar (fun x D2 q => ?_))
  obtain ⟨rfl, q⟩ := q
  refine Wp.lets (Wp.ite (fun _ => Wp.ret f1) (fun hx => Wp.ite (fun _ => Wp.ret f1) (fun _ => Wp.ite (fun _ => Wp.bind (tM_lk (h.fr f1)) (fun _ D3 q3 => Wp.bind (tM_those q3.2) (fun y D4 q4 => ?_))) (fun _ => Wp.ret f1))))
  subst q4
  have f3 := f1.trans q3.1
  obtain ⟨u0, u1, u2, u3⟩ := q hx
  have e1 : (a + 1).toInt = a.toInt + 1 := ti_add rfl ti_1 (by omega) (by omega)
  refine Wp.ite (fun _ => Wp.ret f3) (fun _ => Wp.lets (Wp.lets (Wp.lets ?_)))
  refine Wp.up4 (D := D4) 2001 (by decide) (a.toInt + 1) (by omega) (fun g p q r x h0 k => ?_) (by omega) (by omega)
  unfold lX11_pair_54
  refine Wp.ilt (fun _ => Wp.ret f3) (fun hxb => Wp.letQ (fun Q j => ∀ a b c, Wp (j a b c D4) Q) (fun p q r => Wp.lets (k (by omega) _ _ _)) (fun j K => Wp.lets ?_))
  refine Wp.up4 (D := D4) 2001 (by decide) a.toInt (by omega) (fun g p q r y g0 k => ?_) (by omega) (by omega)
  unfold lX11_pair_63
  refine Wp.ile (fun _ => K _ _ _) (fun hy => Wp.bind (tM_sumOf q3.2 (by omega) (by omega)) (fun w D5 q5 => ?_))
  subst q5
  have k := k (by omega)
  exact Wp.lets (Wp.lets (Wp.ite (fun _ => Wp.lets (k _ _ _)) (fun _ => Wp.ite (fun _ => Wp.lets (k _ _ _)) (fun _ => Wp.lets (k _ _ _)))))
theorem oM_worth {a b c : Int32} (h : QM D) : Wp (fX11_worth a b c D) (fun _ D1 => FmM D D1) := by
  unfold fX11_worth
  have f1 : FmM D (aSI D 0 0 0) := FmM.code
  refine Wp.lets (Wp.bind (tM_st (h.fr f1)) (fun x D2 q => ?_))
  obtain ⟨rfl, q⟩ := q
  refine Wp.lets (Wp.ite (fun _ => Wp.ret f1) (fun hx => Wp.bind tM_ar (fun x2 D4 q4 => ?_)))
  obtain ⟨rfl, q4⟩ := q4
  refine Wp.ite (fun _ => Wp.ret f1) (fun hy => Wp.bind (tM_lk (h.fr f1)) (fun _ D3 q3 => ?_))
  have f3 := f1.trans q3.1
  exact Wp.idx (i_in (q hx).1 (q hx).2) (Wp.lets (Wp.ite (fun _ => Wp.ret f3) (fun _ => Wp.bind (tM_worthOf q3.2 (q hx) (q4 hy)) (fun y D5 q5 => Wp.ret (f3.trans (fun c hc => q5 c (by omega) (by omega) (by omega)))))))
theorem oM_anew {a b : Int32} (h : QM D) : Wp (fX11_anew a b D) (fun _ D1 => FmM D D1) := by
  unfold fX11_anew
  have f1 : FmM D (aSI D 0 0 0) := FmM.code
  refine Wp.lets (Wp.bind tM_ar (fun x D2 q => ?_))
  obtain ⟨rfl, q⟩ := q
  refine Wp.ite (fun _ => Wp.ret f1) (fun hx => Wp.bind (tM_lk (h.fr f1)) (fun _ D3 q3 => Wp.lets (Wp.lets ?_)))
  have f3 := f1.trans q3.1
  refine Wp.fix3 (fun n _ _ x D' => (0 ≤ x.toInt ∧ x.toInt ≤ 32 ∧ 32 - x.toInt < (n : Int)) ∧ GM D3 D') ?_ ?_ aFuel 1000000 _ _ _ _ (Nat.le_refl _) ⟨⟨by decide, by decide, by decide⟩, GM.refl D3⟩
  · intro n g hg y w x D' hI
    obtain ⟨⟨i0, i1, i2⟩, i3⟩ := hI
    have m := i3.mn q3.2
    unfold lX11_anew_27
    refine Wp.ile (fun _ => Wp.ret (f3.trans i3.fm)) (fun hl => ?_)
    have hl : x.toInt < (D'.1 0 41).toInt := hl
    have c2 : (x + 1).toInt = x.toInt + 1 := ti_add rfl ti_1 (by omega) (by omega)
    refine Wp.idx (i_in i0 (by omega)) (Wp.letQ (fun Q j => ∀ a b D6, GM D3 D6 → Wp (j a b D6) Q) (fun _ _ D6 g6 => Wp.lets (hg _ _ _ _ ⟨⟨by omega, by omega, by omega⟩, g6⟩)) (fun j K => Wp.ite (fun _ => K _ _ _ i3) (fun _ => Wp.bind (tM_worthOf m ⟨i0, by omega⟩ (q hx)) (fun z D5 q5 => ?_))))
    have g5 : GM D3 D5 := i3.trans (fun c hc => q5 c (by omega) (by omega) (by omega))
    exact Wp.ite (fun _ => K _ _ _ g5) (fun _ => K _ _ _ g5)
  · intro y w x D' hI
    obtain ⟨⟨i0, i1, i2⟩, -⟩ := hI
    omega
theorem oM_heap {a b : Int32} (h : QM D) : Wp (fX11_heap a b D) (fun _ D1 => FmM D D1) := by
  unfold fX11_heap
  have f1 : FmM D (aSI D 0 0 0) := FmM.code
  refine Wp.lets (Wp.bind (tM_st (h.fr f1)) (fun x D2 q => ?_))
  obtain ⟨rfl, q⟩ := q
  refine Wp.lets (Wp.ite (fun _ => Wp.ret f1) (fun hx => Wp.bind tM_is (fun x2 D4 q4 => ?_)))
  obtain ⟨rfl, -⟩ := q4
  refine Wp.ite (fun _ => Wp.ret f1) (fun hy => Wp.bind (tM_lk (h.fr f1)) (fun _ D3 q3 => ?_))
  have f3 := f1.trans q3.1
  refine Wp.idx (i_in (q hx).1 (q hx).2) (Wp.ite (fun _ => Wp.ret f3) (fun _ => Wp.lets (Wp.letQ (fun Q j => ∀ x, bt x a.toNatClampNeg = true → Wp (j x D3) Q) (fun y hy => ?_) (fun j K => Wp.lets ?_))))
  · exact Wp.letQ (fun Q j => ∀ x, Wp (j x D3) Q) (fun w => Wp.ret f3) (fun j K => Wp.lets (tM_least (q hx) hy K))
  · exact tM_heapGo q3.2 (q hx) K
theorem oM_count {a : Int32} (h : QM D) : Wp (fX11_count a D) (fun _ D1 => FmM D D1) := by
  unfold fX11_count
  have f1 : FmM D (aSI D 0 0 0) := FmM.code
  refine Wp.lets (Wp.bind (tM_lk (h.fr f1)) (fun _ D3 q3 => ?_))
  have f3 := f1.trans q3.1
  have m := q3.2
  refine Wp.tab7 (fun _ => Wp.lets (Wp.lets (Wp.up2 (D := D3) 32 (by decide) (fun g y x h0 k => ?_) (by decide) (by decide)))) (fun _ => Wp.bind (tM_those m) (fun y D4 q4 => by subst q4; exact Wp.ret f3)) (fun _ => Wp.idd (by decide) (Wp.ret f3)) (fun _ => Wp.idd (by decide) (Wp.ret f3)) (fun _ => Wp.idd (by decide) (Wp.ret f3)) (fun _ => Wp.idd (by decide) (Wp.ret f3)) (fun _ => Wp.idd (by decide) (Wp.ret f3)) (fun _ => Wp.lets (Wp.lets (Wp.up2 (D := D3) 32 (by decide) (fun g y x h0 k => ?_) (by decide) (by decide))))
  · unfold lX11_count_58
    exact Wp.ile (fun _ => Wp.ret f3) (fun h => Wp.idx (i_in h0 (by omega)) (Wp.lets (Wp.ite (fun _ => Wp.lets (Wp.lets (k (by omega) _))) (fun _ => Wp.lets (Wp.lets (k (by omega) _))))))
  · unfold lX11_count_133
    refine Wp.ile (fun _ => Wp.bind tM_is (fun z D4 q4 => ?_)) (fun h => Wp.idx (i_in h0 (by omega)) (Wp.lets (Wp.lets (Wp.ite (fun _ => Wp.lets (Wp.lets (k (by omega) _))) (fun _ => Wp.bindE (eM_f ⟨h0, by omega⟩ ⟨by decide, by decide⟩) (Wp.ite (fun _ => Wp.lets (Wp.lets (k (by omega) _))) (fun _ => Wp.lets (Wp.lets (k (by omega) _)))))))))
    obtain ⟨rfl, -⟩ := q4
    exact Wp.lets (Wp.ite (fun _ => Wp.ret f3) (fun _ => Wp.ret f3))
theorem oM_fault {a : Int32} : Wp (fX11_fault a D) (fun _ D1 => FmM D D1) := by
  unfold fX11_fault
  have f1 : FmM D (aSI D 0 0 0) := FmM.code
  exact Wp.lets (Wp.lets (Wp.ite (fun _ => Wp.idd (by decide) (Wp.ret f1)) (fun _ => Wp.ite (fun _ => Wp.idd (by decide) (Wp.ret f1)) (fun _ => Wp.ret f1))))
theorem oM_entry {a b : Int32} (h : QM D) : Wp (fX11_entry a b D) (fun _ D1 => FmM D D1) := by
  unfold fX11_entry
  have f1 : FmM D (aSI D 0 0 0) := FmM.code
  refine Wp.lets (Wp.idd (by decide) ?_)
  rw [cl_0, f1 8 (by omega)]
  have h8 := h.2.1
  have e1 : (D.1 8 0 - 1).toInt = (D.1 8 0).toInt - 1 := ti_sub rfl ti_1 (by omega) (by omega)
  refine Wp.bind tM_is (fun x D2 q => ?_)
  obtain ⟨rfl, q⟩ := q
  refine Wp.lets (Wp.lets (Wp.ite (fun _ => Wp.ret f1) (fun hx => Wp.bind tM_is (fun x2 D4 q4 => ?_))))
  obtain ⟨rfl, q4⟩ := q4
  refine Wp.ite (fun _ => Wp.ret f1) (fun hy => Wp.idx ?_ (Wp.ret f1))
  have q := q hx
  have q4 := q4 hy
  rw [ti_0] at q q4
  have e3 : (3 : Int32).toInt = 3 := by decide
  rw [e3] at q4
  have e4 : ((4 : Int32) * a).toInt = 4 * a.toInt := ti_mul (by decide) rfl (by omega) (by omega)
  have e5 : ((4 : Int32) * a + b).toInt = 4 * a.toInt + b.toInt := ti_add e4 rfl (by omega) (by omega)
  exact i_in (by omega) (by omega)
theorem tM_factOn {a b d : Int32} (h : QM D) (ha : 0 ≤ a.toInt ∧ a.toInt < 32) : Pu (fX11_factOn a b d D) D := by
  unfold fX11_factOn
  have h8 := h.2.1
  have e3 : ((3 : Int32) * a).toInt = 3 * a.toInt := ti_mul (by decide) rfl (by omega) (by omega)
  have e31 : ((3 : Int32) * a + 1).toInt = 3 * a.toInt + 1 := ti_add e3 ti_1 (by omega) (by omega)
  have e32 : ((3 : Int32) * a + 2).toInt = 3 * a.toInt + 2 := ti_add e3 (by decide) (by omega) (by omega)
  refine Wp.letQ (fun Q j => ∀ x, Wp (j x D) Q) (fun x => ?_) (fun j K => Wp.ite (fun _ => Wp.idx (i_in (by omega) (by omega)) (K _)) (fun _ => Wp.ite (fun _ => Wp.idx (i_in (by omega) (by omega)) (K _)) (fun _ => Wp.ite (fun _ => K _) (fun _ => Wp.ite (fun _ => K _) (fun _ => Wp.ite (fun _ => K _) (fun _ => K _))))))
  refine Wp.lets (Wp.lets (Wp.up2 (D := D) 400 (by decide) (fun g y x h0 k => ?_) (by decide) (by decide)))
  unfold lX11_factOn_75
  refine Wp.idd (by decide) ?_
  rw [cl_0]
  refine Wp.ile (fun _ => Wp.ret rfl) (fun hl => ?_)
  have e4 : ((4 : Int32) * x).toInt = 4 * x.toInt := ti_mul (by decide) rfl (by omega) (by omega)
  refine Wp.leti (fun w ew => ?_)
  rw [← ew] at e4
  have e41 : (w + 1).toInt = 4 * x.toInt + 1 := ti_add e4 ti_1 (by omega) (by omega)
  have e42 : (w + 2).toInt = 4 * x.toInt + 2 := ti_add e4 (by decide) (by omega) (by omega)
  have e43 : (w + 3).toInt = 4 * x.toInt + 3 := ti_add e4 (by decide) (by omega) (by omega)
  have k := k (by omega)
  have i1 : vp_in (w + 1) 6400 := i_in (by omega) (by omega)
  have i2 : vp_in (w + 2) 6400 := i_in (by omega) (by omega)
  have i3 : vp_in (w + 3) 6400 := i_in (by omega) (by omega)
  have i0 : vp_in w 6400 := i_in (by omega) (by omega)
  refine Wp.idx i1 (Wp.letQ (fun Q j => ∀ x, Wp (j x D) Q) (fun z => ?_) (fun j K => Wp.lets (Wp.ite (fun _ => Wp.idx i0 (Wp.ite (fun _ => K _) (fun _ => K _))) (fun _ => K _))))
  exact Wp.lets (Wp.ite (fun _ => Wp.lets (k _)) (fun _ => Wp.idx i2 (Wp.lets (Wp.ite (fun _ => Wp.idx i3 (Wp.lets (Wp.lets (k _)))) (fun _ => Wp.idx i2 (Wp.ite (fun _ => Wp.ite (fun _ => Wp.idx i3 (Wp.lets (Wp.lets (k _)))) (fun _ => Wp.lets (k _))) (fun _ => Wp.lets (k _))))))))
theorem oM_fact {a b : Int32} (h : QM D) : Wp (fX11_fact a b D) (fun _ D1 => FmM D D1) := by
  unfold fX11_fact
  have f1 : FmM D (aSI D 0 0 0) := FmM.code
  refine Wp.lets (Wp.bind (tM_st (h.fr f1)) (fun x D2 q => ?_))
  obtain ⟨rfl, q⟩ := q
  refine Wp.lets (Wp.lets (Wp.ite (fun _ => Wp.ret f1) (fun hx => Wp.bind tM_is (fun x2 D4 q4 => ?_))))
  obtain ⟨rfl, -⟩ := q4
  refine Wp.ite (fun _ => Wp.ret f1) (fun hy => Wp.bind tM_day (fun y D5 q5 => ?_))
  subst q5
  refine Wp.bind (tM_factOn (h.fr f1) (q hx)) (fun y D5 q5 => ?_)
  subst q5
  exact Wp.ret f1
end MO
