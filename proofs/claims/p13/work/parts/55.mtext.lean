/-! the reference: lines of a text -/
def mzF (D : ADD) : Int := (D.1 0 24).toInt - (D.1 0 23).toInt + (if D.1 0 26 = 0 then 0 else 1)
section MX
variable {D : ADD}
theorem NX.mz {D1 : ADD} (h : NX D D1) : mzF D1 ≤ mzF D ∧ (D.1 0 26 ≠ 0 → mzF D1 < mzF D) := by
  obtain ⟨⟨h1, h2, h3, h4, h5⟩, h6⟩ := h
  unfold mzF
  rw [h2]
  by_cases a : D.1 0 26 = 0 <;> by_cases b : D1.1 0 26 = 0
  · rw [if_pos a, if_pos b]
    exact ⟨by omega, fun k => absurd a k⟩
  · rw [if_pos a, if_neg b]
    rcases h6 with h6 | h6
    · exact absurd h6 b
    · exact ⟨by omega, fun k => absurd a k⟩
  · rw [if_neg a, if_pos b]
    exact ⟨by omega, fun _ => by omega⟩
  · rw [if_neg a, if_neg b]
    rcases h6 with h6 | h6
    · exact absurd h6 b
    · exact ⟨by omega, fun _ => by omega⟩
/-- a piece of a line was read -/
def PT (D D1 : ADD) : Prop := (∀ c, (1 ≤ c ∧ c ≤ 22) ∨ 30 ≤ c → D1.1 c = D.1 c) ∧ D1.1 0 32 = D.1 0 32 ∧ (RM D1 ∧ TM D1) ∧ mzF D1 ≤ mzF D ∧ (0 ≤ (D.1 0 30).toInt → 0 ≤ (D1.1 0 30).toInt) ∧ (0 < (D.1 0 30).toInt → 0 < (D1.1 0 30).toInt)
theorem PT.refl (r : RM D) (t : TM D) : PT D D := ⟨fun _ _ => rfl, rfl, ⟨r, t⟩, Int.le_refl _, id, id⟩
theorem PT.trans {D1 D2 : ADD} (h : PT D D1) (k : PT D1 D2) : PT D D2 := by
  obtain ⟨h1, h2, h3, h4, h5, h6⟩ := h
  obtain ⟨k1, k2, k3, k4, k5, k6⟩ := k
  exact ⟨fun c hc => (k1 c hc).trans (h1 c hc), k2.trans h2, k3, Int.le_trans k4 h4, fun x => k5 (h5 x), fun x => k6 (h6 x)⟩
theorem NX.pt {D1 : ADD} (h : NX D D1) (r : RM D) (t : TM D) : PT D D1 := by
  refine ⟨fun c hc => h.1.1 c (by omega), h.1.2.2.1.1, ⟨h.1.rm r, ?_⟩, h.mz.1, ?_, ?_⟩
  · unfold TM
    rw [h.1.1 23 (by decide)]
    exact t
  · rw [h.1.2.2.1.2]; exact id
  · rw [h.1.2.2.1.2]; exact id
theorem PT.s0 {D1 : ADD} (h : PT D D1) {i : Nat} {v : Int32} (a : i ≠ 23) (b : i ≠ 24) (c : i ≠ 26) (d : i ≠ 32) (f : i ≠ 30) : PT D (aSI D1 0 i v) := by
  refine h.trans ?_
  have e : ∀ j, i ≠ j → (aSI D1 0 i v).1 0 j = D1.1 0 j := fun j hj => by
    have : ¬ j = i := fun q => hj q.symm
    simp [aSI, this]
  have g : ∀ k, k ≠ 0 → (aSI D1 0 i v).1 k = D1.1 k := fun k hk => by
    funext z
    simp [aSI, hk]
  refine ⟨fun k hk => g k (by omega), e 32 d, ⟨?_, ?_⟩, ?_, ?_, ?_⟩
  · unfold RM
    rw [e 23 a, e 24 b]
    exact h.2.2.1.1
  · unfold TM
    rw [g 23 (by decide)]
    exact h.2.2.1.2
  · unfold mzF
    rw [e 23 a, e 24 b, e 26 c]
    exact Int.le_refl _
  · rw [e 30 f]; exact id
  · rw [e 30 f]; exact id
theorem PT.sl {D1 : ADD} (h : PT D D1) {c i : Nat} {v : Int32} (hc : 24 ≤ c ∧ c ≤ 29) : PT D (aSI D1 c i v) := by
  refine h.trans ?_
  have g : ∀ k, k ≠ c → (aSI D1 c i v).1 k = D1.1 k := fun k hk => by
    funext z
    simp [aSI, hk]
  refine ⟨fun k hk => g k (by omega), by rw [g 0 (by omega)], ⟨?_, ?_⟩, ?_, ?_, ?_⟩
  · unfold RM
    rw [g 0 (by omega)]
    exact h.2.2.1.1
  · unfold TM
    rw [g 23 (by omega)]
    exact h.2.2.1.2
  · unfold mzF
    rw [g 0 (by omega)]
    exact Int.le_refl _
  · rw [g 0 (by omega)]; exact id
  · rw [g 0 (by omega)]; exact id
theorem PT.s23 {D1 : ADD} (h : PT D D1) {i : Nat} {v : Int32} (hv : v.toInt ≤ 4) : PT D (aSI D1 23 i v) := by
  refine h.trans ?_
  have g : ∀ k, k ≠ 23 → (aSI D1 23 i v).1 k = D1.1 k := fun k hk => by
    funext z
    simp [aSI, hk]
  refine ⟨fun k hk => g k (by omega), by rw [g 0 (by omega)], ⟨?_, ?_⟩, ?_, ?_, ?_⟩
  · unfold RM
    rw [g 0 (by omega)]
    exact h.2.2.1.1
  · intro z hz
    show (if 23 = 23 ∧ z = i then v else D1.1 23 z).toInt ≤ 4
    split
    · exact hv
    · exact h.2.2.1.2 z hz
  · unfold mzF
    rw [g 0 (by omega)]
    exact Int.le_refl _
  · rw [g 0 (by omega)]; exact id
  · rw [g 0 (by omega)]; exact id
theorem PT.nx {D1 D2 : ADD} (h : PT D D1) (k : NX D1 D2) : PT D D2 := h.trans (k.pt h.2.2.1.1 h.2.2.1.2)
theorem tM_wrong : fX11_wrong D = some (0, aSI D 0 29 (D.1 0 25)) := rfl
theorem PT.wrong {D1 : ADD} (h : PT D D1) : PT D (aSI D1 0 29 (D1.1 0 25)) := h.s0 (by decide) (by decide) (by decide) (by decide) (by decide)
/-- a word that is wrong here -/
theorem Wp.wrong {D0 : ADD} {Q : Int32 → ADD → Prop} (k : Q 0 (aSI D 0 29 (D.1 0 25))) : Wp (aBind (fX11_wrong D) (fun x D1 => aZ x (some (x, D1)))) Q := Wp.bindE tM_wrong (Wp.z (Or.inl rfl) (Wp.ret k))
theorem tM_isSign {a : Int32} : Pu (fX11_isSign a D) D := by
  unfold fX11_isSign
  have z0 : Wp (aZ 0 (some ((0 : Int32), D))) (fun _ D1 => D1 = D) := Wp.z (Or.inl rfl) (Wp.ret rfl)
  have z1 : Wp (aZ 1 (some ((1 : Int32), D))) (fun _ D1 => D1 = D) := Wp.z (Or.inr rfl) (Wp.ret rfl)
  exact Wp.lets (Wp.lets (Wp.ite (fun _ => Wp.ite (fun _ => z1) (fun _ => z0)) (fun _ => z0)))
theorem tM_isWord {a : Int64} : Wp (fX11_isWord a D) (fun x D1 => D1 = D ∧ (x ≠ 0 → D.1 0 26 = 2)) := by
  unfold fX11_isWord
  have z0 : Wp (aZ 0 (some ((0 : Int32), D))) (fun x D1 => D1 = D ∧ (x ≠ 0 → D.1 0 26 = 2)) := Wp.z (Or.inl rfl) (Wp.ret ⟨rfl, fun k => absurd rfl k⟩)
  exact Wp.lets (Wp.lets (Wp.ite (fun h => Wp.ite (fun _ => Wp.z (Or.inr rfl) (Wp.ret ⟨rfl, fun _ => h⟩)) (fun _ => z0)) (fun _ => z0)))
theorem Wp.wd {Q : Int32 → ADD → Prop} {v : Int64} {A B : ADD → Option (Int32 × ADD)} (ha : Wp (A D) Q) (hb : D.1 0 26 = 2 → Wp (B D) Q) : Wp (aBind (fX11_isWord v D) (fun x D1 => if x = 0 then A D1 else B D1)) Q := by
  refine Wp.bind tM_isWord (fun x D1 q => ?_)
  obtain ⟨rfl, q⟩ := q
  exact Wp.ite (fun _ => ha) (fun h => hb (q h))
theorem Wp.wl {Q : Int32 → ADD → Prop} {v : Int64} {J : Int32 → ADD → Option (Int32 × ADD)} {A B : (Int32 → ADD → Option (Int32 × ADD)) → ADD → Option (Int32 × ADD)} (ha : Wp (A J D) Q) (hb : D.1 0 26 = 2 → Wp (B J D) Q) : Wp (aBind (fX11_isWord v D) (fun x D1 => aLet J (fun j => if x = 0 then A j D1 else B j D1))) Q := by
  refine Wp.bind tM_isWord (fun x D1 q => ?_)
  obtain ⟨rfl, q⟩ := q
  exact Wp.lets (Wp.ite (fun _ => ha) (fun h => hb (q h)))
theorem tM_actWord {a : Int32} : Wp (fX11_actWord a D) (fun x D1 => D1 = D ∧ (x ≠ -1 → D.1 0 26 = 2)) := by
  unfold fX11_actWord
  have n : (fun (x : Int32) (D1 : ADD) => D1 = D ∧ (x ≠ -1 → D.1 0 26 = 2)) (-1) D := ⟨rfl, fun k => absurd rfl k⟩
  have y : ∀ v, D.1 0 26 = 2 → (fun (x : Int32) (D1 : ADD) => D1 = D ∧ (x ≠ -1 → D.1 0 26 = 2)) v D := fun v h => ⟨rfl, fun _ => h⟩
  exact Wp.ite (fun _ => Wp.wl (Wp.wd (Wp.wd (Wp.ret n) (fun h => Wp.ret (y _ h))) (fun h => Wp.ret (y _ h))) (fun h => Wp.ret (y _ h))) (fun _ => Wp.wl (Wp.wd (Wp.wd (Wp.wd (Wp.ret n) (fun h => Wp.ret (y _ h))) (fun h => Wp.ret (y _ h))) (fun h => Wp.ret (y _ h))) (fun h => Wp.ret (y _ h)))
theorem tM_testWord {a : Int32} : Pu (fX11_testWord a D) D := by
  unfold fX11_testWord
  have y : ∀ v : Int32, Wp (some (v, D)) (fun _ D1 => D1 = D) := fun v => Wp.ret rfl
  exact Wp.ite (fun _ => Wp.wl (Wp.wd (Wp.wd (Wp.wd (Wp.wd (Wp.wd (Wp.wd (y _) (fun _ => y _)) (fun _ => y _)) (fun _ => y _)) (fun _ => y _)) (fun _ => y _)) (fun _ => y _)) (fun _ => y _)) (fun _ => Wp.wl (Wp.wd (Wp.wd (Wp.wd (Wp.wd (Wp.wd (Wp.wd (Wp.wd (y _) (fun _ => y _)) (fun _ => y _)) (fun _ => y _)) (fun _ => y _)) (fun _ => y _)) (fun _ => y _)) (fun _ => y _)) (fun _ => y _))
/-- a fault of the whole text is kept -/
theorem tM_later {a b : Int32} (r : RM D) (t : TM D) (ha : 0 < a.toInt) : Wp (fX11_later a b D) (fun _ D1 => PT D D1 ∧ (0 ≤ (D.1 0 30).toInt → 0 < (D1.1 0 30).toInt)) := by
  unfold fX11_later
  refine Wp.lets (Wp.ite (fun h => Wp.leti (fun D2 e2 => Wp.leti (fun D3 e3 => Wp.ret ?_))) (fun h => Wp.ret ⟨PT.refl r t, fun h0 => ?_⟩))
  · have e30 : D2.1 0 30 = a := by rw [e2]; simp [aSI]
    have g : ∀ j, j ≠ 30 → D2.1 0 j = D.1 0 j := fun j hj => by rw [e2]; simp [aSI, hj]
    have g0 : ∀ k, k ≠ 0 → D2.1 k = D.1 k := fun k hk => by rw [e2]; funext z; simp [aSI, hk]
    have p2 : PT D D2 := by
      refine ⟨fun k hk => g0 k (by omega), g 32 (by decide), ⟨?_, ?_⟩, ?_, fun _ => by rw [e30]; omega, fun _ => by rw [e30]; omega⟩
      · unfold RM
        rw [g 23 (by decide), g 24 (by decide)]
        exact r
      · unfold TM
        rw [g0 23 (by decide)]
        exact t
      · unfold mzF
        rw [g 23 (by decide), g 24 (by decide), g 26 (by decide)]
        exact Int.le_refl _
    rw [e3]
    refine ⟨p2.s0 (by decide) (by decide) (by decide) (by decide) (by decide), fun _ => ?_⟩
    have : (aSI D2 0 31 b).1 0 30 = D2.1 0 30 := by simp [aSI]
    rw [this, e30]
    exact ha
  · have : (D.1 0 30).toInt ≠ 0 := fun q => h (Int32.toInt_inj.mp (by rw [q]; rfl))
    omega
theorem tM_need {a : Int32} (r : RM D) (t : TM D) : Wp (fX11_need a D) (fun x D1 => PT D D1 ∧ (x = 0 ∨ x = 1)) := by
  unfold fX11_need
  refine Wp.bind tM_isSign (fun x D1 q => ?_)
  subst q
  exact Wp.ite (fun _ => Wp.wrong (D0 := D1) ⟨(PT.refl r t).wrong, Or.inl rfl⟩) (fun _ => Wp.bind (tM_next r) (fun _ D2 q2 => Wp.ret ⟨q2.pt r t, Or.inr rfl⟩))
theorem tM_numbers {k : Int32} (r : RM D) (t : TM D) (hk : 0 ≤ k.toInt ∧ k.toInt < 17) : Wp (fX11_numbers k D) (fun x D1 => PT D D1) := by
  unfold fX11_numbers
  have ik : vp_in k 17 := i_in hk.1 hk.2
  refine Wp.ite (fun _ => Wp.idx ik (Wp.leti (fun D1 e1 => Wp.idx ik (Wp.leti (fun D2 e2 => ?_))))) (fun _ => Wp.wrong (D0 := D) (PT.refl r t).wrong)
  have p2 : PT D D2 := by rw [e2, e1]; exact ((PT.refl r t).sl (by decide)).sl (by decide)
  refine Wp.bind (tM_next p2.2.2.1.1) (fun _ D3 q3 => ?_)
  have p3 := p2.nx q3
  refine Wp.bind tM_isWord (fun x1 D4 q4 => ?_)
  obtain ⟨rfl, -⟩ := q4
  refine Wp.letQ (fun Q j => ∀ D1, PT D D1 → Wp (j D1) Q) (fun D5 p5 => Wp.ret p5) (fun j K => Wp.ite (fun _ => K _ p3) (fun _ => Wp.bind (tM_next p3.2.2.1.1) (fun _ D6 q6 => ?_)))
  have p6 := p3.nx q6
  refine Wp.ite (fun _ => Wp.idx ik (Wp.letQ (fun Q j => ∀ D1, PT D D1 → Wp (j D1) Q) (fun D7 p7 => Wp.idx ik (Wp.leti (fun D8 e8 => ?_))) (fun j K2 => Wp.ite (fun _ => K2 _ p6) (fun _ => Wp.bind (tM_later p6.2.2.1.1 p6.2.2.1.2 (by decide)) (fun _ D9 q9 => K2 _ (p6.trans q9.1)))))) (fun _ => Wp.wrong (D0 := D6) p6.wrong)
  have p8 : PT D D8 := by rw [e8]; exact p7.sl (by decide)
  exact Wp.bind (tM_next p8.2.2.1.1) (fun _ D9 q9 => K _ (p8.nx q9))
theorem tM_test {a k n : Int32} (r : RM D) (t : TM D) (hk : 0 ≤ k.toInt ∧ k.toInt < 17) (hn : 0 ≤ n.toInt) : Wp (fX11_test a k n D) (fun x D1 => PT D D1) := by
  unfold fX11_test
  have ik : vp_in k 17 := i_in hk.1 hk.2
  have p0 := PT.refl r t
  refine Wp.letQ (fun Q j => ∀ D1, PT D D1 → Wp (j D1) Q) (fun D1 p1 => ?_) (fun j K => Wp.ite (fun _ => Wp.bind (tM_later r t (by decide)) (fun _ D9 q9 => K _ q9.1)) (fun _ => K _ p0))
  refine Wp.bind tM_isWord (fun x1 D2 q2 => ?_)
  obtain ⟨rfl, -⟩ := q2
  refine Wp.letQ (fun Q j => ∀ D1, PT D D1 → Wp (j D1) Q) (fun D3 p3 => ?_) (fun j K => Wp.ite (fun _ => K _ p1) (fun _ => Wp.bind (tM_next p1.2.2.1.1) (fun _ D9 q9 => K _ (p1.nx q9))))
  refine Wp.bind tM_testWord (fun x2 D4 q4 => ?_)
  subst q4
  refine Wp.ite (fun _ => Wp.wrong (D0 := D4) p3.wrong) (fun _ => Wp.bind (tM_next p3.2.2.1.1) (fun _ D5 q5 => Wp.lets ?_))
  have p5 := p3.nx q5
  refine Wp.letQ (fun Q j => Wp (j D5) Q) (Wp.wrong (D0 := D5) p5.wrong) (fun j89 K89 => Wp.ite (fun _ => ?_) (fun _ => K89))
  refine Wp.letQ (fun Q j => Wp (j D5) Q) ?_ (fun j K => Wp.ite (fun _ => K) (fun _ => Wp.ite (fun _ => K) (fun _ => Wp.ite (fun _ => K) (fun _ => K89))))
  refine Wp.bind (tM_next p5.2.2.1.1) (fun _ D9 q9 => ?_)
  have p9 := p5.nx q9
  refine Wp.ite (fun _ => Wp.lets (Wp.bind (tM_next p9.2.2.1.1) (fun _ D10 q10 => ?_))) (fun _ => Wp.wrong (D0 := D9) p9.wrong)
  have p10 := p9.nx q10
  have e4 : (4 : Int32).toInt = 4 := by decide
  have e16 : (16 : Int32).toInt = 16 := by decide
  refine Wp.letQ (fun Q j => ∀ D1, PT D D1 → Wp (j D1) Q) (fun D11 p11 => Wp.ret p11) (fun j K => Wp.ile (fun _ => K _ p10) (fun h4 => Wp.ile (fun _ => K _ p10) (fun h16 => Wp.leti (fun w ew => ?_))))
  have e1 : ((4 : Int32) * k).toInt = 4 * k.toInt := ti_mul e4 rfl (by omega) (by omega)
  have e2 : w.toInt = 4 * k.toInt + n.toInt := by rw [ew]; exact ti_add e1 rfl (by omega) (by omega)
  have n1 : (n + 1).toInt = n.toInt + 1 := ti_add rfl ti_1 (by omega) (by omega)
  have iw : vp_in w 64 := i_in (by omega) (by omega)
  refine Wp.letQ (fun Q j => ∀ x, Wp (j x D10) Q) (fun x7 => Wp.idx iw (Wp.lets (Wp.idx iw (Wp.lets (Wp.idx iw (Wp.lets (Wp.idx ik (Wp.lets (K _ ?_))))))))) (fun j K2 => Wp.ite (fun _ => K2 _) (fun _ => K2 _))
  exact (((p10.sl (by decide)).sl (by decide)).sl (by decide)).s23 (by omega)
end MX
