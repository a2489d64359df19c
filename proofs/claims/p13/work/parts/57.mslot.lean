/-! the reference: now and its images -/
def QMt (D : ADD) (t : Nat) : Prop := (0 ≤ (D.1 5 t).toInt ∧ (D.1 5 t).toInt ≤ 32) ∧ (0 ≤ (D.1 8 t).toInt ∧ (D.1 8 t).toInt ≤ 400) ∧ (∀ k : Nat, (k : Int) < (D.1 8 t).toInt → (0 ≤ (D.1 9 (1600 * t + (4 * k + 1))).toInt ∧ (D.1 9 (1600 * t + (4 * k + 1))).toInt < 32) ∧ -1 ≤ (D.1 9 (1600 * t + (4 * k + 2))).toInt ∧ (D.1 9 (1600 * t + (4 * k + 2))).toInt ≤ 10) ∧ ((D.1 15 (2 * t)).toInt ≤ 16 ∧ (D.1 15 (2 * t + 1)).toInt ≤ 16) ∧ (∀ l, l < 32 → (D.1 16 (32 * t + l)).toInt ≤ 4) ∧ 0 ≤ (D.1 2 t).toInt ∧ (D.1 2 t).toInt ≤ 500
def QMs (D : ADD) : Prop := (∀ t, t < 4 → QMt D t) ∧ TM D
section MS
variable {D : ADD}
theorem QMt.qm (h : QMt D 0) : QM D := by
  obtain ⟨h1, h2, h3, h4, h5, -⟩ := h
  refine ⟨h1, h2, fun k hk => ?_, h4, fun l hl => ?_⟩
  · have := h3 k hk
    rw [Nat.mul_zero, Nat.zero_add, Nat.zero_add] at this
    exact this
  · have := h5 l hl
    rw [Nat.mul_zero, Nat.zero_add] at this
    exact this
theorem QMs.qm (h : QMs D) : QM D := (h.1 0 (by decide)).qm
theorem QMs.len (h : QMs D) : 0 ≤ (D.1 2 0).toInt ∧ (D.1 2 0).toInt ≤ 500 := (h.1 0 (by decide)).2.2.2.2.2
theorem QM.qt (h : QM D) (l : 0 ≤ (D.1 2 0).toInt ∧ (D.1 2 0).toInt ≤ 500) : QMt D 0 := by
  obtain ⟨h1, h2, h3, h4, h5⟩ := h
  refine ⟨h1, h2, fun k hk => ?_, h4, fun i hi => ?_, l⟩
  · rw [Nat.mul_zero, Nat.zero_add, Nat.zero_add]
    exact h3 k hk
  · rw [Nat.mul_zero, Nat.zero_add]
    exact h5 i hi
/-- only the present is changed -/
def NowM (D D1 : ADD) : Prop := ∀ c i, (c = 2 ∨ c = 5 ∨ c = 8 ∨ c = 9 ∨ c = 15 ∨ c = 16) → szM c ≤ i → D1.1 c i = D.1 c i
theorem QMs.now {D1 : ADD} (h : QMs D) (n : NowM D D1) (q : QM D1) (l : 0 ≤ (D1.1 2 0).toInt ∧ (D1.1 2 0).toInt ≤ 500) (t : TM D1) : QMs D1 := by
  refine ⟨fun t ht => ?_, t⟩
  by_cases h0 : t = 0
  · subst h0
    exact q.qt l
  · obtain ⟨h1, h2, h3, h4, h5, h6⟩ := h.1 t ht
    have s2 : szM 2 = 1 := rfl
    have s5 : szM 5 = 1 := rfl
    have s8 : szM 8 = 1 := rfl
    have s9 : szM 9 = 1600 := rfl
    have s15 : szM 15 = 2 := rfl
    have s16 : szM 16 = 32 := rfl
    have e5 := n 5 t (by omega) (by omega)
    have e8 := n 8 t (by omega) (by omega)
    have e2 := n 2 t (by omega) (by omega)
    refine ⟨by rw [e5]; exact h1, by rw [e8]; exact h2, fun k hk => ?_, ?_, fun l hl => ?_, by rw [e2]; exact h6⟩
    · rw [e8] at hk
      rw [n 9 _ (by omega) (by omega), n 9 _ (by omega) (by omega)]
      exact h3 k hk
    · rw [n 15 _ (by omega) (by omega), n 15 _ (by omega) (by omega)]
      exact h4
    · rw [n 16 _ (by omega) (by omega)]
      exact h5 l hl
theorem QMs.fm {D1 : ADD} (h : QMs D) (f : FmM D D1) : QMs D1 := by
  refine h.now (fun c i hc _ => by rw [f c (by omega)]) (h.qm.fr f) (by rw [f 2 (by omega)]; exact h.len) ?_
  unfold TM
  rw [f 23 (by omega)]
  exact h.2
/-- length, today and which images are there, as they were -/
def KM (D D1 : ADD) : Prop := D1.1 2 = D.1 2 ∧ D1.1 6 = D.1 6 ∧ D1.1 39 = D.1 39
theorem FmM.km {D1 : ADD} (f : FmM D D1) : KM D D1 := ⟨f 2 (by omega), f 6 (by omega), f 39 (by omega)⟩
theorem SmM.fm {D1 : ADD} (f : SmM D D1) : FmM D D1 := fun c hc => f.1 c (by omega)
theorem WrM.qs {D1 : ADD} {s f v : Int32} (h : QMs D) (w : WrM D D1 s f v) (he : (D.1 8 0).toInt < 400) (hs : 0 ≤ s.toInt ∧ s.toInt < 32) (hf : -1 ≤ f.toInt ∧ f.toInt ≤ 10) : QMs D1 := by
  obtain ⟨w1, w2, w3, w4⟩ := w
  have q := h.qm
  obtain ⟨q1, q2, q3, q4, q5⟩ := q
  have ek := cl_i q2.1
  have s8 : szM 8 = 1 := rfl
  have s9 : szM 9 = 1600 := rfl
  have n8 : (D1.1 8 0).toInt = (D.1 8 0).toInt + 1 := by rw [w3 0, if_pos rfl]; exact ti_add rfl ti_1 (by omega) (by omega)
  refine h.now (fun c i hc hi => ?_) ⟨by rw [w1 5 (by decide) (by decide)]; exact q1, by omega, fun k hk => ?_, by rw [w1 15 (by decide) (by decide)]; exact q4, by rw [w1 16 (by decide) (by decide)]; exact q5⟩ (by rw [w1 2 (by decide) (by decide)]; exact h.len) ?_
  · by_cases c8 : c = 8
    · subst c8
      rw [w3, if_neg (by omega)]
    · by_cases c9 : c = 9
      · subst c9
        rw [w4, if_neg (by omega), if_neg (by omega), if_neg (by omega), if_neg (by omega)]
      · rw [w1 c c8 c9]
  · by_cases hk2 : k = (D.1 8 0).toNatClampNeg
    · subst hk2
      have a1 : D1.1 9 (4 * (D.1 8 0).toNatClampNeg + 1) = s := by rw [w4, if_neg (by omega), if_pos rfl]
      have a2 : D1.1 9 (4 * (D.1 8 0).toNatClampNeg + 2) = f := by rw [w4, if_neg (by omega), if_neg (by omega), if_pos rfl]
      rw [a1, a2]
      exact ⟨hs, hf⟩
    · have a1 : D1.1 9 (4 * k + 1) = D.1 9 (4 * k + 1) := by rw [w4, if_neg (by omega), if_neg (by omega), if_neg (by omega), if_neg (by omega)]
      have a2 : D1.1 9 (4 * k + 2) = D.1 9 (4 * k + 2) := by rw [w4, if_neg (by omega), if_neg (by omega), if_neg (by omega), if_neg (by omega)]
      rw [a1, a2]
      exact q3 k (by omega)
  · unfold TM
    rw [w1 23 (by decide) (by decide)]
    exact h.2
theorem sM_stone {w st tw : Int32} (h : QMs D) : Wp (fX11_stone w st tw D) (fun _ D1 => QMs D1 ∧ KM D D1) := by
  have q := h.qm
  refine (tM_stone q.1 q.2.1).mono (fun r D1 k => ?_)
  split at k
  · rename_i hc
    obtain ⟨-, D7, k1, k2, k3, k4, k5⟩ := k
    have n5 : (D7.1 5 0).toInt = (D.1 5 0).toInt + 1 := by rw [k3 0, if_pos rfl]; exact ti_add rfl ti_1 (by have := q.1; omega) (by have := q.1; omega)
    have h7 : QMs D7 := by
      refine h.now (fun c i hc hi => ?_) ⟨by have := q.1; omega, by rw [k1 8 (by decide) (by decide) (by decide)]; exact q.2.1, by rw [k1 8 (by decide) (by decide) (by decide), k1 9 (by decide) (by decide) (by decide)]; exact q.2.2.1, by rw [k1 15 (by decide) (by decide) (by decide)]; exact q.2.2.2.1, by rw [k1 16 (by decide) (by decide) (by decide)]; exact q.2.2.2.2⟩ (by rw [k1 2 (by decide) (by decide) (by decide)]; exact h.len) ?_
      · by_cases c5 : c = 5
        · subst c5
          have s5 : szM 5 = 1 := rfl
          rw [k3, if_neg (by omega)]
        · rw [k1 c (by omega) c5 (by omega)]
      · unfold TM
        rw [k1 23 (by decide) (by decide) (by decide)]
        exact h.2
    refine ⟨k5.qs h7 (by rw [k1 8 (by decide) (by decide) (by decide)]; omega) ⟨q.1.1, hc.1⟩ (by decide), ?_⟩
    exact ⟨by rw [k5.1 2 (by decide) (by decide), k1 2 (by decide) (by decide) (by decide)], by rw [k5.1 6 (by decide) (by decide), k1 6 (by decide) (by decide) (by decide)], by rw [k5.1 39 (by decide) (by decide), k1 39 (by decide) (by decide) (by decide)]⟩
  · exact ⟨h.fm k.2.fm, k.2.fm.km⟩
theorem tM_canBe {s f v : Int32} (h : QM D) (hs : 0 ≤ s.toInt ∧ s.toInt < 32) : Wp (fX11_canBe s f v D) (fun x D1 => D1 = D ∧ (x ≠ 0 → 0 ≤ f.toInt ∧ f.toInt ≤ 10)) := by
  unfold fX11_canBe
  have n : (fun (x : Int32) (D1 : ADD) => D1 = D ∧ (x ≠ 0 → 0 ≤ f.toInt ∧ f.toInt ≤ 10)) 0 D := ⟨rfl, fun k => absurd rfl k⟩
  refine Wp.tab (fun i K hK hc => ?_) (fun _ => Wp.ret n)
  have hi : i < 11 := by
    have := List.getElem?_eq_some_iff.mp hK
    obtain ⟨hlt, -⟩ := this
    exact hlt
  have hf : 0 ≤ f.toInt ∧ f.toInt ≤ 10 := by omega
  have y : ∀ x : Int32, (fun (x : Int32) (D1 : ADD) => D1 = D ∧ (x ≠ 0 → 0 ≤ f.toInt ∧ f.toInt ≤ 10)) x D := fun x => ⟨rfl, fun _ => hf⟩
  have z : ∀ {x : Int32}, (x = 0 ∨ x = 1) → Wp (aZ x (some (x, D))) (fun x D1 => D1 = D ∧ (x ≠ 0 → 0 ≤ f.toInt ∧ f.toInt ≤ 10)) := fun hx => Wp.z hx (Wp.ret (y _))
  have is01 : ∀ l u : Int32, Wp (aBind (fX11_is v l u D) (fun x D1 => aZ x (some (x, D1)))) (fun x D1 => D1 = D ∧ (x ≠ 0 → 0 ≤ f.toInt ∧ f.toInt ≤ 10)) := fun l u => by
    refine Wp.bindE (eM_is _ _ _ _) ?_
    by_cases hc : l.toInt ≤ v.toInt ∧ v.toInt ≤ u.toInt
    · rw [if_pos hc]
      exact z (Or.inr rfl)
    · rw [if_neg hc]
      exact z (Or.inl rfl)
  have fo : ∀ g : Int32, ∀ {G : Int32 → ADD → Option (Int32 × ADD)}, (∀ x, Wp (G x D) (fun x D1 => D1 = D ∧ (x ≠ 0 → 0 ≤ f.toInt ∧ f.toInt ≤ 10))) → Wp (aIn 0 4 (aBind (fX11_factOn s g (D.1 6 (0 : Int32).toNatClampNeg) D) G)) (fun x D1 => D1 = D ∧ (x ≠ 0 → 0 ≤ f.toInt ∧ f.toInt ≤ 10)) := fun g G k => by
    refine Wp.idd (by decide) (Wp.bind (tM_factOn h hs) (fun x D1 q => ?_))
    subst q
    exact k x
  match i, hK with
  | 0, hK =>
    cases hK
    exact Wp.bind tM_is (fun x D1 q => by obtain ⟨rfl, -⟩ := q; exact Wp.lets (Wp.lets (Wp.ite (fun _ => z (Or.inl rfl)) (fun _ => fo 3 (fun x => Wp.ite (fun _ => z (Or.inl rfl)) (fun _ => z (Or.inr rfl)))))))
  | 1, hK => cases hK; exact is01 _ _
  | 2, hK => cases hK; exact is01 _ _
  | 3, hK =>
    cases hK
    exact Wp.bind tM_is (fun x D1 q => by obtain ⟨rfl, -⟩ := q; exact Wp.lets (Wp.lets (Wp.ite (fun _ => z (Or.inl rfl)) (fun _ => fo 0 (fun x => Wp.ite (fun _ => z (Or.inl rfl)) (fun _ => z (Or.inr rfl)))))))
  | 4, hK => cases hK; exact is01 _ _
  | 5, hK => cases hK; exact fo 6 (fun x => is01 _ _)
  | 6, hK => cases hK; exact fo 5 (fun x => is01 _ _)
  | 7, hK => cases hK; exact is01 _ _
  | 8, hK => cases hK; exact is01 _ _
  | 9, hK => cases hK; exact is01 _ _
  | 10, hK => cases hK; exact is01 _ _
  | i + 11, hK => cases hK
theorem sM_tell {s f v : Int32} (h : QMs D) : Wp (fX11_tell s f v D) (fun _ D1 => QMs D1 ∧ KM D D1) := by
  unfold fX11_tell
  have f1 : FmM D (aSI D 0 0 0) := FmM.code
  have h1 := h.fm f1
  have q := h1.qm
  refine Wp.lets (Wp.idd (by decide) ?_)
  generalize aSI D 0 0 0 = D1 at f1 h1 q ⊢
  rw [cl_0]
  have e1 : (D1.1 5 0 - 1).toInt = (D1.1 5 0).toInt - 1 := ti_sub rfl ti_1 (by have := q.1; omega) (by have := q.1; omega)
  have q0 := q.1
  have q8 := q.2.1
  refine Wp.bind tM_is (fun x D2 k => ?_)
  obtain ⟨rfl, k⟩ := k
  refine Wp.lets (Wp.ite (fun _ => Wp.ret ⟨h1, f1.km⟩) (fun hx => Wp.idd (by decide) (Wp.ite (fun _ => Wp.ret ⟨h1, f1.km⟩) (fun h4 => ?_))))
  have k := k hx
  rw [ti_0] at k
  have n4 : (D2.1 8 0).toInt ≠ 400 := fun e => h4 (Int32.toInt_inj.mp (by rw [e]; rfl))
  refine Wp.bind (tM_canBe q ⟨k.1, by omega⟩) (fun y D4 q4 => ?_)
  obtain ⟨rfl, q4⟩ := q4
  refine Wp.ite (fun _ => Wp.ret ⟨h1, f1.km⟩) (fun hy => Wp.bind (tM_enter ⟨q8.1, by omega⟩) (fun _ D5 w => Wp.ret ⟨w.qs h1 (by omega) ⟨k.1, by omega⟩ (by have := q4 hy; omega), ?_⟩))
  obtain ⟨a, b, c⟩ := f1.km
  exact ⟨by rw [w.1 2 (by decide) (by decide), a], by rw [w.1 6 (by decide) (by decide), b], by rw [w.1 39 (by decide) (by decide), c]⟩
end MS
