/-! both readers, side by side -/
theorem Wp.flip {α β : Type} {f : Option (α × ADD)} {g : Option (β × ADD)} {R : α → ADD → β → ADD → Prop} (h : Wp g (fun y E => Wp f (fun x D => R x D y E))) : Wp f (fun x D => Wp g (fun y E => R x D y E)) := by
  obtain ⟨y, E, e1, x, D, e2, r⟩ := h
  exact ⟨x, D, e2, y, E, e1, r⟩
theorem Wp.two {α β γ δ : Type} {f : Option (α × ADD)} {g : Option (β × ADD)} {F : α → ADD → Option (γ × ADD)} {G : β → ADD → Option (δ × ADD)} {S : α → ADD → β → ADD → Prop} {R : γ → ADD → δ → ADD → Prop} (h : Wp f (fun x D => Wp g (fun y E => S x D y E))) (k : ∀ x D y E, S x D y E → Wp (F x D) (fun x2 D2 => Wp (G y E) (fun y2 E2 => R x2 D2 y2 E2))) : Wp (aBind f F) (fun x D => Wp (aBind g G) (fun y E => R x D y E)) := by
  obtain ⟨x, D, e1, y, E, e2, r⟩ := h
  rw [e1, e2]
  exact k x D y E r
theorem Wp.rr {α β γ : Type} {f : Option (α × ADD)} {g : Option (β × ADD)} {G : β → ADD → Option (γ × ADD)} {R : α → ADD → γ → ADD → Prop} {y : β} {E : ADD} (h : g = some (y, E)) (k : Wp f (fun x D => Wp (G y E) (fun y2 E2 => R x D y2 E2))) : Wp f (fun x D => Wp (aBind g G) (fun y2 E2 => R x D y2 E2)) := by
  rw [h]
  exact k
/-- a test of a line, by its place -/
def TsR (p : Int32) (D E : ADD) (x : Nat) : Prop := ((0 ≤ (D.1 39 x).toInt ∧ (D.1 39 x).toInt < 8) ∧ (p = 0 → (D.1 39 x).toInt < 7)) ∧ (D.1 42 x = 0 ∨ D.1 42 x = 1) ∧ (E.1 24 x).toInt = (D.1 39 x).toInt + 8 * (D.1 42 x).toInt ∧ E.1 25 x = D.1 40 x ∧ E.1 26 x = D.1 41 x
def LnT (p : Int32) (D E : ADD) (l m : Nat) : Prop := (D.1 38 l = nI m ∧ E.1 23 l = nI m ∧ m ≤ 4) ∧ ∀ t, t < m → TsR p D E (4 * l + t)
def LnD (p : Int32) (D E : ADD) (l : Nat) : Prop := E.1 27 l = D.1 35 l ∧ (0 ≤ (D.1 35 l).toInt ∧ (D.1 35 l).toInt < 4) ∧ (p = 0 → (D.1 35 l).toInt < 3 ∧ ((D.1 35 l).toInt < 2 → (E.1 28 l = D.1 36 l ∧ E.1 29 l = D.1 37 l) ∧ (0 ≤ (D.1 36 l).toInt ∧ (D.1 36 l).toInt ≤ 9999) ∧ (0 ≤ (D.1 37 l).toInt ∧ (D.1 37 l).toInt ≤ 9999) ∧ (D.1 33 1 = 0 → (D.1 36 l).toInt ≤ (D.1 37 l).toInt)))
/-- what neither reader touches -/
def Frm (D0 E0 D E : ADD) : Prop := (∀ c, (c < 33 ∨ 43 ≤ c) → D.1 c = D0.1 c) ∧ (∀ c, ((1 ≤ c ∧ c ≤ 22) ∨ 30 ≤ c) → E.1 c = E0.1 c) ∧ (D0.1 33 1 ≠ 0 → D.1 33 1 ≠ 0)
/-- the faults so far -/
def Flt (D E : ADD) : Prop := D.1 33 1 = E.1 0 30 ∧ 0 ≤ (E.1 0 30).toInt ∧ (D.1 33 1 ≠ 0 → D.1 33 2 = E.1 0 31) ∧ (D.1 33 1 = 0 → D.1 33 2 = -1)
def PS (B : Nat → Int32) (n : Nat) (p : Int32) (D0 E0 : ADD) (L : Nat) (D E : ADD) (s e : Nat) (k : Int32) : Prop := TkX B n D s e k ∧ TkM B n E s e k ∧ Flt D E ∧ (D.1 33 4 = p ∧ E.1 0 32 = nI L) ∧ Frm D0 E0 D E ∧ ∀ l, l < L → l < 16 → (∃ m, LnT p D E l m) ∧ LnD p D E l
/-- refused -/
def PF (D0 E0 D E : ADD) : Prop := (D.1 33 1 = 1 ∧ D.1 33 2 = E.1 0 29) ∧ Frm D0 E0 D E
/-- the tests of the line that is read -/
def CT (p : Int32) (L : Nat) (D E : ADD) (m : Nat) : Prop := L < 16 → LnT p D E L (min m 4)
section SIs
variable {D0 E0 D D1 E E1 : ADD} {B : Nat → Int32} {n L s e : Nat} {k p : Int32}
theorem LnT.fr {l m : Nat} (h : LnT p D E l m) (f : ∀ c, c ≠ 33 → D1.1 c = D.1 c) (g : ∀ c, c ≠ 0 → E1.1 c = E.1 c) : LnT p D1 E1 l m := by
  obtain ⟨⟨a, b, c⟩, d⟩ := h
  refine ⟨⟨by rw [f 38 (by decide)]; exact a, by rw [g 23 (by decide)]; exact b, c⟩, fun t ht => ?_⟩
  have := d t ht
  unfold TsR
  rw [f 39 (by decide), f 40 (by decide), f 41 (by decide), f 42 (by decide), g 24 (by decide), g 25 (by decide), g 26 (by decide)]
  exact this
theorem LnD.fr {l : Nat} (h : LnD p D E l) (f : ∀ c, c ≠ 33 → D1.1 c = D.1 c) (g : ∀ c, c ≠ 0 → E1.1 c = E.1 c) (e1 : D1.1 33 1 = 0 → D.1 33 1 = 0) : LnD p D1 E1 l := by
  obtain ⟨a, b, c⟩ := h
  unfold LnD
  rw [f 35 (by decide), f 36 (by decide), f 37 (by decide), g 27 (by decide), g 28 (by decide), g 29 (by decide)]
  refine ⟨a, b, fun hp => ⟨(c hp).1, fun h2 => ?_⟩⟩
  obtain ⟨c1, c2, c3, c4⟩ := (c hp).2 h2
  exact ⟨c1, c2, c3, fun q => c4 (e1 q)⟩
theorem CT.fr {m : Nat} (h : CT p L D E m) (f : ∀ c, c ≠ 33 → D1.1 c = D.1 c) (g : ∀ c, c ≠ 0 → E1.1 c = E.1 c) : CT p L D1 E1 m := fun hl => (h hl).fr f g
theorem Frm.fr (h : Frm D0 E0 D E) (f : ∀ c, c ≠ 33 → D1.1 c = D.1 c) (g : ∀ c, c ≠ 0 → E1.1 c = E.1 c) (z : D.1 33 1 ≠ 0 → D1.1 33 1 ≠ 0) : Frm D0 E0 D1 E1 :=
  ⟨fun c hc => by rw [f c (by omega), h.1 c hc], fun c hc => by rw [g c (by omega), h.2.1 c hc], fun q => z (h.2.2 q)⟩
theorem Tok.ne (h : Tok B s e k) (hk : k ≠ 0) : s < e := by
  rcases h with ⟨a, b, c⟩ | ⟨a, b, c⟩ | ⟨a, b, c⟩ | ⟨a, b, c⟩
  · have := b.1
    by_cases q : s = e
    · subst q
      exact absurd a b.2.2
    · omega
  · have := b.1
    by_cases q : s = e
    · subst q
      exact absurd a b.2.2
    · omega
  · exact absurd c hk
  · omega
/-- both go on to the next token -/
theorem sim_next (t : TB B n) (h : PS B n p D0 E0 L D E s e k) : Wp (fX5_advance D) (fun _ D1 => Wp (fX11_next E) (fun _ E1 => ∃ s1 e1 k1, PS B n p D0 E0 L D1 E1 s1 e1 k1 ∧ e ≤ s1 ∧ FR D D1 ∧ FN E E1)) := by
  obtain ⟨h1, h2, h3, h4, h5, h6⟩ := h
  have en : e ≤ n := h1.2.2.2.2
  refine (bX_advance t h1.1 h1.2.1.2.1 en).mono (fun _ D1 a => (bM_next t h2.1 h2.2.1.2.1 en).mono (fun _ E1 b => ?_))
  obtain ⟨s1, e1, k1, a1, a2, a3, a4⟩ := a
  obtain ⟨s2, e2, k2, b1, b2, b3, b4, b5⟩ := b
  have es := a1.uniq b1
  subst es
  obtain ⟨ee, ek⟩ := a2.uniq b2
  subst ee
  subst ek
  have sn := t.run nb_blk a1 en
  have le := a2.le t sn
  have f1 : D1.1 33 1 = D.1 33 1 := a4.2.1 1 (by decide) (by decide) (by decide)
  have f2 : D1.1 33 2 = D.1 33 2 := a4.2.1 2 (by decide) (by decide) (by decide)
  have g30 : E1.1 0 30 = E.1 0 30 := b5.2 30 (by decide) (by decide) (by decide) (by decide)
  have g31 : E1.1 0 31 = E.1 0 31 := b5.2 31 (by decide) (by decide) (by decide) (by decide)
  refine ⟨s1, e1, k1, ⟨⟨a4.tp h1.1, a3, a2, le⟩, ⟨b5.tp h2.1, b3, b4, b2, le⟩, ?_, ⟨by rw [a4.2.1 4 (by decide) (by decide) (by decide)]; exact h4.1, by rw [b5.2 32 (by decide) (by decide) (by decide) (by decide)]; exact h4.2⟩, h5.fr a4.1 b5.1 (fun q => by rw [f1]; exact q), fun l hl h16 => ?_⟩, a1.1, a4, b5⟩
  · unfold Flt
    rw [f1, f2, g30, g31]
    exact h3
  · obtain ⟨⟨m, q1⟩, q2⟩ := h6 l hl h16
    exact ⟨⟨m, q1.fr a4.1 b5.1⟩, q2.fr a4.1 b5.1 (fun q => by rw [← f1]; exact q)⟩
/-- both refuse -/
theorem sim_no (h : PS B n p D0 E0 L D E s e k) : Wp (aBind (fX5_refuse D) (fun x D1 => aZ x (some (x, D1)))) (fun x D1 => Wp (aBind (fX11_wrong E) (fun y E1 => aZ y (some (y, E1)))) (fun y E1 => x = 0 ∧ y = 0 ∧ PF D0 E0 D1 E1)) := by
  obtain ⟨h1, h2, h3, h4, h5, h6⟩ := h
  have e1 : fX5_refuse D = some (0, aSI (aSI D 33 1 1) 33 2 (D.1 33 6)) := rfl
  refine Wp.bindE e1 (Wp.z (Or.inl rfl) (Wp.ret (Wp.bindE tM_wrong (Wp.z (Or.inl rfl) (Wp.ret ⟨rfl, rfl, ⟨?_, ?_⟩, ?_⟩)))))
  · rw [si_s, if_neg (by decide), si_s, if_pos rfl]
  · rw [si_s, if_pos rfl, si_s, if_pos rfl, h1.2.1.1, h2.2.1.1]
  · exact h5.fr (fun c hc => by rw [si_o hc, si_o hc]) (fun c hc => si_o hc) (fun _ => by rw [si_s, if_neg (by decide), si_s, if_pos rfl]; decide)
/-- both remark another fault -/
theorem sim_mark {c : Int32} (hc : 0 < c.toInt) (h : PS B n p D0 E0 L D E s e k) : Wp (fX5_remark c (D.1 33 6) D) (fun _ D1 => Wp (fX11_later c (E.1 0 25) E) (fun _ E1 => PS B n p D0 E0 L D1 E1 s e k ∧ (∀ c, c ≠ 33 → D1.1 c = D.1 c) ∧ (∀ c, c ≠ 0 → E1.1 c = E.1 c) ∧ D1.1 33 1 ≠ 0)) := by
  obtain ⟨h1, h2, h3, h4, h5, h6⟩ := id h
  unfold fX5_remark fX11_later
  obtain ⟨f1, f2, f3, f4⟩ := h3
  have cn : c ≠ 0 := fun e => by rw [e, ti_0] at hc; omega
  refine Wp.lets (Wp.ite (fun q => Wp.lets (Wp.lets (Wp.ret (Wp.lets (Wp.pos (by rw [← f1]; exact q) (Wp.lets (Wp.lets (Wp.ret ?_)))))))) (fun q => Wp.ret (Wp.lets (Wp.neg (fun z => q (by rw [f1]; exact z)) (Wp.ret ⟨h, fun _ _ => rfl, fun _ _ => rfl, q⟩)))))
  have gX : ∀ i, i ≠ 1 → i ≠ 2 → (aSI (aSI D 33 1 c) 33 2 (D.1 33 6)).1 33 i = D.1 33 i := fun i a b => by rw [si_s, if_neg b, si_s, if_neg a]
  have gM : ∀ i, i ≠ 30 → i ≠ 31 → (aSI (aSI E 0 30 c) 0 31 (E.1 0 25)).1 0 i = E.1 0 i := fun i a b => by rw [si_s, if_neg b, si_s, if_neg a]
  have oX : ∀ i, i ≠ 33 → (aSI (aSI D 33 1 c) 33 2 (D.1 33 6)).1 i = D.1 i := fun i a => by rw [si_o a, si_o a]
  have oM : ∀ i, i ≠ 0 → (aSI (aSI E 0 30 c) 0 31 (E.1 0 25)).1 i = E.1 i := fun i a => by rw [si_o a, si_o a]
  have x1 : (aSI (aSI D 33 1 c) 33 2 (D.1 33 6)).1 33 1 = c := by rw [si_s, if_neg (by decide), si_s, if_pos rfl]
  have x2 : (aSI (aSI D 33 1 c) 33 2 (D.1 33 6)).1 33 2 = D.1 33 6 := by rw [si_s, if_pos rfl]
  have m0 : (aSI (aSI E 0 30 c) 0 31 (E.1 0 25)).1 0 30 = c := by rw [si_s, if_neg (by decide), si_s, if_pos rfl]
  have m1 : (aSI (aSI E 0 30 c) 0 31 (E.1 0 25)).1 0 31 = E.1 0 25 := by rw [si_s, if_pos rfl]
  have el : (aSI (aSI E 0 30 c) 0 31 (E.1 0 25)).2 = E.2 := rfl
  generalize aSI (aSI D 33 1 c) 33 2 (D.1 33 6) = D1 at gX oX x1 x2 ⊢
  generalize aSI (aSI E 0 30 c) 0 31 (E.1 0 25) = E1 at gM oM m0 m1 el ⊢
  refine ⟨⟨?_, ?_, ?_, ⟨by rw [gX 4 (by decide) (by decide)]; exact h4.1, by rw [gM 32 (by decide) (by decide)]; exact h4.2⟩, h5.fr oX oM (fun _ => by rw [x1]; exact cn), fun l hl h16 => ?_⟩, oX, oM, by rw [x1]; exact cn⟩
  · unfold TkX TpX
    rw [oX 11 (by decide), oX 12 (by decide), gX 6 (by decide) (by decide), gX 7 (by decide) (by decide), gX 5 (by decide) (by decide)]
    exact h1
  · unfold TkM TpM Ctn
    rw [oM 1 (by decide), gM 24 (by decide) (by decide), gM 25 (by decide) (by decide), gM 23 (by decide) (by decide), gM 26 (by decide) (by decide), gM 27 (by decide) (by decide), el]
    exact h2
  · unfold Flt
    rw [x1, x2, m0, m1]
    exact ⟨rfl, by omega, fun _ => by rw [h1.2.1.1, h2.2.1.1], fun q => absurd q cn⟩
  · obtain ⟨⟨m, q1⟩, q2⟩ := h6 l hl h16
    exact ⟨⟨m, q1.fr oX oM⟩, q2.fr oX oM (fun q => absurd (by rw [← x1]; exact q) cn)⟩
end SIs
