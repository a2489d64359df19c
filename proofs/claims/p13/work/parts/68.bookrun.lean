/-! the book's calls, both sides -/
section MCs
variable {E E1 : ADD}
theorem bM_canBe {s f v : Int32} (h : QM E) (hs : 0 ≤ s.toInt ∧ s.toInt < 32) (hg : Gd (fct (mB E) (E.1 6 0) s.toNatClampNeg)) : Wp (fX11_canBe s f v E) (fun x D1 => D1 = E ∧ Bo x (InR f v ∧ Ag (fct (mB E) (E.1 6 0) s.toNatClampNeg) f v)) := by
  unfold fX11_canBe
  refine Wp.tab (fun i K hK hc => ?_) (fun hc => Wp.ret ⟨rfl, Or.inr ⟨rfl, fun k => ?_⟩⟩)
  rotate_left
  · have := k.1.1
    have hc : f.toInt < 0 ∨ 0 + 11 ≤ f.toInt := hc
    omega
  have hi : i < 11 := by
    have := List.getElem?_eq_some_iff.mp hK
    obtain ⟨hlt, -⟩ := this
    exact hlt
  have hf : 0 ≤ f.toInt ∧ f.toInt < 11 := by omega
  have fc : f.toNatClampNeg = i := cl_of (by omega)
  generalize hgg : fct (mB E) (E.1 6 0) s.toNatClampNeg = G at hg ⊢
  have fo : ∀ (g : Int32) (n : Nat), g.toInt = n → n < 11 → fX11_factOn s g (E.1 6 (0 : Int32).toNatClampNeg) E = some (G n, E) := fun g n e hn => by
    rw [cl_0, eM_factOn h hs (by omega), hgg, cl_of e]
  have is01 : ∀ (l u : Int32) (C : Prop), (l.toInt ≤ v.toInt ∧ v.toInt ≤ u.toInt ↔ C) → Wp (aBind (fX11_is v l u E) (fun x D1 => aZ x (some (x, D1)))) (fun x D1 => D1 = E ∧ Bo x C) := fun l u C e => by
    refine Wp.bindE (eM_is _ _ _ _) ?_
    by_cases hc : l.toInt ≤ v.toInt ∧ v.toInt ≤ u.toInt
    · rw [if_pos hc]
      exact Wp.z (Or.inr rfl) (Wp.ret ⟨rfl, Or.inl ⟨rfl, e.mp hc⟩⟩)
    · rw [if_neg hc]
      exact Wp.z (Or.inl rfl) (Wp.ret ⟨rfl, Or.inr ⟨rfl, fun q => hc (e.mpr q)⟩⟩)
  have pl : ∀ (a b : Int), FL i = a → FM i = b → (i ≠ 0 ∧ i ≠ 3 ∧ i ≠ 5 ∧ i ≠ 6) → ∀ l u : Int32, l.toInt = a → u.toInt = b → (l.toInt ≤ v.toInt ∧ v.toInt ≤ u.toInt ↔ (InR f v ∧ Ag G f v)) := fun a b ea eb hn l u el eu => by
    unfold InR Ag
    rw [fc, ea, eb, el, eu, if_neg (by omega), if_neg (by omega), if_neg (by omega), if_neg (by omega)]
    exact ⟨fun q => ⟨⟨hf, q⟩, trivial⟩, fun q => q.1.2⟩
  match i, hK, hc, hi, fc, pl with
  | 0, hK, hc, hi, fc, pl =>
    cases hK
    refine Wp.bindE (eM_is _ _ _ _) (Wp.lets (Wp.lets ?_))
    have L : (1 : Int32).toInt = 1 := by decide
    have U : (30000 : Int32).toInt = 30000 := by decide
    rw [L, U]
    have eq : (InR f v ∧ Ag G f v) ↔ ((1 ≤ v.toInt ∧ v.toInt ≤ 30000) ∧ (G 3).toInt < v.toInt) := by
      unfold InR Ag
      rw [fc, if_pos (by omega)]
      exact ⟨fun q => ⟨q.1.2, q.2⟩, fun q => ⟨⟨hf, q.1⟩, q.2⟩⟩
    by_cases c1 : 1 ≤ v.toInt ∧ v.toInt ≤ 30000
    · rw [if_pos c1]
      refine Wp.neg (by decide) (Wp.idd (by decide) (Wp.bindE (fo 3 3 (by decide) (by decide)) ?_))
      exact Wp.ile (fun q => Wp.z (Or.inl rfl) (Wp.ret ⟨rfl, Or.inr ⟨rfl, fun k => by have := (eq.mp k).2; omega⟩⟩)) (fun q => Wp.z (Or.inr rfl) (Wp.ret ⟨rfl, Or.inl ⟨rfl, eq.mpr ⟨c1, q⟩⟩⟩))
    · rw [if_neg c1]
      exact Wp.pos rfl (Wp.z (Or.inl rfl) (Wp.ret ⟨rfl, Or.inr ⟨rfl, fun k => c1 (eq.mp k).1⟩⟩))
  | 1, hK, hc, hi, fc, pl => cases hK; exact is01 _ _ _ (pl 0 4 rfl rfl (by decide) _ _ (by decide) (by decide))
  | 2, hK, hc, hi, fc, pl => cases hK; exact is01 _ _ _ (pl 0 3 rfl rfl (by decide) _ _ (by decide) (by decide))
  | 3, hK, hc, hi, fc, pl =>
    cases hK
    refine Wp.bindE (eM_is _ _ _ _) (Wp.lets (Wp.lets ?_))
    have L : (0 : Int32).toInt = 0 := by decide
    have U : (2000 : Int32).toInt = 2000 := by decide
    rw [L, U]
    have eq : (InR f v ∧ Ag G f v) ↔ ((0 ≤ v.toInt ∧ v.toInt ≤ 2000) ∧ v.toInt < (G 0).toInt) := by
      unfold InR Ag
      rw [fc, if_neg (by omega), if_pos (by omega)]
      exact ⟨fun q => ⟨q.1.2, q.2⟩, fun q => ⟨⟨hf, q.1⟩, q.2⟩⟩
    by_cases c1 : 0 ≤ v.toInt ∧ v.toInt ≤ 2000
    · rw [if_pos c1]
      refine Wp.neg (by decide) (Wp.idd (by decide) (Wp.bindE (fo 0 0 (by decide) (by decide)) ?_))
      exact Wp.ile (fun q => Wp.z (Or.inl rfl) (Wp.ret ⟨rfl, Or.inr ⟨rfl, fun k => by have := (eq.mp k).2; omega⟩⟩)) (fun q => Wp.z (Or.inr rfl) (Wp.ret ⟨rfl, Or.inl ⟨rfl, eq.mpr ⟨c1, q⟩⟩⟩))
    · rw [if_neg c1]
      exact Wp.pos rfl (Wp.z (Or.inl rfl) (Wp.ret ⟨rfl, Or.inr ⟨rfl, fun k => c1 (eq.mp k).1⟩⟩))
  | 4, hK, hc, hi, fc, pl => cases hK; exact is01 _ _ _ (pl 0 5 rfl rfl (by decide) _ _ (by decide) (by decide))
  | 5, hK, hc, hi, fc, pl =>
    cases hK
    refine Wp.idd (by decide) (Wp.bindE (fo 6 6 (by decide) (by decide)) (is01 _ _ _ ?_))
    have L : (-3000 : Int32).toInt = -3000 := by decide
    have g6 : (G 6).toInt ≤ 1900 := (hg.1 6 (by decide)).2
    unfold InR Ag
    rw [fc, L, if_neg (by omega), if_neg (by omega), if_pos (by omega)]
    exact ⟨fun q => ⟨⟨hf, q.1, by show v.toInt ≤ 1900; omega⟩, q.2⟩, fun q => ⟨q.1.2.1, q.2⟩⟩
  | 6, hK, hc, hi, fc, pl =>
    cases hK
    refine Wp.idd (by decide) (Wp.bindE (fo 5 5 (by decide) (by decide)) (is01 _ _ _ ?_))
    have U : (1900 : Int32).toInt = 1900 := by decide
    have g5 : -3000 ≤ (G 5).toInt := (hg.1 5 (by decide)).1
    unfold InR Ag
    rw [fc, U, if_neg (by omega), if_neg (by omega), if_neg (by omega), if_pos (by omega)]
    exact ⟨fun q => ⟨⟨hf, by show -3000 ≤ v.toInt; omega, q.2⟩, q.1⟩, fun q => ⟨q.2, q.1.2.2⟩⟩
  | 7, hK, hc, hi, fc, pl => cases hK; exact is01 _ _ _ (pl 0 60 rfl rfl (by decide) _ _ (by decide) (by decide))
  | 8, hK, hc, hi, fc, pl => cases hK; exact is01 _ _ _ (pl 0 9 rfl rfl (by decide) _ _ (by decide) (by decide))
  | 9, hK, hc, hi, fc, pl => cases hK; exact is01 _ _ _ (pl 0 1 rfl rfl (by decide) _ _ (by decide) (by decide))
  | 10, hK, hc, hi, fc, pl => cases hK; exact is01 _ _ _ (pl 0 8 rfl rfl (by decide) _ _ (by decide) (by decide))
  | i + 11, hK, hc, hi, fc, pl => omega
theorem FmM.mb (f : FmM E E1) : mB E1 = mB E := by
  show trB (slM E1 0) = trB (slM E 0)
  rw [slM_fm f]
abbrev TlM (E : ADD) (s f v : Int32) : Prop := (0 ≤ s.toInt ∧ s.toInt < (E.1 5 0).toInt) ∧ (E.1 8 0).toInt < 400 ∧ InR f v ∧ Ag (fct (mB E) (E.1 6 0) s.toNatClampNeg) f v
theorem bM_tell {s f v : Int32} (h : QM E) (hg : ∀ i, i < nS (mB E) → Gd (fct (mB E) (E.1 6 0) i)) : Wp (fX11_tell s f v E) (fun r E1 => if TlM E s f v then r = 1 ∧ WrS (mB E) (mB E1) s f v ∧ NwM E E1 ∧ (∀ c, c ≠ 0 → c ≠ 8 → c ≠ 9 → E1.1 c = E.1 c) else r = 0 ∧ FmM E E1) := by
  unfold fX11_tell
  have f1 : FmM E (aSI E 0 0 0) := FmM.code
  have fo : ∀ c, c ≠ 0 → (aSI E 0 0 0).1 c = E.1 c := fun c hc => si_o hc
  have q := h.fr f1
  refine Wp.lets (Wp.idd (by decide) ?_)
  generalize aSI E 0 0 0 = D1 at f1 q fo ⊢
  have q0 := h.1
  have q8 := h.2.1
  have e1 : (E.1 5 0 - 1).toInt = (E.1 5 0).toInt - 1 := ti_sub rfl ti_1 (by omega) (by omega)
  rw [cl_0]
  refine Wp.bindE (eM_is _ _ _ _) (Wp.lets ?_)
  rw [fo 5 (by decide), ti_0, e1]
  by_cases hc : 0 ≤ s.toInt ∧ s.toInt ≤ (E.1 5 0).toInt - 1
  · rw [if_pos hc]
    have es := cl_i hc.1
    have en := cl_i q0.1
    refine Wp.neg (by decide) (Wp.idd (by decide) ?_)
    rw [fo 8 (by decide)]
    refine Wp.ite (fun k => Wp.ret ?_) (fun k => ?_)
    · rw [if_neg (fun z => by have := z.2.1; rw [k] at this; exact absurd this (by decide))]
      exact ⟨rfl, f1⟩
    · have n4 : (E.1 8 0).toInt ≠ 400 := fun e => k (Int32.toInt_inj.mp (by rw [e]; rfl))
      have gi := hg s.toNatClampNeg (by rw [mBs]; omega)
      refine Wp.bind (bM_canBe q ⟨hc.1, by omega⟩ (by rw [f1.mb, fo 6 (by decide)]; exact gi)) (fun y D4 q4 => ?_)
      obtain ⟨rfl, q4⟩ := q4
      rw [f1.mb, fo 6 (by decide)] at q4
      refine Wp.ite (fun hy => Wp.ret ?_) (fun hy => Wp.bind (tM_enter (by rw [fo 8 (by decide)]; omega)) (fun _ D5 w => Wp.ret ?_))
      · rw [if_neg]
        · exact ⟨rfl, f1⟩
        · intro z
          rcases q4 with ⟨a, -⟩ | ⟨-, a⟩
          · rw [a] at hy
            exact absurd hy (by decide)
          · exact a z.2.2
      · rcases q4 with ⟨-, a⟩ | ⟨a, -⟩
        · rw [if_pos ⟨⟨hc.1, by omega⟩, by omega, a⟩]
          obtain ⟨w1, w2⟩ := w.sl (by rw [fo 8 (by decide)]; omega)
          rw [f1.mb] at w1
          exact ⟨rfl, w1, (NwM.fm f1).trans w2, fun c a b d => by rw [w.1 c b d, fo c a]⟩
        · exact absurd a hy
  · rw [if_neg hc]
    refine Wp.pos rfl (Wp.ret ?_)
    rw [if_neg (fun z => hc ⟨z.1.1, by have := z.1.2; omega⟩)]
    exact ⟨rfl, f1⟩
theorem bM_fact {a b : Int32} (h : QM E) : Wp (fX11_fact a b E) (fun r _ => r = if stM E a ∧ 0 ≤ b.toInt ∧ b.toInt ≤ 10 then fct (mB E) (dvF (mB E)) a.toNatClampNeg b.toNatClampNeg else -100000) := by
  unfold fX11_fact
  have f1 : FmM E (aSI E 0 0 0) := FmM.code
  have q := h.fr f1
  have h5 := h.1
  have eS : ∀ a, stM (aSI E 0 0 0) a ↔ stM E a := fun a => by
    unfold stM
    rw [f1.mb, f1 5 (by omega)]
  refine Wp.lets (Wp.bindE (eM_isStone q) (Wp.lets (Wp.lets ?_)))
  have L10 : (10 : Int32).toInt = 10 := by decide
  by_cases hs : stM E a
  · rw [if_pos ((eS a).mpr hs)]
    refine Wp.neg (by decide) (Wp.bindE (eM_is _ _ _ _) ?_)
    rw [ti_0, L10]
    by_cases hb : 0 ≤ b.toInt ∧ b.toInt ≤ 10
    · rw [if_pos hb]
      refine Wp.neg (by decide) (Wp.bindE eM_day (Wp.bindE (eM_factOn q ⟨hs.1.1, by have := hs.1.2; omega⟩ ⟨hb.1, by omega⟩) (Wp.ret ?_)))
      rw [f1.mb, if_pos ⟨hs, hb⟩]
    · rw [if_neg hb]
      exact Wp.pos rfl (Wp.ret (if_neg (fun k => hb k.2)).symm)
  · rw [if_neg (fun k => hs ((eS a).mp k))]
    exact Wp.pos rfl (Wp.ret (if_neg (fun k => hs k.1)).symm)
theorem bM_entry {a b : Int32} (h : QM E) : Wp (fX11_entry a b E) (fun r _ => r = if (0 ≤ a.toInt ∧ a.toInt < (E.1 8 0).toInt) ∧ 0 ≤ b.toInt ∧ b.toInt ≤ 3 then mB E 9 (4 * a.toNatClampNeg + b.toNatClampNeg) else -100000) := by
  unfold fX11_entry
  have f1 : FmM E (aSI E 0 0 0) := FmM.code
  have h8 := h.2.1
  have e1 : (E.1 8 0 - 1).toInt = (E.1 8 0).toInt - 1 := ti_sub rfl ti_1 (by omega) (by omega)
  have L3 : (3 : Int32).toInt = 3 := by decide
  refine Wp.lets (Wp.idd (by decide) (Wp.bindE (eM_is _ _ _ _) (Wp.lets (Wp.lets ?_))))
  rw [cl_0, f1 8 (by omega), ti_0, e1]
  by_cases hc : 0 ≤ a.toInt ∧ a.toInt ≤ (E.1 8 0).toInt - 1
  · rw [if_pos hc]
    refine Wp.neg (by decide) (Wp.bindE (eM_is _ _ _ _) ?_)
    rw [ti_0, L3]
    by_cases hb : 0 ≤ b.toInt ∧ b.toInt ≤ 3
    · rw [if_pos hb]
      have ea := cl_i hc.1
      have eb := cl_i hb.1
      have e4 : ((4 : Int32) * a).toInt = 4 * a.toInt := ti_mul (by decide) rfl (by omega) (by omega)
      have e5 : ((4 : Int32) * a + b).toInt = 4 * a.toInt + b.toInt := ti_add e4 rfl (by omega) (by omega)
      refine Wp.neg (by decide) (Wp.idx (i_in (by omega) (by omega)) (Wp.ret ?_))
      rw [if_pos ⟨⟨hc.1, by omega⟩, hb⟩, f1 9 (by omega), mB9 (by omega), cl_of (x := (4 : Int32) * a + b) (n := 4 * a.toNatClampNeg + b.toNatClampNeg) (by omega)]
    · rw [if_neg hb]
      exact Wp.pos rfl (Wp.ret (if_neg (fun k => hb k.2)).symm)
  · rw [if_neg hc]
    exact Wp.pos rfl (Wp.ret (if_neg (fun k => hc ⟨k.1.1, by have := k.1.2; omega⟩)).symm)
theorem bM_day {a : Int32} : Wp (fX11_day a E) (fun _ E1 => (∀ c, c ≠ 0 → c ≠ 6 → E1.1 c = E.1 c) ∧ ∀ i, E1.1 6 i = if i = 0 ∧ (E.1 6 0).toInt ≤ a.toInt ∧ a.toInt ≤ 9999 then a else E.1 6 i) := by
  unfold fX11_day
  have fo : ∀ c, c ≠ 0 → (aSI E 0 0 0).1 c = E.1 c := fun c hc => si_o hc
  have e9 : (9999 : Int32).toInt = 9999 := by decide
  refine Wp.lets (Wp.idd (by decide) (Wp.bindE (eM_is _ _ _ _) ?_))
  generalize aSI E 0 0 0 = D1 at fo ⊢
  rw [cl_0, fo 6 (by decide), e9]
  by_cases hc : (E.1 6 0).toInt ≤ a.toInt ∧ a.toInt ≤ 9999
  · rw [if_pos hc]
    refine Wp.neg (by decide) (Wp.idd (by decide) (Wp.lets (Wp.ret ⟨fun c a b => by rw [si_o b, fo c a], fun i => ?_⟩)))
    rw [si_s, fo 6 (by decide)]
    by_cases hi : i = 0
    · rw [if_pos hi, if_pos ⟨hi, hc⟩]
    · rw [if_neg hi, if_neg (fun q => hi q.1)]
  · rw [if_neg hc]
    refine Wp.pos rfl (Wp.ret ⟨fun c a _ => fo c a, fun i => ?_⟩)
    rw [if_neg (fun q => hc q.2), fo 6 (by decide)]
theorem bM_view {a : Int32} : Wp (fX11_view a E) (fun _ E1 => (∀ c, c ≠ 0 → c ≠ 7 → E1.1 c = E.1 c) ∧ ∀ i, E1.1 7 i = if i = 0 ∧ -1 ≤ a.toInt ∧ a.toInt ≤ (E.1 6 0).toInt then a else E.1 7 i) := by
  unfold fX11_view
  have fo : ∀ c, c ≠ 0 → (aSI E 0 0 0).1 c = E.1 c := fun c hc => si_o hc
  refine Wp.lets (Wp.idd (by decide) (Wp.bindE (eM_is _ _ _ _) ?_))
  generalize aSI E 0 0 0 = D1 at fo ⊢
  rw [cl_0, fo 6 (by decide), ti_m1]
  by_cases hc : -1 ≤ a.toInt ∧ a.toInt ≤ (E.1 6 0).toInt
  · rw [if_pos hc]
    refine Wp.neg (by decide) (Wp.idd (by decide) (Wp.lets (Wp.ret ⟨fun c a b => by rw [si_o b, fo c a], fun i => ?_⟩)))
    rw [si_s, fo 7 (by decide)]
    by_cases hi : i = 0
    · rw [if_pos hi, if_pos ⟨hi, hc⟩]
    · rw [if_neg hi, if_neg (fun q => hi q.1)]
  · rw [if_neg hc]
    refine Wp.pos rfl (Wp.ret ⟨fun c a _ => fo c a, fun i => ?_⟩)
    rw [if_neg (fun q => hc q.2), fo 7 (by decide)]
end MCs
