section
/-! the reference's spans and who is chosen, beside the class's -/
theorem what_lo : ∀ k, k < 8 → ∀ c, c < 2 → (nI (k + 8 * c) &&& 7) = nI k := by decide +kernel
theorem what_hi : ∀ k, k < 8 → ∀ c, c < 2 → (nI (k + 8 * c) ≤ 7 ↔ c = 0) := by decide +kernel
section SPs
variable {D E E1 : ADD} {o b l : Nat} {wear : Prop} {row : Nat → Int32}
theorem bM_holds (hb : b + l < 32) (hl : l < 16) (r : RuL (xc D) (slM E 0) o b wear l) (hE : ∀ c, 15 ≤ c → c ≤ 22 → E1.1 c = E.1 c) (hr : ∀ i, i < 8 → (wear → i < 7) → E1.1 30 i = row i) : Wp (fX11_holds (nI (b + l)) E1) (fun x D1 => D1 = E1 ∧ Bo x (hldG D (1 + o) row l)) := by
  obtain ⟨m, ⟨a1, a2, a3⟩, a4, -⟩ := r
  have a2 : D.1 (1 + (o + 4)) l = nI m := a2
  rw [show 1 + (o + 4) = 1 + o + 4 by omega] at a2
  rw [sm0 (by decide) (by show b + l < 32; omega)] at a3
  have vm : (nI m).toInt = (m : Int) := nI_toInt (by omega)
  unfold fX11_holds
  have e4 : (4 : Int32) * nI (b + l) = nI (4 * (b + l)) := by
    show (4 : Int32) * nI (b + l) = Int32.ofNat (4 * (b + l))
    rw [Int32.ofNat_mul]
    rfl
  have cb : (nI (b + l)).toNatClampNeg = b + l := nI_clamp (by omega)
  have il : vp_in (nI (b + l)) 128 := vp_in_nI (by omega) (by omega)
  have e16 : E1.1 16 (b + l) = nI m := by rw [hE 16 (by decide) (by decide)]; exact a3
  refine Wp.lets (Wp.lets (Wp.lets (Wp.go1 (fun j D' => D' = E1 ∧ 4 * (b + l) ≤ j ∧ ∀ t, 4 * (b + l) + t < j → (pasG D (1 + o) row (4 * l + t) ↔ aBz (D.1 (1 + o + 8) (4 * l + t)) = 0)) (4 * (b + l) + m) (by omega) (fun g j D' hj hI K => ?_) (k0 := 4 * (b + l)) e4 (by omega) ⟨rfl, Nat.le_refl _, fun t ht => by omega⟩)))
  obtain ⟨rfl, h4, hg⟩ := hI
  unfold lX11_holds_4
  refine Wp.idx il ?_
  rw [cb, e4, e16]
  have vj : (nI j).toInt = (j : Int) := nI_toInt (by omega)
  have vs : (nI (4 * (b + l)) + nI m).toInt = ((4 * (b + l) + m : Nat) : Int) := by
    have := ti_add (nI_toInt (n := 4 * (b + l)) (by omega)) vm (by omega) (by omega)
    omega
  refine Wp.ile (fun q => Wp.ret ⟨rfl, Or.inl ⟨rfl, hl, fun i hi h4' => ?_⟩⟩) (fun q => ?_)
  · rw [a2, vm] at hi
    exact hg i (by omega)
  obtain ⟨t, rfl⟩ : ∃ t, j = 4 * (b + l) + t := ⟨j - 4 * (b + l), by omega⟩
  have tm : t < m := by omega
  have cj : (nI (4 * (b + l) + t)).toNatClampNeg = 4 * (b + l) + t := nI_clamp (by omega)
  have ix : vp_in (nI (4 * (b + l) + t)) 512 := vp_in_nI (by omega) (by omega)
  obtain ⟨⟨k1, k2⟩, n1, w17, w18, w19⟩ := a4 t tm
  have bx : 4 * (b + l) + t < 128 := by omega
  rw [sm0 (by decide) bx] at w17 w18 w19
  have k1 : 0 ≤ (D.1 (1 + (o + 5)) (4 * l + t)).toInt ∧ (D.1 (1 + (o + 5)) (4 * l + t)).toInt < 8 := k1
  have k2 : wear → (D.1 (1 + (o + 5)) (4 * l + t)).toInt < 7 := k2
  have n1 : D.1 (1 + (o + 8)) (4 * l + t) = 0 ∨ D.1 (1 + (o + 8)) (4 * l + t) = 1 := n1
  have w17 : (E.1 17 (4 * (b + l) + t)).toInt = (D.1 (1 + (o + 5)) (4 * l + t)).toInt + 8 * (D.1 (1 + (o + 8)) (4 * l + t)).toInt := w17
  have w18 : E.1 18 (4 * (b + l) + t) = D.1 (1 + (o + 6)) (4 * l + t) := w18
  have w19 : E.1 19 (4 * (b + l) + t) = D.1 (1 + (o + 7)) (4 * l + t) := w19
  rw [show 1 + (o + 5) = 1 + o + 5 by omega] at k1 k2 w17
  rw [show 1 + (o + 8) = 1 + o + 8 by omega] at n1 w17
  rw [show 1 + (o + 6) = 1 + o + 6 by omega] at w18
  rw [show 1 + (o + 7) = 1 + o + 7 by omega] at w19
  rw [cj, hE 17 (by decide) (by decide), hE 18 (by decide) (by decide), hE 19 (by decide) (by decide), w18, w19]
  have ek := cl_i k1.1
  -- the key and whether it is turned
  obtain ⟨c, hc, ec, e17, ez⟩ : ∃ c : Nat, c < 2 ∧ (D.1 (1 + o + 8) (4 * l + t)).toInt = c ∧ E.1 17 (4 * (b + l) + t) = nI ((D.1 (1 + o + 5) (4 * l + t)).toNatClampNeg + 8 * c) ∧ (aBz (D.1 (1 + o + 8) (4 * l + t)) = 0 ↔ c = 0) := by
    rcases n1 with z | z
    · refine ⟨0, by decide, by rw [z]; decide, ti_eq ?_, by rw [z]; decide⟩
      rw [w17, nI_toInt (by omega), z, ti_0]
      omega
    · refine ⟨1, by decide, by rw [z]; decide, ti_eq ?_, by rw [z]; decide⟩
      rw [w17, nI_toInt (by omega), z, ti_1]
      omega
  have kk : (D.1 (1 + o + 5) (4 * l + t)).toNatClampNeg < 8 := by omega
  rw [e17, what_lo _ kk c hc, nI_clamp (by omega), hr _ kk (fun w => by have := k2 w; omega)]
  have pas : pasG D (1 + o) row (4 * l + t) ↔ (if D.1 (1 + o + 6) (4 * l + t) = 60 then row (D.1 (1 + o + 5) (4 * l + t)).toNatClampNeg < D.1 (1 + o + 7) (4 * l + t) else if D.1 (1 + o + 6) (4 * l + t) = 62 then D.1 (1 + o + 7) (4 * l + t) < row (D.1 (1 + o + 5) (4 * l + t)).toNatClampNeg else row (D.1 (1 + o + 5) (4 * l + t)).toNatClampNeg = D.1 (1 + o + 7) (4 * l + t)) := ⟨fun z => z.2.2, fun z => ⟨k1.1, k1.2, z⟩⟩
  generalize row (D.1 (1 + o + 5) (4 * l + t)).toNatClampNeg = v at pas ⊢
  generalize D.1 (1 + o + 7) (4 * l + t) = w at pas ⊢
  have ik : vp_in (nI (D.1 (1 + o + 5) (4 * l + t)).toNatClampNeg) 8 := vp_in_nI (by omega) (by omega)
  have go : ∀ x5 : Int32, (x5 = 0 ∧ ¬ pasG D (1 + o) row (4 * l + t)) ∨ (x5 = 1 ∧ pasG D (1 + o) row (4 * l + t)) → ∀ x6 : Int32, (x6 = if c = 0 then 0 else 1) → Wp (if x5 = x6 then some ((0 : Int32), D') else aLet (nI (4 * (b + l) + t) + (1 : Int32)) (fun x7 => g x7 D')) (fun x D1 => D1 = D' ∧ Bo x (hldG D (1 + o) row l)) := by
    intro x5 h5 x6 h6
    have c01 : c = 0 ∨ c = 1 := by omega
    refine Wp.ite (fun e => Wp.ret ⟨rfl, Or.inr ⟨rfl, fun z => ?_⟩⟩) (fun e => Wp.lets (K (by omega) D' ⟨rfl, by omega, fun u hu => ?_⟩))
    · have z := z.2 t (by rw [a2, vm]; omega) (by omega)
      rw [ez] at z
      rcases h5 with ⟨x, y⟩ | ⟨x, y⟩ <;> rcases c01 with q | q
      · exact y (z.mpr q)
      · rw [x, h6, if_neg (by omega)] at e
        exact absurd e (by decide)
      · rw [x, h6, if_pos q] at e
        exact absurd e (by decide)
      · have := z.mp y
        omega
    · by_cases eu : u = t
      · subst eu
        rw [ez]
        rcases h5 with ⟨x, y⟩ | ⟨x, y⟩ <;> rcases c01 with q | q
        · rw [x, h6, if_pos q] at e
          exact absurd rfl e
        · exact ⟨fun z => absurd z y, fun z => by omega⟩
        · exact ⟨fun _ => q, fun _ => y⟩
        · rw [x, h6, if_neg (by omega)] at e
          exact absurd rfl e
      · exact hg u (by omega)
  have hi := what_hi _ kk c hc
  refine Wp.idx ix (Wp.idx ik (Wp.lets (Wp.idx ix (Wp.lets (Wp.idx ix (Wp.letQ (fun Q j => ∀ x5 : Int32, (x5 = 0 ∧ ¬ pasG D (1 + o) row (4 * l + t)) ∨ (x5 = 1 ∧ pasG D (1 + o) row (4 * l + t)) → Wp (j x5 D') Q) (fun x5 h5 => Wp.idx ix (Wp.lets ?_)) (fun j K5 => ?_)))))))
  · rw [hE 17 (by decide) (by decide), e17]
    refine Wp.ite (fun z => go x5 h5 0 (if_pos (hi.mp z)).symm) (fun z => go x5 h5 1 (if_neg (fun y => z (hi.mpr y))).symm)
  · rw [pas] at K5
    refine Wp.ite (fun s60 => ?_) (fun s60 => Wp.idx ix (Wp.ite (fun s62 => ?_) (fun s62 => ?_)))
    · rw [if_pos s60] at K5
      exact Wp.ite (fun z => K5 0 (Or.inl ⟨rfl, Int32.not_lt.mpr z⟩)) (fun z => K5 1 (Or.inr ⟨rfl, Int32.not_le.mp z⟩))
    · rw [if_neg s60, if_pos s62] at K5
      exact Wp.ite (fun z => K5 0 (Or.inl ⟨rfl, Int32.not_lt.mpr z⟩)) (fun z => K5 1 (Or.inr ⟨rfl, Int32.not_le.mp z⟩))
    · rw [if_neg s60, if_neg s62] at K5
      exact Wp.ite (fun z => K5 1 (Or.inr ⟨rfl, z⟩)) (fun z => K5 0 (Or.inl ⟨rfl, z⟩))
theorem held_eq (v : Int32) : heldF v = aMax (-500) (aMin 1000 v) := by
  refine ti_eq ?_
  have a : (-500 : Int32).toInt = -500 := by decide
  have c : (1000 : Int32).toInt = 1000 := by decide
  rw [ti_max, ti_min, a, c]
  unfold heldF
  split
  · rename_i h
    have h := Int32.le_iff_toInt_le.mp h
    split
    · rename_i h2
      have h2 := Int32.le_iff_toInt_le.mp h2
      omega
    · rename_i h2
      have h2 : ¬ v.toInt ≤ 1000 := fun q => h2 (Int32.le_iff_toInt_le.mpr (by omega))
      omega
  · rename_i h
    have h : ¬ -500 ≤ v.toInt := fun q => h (Int32.le_iff_toInt_le.mpr (by omega))
    omega
theorem one_max (x : Int32) : (if (1 : Int32) ≤ x then x else 1) = aMax 1 x := by
  refine ti_eq ?_
  rw [ti_max, ti_1]
  split
  · rename_i h
    have := Int32.le_iff_toInt_le.mp h
    rw [ti_1] at this
    omega
  · rename_i h
    have : ¬ 1 ≤ x.toInt := fun q => h (Int32.le_iff_toInt_le.mpr (by rw [ti_1]; exact q))
    rw [ti_1]
    omega
/-- the reference's facts of a stone are those that the class knows -/
def FcR (D E1 : ADD) (k : Nat) : Prop := ∀ f, f < 11 → E1.1 32 (11 * k + f) = knX D (nI k) (nI f)
theorem bM_findSpan {k : Nat} (hk : k < 32) (w : RuS (xc D) (slM E 0) 12 0 0 True) (hE : ∀ c, 15 ≤ c → c ≤ 22 → E1.1 c = E.1 c) (hf : FcR D E1 k) : Wp (fX11_findSpan (nI k) E1) (fun _ E2 => (∀ c, c ≠ 30 → c ≠ 33 → c ≠ 34 → E2.1 c = E1.1 c) ∧ (∀ j, E2.1 33 j = if j = k then loX D (nI k) else E1.1 33 j) ∧ ∀ j, E2.1 34 j = if j = k then hiX D (nI k) else E1.1 34 j) := by
  obtain ⟨w1, w2, w3⟩ := w
  rw [sm0 (by decide) (by decide)] at w1
  have w1 : D.1 13 0 = E.1 15 0 := w1
  have w2 : 0 ≤ (D.1 13 0).toInt ∧ (D.1 13 0).toInt ≤ 16 := w2
  have w3 : ∀ l : Nat, (l : Int) < (D.1 13 0).toInt → RuL (xc D) (slM E 0) 12 0 True l := w3
  have vk : (nI k).toInt = (k : Int) := nI_toInt (by omega)
  have ck : (nI k).toNatClampNeg = k := nI_clamp (by omega)
  have hk2 : 0 ≤ (nI k).toInt ∧ (nI k).toInt < 32 := by omega
  have ik : vp_in (nI k) 32 := vp_in_nI hk (by decide)
  have ef : ∀ (D' : ADD) (f : Int32) (n : Nat), f = nI n → n < 11 → D'.1 32 = E1.1 32 → fX11_f (nI k) f D' = some (knX D (nI k) (nI n), D') := fun D' f n e hn h32 => by
    have vn : (nI n).toInt = (n : Int) := nI_toInt (by omega)
    rw [e, eM_f hk2 (by omega), ck, nI_clamp (by omega), h32, hf n hn]
  have en := cl_i w2.1
  unfold fX11_findSpan
  refine Wp.bindE (ef _ 1 1 rfl (by decide) rfl) (Wp.idd (by decide) (Wp.lets (Wp.bindE (ef _ 2 2 rfl (by decide) (si_o (by decide))) (Wp.idd (by decide) (Wp.lets (Wp.bindE (ef _ 3 3 rfl (by decide) (by rw [si_o (by decide), si_o (by decide)])) (Wp.idd (by decide) (Wp.lets (Wp.bindE (ef _ 4 4 rfl (by decide) (by rw [si_o (by decide), si_o (by decide), si_o (by decide)])) (Wp.idd (by decide) (Wp.lets (Wp.bindE (ef _ 7 7 rfl (by decide) (by rw [si_o (by decide), si_o (by decide), si_o (by decide), si_o (by decide)])) (Wp.idd (by decide) (Wp.lets (Wp.bindE (ef _ 8 8 rfl (by decide) (by rw [si_o (by decide), si_o (by decide), si_o (by decide), si_o (by decide), si_o (by decide)])) (Wp.idd (by decide) (Wp.lets (Wp.bindE (ef _ 6 6 rfl (by decide) (by rw [si_o (by decide), si_o (by decide), si_o (by decide), si_o (by decide), si_o (by decide), si_o (by decide)])) (Wp.idd (by decide) (Wp.leti (fun Ea ea => ?_)))))))))))))))))))))
  have fa : ∀ c, c ≠ 30 → Ea.1 c = E1.1 c := fun c hc => by rw [ea, si_o hc, si_o hc, si_o hc, si_o hc, si_o hc, si_o hc, si_o hc]
  have ra : ∀ i, i < 8 → (True → i < 7) → Ea.1 30 i = trF D (nI k) i := fun i _ h7 => by
    have h7 := h7 trivial
    have : i = 0 ∨ i = 1 ∨ i = 2 ∨ i = 3 ∨ i = 4 ∨ i = 5 ∨ i = 6 := by omega
    rw [ea]
    simp only [si_s]
    rcases this with rfl | rfl | rfl | rfl | rfl | rfl | rfl <;> rfl
  clear ea
  have ea32 : Ea.1 32 = E1.1 32 := fa 32 (by decide)
  refine Wp.letQ (fun Q j => Wp (j (wrX D (nI k)).1 (wrX D (nI k)).2 Ea) Q) ?_ (fun j K => Wp.lets ?_)
  · have F : ∀ t, knX D (nI k) 0 - knX D (nI k) 3 + (knX D (nI k) 0 - knX D (nI k) 3) * heldF t / 1000 = knX D (nI k) 0 - knX D (nI k) 3 + (knX D (nI k) 0 - knX D (nI k) 3) * aMax (-500) (aMin 1000 t) / 1000 := fun t => by rw [held_eq]
    refine Wp.bindE (ef _ 0 0 rfl (by decide) ea32) (Wp.bindE (ef _ 3 3 rfl (by decide) ea32) (Wp.lets (Wp.bindE (eM_held _) (Wp.nz (by decide) (Wp.leti (fun x14 e14 => Wp.bindE (eM_held _) (Wp.nz (by decide) (Wp.leti (fun x16 e16 => ?_)))))))))
    have e14 : x14 = knX D (nI k) 0 - knX D (nI k) 3 + (knX D (nI k) 0 - knX D (nI k) 3) * aMax (-500) (aMin 1000 (wrX D (nI k)).1) / 1000 := by rw [e14, ← F]; rfl
    have e16 : x16 = knX D (nI k) 0 - knX D (nI k) 3 + (knX D (nI k) 0 - knX D (nI k) 3) * aMax (-500) (aMin 1000 (wrX D (nI k)).2) / 1000 := by rw [e16, ← F]; rfl
    refine Wp.letQ (fun Q j => ∀ x, x = loX D (nI k) → Wp (j x Ea) Q) (fun x hx => ?_) (fun j K => Wp.ite (fun q => K _ ?_) (fun q => K _ ?_))
    rotate_left
    · have := one_max x14
      rw [if_pos q] at this
      rw [this, e14]
      rfl
    · have := one_max x14
      rw [if_neg q] at this
      rw [this, e14]
      rfl
    refine Wp.idx ik (Wp.leti (fun Eb eb => Wp.letQ (fun Q j => ∀ y, y = hiX D (nI k) → Wp (j y Eb) Q) (fun y hy => ?_) (fun j K => Wp.ite (fun q => K _ ?_) (fun q => K _ ?_))))
    rotate_left
    · have := one_max x16
      rw [if_pos q] at this
      rw [this, e16]
      rfl
    · have := one_max x16
      rw [if_neg q] at this
      rw [this, e16]
      rfl
    rw [ck] at eb
    refine Wp.idx ik (Wp.lets (Wp.ret ⟨fun c c30 c33 c34 => ?_, fun j => ?_, fun j => ?_⟩))
    · rw [ck, si_o c34, eb, si_o c33, fa c c30]
    · rw [ck, si_o (by decide), eb, si_s, hx, fa 33 (by decide)]
    · rw [ck, si_s, hy, eb, si_o (by decide), fa 34 (by decide)]
  · -- line by line
    refine Wp.fix4 (fun m x19 x20 x21 x22 D' => D' = Ea ∧ ∃ l : Nat, x22 = nI l ∧ (l ≤ (D.1 13 0).toNatClampNeg ∨ (x21 = 0 ∧ l ≤ 17)) ∧ ((x21 = 1 ∧ wrF D (trF D (nI k)) x19 x20 l ((D.1 13 0).toNatClampNeg - l) = wrX D (nI k)) ∨ (x21 = 0 ∧ (x19, x20) = wrX D (nI k))) ∧ 20 < m + l) ?_ ?_ aFuel 1000000 _ _ _ _ _ (Nat.le_refl _) ⟨rfl, 0, rfl, Or.inl (Nat.zero_le _), Or.inl ⟨rfl, rfl⟩, by omega⟩
    rotate_left
    · intro x19 x20 x21 x22 D' hI
      obtain ⟨-, l, -, h1, -, h2⟩ := hI
      omega
    intro m g hg x19 x20 x21 x22 D' hI
    obtain ⟨rfl, l, rfl, h1, h2, h3⟩ := hI
    unfold lX11_findSpan_102
    refine Wp.idd (by decide) ?_
    rw [cl_0, fa 15 (by decide), hE 15 (by decide) (by decide), ← w1]
    have vl : (nI l).toInt = (l : Int) := nI_toInt (by omega)
    have cl : (nI l).toNatClampNeg = l := nI_clamp (by omega)
    have fin : (x19, x20) = wrX D (nI k) → Wp (j x19 x20 D') _ := fun e => by
      have e1 : x19 = (wrX D (nI k)).1 := by rw [← e]
      have e2 : x20 = (wrX D (nI k)).2 := by rw [← e]
      rw [e1, e2]
      exact K
    refine Wp.ile (fun q => fin ?_) (fun q => ?_)
    · rcases h2 with ⟨-, h2⟩ | ⟨-, h2⟩
      · rw [show (D.1 13 0).toNatClampNeg - l = 0 by omega] at h2
        exact h2
      · exact h2
    refine Wp.ite (fun z => fin ?_) (fun z => ?_)
    · rcases h2 with ⟨h2, -⟩ | ⟨-, h2⟩
      · rw [h2] at z
        exact absurd z (by decide)
      · exact h2
    obtain ⟨g1, h2⟩ := h2.resolve_right (fun y => z y.1)
    have l16 : l < 16 := by omega
    have rl := w3 l (by omega)
    have rl2 := rl
    obtain ⟨mm, -, -, d1, d2, d3⟩ := rl
    obtain ⟨d3, d4⟩ := d3 trivial
    rw [sm0 (by decide) (by show 0 + l < 32; omega), Nat.zero_add] at d1
    have d1 : E.1 20 l = D.1 14 l := d1
    have d2 : 0 ≤ (D.1 14 l).toInt ∧ (D.1 14 l).toInt < 4 := d2
    have d3 : (D.1 14 l).toInt < 3 := d3
    have d4 : (D.1 14 l).toInt < 2 → (slM E 0 21 (0 + l) = D.1 15 l ∧ slM E 0 22 (0 + l) = D.1 16 l) ∧ _ := d4
    have st : wrF D (trF D (nI k)) x19 x20 l ((D.1 13 0).toNatClampNeg - l) = @ite _ (hldG D 13 (trF D (nI k)) l) (Classical.propDecidable _) (if D.1 14 l = 2 then (x19, x20) else wrF D (trF D (nI k)) (x19 + (if D.1 14 l = 1 then -D.1 16 l else D.1 15 l)) (x20 + (if D.1 14 l = 1 then -D.1 15 l else D.1 16 l)) (l + 1) ((D.1 13 0).toNatClampNeg - (l + 1))) (wrF D (trF D (nI k)) x19 x20 (l + 1) ((D.1 13 0).toNatClampNeg - (l + 1))) := by
      rw [show (D.1 13 0).toNatClampNeg - l = ((D.1 13 0).toNatClampNeg - (l + 1)) + 1 by omega]
      rfl
    rw [st] at h2
    have hh := bM_holds (E1 := D') (row := trF D (nI k)) (b := 0) (l := l) (o := 12) (by omega) l16 rl2 (fun c a b => by rw [fa c (by omega), hE c a b]) ra
    rw [Nat.zero_add] at hh
    refine Wp.bind hh (fun x23 D25 q23 => ?_)
    obtain ⟨rfl, q23⟩ := q23
    have il : vp_in (nI l) 128 := vp_in_nI (by omega) (by decide)
    have f20 : D25.1 20 l = D.1 14 l := by rw [fa 20 (by decide), hE 20 (by decide) (by decide)]; exact d1
    refine Wp.lets (Wp.ite (fun z0 => ?_) (fun z0 => ?_))
    · have nh : ¬ hldG D 13 (trF D (nI k)) l := by
        rcases q23 with ⟨y, -⟩ | ⟨-, y⟩
        · rw [y] at z0
          exact absurd z0 (by decide)
        · exact y
      rw [if_neg nh] at h2
      exact Wp.lets (hg _ _ _ _ _ ⟨rfl, l + 1, (nI_succ l).symm, Or.inl (by omega), Or.inl ⟨g1, h2⟩, by omega⟩)
    · have yh : hldG D 13 (trF D (nI k)) l := by
        rcases q23 with ⟨-, y⟩ | ⟨y, -⟩
        · exact y
        · exact absurd y z0
      rw [if_pos yh] at h2
      refine Wp.idx il ?_
      rw [cl, f20]
      have v2 : (2 : Int32).toInt = 2 := by decide
      by_cases s2 : (D.1 14 l).toInt = 2
      · have e2 : D.1 14 l = 2 := ti_eq (by rw [s2]; rfl)
        rw [if_pos e2] at h2
        refine Wp.lets (Wp.pos (Int32.le_iff_toInt_le.mpr (by omega)) (Wp.pos rfl (Wp.lets (hg _ _ _ _ _ ⟨rfl, l + 1, (nI_succ l).symm, Or.inr ⟨rfl, by omega⟩, Or.inr ⟨rfl, h2⟩, by omega⟩))))
      · have e2 : ¬ D.1 14 l = 2 := fun y => s2 (by rw [y]; rfl)
        rw [if_neg e2] at h2
        obtain ⟨⟨o1, o2⟩, -⟩ := d4 (by omega)
        rw [sm0 (by decide) (by show 0 + l < 32; omega), Nat.zero_add] at o1 o2
        have f21 : D25.1 21 l = D.1 15 l := by rw [fa 21 (by decide), hE 21 (by decide) (by decide)]; exact o1
        have f22 : D25.1 22 l = D.1 16 l := by rw [fa 22 (by decide), hE 22 (by decide) (by decide)]; exact o2
        refine Wp.lets (Wp.neg (fun y => by have := Int32.le_iff_toInt_le.mp y; omega) (Wp.neg (by decide) (Wp.idx il ?_)))
        rw [f20]
        by_cases s0 : (D.1 14 l).toInt = 0
        · have e0 : D.1 14 l = 0 := ti_eq (by rw [s0]; rfl)
          have e1 : ¬ D.1 14 l = 1 := fun y => by rw [e0] at y; exact absurd y (by decide)
          rw [if_neg e1, if_neg e1] at h2
          rw [f21, f22]
          refine Wp.lets (Wp.pos e0 (Wp.idx il (Wp.lets (Wp.idx il ?_))))
          rw [f20, f22]
          exact Wp.lets (Wp.pos e0 (Wp.idx il (Wp.lets (Wp.lets (hg _ _ _ _ _ ⟨rfl, l + 1, (nI_succ l).symm, Or.inl (by omega), Or.inl ⟨rfl, h2⟩, by omega⟩)))))
        · have e0 : ¬ D.1 14 l = 0 := fun y => s0 (by rw [y]; rfl)
          have e1 : D.1 14 l = 1 := ti_eq (by rw [ti_1]; omega)
          rw [if_pos e1, if_pos e1] at h2
          rw [f21, f22]
          refine Wp.lets (Wp.neg e0 (Wp.idx il (Wp.lets (Wp.idx il ?_))))
          rw [f20, f21]
          exact Wp.lets (Wp.neg e0 (Wp.idx il (Wp.lets (Wp.lets (hg _ _ _ _ _ ⟨rfl, l + 1, (nI_succ l).symm, Or.inl (by omega), Or.inl ⟨rfl, h2⟩, by omega⟩)))))
end SPs
end
section
/-! who is chosen, in the reference and in the class -/
theorem and1 (x : Int32) : x &&& 1 = 0 ∨ x &&& 1 = 1 := by
  have a : (x &&& 1).toBitVec = x.toBitVec &&& 1#32 := rfl
  have h : (x &&& 1).toBitVec.toNat < 2 := by
    rw [a, BitVec.toNat_and]
    exact Nat.lt_of_le_of_lt Nat.and_le_right (by decide)
  have : (x &&& 1).toBitVec.toNat = 0 ∨ (x &&& 1).toBitVec.toNat = 1 := by omega
  rcases this with q | q
  · exact Or.inl (Int32.toBitVec_inj.mp (BitVec.eq_of_toNat_eq q))
  · exact Or.inr (Int32.toBitVec_inj.mp (BitVec.eq_of_toNat_eq q))
theorem bt_63 : ∀ n, n < 6 → bt 63 n = true := by decide +kernel
theorem bt_31 : ∀ n, n < 5 → bt 31 n = true := by decide +kernel
theorem msk {x m : Int32} {n : Nat} (hn : n < 32) (hm : bt m n = true) : (((x &&& m) >>> (nI n &&& 31)) &&& 1) = 1 ↔ ¬ ((x >>> (nI n &&& 31)) &&& 1) = 0 := by
  have a : ((((x &&& m) >>> (nI n &&& 31)) &&& 1) = 0) ↔ ((x >>> (nI n &&& 31)) &&& 1) = 0 := by
    rw [bit_t hn, bit_t hn, b_and, hm, Bool.and_true]
  rw [← a]
  constructor
  · intro h k
    rw [h] at k
    exact absurd k (by decide)
  · intro h
    exact (and1 _).resolve_left h
section CHs
variable {D E E1 : ADD}
theorem bM_isChosen {k : Nat} (hk : k < 32) (c : RCh (xc D) (slM E 0)) (hE : ∀ c, 11 ≤ c → c ≤ 14 → E1.1 c = E.1 c) (hf : FcR D E1 k) (h4 : 0 ≤ (knX D (nI k) 4).toInt ∧ (knX D (nI k) 4).toInt ≤ 5) (h1 : 0 ≤ (knX D (nI k) 1).toInt ∧ (knX D (nI k) 1).toInt ≤ 4) : Wp (fX11_isChosen (nI k) E1) (fun x D1 => D1 = E1 ∧ Bo x (chX D (nI k))) := by
  obtain ⟨c0, c1, c2, c3, c4⟩ := c
  rw [sm0 (by decide) (by decide)] at c0 c1 c2 c3 c4
  have c0 : D.1 31 0 = E.1 11 0 &&& 63 := c0
  have c1 : D.1 31 1 = E.1 12 0 &&& 31 := c1
  have c2 : D.1 31 2 = E.1 13 0 := c2
  have c3 : D.1 31 3 = E.1 13 1 := c3
  have c4 : D.1 31 4 = E.1 14 0 := c4
  have vk : (nI k).toInt = (k : Int) := nI_toInt (by omega)
  have ck : (nI k).toNatClampNeg = k := nI_clamp (by omega)
  have hk2 : 0 ≤ (nI k).toInt ∧ (nI k).toInt < 32 := by omega
  have ef : ∀ (f : Int32) (n : Nat), f = nI n → n < 11 → fX11_f (nI k) f E1 = some (knX D (nI k) (nI n), E1) := fun f n e hn => by
    have vn : (nI n).toInt = (n : Int) := nI_toInt (by omega)
    rw [e, eM_f hk2 (by omega), ck, nI_clamp (by omega), hf n hn]
  have v4 : knX D (nI k) 4 = nI (knX D (nI k) 4).toNatClampNeg := nI_val h4.1
  have v1 : knX D (nI k) 1 = nI (knX D (nI k) 1).toNatClampNeg := nI_val h1.1
  have e4 := cl_i h4.1
  have e1 := cl_i h1.1
  have b4 : ((D.1 31 0 >>> (knX D (nI k) 4 &&& 31)) &&& 1) = 1 ↔ ¬ ((E.1 11 0 >>> (knX D (nI k) 4 &&& 31)) &&& 1) = 0 := by
    rw [c0, v4]
    exact msk (by omega) (bt_63 _ (by omega))
  have b1 : ((D.1 31 1 >>> (knX D (nI k) 1 &&& 31)) &&& 1) = 1 ↔ ¬ ((E.1 12 0 >>> (knX D (nI k) 1 &&& 31)) &&& 1) = 0 := by
    rw [c1, v1]
    exact msk (by omega) (bt_31 _ (by omega))
  have z1 : (1 : Int32).toNatClampNeg = 1 := by decide
  unfold fX11_isChosen
  refine Wp.bindE (ef 5 5 rfl (by decide)) (Wp.idd (by decide) ?_)
  rw [z1, cl_0, hE 13 (by decide) (by decide)]
  -- layer and mark
  refine Wp.letQ (fun Q j => ∀ x2 : Int32, Bo x2 (knX D (nI k) 5 ≤ D.1 31 3 ∧ D.1 31 2 ≤ knX D (nI k) 6) → Wp (j x2 E1) Q) (fun x2 h2 => ?_) (fun j K => ?_)
  · refine Wp.idd (by decide) ?_
    rw [hE 14 (by decide) (by decide)]
    refine Wp.letQ (fun Q j => ∀ x3 : Int32, Bo x3 (D.1 31 4 = 0 ∨ (D.1 31 4 = 1 ↔ 0 < knX D (nI k) 7)) → Wp (j x3 E1) Q) (fun x3 h3 => ?_) (fun j K => ?_)
    · refine Wp.bindE (ef 9 9 rfl (by decide)) (Wp.lets (Wp.lets ?_))
      have no : ¬ chX D (nI k) → Wp (aZ 0 (some ((0 : Int32), E1))) (fun x D1 => D1 = E1 ∧ Bo x (chX D (nI k))) := fun q => Wp.z (Or.inl rfl) (Wp.ret ⟨rfl, Or.inr ⟨rfl, q⟩⟩)
      refine Wp.ite (fun h9 => Wp.idd (by decide) (Wp.bindE (ef 4 4 rfl (by decide)) ?_)) (fun h9 => no (fun q => h9 q.1))
      rw [hE 11 (by decide) (by decide)]
      refine Wp.ite (fun q4 => no (fun q => b4.mp q.2.1 q4)) (fun q4 => Wp.idd (by decide) (Wp.bindE (ef 1 1 rfl (by decide)) ?_))
      rw [hE 12 (by decide) (by decide)]
      refine Wp.ite (fun q1 => no (fun q => b1.mp q.2.2.1 q1)) (fun q1 => Wp.ite (fun q2 => no (fun q => ?_)) (fun q2 => Wp.ite (fun q3 => no (fun q => ?_)) (fun q3 => Wp.z (Or.inr rfl) (Wp.ret ⟨rfl, Or.inl ⟨rfl, h9, b4.mpr q4, b1.mpr q1, ?_⟩⟩))))
      · rw [h2.t ⟨q.2.2.2.1, q.2.2.2.2.1⟩] at q2
        exact absurd q2 (by decide)
      · rw [h3.t q.2.2.2.2.2] at q3
        exact absurd q3 (by decide)
      · rcases h2 with ⟨-, y2⟩ | ⟨y2, -⟩
        · rcases h3 with ⟨-, y3⟩ | ⟨y3, -⟩
          · exact ⟨y2.1, y2.2, y3⟩
          · exact absurd y3 q3
        · exact absurd y2 q2
    · rw [← c4]
      have yes : (D.1 31 4 = 0 ∨ (D.1 31 4 = 1 ↔ 0 < knX D (nI k) 7)) → Wp (j 1 E1) _ := fun q => K 1 (Or.inl ⟨rfl, q⟩)
      refine Wp.lets (Wp.ite (fun q0 => yes (Or.inl q0)) (fun q0 => Wp.idd (by decide) ?_))
      refine Wp.letQ (fun Q j => ∀ x8 : Int32, Bo x8 (D.1 31 4 = 1) → Wp (j x8 E1) Q) (fun x8 h8 => ?_) (fun j K8 => Wp.ite (fun q => K8 1 (Or.inl ⟨rfl, q⟩)) (fun q => K8 0 (Or.inr ⟨rfl, q⟩)))
      refine Wp.bindE (ef 7 7 rfl (by decide)) ?_
      refine Wp.letQ (fun Q j => ∀ x10 : Int32, Bo x10 (0 < knX D (nI k) 7) → Wp (j x10 E1) Q) (fun x10 h10 => ?_) (fun j K10 => Wp.ite (fun q => K10 0 (Or.inr ⟨rfl, Int32.not_lt.mpr q⟩)) (fun q => K10 1 (Or.inl ⟨rfl, Int32.not_le.mp q⟩)))
      refine Wp.ite (fun q => yes (Or.inr ?_)) (fun q => K 0 (Or.inr ⟨rfl, fun y => ?_⟩))
      · rcases h8 with ⟨a, y8⟩ | ⟨a, y8⟩ <;> rcases h10 with ⟨b, y10⟩ | ⟨b, y10⟩
        · exact ⟨fun _ => y10, fun _ => y8⟩
        · rw [a, b] at q
          exact absurd q (by decide)
        · rw [a, b] at q
          exact absurd q (by decide)
        · exact ⟨fun z => absurd z y8, fun z => absurd z y10⟩
      · have y := y.resolve_left q0
        rcases h8 with ⟨a, y8⟩ | ⟨a, y8⟩ <;> rcases h10 with ⟨b, y10⟩ | ⟨b, y10⟩
        · exact q (by rw [a, b])
        · exact y10 (y.mp y8)
        · exact y8 (y.mpr y10)
        · exact q (by rw [a, b])
  · rw [← c3]
    refine Wp.lets (Wp.ite (fun q => K 0 (Or.inr ⟨rfl, fun y => Int32.not_le.mpr q y.1⟩)) (fun q => Wp.bindE (ef 6 6 rfl (by decide)) (Wp.idd (by decide) ?_)))
    rw [hE 13 (by decide) (by decide), ← c2]
    exact Wp.ite (fun q2 => K 0 (Or.inr ⟨rfl, fun y => Int32.not_le.mpr q2 y.2⟩)) (fun q2 => K 1 (Or.inl ⟨rfl, Int32.not_lt.mp q, Int32.not_lt.mp q2⟩))
end CHs
end
section
/-! the reference looks: its rows are what the class knows -/
section LKs
variable {M : Sl} {d : Int32}
theorem cn_ex : ∀ {n s : Nat}, s < cnL M n → ∃ q, q < n ∧ eF M q = -1 ∧ cnL M q = s
  | 0, s, h => absurd h (Nat.not_lt_zero _)
  | n + 1, s, h => by
    have h : s < if eF M n = -1 then cnL M n + 1 else cnL M n := h
    by_cases e : eF M n = -1
    · rw [if_pos e] at h
      by_cases q : s = cnL M n
      · exact ⟨n, by omega, e, q.symm⟩
      · obtain ⟨a, b, c⟩ := cn_ex (n := n) (s := s) (by omega)
        exact ⟨a, by omega, c⟩
    · rw [if_neg e] at h
      obtain ⟨a, b, c⟩ := cn_ex (n := n) (s := s) h
      exact ⟨a, by omega, c⟩
theorem fcF_any {s f : Nat} {z z1 : Int32} : ∀ {n q : Nat}, q < n → hitF M d s f q → fcF M d s f z n = fcF M d s f z1 n
  | 0, q, h, _ => absurd h (Nat.not_lt_zero _)
  | n + 1, q, h, hh => by
    show (if hitF M d s f n then eV M n else fcF M d s f z n) = if hitF M d s f n then eV M n else fcF M d s f z1 n
    by_cases e : hitF M d s f n
    · rw [if_pos e, if_pos e]
    · rw [if_neg e, if_neg e]
      have : q ≠ n := fun k => e (by rw [← k]; exact hh)
      exact fcF_any (n := n) (q := q) (by omega) hh
theorem fcF_there {s : Nat} {z : Int32} (w : BW M) (hs : s < nS M) (hd : (lD M s).toInt ≤ d.toInt) : fcF M d s 0 z (nE M) = fct M d s 0 := by
  have hs2 := hs
  rw [← w.2.2.1] at hs2
  obtain ⟨q, q1, q2, q3⟩ := cn_ex hs2
  rcases (w.2.1 q q1).1 with ⟨a, b, c⟩ | ⟨a, b, c⟩
  · rw [q3] at b c
    exact fcF_any q1 ⟨b, by rw [← c]; exact hd, Or.inr ⟨q2, rfl⟩⟩
  · rw [q2, ti_m1] at a
    omega
end LKs
section LK2
variable {D E : ADD}
theorem nI_m3 {i n : Nat} : (3 : Int32) * nI i + nI n = nI (3 * i + n) := by
  show (3 : Int32) * nI i + nI n = Int32.ofNat (3 * i + n)
  rw [Int32.ofNat_add, Int32.ofNat_mul]
  rfl
theorem nI_m11 {i n : Nat} : (11 : Int32) * nI i + nI n = nI (11 * i + n) := by
  show (11 : Int32) * nI i + nI n = Int32.ofNat (11 * i + n)
  rw [Int32.ofNat_add, Int32.ofNat_mul]
  rfl
theorem nI_m4 {i n : Nat} : (4 : Int32) * nI i + nI n = nI (4 * i + n) := by
  show (4 : Int32) * nI i + nI n = Int32.ofNat (4 * i + n)
  rw [Int32.ofNat_add, Int32.ofNat_mul]
  rfl
/-- stone k is one, by the view -/
abbrev thE (E : ADD) (k : Nat) : Prop := (lD (mB E) k).toInt ≤ (dvF (mB E)).toInt
/-- behind the first of the three rounds -/
def Lk1 (E E1 : ADD) (i : Nat) : Prop := LkF E E1 ∧ E1.1 0 41 = E.1 5 0 ∧ ∀ k, k < i → (E1.1 31 k = if thE E k then 1 else 0) ∧ ∀ f, 1 ≤ f → f < 11 → E1.1 32 (11 * k + f) = dfF (mB E) k f
/-- behind the second -/
def Lk2 (E E1 : ADD) (n : Nat) : Prop := LkF E E1 ∧ E1.1 0 41 = E.1 5 0 ∧ (∀ k, k < nS (mB E) → E1.1 31 k = if thE E k then 1 else 0) ∧ ∀ k, k < nS (mB E) → (∀ f, 1 ≤ f → f < 11 → E1.1 32 (11 * k + f) = fcF (mB E) (dvF (mB E)) k f (dfF (mB E) k f) n) ∧ ∃ z, E1.1 32 (11 * k) = fcF (mB E) (dvF (mB E)) k 0 z n
/-- behind all -/
def LkR (D E E1 : ADD) (i : Nat) : Prop := LkF E E1 ∧ E1.1 0 41 = E.1 5 0 ∧ (∀ k, k < nS (mB E) → E1.1 31 k = if thE E k then 1 else 0) ∧ (∀ k, k < nS (mB E) → thE E k → FcR D E1 k) ∧ ∀ k, k < i → (thE E k → E1.1 33 k = loX D (nI k) ∧ E1.1 34 k = hiX D (nI k)) ∧ Bo (E1.1 35 k) (thE E k ∧ chX D (nI k))
theorem LkF.si {E1 : ADD} {c i : Nat} {v : Int32} (h : LkF E E1) (hc : c = 0 ∨ (30 ≤ c ∧ c ≤ 35)) : LkF E (aSI E1 c i v) := fun k hk => by rw [si_o (by omega), h k hk]
theorem th_st {k : Nat} (hk : k < nS (mB E)) (h32 : nS (mB E) ≤ 32) : thE E k ↔ stM E (nI k) := by
  have vk : (nI k).toInt = (k : Int) := nI_toInt (by omega)
  have ck : (nI k).toNatClampNeg = k := nI_clamp (by omega)
  rw [mBs] at hk
  have e5 := ti_cl (x := E.1 5 0)
  unfold stM
  rw [ck, vk]
  exact ⟨fun h => ⟨by omega, h⟩, fun h => h.2⟩
theorem bM_look (q : QM E) (h : RBk (xc D) (mB E)) (w : RuS (xc D) (slM E 0) 12 0 0 True) (c : RCh (xc D) (slM E 0)) : Wp (fX11_look E) (fun _ E1 => LkR D E E1 (nS (mB E))) := by
  have bw := h.2.2.2.1
  have h5 := q.1
  have h8 := q.2.1
  have e5 := cl_i h5.1
  have e8 := cl_i h8.1
  have n5 : nS (mB E) = (E.1 5 0).toNatClampNeg := mBs
  have n8 : nE (mB E) = (E.1 8 0).toNatClampNeg := mBn
  have v5 : E.1 5 0 = nI (nS (mB E)) := by rw [n5]; exact nI_val h5.1
  unfold fX11_look
  refine Wp.bindE eM_day (Wp.idd (by decide) ?_)
  rw [cl_0]
  generalize hdv : dvF (mB E) = dv
  refine Wp.leti (fun E2 e2 => ?_)
  have f2 : LkF E E2 := by
    intro c hc
    rw [e2, si_o (by omega)]
  have m2 : E2.1 0 41 = E.1 5 0 := by rw [e2, si_s, if_pos rfl]
  clear e2
  refine Wp.letQ (fun Q j => ∀ E3, Lk1 E E3 (nS (mB E)) → Wp (j E3) Q) (fun E3 l3 => ?_) (fun j K => Wp.lets ?_)
  rotate_left
  · -- the listings
    refine Wp.go1 (fun i E3 => Lk1 E E3 i) (nS (mB E)) (by omega) (fun g i E3 hi hI K2 => ?_) (k0 := 0) rfl (Nat.zero_le _) ⟨f2, m2, fun k hk => absurd hk (Nat.not_lt_zero _)⟩
    unfold lX11_look_17
    have hI' := hI
    obtain ⟨i1, i2, i3⟩ := hI
    have vi : (nI i).toInt = (i : Int) := nI_toInt (by omega)
    have vn : (nI (nS (mB E))).toInt = (nS (mB E) : Int) := nI_toInt (by omega)
    rw [i2, v5]
    refine Wp.ile (fun z => ?_) (fun z => ?_)
    · have : i = nS (mB E) := by omega
      rw [this] at hI'
      exact K E3 hI'
    have il : i < nS (mB E) := by omega
    have ci : (nI i).toNatClampNeg = i := nI_clamp (by omega)
    have e30 : (3 : Int32) * nI i = nI (3 * i) := by have := nI_m3 (i := i) (n := 0); rw [nI_0, Int32.add_zero] at this; exact this
    have e31 : nI (3 * i) + 1 = nI (3 * i + 1) := (nI_succ _).symm
    have e32 : nI (3 * i) + 2 = nI (3 * i + 2) := (Int32.ofNat_add (3 * i) 2).symm
    have e111 : (11 : Int32) * nI i + 1 = nI (11 * i + 1) := nI_m11 (n := 1)
    have e112 : (11 : Int32) * nI i + 2 = nI (11 * i + 2) := nI_m11 (n := 2)
    have e113 : (11 : Int32) * nI i + 3 = nI (11 * i + 3) := nI_m11 (n := 3)
    have e114 : (11 : Int32) * nI i + 4 = nI (11 * i + 4) := nI_m11 (n := 4)
    have e115 : (11 : Int32) * nI i + 5 = nI (11 * i + 5) := nI_m11 (n := 5)
    have e116 : (11 : Int32) * nI i + 6 = nI (11 * i + 6) := nI_m11 (n := 6)
    have e117 : (11 : Int32) * nI i + 7 = nI (11 * i + 7) := nI_m11 (n := 7)
    have e118 : (11 : Int32) * nI i + 8 = nI (11 * i + 8) := nI_m11 (n := 8)
    have e119 : (11 : Int32) * nI i + 9 = nI (11 * i + 9) := nI_m11 (n := 9)
    have e1110 : (11 : Int32) * nI i + 10 = nI (11 * i + 10) := nI_m11 (n := 10)
    have t3 : ∀ n, n < 3 → vp_in (nI (3 * i + n)) 384 := fun n hn => vp_in_nI (by omega) (by decide)
    have t11 : ∀ n, n < 11 → vp_in (nI (11 * i + n)) 352 := fun n hn => vp_in_nI (by omega) (by decide)
    have c3 : ∀ n, n < 3 → (nI (3 * i + n)).toNatClampNeg = 3 * i + n := fun n hn => nI_clamp (by omega)
    have c11 : ∀ n, n < 11 → (nI (11 * i + n)).toNatClampNeg = 11 * i + n := fun n hn => nI_clamp (by omega)
    have ii : vp_in (nI i) 32 := vp_in_nI (by omega) (by decide)
    simp only [e31, e32, e111, e112, e113, e114, e115, e116, e117, e118, e119, e1110, e30]
    rw [show (nI (3 * i)).toNatClampNeg = 3 * i from c3 0 (by decide), i1 10 (by omega), ← mB10 (E := E) (j := 3 * i) (by omega)]
    refine Wp.idx (t3 0 (by decide)) (Wp.letQ (fun Q j => ∀ x, (x = if thE E i then 1 else 0) → Wp (j x E3) Q) (fun x hx => ?_) (fun j K3 => ?_))
    rotate_left
    · refine Wp.ilt (fun z => K3 0 ?_) (fun z => K3 1 ?_)
      · have : ¬ thE E i := fun y => by
          have y : (mB E 10 (3 * i)).toInt ≤ (dvF (mB E)).toInt := y
          rw [hdv] at y
          omega
        rw [if_neg this]
      · have : thE E i := by
          show (mB E 10 (3 * i)).toInt ≤ (dvF (mB E)).toInt
          rw [hdv]
          exact z
        rw [if_pos this]
    have d1 : E3.1 10 (3 * i + 1) = mB E 10 (3 * i + 1) := by rw [i1 10 (by omega), mB10 (by omega)]
    have d2 : E3.1 10 (3 * i + 2) = mB E 10 (3 * i + 2) := by rw [i1 10 (by omega), mB10 (by omega)]
    refine Wp.idx ii (Wp.lets (Wp.idx (t3 1 (by decide)) (Wp.idx (t11 1 (by decide)) (Wp.lets (Wp.idx (t3 2 (by decide)) (Wp.idx (t11 4 (by decide)) (Wp.lets (Wp.idx (t11 2 (by decide)) (Wp.lets (Wp.idx (t11 3 (by decide)) (Wp.lets (Wp.idx (t11 5 (by decide)) (Wp.lets (Wp.idx (t11 6 (by decide)) (Wp.lets (Wp.idx (t11 7 (by decide)) (Wp.lets (Wp.idx (t11 8 (by decide)) (Wp.lets (Wp.idx (t11 9 (by decide)) (Wp.lets (Wp.idx (t11 10 (by decide)) (Wp.leti (fun E4 e4 => Wp.lets (K2 il E4 ?_)))))))))))))))))))))))))
    simp only [c11 1 (by decide), c11 2 (by decide), c11 3 (by decide), c11 4 (by decide), c11 5 (by decide), c11 6 (by decide), c11 7 (by decide), c11 8 (by decide), c11 9 (by decide), c11 10 (by decide), c3 1 (by decide), c3 2 (by decide), ci] at e4
    have s31 : ∀ j, E4.1 31 j = if j = i then x else E3.1 31 j := fun j => by
      rw [e4]
      simp only [si_o (show (31 : Nat) ≠ 32 by decide), si_s]
    have s32 : ∀ j, E4.1 32 j = if 11 * i + 1 ≤ j ∧ j < 11 * i + 11 then dfF (mB E) i (j - 11 * i) else E3.1 32 j := fun j => by
      rw [e4]
      simp only [si_o (show (10 : Nat) ≠ 32 by decide), si_o (show (10 : Nat) ≠ 31 by decide), si_s, si_o (show (32 : Nat) ≠ 31 by decide), d1, d2]
      by_cases hj : 11 * i + 1 ≤ j ∧ j < 11 * i + 11
      · rw [if_pos hj]
        obtain ⟨t, rfl⟩ : ∃ t, j = 11 * i + t := ⟨j - 11 * i, by omega⟩
        rw [show 11 * i + t - 11 * i = t by omega]
        have ht : t = 1 ∨ t = 2 ∨ t = 3 ∨ t = 4 ∨ t = 5 ∨ t = 6 ∨ t = 7 ∨ t = 8 ∨ t = 9 ∨ t = 10 := by omega
        have eqq : ∀ u v : Nat, (11 * i + u = 11 * i + v) = (u = v) := fun u v => propext ⟨fun z => by omega, fun z => by omega⟩
        simp only [eqq]
        rcases ht with rfl | rfl | rfl | rfl | rfl | rfl | rfl | rfl | rfl | rfl <;> rfl
      · rw [if_neg hj, if_neg (by omega), if_neg (by omega), if_neg (by omega), if_neg (by omega), if_neg (by omega), if_neg (by omega), if_neg (by omega), if_neg (by omega), if_neg (by omega), if_neg (by omega)]
    have fo : ∀ c, c ≠ 31 → c ≠ 32 → E4.1 c = E3.1 c := fun c a b => by
      rw [e4]
      simp only [si_o b, si_o a]
    refine ⟨fun c hc => by rw [fo c (by omega) (by omega)]; exact i1 c hc, by rw [fo 0 (by decide) (by decide)]; exact i2, fun k hk => ?_⟩
    rw [s31]
    by_cases e : k = i
    · subst e
      rw [if_pos rfl]
      refine ⟨hx, fun f f1 f2 => ?_⟩
      rw [s32, if_pos (by omega), show 11 * k + f - 11 * k = f by omega]
    · rw [if_neg e]
      obtain ⟨a, b⟩ := i3 k (by omega)
      refine ⟨a, fun f f1 f2 => ?_⟩
      rw [s32, if_neg (by omega)]
      exact b f f1 f2
  obtain ⟨a1, a2, a3⟩ := l3
  refine Wp.letQ (fun Q j => ∀ E4, Lk2 E E4 (nE (mB E)) → Wp (j E4) Q) (fun E4 l4 => ?_) (fun j K => Wp.lets ?_)
  rotate_left
  · -- the entries
    refine Wp.go1 (fun i E4 => Lk2 E E4 i) (nE (mB E)) (by omega) (fun g i E4 hi hI K2 => ?_) (k0 := 0) rfl (Nat.zero_le _) ⟨a1, a2, fun k hk => (a3 k hk).1, fun k hk => ⟨fun f f1 f2 => (a3 k hk).2 f f1 f2, _, rfl⟩⟩
    unfold lX11_look_203
    have hI' := hI
    obtain ⟨i1, i2, i3, i4⟩ := hI
    have vi : (nI i).toInt = (i : Int) := nI_toInt (by omega)
    refine Wp.idd (by decide) ?_
    rw [cl_0, i1 8 (by omega)]
    refine Wp.ile (fun z => ?_) (fun z => ?_)
    · have : i = nE (mB E) := by omega
      rw [this] at hI'
      exact K E4 hI'
    have il : i < nE (mB E) := by omega
    have e40 : (4 : Int32) * nI i = nI (4 * i) := by have := nI_m4 (i := i) (n := 0); rw [nI_0, Int32.add_zero] at this; exact this
    have e41 : nI (4 * i) + 1 = nI (4 * i + 1) := (nI_succ _).symm
    have e42 : nI (4 * i) + 2 = nI (4 * i + 2) := (Int32.ofNat_add (4 * i) 2).symm
    have e43 : nI (4 * i) + 3 = nI (4 * i + 3) := (Int32.ofNat_add (4 * i) 3).symm
    have t4 : ∀ n, n < 4 → vp_in (nI (4 * i + n)) 6400 := fun n hn => vp_in_nI (by omega) (by decide)
    have c4 : ∀ n, n < 4 → (nI (4 * i + n)).toNatClampNeg = 4 * i + n := fun n hn => nI_clamp (by omega)
    rw [e40]
    refine Wp.lets ?_
    simp only [e41, e42, e43, c4 1 (by decide), c4 2 (by decide), c4 3 (by decide), show (nI (4 * i)).toNatClampNeg = 4 * i from c4 0 (by decide)]
    have m9 : ∀ n, n < 4 → E4.1 9 (4 * i + n) = mB E 9 (4 * i + n) := fun n hn => by rw [i1 9 (by omega), mB9 (by omega)]
    have m90 : E4.1 9 (4 * i) = eD (mB E) i := m9 0 (by decide)
    have m91 : E4.1 9 (4 * i + 1) = eS (mB E) i := m9 1 (by decide)
    have m92 : E4.1 9 (4 * i + 2) = eF (mB E) i := m9 2 (by decide)
    have m93 : E4.1 9 (4 * i + 3) = eV (mB E) i := m9 3 (by decide)
    obtain ⟨o1, -, -⟩ := bw.2.1 i il
    have cm : cnL (mB E) (i + 1) ≤ nS (mB E) := by rw [← bw.2.2.1]; exact cnL_mono il
    have cm0 : cnL (mB E) i ≤ nS (mB E) := by rw [← bw.2.2.1]; exact cnL_mono (by omega)
    refine Wp.idx (t4 0 (by decide)) (Wp.letQ (fun Q j => ∀ E5, Lk2 E E5 (i + 1) → Wp (j E5) Q) (fun E5 l5 => Wp.lets (K2 il E5 l5)) (fun j K3 => ?_))
    rw [m90]
    refine Wp.ilt (fun z => K3 E4 ⟨i1, i2, i3, fun k hk => ?_⟩) (fun z => Wp.idx (t4 2 (by decide)) ?_)
    · have no : ∀ f, ¬ hitF (mB E) (dvF (mB E)) k f i := fun f y => by
        have := y.2.1
        rw [hdv] at this
        omega
      obtain ⟨b1, zz, b2⟩ := i4 k hk
      exact ⟨fun f f1 f2 => by rw [b1 f f1 f2]; exact (if_neg (no f)).symm, zz, by rw [b2]; exact (if_neg (no 0)).symm⟩
    -- a seen entry: its place
    have sN : ∃ s : Nat, eS (mB E) i = nI s ∧ s < nS (mB E) := by
      rcases o1 with ⟨x1, x2, x3⟩ | ⟨x1, x2, x3⟩
      · have := cnL_lt (n := i + 1) (Nat.lt_succ_self i) x1
        exact ⟨_, x2, by omega⟩
      · have := cl_i x2
        exact ⟨_, nI_val x2, by omega⟩
    obtain ⟨s, es, hs⟩ := sN
    have go : ∀ (x8 : Int32) (f : Nat), x8 = nI f → f < 11 → (∀ f', f' < 11 → ((eF (mB E) i = nI f' ∨ (eF (mB E) i = -1 ∧ f' = 0)) ↔ f' = f)) → Wp (aIn (nI (4 * i + 1)) 6400 (aIn (nI (4 * i + 3)) 6400 (aIn ((11 : Int32) * (E4.1 9 (4 * i + 1)) + x8) 352 (aLet (aSI E4 32 ((11 : Int32) * (E4.1 9 (4 * i + 1)) + x8).toNatClampNeg (E4.1 9 (4 * i + 3))) (fun D15 => j D15))))) (fun _ E1 => LkR D E E1 (nS (mB E))) := by
      intro x8 f hx hf hit
      rw [m91, es, hx, nI_m11, m93]
      have c11 : (nI (11 * s + f)).toNatClampNeg = 11 * s + f := nI_clamp (by omega)
      refine Wp.idx (t4 1 (by decide)) (Wp.idx (t4 3 (by decide)) (Wp.idx (vp_in_nI (by omega) (by decide)) (Wp.lets (K3 _ ?_))))
      rw [c11]
      refine ⟨i1.si (by omega), by rw [si_o (by decide)]; exact i2, fun k hk => by rw [si_o (by decide)]; exact i3 k hk, fun k hk => ?_⟩
      obtain ⟨b1, zz, b2⟩ := i4 k hk
      have step : ∀ f' z, f' < 11 → fcF (mB E) (dvF (mB E)) k f' z (i + 1) = if k = s ∧ f' = f then eV (mB E) i else fcF (mB E) (dvF (mB E)) k f' z i := fun f' z hf' => by
        show (if hitF (mB E) (dvF (mB E)) k f' i then eV (mB E) i else fcF (mB E) (dvF (mB E)) k f' z i) = _
        have eq : hitF (mB E) (dvF (mB E)) k f' i ↔ (k = s ∧ f' = f) := by
          unfold hitF
          rw [es, nI_eq (by omega) (by omega), hit f' hf', hdv]
          exact ⟨fun y => ⟨y.1.symm, y.2.2⟩, fun y => ⟨y.1.symm, by omega, y.2⟩⟩
        by_cases y : k = s ∧ f' = f
        · rw [if_pos y, if_pos (eq.mpr y)]
        · rw [if_neg y, if_neg (fun x => y (eq.mp x))]
      refine ⟨fun f' f1 f2 => ?_, zz, ?_⟩
      · rw [si_s, step f' _ f2, b1 f' f1 f2]
        by_cases y : k = s ∧ f' = f
        · rw [if_pos y, if_pos (by rw [y.1, y.2])]
        · rw [if_neg y, if_neg (by omega)]
      · rw [si_s, step 0 _ (by decide), b2]
        by_cases y : k = s ∧ 0 = f
        · rw [if_pos y, if_pos (by rw [y.1, ← y.2]; omega)]
        · rw [if_neg y, if_neg (by omega)]
    rw [m92]
    refine Wp.lets (Wp.ite (fun x => go 0 0 rfl (by decide) (fun f' hf' => ?_)) (fun x => Wp.idx (t4 2 (by decide)) ?_))
    · constructor
      · rintro (y | y)
        · rw [x] at y
          have : (-1 : Int32).toInt = (nI f').toInt := by rw [y]
          rw [ti_m1, nI_toInt (by omega)] at this
          omega
        · exact y.2
      · intro y
        exact Or.inr ⟨x, y⟩
    · rcases o1 with ⟨x1, -, -⟩ | ⟨x1, -, -⟩
      · exact absurd x1 x
      · have := cl_i x1.1
        refine go _ _ (nI_val x1.1) (by omega) (fun f' hf' => ?_)
        constructor
        · rintro (y | y)
          · rw [y, nI_clamp (by omega)]
          · exact absurd y.1 x
        · intro y
          exact Or.inl (by rw [y]; exact nI_val x1.1)
  -- spans and choice
  obtain ⟨b1, b2, b3, b4⟩ := l4
  have s32 : nS (mB E) ≤ 32 := by omega
  have kf : ∀ k f, k < nS (mB E) → thE E k → f < 11 → knX D (nI k) (nI f) = fct (mB E) (dvF (mB E)) k f := fun k f hk ht hf => by
    have vf : (nI f).toInt = (f : Int) := nI_toInt (by omega)
    rw [kn_fct h, if_pos ⟨(th_st hk s32).mp ht, by omega, by omega⟩, nI_clamp (by omega), nI_clamp (by omega)]
  have fc : ∀ k, k < nS (mB E) → thE E k → ∀ E5 : ADD, E5.1 32 = E4.1 32 → FcR D E5 k := fun k hk ht E5 e f hf => by
    rw [e, kf k f hk ht hf]
    obtain ⟨d1, zz, d2⟩ := b4 k hk
    by_cases f0 : f = 0
    · rw [f0, Nat.add_zero, d2]
      exact fcF_there bw hk ht
    · exact d1 f (by omega) hf
  refine Wp.lets (Wp.lets ?_)
  refine Wp.go1 (fun i E5 => LkR D E E5 i ∧ E5.1 32 = E4.1 32) (nS (mB E)) (by omega) (fun g i E5 hi hI K2 => ?_) (k0 := 0) rfl (Nat.zero_le _) ⟨⟨b1, b2, b3, fun k hk ht => fc k hk ht E4 rfl, fun k hk => absurd hk (Nat.not_lt_zero _)⟩, rfl⟩
  unfold lX11_look_288
  have hI' := hI
  obtain ⟨⟨i1, i2, i3, i4, i5⟩, i6⟩ := hI
  have vi : (nI i).toInt = (i : Int) := nI_toInt (by omega)
  have ci : (nI i).toNatClampNeg = i := nI_clamp (by omega)
  have vn : (nI (nS (mB E))).toInt = (nS (mB E) : Int) := nI_toInt (by omega)
  rw [i2, v5]
  refine Wp.ile (fun z => ?_) (fun z => ?_)
  · have : i = nS (mB E) := by omega
    rw [this] at hI'
    exact Wp.ret hI'.1
  have il : i < nS (mB E) := by omega
  have ii : vp_in (nI i) 32 := vp_in_nI (by omega) (by decide)
  refine Wp.idx ii (Wp.leti (fun E7 e7 => Wp.idx ii ?_))
  rw [ci] at e7 ⊢
  have f7 : ∀ c, c ≠ 35 → E7.1 c = E5.1 c := fun c hc => by rw [e7, si_o hc]
  have s7 : ∀ j, E7.1 35 j = if j = i then 0 else E5.1 35 j := fun j => by rw [e7, si_s]
  clear e7
  have l7 : LkF E E7 := fun c hc => by
    by_cases e : c = 35
    · omega
    · rw [f7 c e, i1 c hc]
  rw [f7 31 (by decide), i3 i il]
  have nx : ∀ E8, (LkR D E E8 (i + 1) ∧ E8.1 32 = E4.1 32) → Wp (aLet (nI i + (1 : Int32)) (fun x3 => g x3 E8)) (fun _ E1 => LkR D E E1 (nS (mB E))) := fun E8 l8 => Wp.lets (K2 il E8 l8)
  by_cases ht : thE E i
  · rw [if_pos ht]
    refine Wp.lets (Wp.neg (by decide) ?_)
    have f32 : E7.1 32 = E4.1 32 := by rw [f7 32 (by decide), i6]
    have fci := fc i il ht E7 f32
    refine Wp.bind (bM_findSpan (by omega) w (fun c a b => l7 c (by omega)) fci) (fun _ E9 q9 => ?_)
    obtain ⟨g1, g2, g3⟩ := q9
    have gd : Gd (fct (mB E) (dvF (mB E)) i) := bw.2.2.2.2 _ i il ht
    have k4 : knX D (nI i) 4 = fct (mB E) (dvF (mB E)) i 4 := kf i 4 il ht (by decide)
    have k1 : knX D (nI i) 1 = fct (mB E) (dvF (mB E)) i 1 := kf i 1 il ht (by decide)
    refine Wp.bind (bM_isChosen (by omega) c (fun c a b => by rw [g1 c (by omega) (by omega) (by omega), l7 c (by omega)]) (fun f hf => by rw [g1 32 (by decide) (by decide) (by decide)]; exact fci f hf) (by rw [k4]; exact gd.1 4 (by decide)) (by rw [k1]; exact gd.1 1 (by decide))) (fun x E10 q10 => ?_)
    obtain ⟨rfl, q10⟩ := q10
    refine Wp.idx ii (Wp.lets (nx _ ⟨⟨?_, ?_, ?_, ?_, ?_⟩, ?_⟩))
    · intro c hc
      rw [si_o (by omega), g1 c (by omega) (by omega) (by omega), l7 c hc]
    · rw [si_o (by decide), g1 0 (by decide) (by decide) (by decide), f7 0 (by decide)]
      exact i2
    · intro k hk
      rw [si_o (by decide), g1 31 (by decide) (by decide) (by decide), f7 31 (by decide)]
      exact i3 k hk
    · intro k hk hk2
      exact fc k hk hk2 _ (by rw [si_o (by decide), g1 32 (by decide) (by decide) (by decide), f32])
    · intro k hk
      rw [si_o (by decide), si_o (by decide), si_s, g2, g3, g1 35 (by decide) (by decide) (by decide), s7, f7 33 (by decide), f7 34 (by decide)]
      by_cases e : k = i
      · subst e
        rw [if_pos rfl, if_pos rfl, if_pos rfl]
        refine ⟨fun _ => ⟨rfl, rfl⟩, ?_⟩
        rcases q10 with ⟨y1, y2⟩ | ⟨y1, y2⟩
        · exact Or.inl ⟨y1, ht, y2⟩
        · exact Or.inr ⟨y1, fun y => y2 y.2⟩
      · rw [if_neg e, if_neg e, if_neg e, if_neg e]
        exact i5 k (by omega)
    · rw [si_o (by decide), g1 32 (by decide) (by decide) (by decide), f32]
  · rw [if_neg ht]
    refine Wp.lets (Wp.pos rfl (nx E7 ⟨⟨l7, by rw [f7 0 (by decide)]; exact i2, fun k hk => by rw [f7 31 (by decide)]; exact i3 k hk, fun k hk hk2 => fc k hk hk2 _ (by rw [f7 32 (by decide), i6]), fun k hk => ?_⟩, by rw [f7 32 (by decide), i6]⟩))
    rw [f7 33 (by decide), f7 34 (by decide), s7]
    by_cases e : k = i
    · subst e
      rw [if_pos rfl]
      exact ⟨fun y => absurd y ht, Or.inr ⟨rfl, fun y => ht y.1⟩⟩
    · rw [if_neg e]
      exact i5 k (by omega)
end LK2
end
section
/-! spans are spans; off, times, short of both sides -/
theorem ti_div {x y : Int32} {p q : Int} (hx : x.toInt = p) (hy : y.toInt = q) (h : -2147483648 < p) (hq : q ≠ 0) : (x / y).toInt = p.tdiv q := by
  rw [Int32.toInt_div, hx, hy]
  have hp : p ≤ 2147483647 := by rw [← hx]; exact ti_hi x
  have b : (p.tdiv q).natAbs ≤ p.natAbs := by
    rw [Int.natAbs_tdiv]
    exact Nat.div_le_self _ _
  apply Int.bmod_eq_of_le <;> omega
section NMs
variable {D E : ADD}
theorem wrF_rng {row : Nat → Int32} (w : RuS (xc D) (slM E 0) 12 0 0 True) : ∀ (n l : Nat) (a b : Int32), l + n ≤ (D.1 13 0).toNatClampNeg → l + n ≤ 16 → a.toInt ≤ b.toInt → -(9999 * (l : Int)) ≤ a.toInt → b.toInt ≤ 9999 * (l : Int) → (wrF D row a b l n).1.toInt ≤ (wrF D row a b l n).2.toInt ∧ -160000 ≤ (wrF D row a b l n).1.toInt ∧ (wrF D row a b l n).2.toInt ≤ 160000
  | 0, l, a, b, h1, h2, h3, h4, h5 => by
    show a.toInt ≤ b.toInt ∧ -160000 ≤ a.toInt ∧ b.toInt ≤ 160000
    omega
  | n + 1, l, a, b, h1, h2, h3, h4, h5 => by
    have w2 : 0 ≤ (D.1 13 0).toInt ∧ (D.1 13 0).toInt ≤ 16 := w.2.1
    have en := cl_i w2.1
    have rl := w.2.2 l (by show (l : Int) < (D.1 13 0).toInt; omega)
    obtain ⟨mm, -, -, -, d2, d3⟩ := rl
    obtain ⟨d3, d4⟩ := d3 trivial
    have d2 : 0 ≤ (D.1 14 l).toInt ∧ (D.1 14 l).toInt < 4 := d2
    have d3 : (D.1 14 l).toInt < 3 := d3
    have d4 : (D.1 14 l).toInt < 2 → _ ∧ (0 ≤ (D.1 15 l).toInt ∧ (D.1 15 l).toInt ≤ 9999) ∧ (0 ≤ (D.1 16 l).toInt ∧ (D.1 16 l).toInt ≤ 9999) ∧ (D.1 15 l).toInt ≤ (D.1 16 l).toInt := d4
    unfold wrF
    split
    · split
      · show a.toInt ≤ b.toInt ∧ -160000 ≤ a.toInt ∧ b.toInt ≤ 160000
        omega
      · rename_i e2
        have n2 : (D.1 14 l).toInt ≠ 2 := fun q => e2 (ti_eq (by rw [q]; rfl))
        obtain ⟨-, r1, r2, r3⟩ := d4 (by omega)
        by_cases e1 : D.1 14 l = 1
        · rw [if_pos e1, if_pos e1]
          have m1 : (-D.1 16 l).toInt = -(D.1 16 l).toInt := by
            rw [Int32.toInt_neg]
            apply Int.bmod_eq_of_le <;> omega
          have m2 : (-D.1 15 l).toInt = -(D.1 15 l).toInt := by
            rw [Int32.toInt_neg]
            apply Int.bmod_eq_of_le <;> omega
          have a1 := ti_add (rfl : a.toInt = _) m1 (by omega) (by omega)
          have a2 := ti_add (rfl : b.toInt = _) m2 (by omega) (by omega)
          exact wrF_rng w n (l + 1) _ _ (by omega) (by omega) (by omega) (by omega) (by omega)
        · rw [if_neg e1, if_neg e1]
          have a1 := ti_add (rfl : a.toInt = _) (rfl : (D.1 15 l).toInt = _) (by omega) (by omega)
          have a2 := ti_add (rfl : b.toInt = _) (rfl : (D.1 16 l).toInt = _) (by omega) (by omega)
          exact wrF_rng w n (l + 1) _ _ (by omega) (by omega) (by omega) (by omega) (by omega)
    · exact wrF_rng w n (l + 1) a b (by omega) (by omega) h3 (by omega) (by omega)
theorem newF_val {b t : Int32} (hb : 1 ≤ b.toInt ∧ b.toInt ≤ 30000) : (newF b t).toInt = max 1 (b.toInt + (b.toInt * max (-500) (min 1000 t.toInt)).tdiv 1000) ∧ (newF b t).toInt ≤ 60000 := by
  unfold newF
  have a : (-500 : Int32).toInt = -500 := by decide
  have c : (1000 : Int32).toInt = 1000 := by decide
  have e1 : (aMax (-500) (aMin 1000 t)).toInt = max (-500) (min 1000 t.toInt) := by rw [ti_max, ti_min, a, c]
  generalize hv : max (-500) (min 1000 t.toInt) = v at e1 ⊢
  have hv1 : -500 ≤ v ∧ v ≤ 1000 := by omega
  have lo : -15000000 ≤ b.toInt * v := by
    have : b.toInt * (-500) ≤ b.toInt * v := Int.mul_le_mul_of_nonneg_left hv1.1 (by omega)
    omega
  have hi : b.toInt * v ≤ 30000000 := by
    have : b.toInt * v ≤ b.toInt * 1000 := Int.mul_le_mul_of_nonneg_left hv1.2 (by omega)
    omega
  have e2 := ti_mul (rfl : b.toInt = _) e1 (by omega) (by omega)
  have e3 := ti_div e2 c (by omega) (by decide)
  have q1 : (-15000000 : Int).tdiv 1000 ≤ (b.toInt * v).tdiv 1000 := Int.tdiv_le_tdiv (by decide) lo
  have q2 : (b.toInt * v).tdiv 1000 ≤ (30000000 : Int).tdiv 1000 := Int.tdiv_le_tdiv (by decide) hi
  have q3 : (-15000000 : Int).tdiv 1000 = -15000 := by decide
  have q4 : (30000000 : Int).tdiv 1000 = 30000 := by decide
  have e4 := ti_add (rfl : b.toInt = _) e3 (by omega) (by omega)
  rw [ti_max, ti_1, e4]
  omega
theorem newF_mono {b t u : Int32} (hb : 1 ≤ b.toInt ∧ b.toInt ≤ 30000) (h : t.toInt ≤ u.toInt) : (newF b t).toInt ≤ (newF b u).toInt := by
  rw [(newF_val hb).1, (newF_val hb).1]
  have : (b.toInt * max (-500) (min 1000 t.toInt)).tdiv 1000 ≤ (b.toInt * max (-500) (min 1000 u.toInt)).tdiv 1000 := Int.tdiv_le_tdiv (by decide) (Int.mul_le_mul_of_nonneg_left (by omega) (by omega))
  omega
/-- a stone's span, mark and town -/
def SpK (lo hi mk : Int32) : Prop := (1 ≤ lo.toInt ∧ lo.toInt ≤ hi.toInt ∧ hi.toInt ≤ 60000) ∧ 0 ≤ mk.toInt ∧ mk.toInt ≤ 60
theorem kn_th (h : RBk (xc D) (mB E)) {k f : Nat} (hk : k < nS (mB E)) (ht : thE E k) (hf : f < 11) : knX D (nI k) (nI f) = fct (mB E) (dvF (mB E)) k f := by
  have bw := h.2.2.2.1
  have n5 : ((nS (mB E) : Nat) : Int) = (mB E 5 0).toInt := cl_i bw.1.2.1.1
  have h32 := bw.1.2.1.2
  have vf : (nI f).toInt = (f : Int) := nI_toInt (by omega)
  rw [kn_fct h, if_pos ⟨(th_st hk (by omega)).mp ht, by omega, by omega⟩, nI_clamp (by omega), nI_clamp (by omega)]
theorem gd_th (h : RBk (xc D) (mB E)) {k : Nat} (hk : k < nS (mB E)) (ht : thE E k) : Gd (fct (mB E) (dvF (mB E)) k) := h.2.2.2.1.2.2.2.2 _ k hk ht
theorem sp_th (h : RBk (xc D) (mB E)) (w : RuS (xc D) (slM E 0) 12 0 0 True) {k : Nat} (hk : k < nS (mB E)) (ht : thE E k) : SpK (loX D (nI k)) (hiX D (nI k)) (knX D (nI k) 7) := by
  have g := gd_th h hk ht
  have k0 : knX D (nI k) 0 = fct (mB E) (dvF (mB E)) k 0 := kn_th h hk ht (by decide)
  have k3 : knX D (nI k) 3 = fct (mB E) (dvF (mB E)) k 3 := kn_th h hk ht (by decide)
  have k7 : knX D (nI k) 7 = fct (mB E) (dvF (mB E)) k 7 := kn_th h hk ht (by decide)
  have g0 : 1 ≤ (fct (mB E) (dvF (mB E)) k 0).toInt ∧ (fct (mB E) (dvF (mB E)) k 0).toInt ≤ 30000 := g.1 0 (by decide)
  have g3 : 0 ≤ (fct (mB E) (dvF (mB E)) k 3).toInt ∧ (fct (mB E) (dvF (mB E)) k 3).toInt ≤ 2000 := g.1 3 (by decide)
  have g7 : 0 ≤ (fct (mB E) (dvF (mB E)) k 7).toInt ∧ (fct (mB E) (dvF (mB E)) k 7).toInt ≤ 60 := g.1 7 (by decide)
  have gl := g.2.1
  rw [← k0] at g0 gl
  rw [← k3] at g3 gl
  have eb := ti_sub (rfl : (knX D (nI k) 0).toInt = _) (rfl : (knX D (nI k) 3).toInt = _) (by omega) (by omega)
  have hb : 1 ≤ (knX D (nI k) 0 - knX D (nI k) 3).toInt ∧ (knX D (nI k) 0 - knX D (nI k) 3).toInt ≤ 30000 := by omega
  have w2 : 0 ≤ (D.1 13 0).toInt ∧ (D.1 13 0).toInt ≤ 16 := w.2.1
  have en := cl_i w2.1
  have wr := wrF_rng (row := trF D (nI k)) w (D.1 13 0).toNatClampNeg 0 0 0 (by omega) (by omega) (Int.le_refl _) (by decide) (by decide)
  refine ⟨⟨?_, newF_mono hb wr.1, (newF_val hb).2⟩, by rw [k7]; exact g7⟩
  show 1 ≤ (newF _ _).toInt
  rw [(newF_val hb).1]
  omega
/-! one stone by a unit -/
theorem far_val {lo hi p : Int32} (h1 : 1 ≤ lo.toInt) (h2 : lo.toInt ≤ hi.toInt) (h3 : hi.toInt ≤ 60000) (h4 : 0 ≤ p.toInt) (h5 : p.toInt ≤ 200000) : (farF lo hi p).toInt = if p.toInt < lo.toInt then lo.toInt - p.toInt else if hi.toInt < p.toInt then p.toInt - hi.toInt else 0 := by
  unfold farF
  by_cases a : lo ≤ p
  · have a1 := Int32.le_iff_toInt_le.mp a
    rw [if_pos a, if_neg (show ¬ p.toInt < lo.toInt by omega)]
    by_cases b : p ≤ hi
    · have b1 := Int32.le_iff_toInt_le.mp b
      rw [if_pos b, if_neg (show ¬ hi.toInt < p.toInt by omega), ti_0]
    · have b1 : ¬ p.toInt ≤ hi.toInt := fun q => b (Int32.le_iff_toInt_le.mpr q)
      rw [if_neg b, if_pos (show hi.toInt < p.toInt by omega)]
      exact ti_sub rfl rfl (by omega) (by omega)
  · have a1 : ¬ lo.toInt ≤ p.toInt := fun q => a (Int32.le_iff_toInt_le.mpr q)
    rw [if_neg a, if_pos (show p.toInt < lo.toInt by omega)]
    exact ti_sub rfl rfl (by omega) (by omega)
theorem times_eq {lo hi mk u : Int32} (h : SpK lo hi mk) (hu : 10 ≤ u.toInt ∧ u.toInt ≤ 2000) : tmF lo hi mk u = timesF lo hi mk u ∧ 1 ≤ (timesF lo hi mk u).toInt ∧ (timesF lo hi mk u).toInt * u.toInt ≤ 200000 := by
  obtain ⟨⟨h1, h2, h3⟩, h4, h5⟩ := h
  unfold tmF timesF
  by_cases m : mk ≤ 0
  rotate_left
  · have m1 : ¬ mk.toInt ≤ 0 := fun q => m (Int32.le_iff_toInt_le.mpr (by rw [ti_0]; exact q))
    rw [if_neg m, if_neg m]
    refine ⟨rfl, by omega, ?_⟩
    have : mk.toInt * u.toInt ≤ 60 * u.toInt := Int.mul_le_mul_of_nonneg_right h5 (by omega)
    omega
  rw [if_pos m, if_pos m]
  have un : ¬ u ≤ 0 := fun q => by have := Int32.le_iff_toInt_le.mp q; rw [ti_0] at this; omega
  rw [if_neg un]
  have ed := ti_div (rfl : lo.toInt = _) (rfl : u.toInt = _) (by omega) (by omega)
  have dp : lo.toInt.tdiv u.toInt = lo.toInt / u.toInt := Int.tdiv_eq_ediv_of_nonneg (by omega)
  rw [dp] at ed
  have q1 := Int.mul_ediv_add_emod lo.toInt u.toInt
  have q2 := Int.emod_nonneg lo.toInt (show u.toInt ≠ 0 by omega)
  have q3 := Int.emod_lt_of_pos lo.toInt (show 0 < u.toInt by omega)
  have q0 : 0 ≤ lo.toInt / u.toInt := Int.ediv_nonneg (by omega) (by omega)
  generalize hd : lo.toInt / u.toInt = dd at ed q1 q0
  generalize lo.toInt % u.toInt = rr at q1 q2 q3
  have pm : u.toInt * dd = dd * u.toInt := Int.mul_comm _ _
  have p0 : 0 ≤ dd * u.toInt := Int.mul_nonneg q0 (by omega)
  generalize hp : dd * u.toInt = pp at pm p0
  have d6 : dd ≤ 60000 := by
    have : dd * 1 ≤ dd * u.toInt := Int.mul_le_mul_of_nonneg_left (by omega) q0
    omega
  by_cases c : 1 ≤ lo / u
  · have c1 := Int32.le_iff_toInt_le.mp c
    rw [ti_1, ed] at c1
    rw [if_pos c, if_pos c]
    -- the multiple below and the one above
    have e1 := ti_mul ed (rfl : u.toInt = _) (by omega) (by omega)
    rw [hp] at e1
    have e2 := ti_add ed ti_1 (by omega) (by omega)
    have pq : (dd + 1) * u.toInt = pp + u.toInt := by rw [Int.add_mul, hp, Int.one_mul]
    have e3 := ti_mul e2 (rfl : u.toInt = _) (by omega) (by omega)
    rw [pq] at e3
    have f1 := far_val (p := lo / u * u) h1 h2 h3 (by omega) (by omega)
    have f2 := far_val (p := (lo / u + 1) * u) h1 h2 h3 (by omega) (by omega)
    rw [e1] at f1
    rw [e3] at f2
    have g1 := ti_sub (rfl : lo.toInt = _) e1 (by omega) (by omega)
    have g2 := ti_sub e3 (rfl : hi.toInt = _) (by omega) (by omega)
    have eq : (farF lo hi (lo / u * u) ≤ farF lo hi ((lo / u + 1) * u)) ↔ (lo - lo / u * u ≤ (lo / u + 1) * u - hi ∨ lo - lo / u * u = 0) := by
      have z : lo - lo / u * u = 0 ↔ lo.toInt - pp = 0 := ⟨fun q => by rw [← g1, q, ti_0], fun q => ti_eq (by rw [g1, ti_0]; exact q)⟩
      rw [Int32.le_iff_toInt_le, Int32.le_iff_toInt_le, z, f1, f2, g1, g2]
      split <;> split <;> (try split) <;> omega
    by_cases y : farF lo hi (lo / u * u) ≤ farF lo hi ((lo / u + 1) * u)
    · rw [if_pos y, if_pos (eq.mp y)]
      exact ⟨rfl, by omega, by rw [ed, hp]; omega⟩
    · rw [if_neg y, if_neg (fun q => y (eq.mpr q))]
      exact ⟨rfl, by omega, by rw [e2, pq]; omega⟩
  · have c1 : ¬ 1 ≤ dd := fun q => c (Int32.le_iff_toInt_le.mpr (by rw [ti_1, ed]; exact q))
    have d0 : dd = 0 := by omega
    rw [d0, Int.zero_mul] at hp
    rw [if_neg c, if_neg c]
    have e1 : ((1 : Int32) * u).toInt = u.toInt := by rw [Int32.one_mul]
    have e3 : (((1 : Int32) + 1) * u).toInt = 2 * u.toInt := ti_mul (by decide) rfl (by omega) (by omega)
    have f1 := far_val (p := (1 : Int32) * u) h1 h2 h3 (by omega) (by omega)
    have f2 := far_val (p := ((1 : Int32) + 1) * u) h1 h2 h3 (by omega) (by omega)
    rw [e1] at f1
    rw [e3] at f2
    have y : farF lo hi ((1 : Int32) * u) ≤ farF lo hi (((1 : Int32) + 1) * u) := by
      rw [Int32.le_iff_toInt_le, f1, f2]
      split <;> split <;> (try split) <;> (try split) <;> omega
    rw [if_pos y]
    exact ⟨rfl, by decide, by rw [ti_1]; omega⟩
theorem off_eq {lo hi mk u : Int32} (h : SpK lo hi mk) (hu : 10 ≤ u.toInt ∧ u.toInt ≤ 2000) : ofF lo hi mk u = offF lo hi mk u ∧ 0 ≤ (offF lo hi mk u).toInt ∧ (offF lo hi mk u).toInt ≤ u.toInt := by
  obtain ⟨t1, t2, t3⟩ := times_eq h hu
  obtain ⟨⟨h1, h2, h3⟩, h4, h5⟩ := h
  have t0 : 0 ≤ (timesF lo hi mk u).toInt * u.toInt := Int.mul_nonneg (by omega) (by omega)
  have e1 := ti_mul (rfl : (timesF lo hi mk u).toInt = _) (rfl : u.toInt = _) (by omega) (by omega)
  have f := far_val (p := timesF lo hi mk u * u) h1 h2 h3 (by omega) (by omega)
  rw [e1] at f
  unfold ofF offF
  rw [t1]
  have ev : (aMin u (if lo ≤ timesF lo hi mk u * u then aMax 0 (timesF lo hi mk u * u - hi) else lo - timesF lo hi mk u * u)).toInt = min u.toInt (farF lo hi (timesF lo hi mk u * u)).toInt := by
    rw [ti_min, f]
    by_cases c : lo ≤ timesF lo hi mk u * u
    · have c1 := Int32.le_iff_toInt_le.mp c
      rw [e1] at c1
      have s := ti_sub e1 (rfl : hi.toInt = _) (by omega) (by omega)
      rw [if_pos c, ti_max, ti_0, s, if_neg (show ¬ (timesF lo hi mk u).toInt * u.toInt < lo.toInt by omega)]
      split <;> omega
    · have c1 : ¬ lo.toInt ≤ (timesF lo hi mk u).toInt * u.toInt := fun q => c (Int32.le_iff_toInt_le.mpr (by rw [e1]; exact q))
      have s := ti_sub (rfl : lo.toInt = _) e1 (by omega) (by omega)
      rw [if_neg c, s, if_pos (show (timesF lo hi mk u).toInt * u.toInt < lo.toInt by omega)]
  have fp : 0 ≤ (farF lo hi (timesF lo hi mk u * u)).toInt := by
    rw [f]
    split
    · omega
    · split <;> omega
  refine ⟨ti_eq ?_, by omega, by omega⟩
  rw [ev]
  by_cases c : u ≤ farF lo hi (timesF lo hi mk u * u)
  · have := Int32.le_iff_toInt_le.mp c
    rw [if_pos c]
    omega
  · have : ¬ u.toInt ≤ (farF lo hi (timesF lo hi mk u * u)).toInt := fun q => c (Int32.le_iff_toInt_le.mpr q)
    rw [if_neg c]
    omega
end NMs
end
section
/-! lists of stones and sums over them -/
noncomputable def chL (P : Nat → Prop) (n : Nat) : List Nat := (List.range n).filter (fun s => @decide (P s) (Classical.propDecidable _))
def sumL (g : Nat → Int32) (L : List Nat) : Int32 := L.foldl (fun a s => a + g s) 0
section CLs
variable {P : Nat → Prop} {n : Nat} {g : Nat → Int32}
theorem chL_t (h : P n) : chL P (n + 1) = chL P n ++ [n] := by
  unfold chL
  rw [List.range_succ, List.filter_append]
  simp [h]
theorem chL_f (h : ¬ P n) : chL P (n + 1) = chL P n := by
  unfold chL
  rw [List.range_succ, List.filter_append]
  simp [h]
theorem chL_0 : chL P 0 = [] := rfl
theorem chL_mem {s : Nat} (h : s ∈ chL P n) : s < n ∧ P s := by
  unfold chL at h
  rw [List.mem_filter] at h
  exact ⟨List.mem_range.mp h.1, by have := h.2; simpa using this⟩
theorem chL_len : (chL P n).length ≤ n := by
  unfold chL
  have := List.length_filter_le (fun s => @decide (P s) (Classical.propDecidable _)) (List.range n)
  rw [List.length_range] at this
  exact this
theorem chL_cg {P2 : Nat → Prop} (h : ∀ s, s < n → (P s ↔ P2 s)) : chL P n = chL P2 n := by
  unfold chL
  refine List.filter_congr (fun s hs => ?_)
  have := h s (List.mem_range.mp hs)
  by_cases q : P s
  · simp [q, this.mp q]
  · have q2 : ¬ P2 s := fun z => q (this.mpr z)
    simp [q, q2]
theorem sumL_snoc {L : List Nat} {s : Nat} : sumL g (L ++ [s]) = sumL g L + g s := by
  unfold sumL
  rw [List.foldl_append]
  rfl
theorem sumL_cg {f : Nat → Int32} {L : List Nat} (h : ∀ s, s ∈ L → f s = g s) : sumL f L = sumL g L := by
  unfold sumL
  generalize (0 : Int32) = a
  induction L generalizing a with
  | nil => rfl
  | cons x L ih =>
    show List.foldl _ (a + f x) L = List.foldl _ (a + g x) L
    rw [h x List.mem_cons_self]
    exact ih (fun s hs => h s (List.mem_cons_of_mem _ hs)) _
theorem sumL_one : ∀ L : List Nat, L.foldl (fun a _ => a + (1 : Int32)) 0 = nI L.length := by
  have : ∀ (L : List Nat) (k : Nat), L.foldl (fun a _ => a + (1 : Int32)) (nI k) = nI (k + L.length) := by
    intro L
    induction L with
    | nil => intro k; rfl
    | cons x L ih =>
      intro k
      show List.foldl _ (nI k + 1) L = _
      rw [← nI_succ, ih (k + 1)]
      congr 1
      simp
      omega
  intro L
  have := this L 0
  rw [Nat.zero_add] at this
  exact this
theorem sI_L {f : Nat → Int32} : ∀ (L : List Nat) (a : Int32) (i : Nat), (∀ j s, L[j]? = some s → f (i + j) = g s) → sI f a i L.length = L.foldl (fun a s => a + g s) a
  | [], a, i, _ => rfl
  | x :: L, a, i, h => by
    show sI f (a + f i) (i + 1) L.length = L.foldl _ (a + g x)
    have h0 := h 0 x rfl
    rw [Nat.add_zero] at h0
    rw [h0]
    refine sI_L L _ (i + 1) (fun j s hs => ?_)
    have := h (j + 1) s hs
    rw [show i + 1 + j = i + (j + 1) by omega]
    exact this
theorem sI_sumL {f : Nat → Int32} {L : List Nat} (h : ∀ j s, L[j]? = some s → f j = g s) : sI f 0 0 L.length = sumL g L := sI_L L 0 0 (fun j s hs => by rw [Nat.zero_add]; exact h j s hs)
end CLs
/-- a counted loop of the reference -/
theorem bM_sum {E1 : ADD} {N : Nat} {P : Nat → Prop} {v : Nat → Int32} {ρ : Type} {Q : ρ → ADD → Prop} {F : (Int32 → Int32 → ADD → Option (ρ × ADD)) → Int32 → Int32 → ADD → Option (ρ × ADD)} {z : Int32 → Int32 → ADD → Option (ρ × ADD)} (hN : N ≤ 32) (hF : ∀ g y k, k < N → (∀ y', (y' = y + v k ∧ P k) ∨ (y' = y + 0 ∧ ¬ P k) → Wp (g y' (nI k + 1) E1) Q) → Wp (F g y (nI k) E1) Q) (hE : ∀ g, Wp (F g (sumL v (chL P N)) (nI N) E1) Q) : Wp (aFix aFuel F z 0 0 E1) Q := by
  refine Wp.go2 (fun k y D' => D' = E1 ∧ y = sumL v (chL P k)) N (by omega) (fun g k y D' hk hI K => ?_) (k0 := 0) rfl (Nat.zero_le _) ⟨rfl, rfl⟩
  obtain ⟨rfl, rfl⟩ := hI
  by_cases e : k = N
  · subst e
    exact hE g
  · refine hF g _ k (by omega) (fun y' hy => K (by omega) y' D' ⟨rfl, ?_⟩)
    rcases hy with ⟨a, b⟩ | ⟨a, b⟩
    · rw [chL_t b, sumL_snoc]
      exact a
    · rw [chL_f b, a, Int32.add_zero]
/-- what the reference's questions rest on: those that P says are chosen -/
def CR (D E1 : ADD) (N : Nat) (P : Nat → Prop) : Prop := (E1.1 0 41 = nI N ∧ N ≤ 32) ∧ ∀ k, k < N → Bo (E1.1 35 k) (P k) ∧ (P k → FcR D E1 k ∧ (E1.1 33 k = loX D (nI k) ∧ E1.1 34 k = hiX D (nI k)) ∧ SpK (loX D (nI k)) (hiX D (nI k)) (knX D (nI k) 7))
section CRs
variable {D E E1 : ADD} {N : Nat} {P : Nat → Prop}
theorem bz_Bo {x : Int32} {C : Prop} (h : Bo x C) : aBz x = 0 ↔ ¬ C := by
  rcases h with ⟨rfl, c⟩ | ⟨rfl, c⟩
  · exact ⟨fun q => absurd q (by decide), fun q => absurd c q⟩
  · exact ⟨fun _ => c, fun _ => by decide⟩
theorem LkR.cr (l : LkR D E E1 (nS (mB E))) (h : RBk (xc D) (mB E)) (w : RuS (xc D) (slM E 0) 12 0 0 True) : CR D E1 (nS (mB E)) (fun k => thE E k ∧ chX D (nI k)) := by
  obtain ⟨l1, l2, l3, l4, l5⟩ := l
  have bw := h.2.2.2.1
  have n5 : ((nS (mB E) : Nat) : Int) = (mB E 5 0).toInt := cl_i bw.1.2.1.1
  have h32 := bw.1.2.1.2
  refine ⟨⟨by rw [l2, ← mB5]; exact nI_val bw.1.2.1.1, by omega⟩, fun k hk => ⟨(l5 k hk).2, fun q => ⟨l4 k hk q.1, (l5 k hk).1 q.1, sp_th h w hk q.1⟩⟩⟩
theorem bM_those (c : CR D E1 N P) : fX11_those E1 = some (nI (chL P N).length, E1) := by
  obtain ⟨⟨c1, c2⟩, c3⟩ := c
  have H : Wp (fX11_those E1) (fun x D1 => D1 = E1 ∧ x = nI (chL P N).length) := by
    unfold fX11_those
    refine Wp.lets (Wp.lets (bM_sum (P := P) (v := fun _ => 1) c2 (fun g y k hk K => ?_) (fun g => ?_)))
    · unfold lX11_those_4
      have vk : (nI k).toInt = (k : Int) := nI_toInt (by omega)
      have vn : (nI N).toInt = (N : Int) := nI_toInt (by omega)
      rw [c1, nI_clamp (show k < 2 ^ 31 by omega)]
      refine Wp.ile (fun q => absurd q (by omega)) (fun _ => Wp.idx (vp_in_nI (by omega) (by decide)) (Wp.lets ?_))
      have b := bz_Bo (c3 k hk).1
      exact Wp.ite (fun q => Wp.lets (Wp.lets (K _ (Or.inr ⟨rfl, b.mp q⟩)))) (fun q => Wp.lets (Wp.lets (K _ (Or.inl ⟨rfl, Classical.byContradiction (fun z => q (b.mpr z))⟩))))
    · unfold lX11_those_4
      rw [c1]
      exact Wp.pos (Int32.le_refl _) (Wp.ret ⟨rfl, sumL_one _⟩)
  obtain ⟨x, D1, e, rfl, rfl⟩ := H
  exact e
/-- a stone's off by a unit -/
noncomputable def ofS (D : ADD) (u : Int32) (s : Nat) : Int32 := offF (loX D (nI s)) (hiX D (nI s)) (knX D (nI s) 7) u
theorem bM_off (c : CR D E1 N P) {k : Nat} {u : Int32} (hk : k < N) (hp : P k) (hu : 10 ≤ u.toInt ∧ u.toInt ≤ 2000) : fX11_off (nI k) u E1 = some (ofS D u k, E1) := by
  obtain ⟨⟨c1, c2⟩, c3⟩ := c
  obtain ⟨-, c4⟩ := c3 k hk
  obtain ⟨f, ⟨lo, hi⟩, sp⟩ := c4 hp
  have vk : (nI k).toInt = (k : Int) := nI_toInt (by omega)
  have f7 : E1.1 32 (11 * k + 7) = knX D (nI k) 7 := f 7 (by decide)
  rw [eM_off (by omega) (u_ne (by omega)), nI_clamp (by omega), lo, hi, f7, (off_eq sp hu).1]
  rfl
theorem bM_scoreOf (c : CR D E1 N P) {u : Int32} (hu : 10 ≤ u.toInt ∧ u.toInt ≤ 2000) : fX11_scoreOf u E1 = some (sumL (fun s => u - 4 * ofS D u s) (chL P N), E1) := by
  have c' := c
  obtain ⟨⟨c1, c2⟩, c3⟩ := c
  have H : Wp (fX11_scoreOf u E1) (fun x D1 => D1 = E1 ∧ x = sumL (fun s => u - 4 * ofS D u s) (chL P N)) := by
    unfold fX11_scoreOf
    refine Wp.lets (Wp.lets (bM_sum (P := P) (v := fun s => u - 4 * ofS D u s) c2 (fun g y k hk K => ?_) (fun g => ?_)))
    · unfold lX11_scoreOf_4
      have vk : (nI k).toInt = (k : Int) := nI_toInt (by omega)
      have vn : (nI N).toInt = (N : Int) := nI_toInt (by omega)
      rw [c1, nI_clamp (show k < 2 ^ 31 by omega)]
      refine Wp.ile (fun q => absurd q (by omega)) (fun _ => Wp.idx (vp_in_nI (by omega) (by decide)) (Wp.lets ?_))
      have b := bz_Bo (c3 k hk).1
      refine Wp.ite (fun q => Wp.lets (Wp.lets (K _ (Or.inr ⟨rfl, b.mp q⟩)))) (fun q => ?_)
      have pk : P k := Classical.byContradiction (fun z => q (b.mpr z))
      exact Wp.bindE (bM_off c' hk pk hu) (Wp.lets (Wp.lets (K _ (Or.inl ⟨rfl, pk⟩))))
    · unfold lX11_scoreOf_4
      rw [c1]
      exact Wp.pos (Int32.le_refl _) (Wp.ret ⟨rfl, rfl⟩)
  obtain ⟨x, D1, e, rfl, rfl⟩ := H
  exact e
/-- the class gathers just those that the reference goes through -/
theorem gaL_th (h : RBk (xc D) (mB E)) (k v : Int32) : gaL D k v (D.1 2 9).toNatClampNeg = chL (fun s => thE E s ∧ blX D k v (nI s)) (nS (mB E)) := by
  obtain ⟨-, -, -, bw, s0, t0, -, -⟩ := h
  have s0 : 0 ≤ (D.1 2 9).toInt ∧ (D.1 2 9).toInt ≤ (mB E 5 0).toInt := s0
  have t0 : ∀ s : Nat, s < nS (mB E) → ((s : Int) < (D.1 2 9).toInt ↔ thE E s) := t0
  have n5 : ((nS (mB E) : Nat) : Int) = (mB E 5 0).toInt := cl_i bw.1.2.1.1
  have e9 := cl_i s0.1
  have step : ∀ i, i ≤ nS (mB E) → chL (fun s => thE E s ∧ blX D k v (nI s)) i = gaL D k v (min i (D.1 2 9).toNatClampNeg) := by
    intro i
    induction i with
    | zero => intro _; rw [Nat.zero_min]; rfl
    | succ i ih =>
      intro hi
      have ih := ih (by omega)
      have t := t0 i (by omega)
      by_cases c : i < (D.1 2 9).toNatClampNeg
      · have th : thE E i := t.mp (by omega)
        rw [show min (i + 1) (D.1 2 9).toNatClampNeg = i + 1 by omega]
        rw [show min i (D.1 2 9).toNatClampNeg = i by omega] at ih
        by_cases b : blX D k v (nI i)
        · rw [chL_t ⟨th, b⟩, gaL_t b, ih]
        · rw [chL_f (fun z => b z.2), gaL_f b, ih]
      · have th : ¬ thE E i := fun z => by have := t.mpr z; omega
        rw [show min (i + 1) (D.1 2 9).toNatClampNeg = (D.1 2 9).toNatClampNeg by omega]
        rw [show min i (D.1 2 9).toNatClampNeg = (D.1 2 9).toNatClampNeg by omega] at ih
        rw [chL_f (fun z => th z.1), ih]
  rw [step _ (Nat.le_refl _), show min (nS (mB E)) (D.1 2 9).toNatClampNeg = (D.1 2 9).toNatClampNeg by omega]
theorem bl_0 {v s : Int32} : blX D 0 v s ↔ chX D s := by
  unfold blX
  rw [ti_0, if_neg (by decide), if_neg (by decide), if_neg (by decide), if_neg (by decide), if_neg (by decide)]
  exact ⟨fun h => h.1, fun h => ⟨h, trivial⟩⟩
/-- the class's pile, by the list it holds -/
theorem PilX.has {D1 : ADD} {L : List Nat} (p : PilX D D1 L) {i s : Nat} (h : L[i]? = some s) : hasX D1 (nI i) ∧ (nI i).toNatClampNeg = i := by
  obtain ⟨p1, p2, p3⟩ := p
  have hl : i < L.length := (List.getElem?_eq_some_iff.mp h).1
  have vi : (nI i).toInt = (i : Int) := nI_toInt (by omega)
  exact ⟨⟨by omega, by omega, by omega⟩, nI_clamp (by omega)⟩
theorem PilX.off {D1 : ADD} {L : List Nat} (p : PilX D D1 L) {i s : Nat} (u : Int32) (h : L[i]? = some s) : offX D1 (nI i) u = ofS D u s := by
  obtain ⟨a, b⟩ := p.has h
  obtain ⟨e1, e2, e3, e4, e5⟩ := p.2.2 i s h
  unfold offX
  rw [if_pos a, b, e4, e5, e2]
  rfl
theorem sum_lin {u : Int32} {f : Nat → Int32} (L : List Nat) : sumL (fun s => u - 4 * f s) L = u * nI L.length - 4 * sumL f L := by
  have step : ∀ (L : List Nat) (A F : Int32) (n : Nat), A = u * nI n - 4 * F → L.foldl (fun a s => a + (u - 4 * f s)) A = u * nI (n + L.length) - 4 * L.foldl (fun a s => a + f s) F := by
    intro L
    induction L with
    | nil => intro A F n h; exact h
    | cons x L ih =>
      intro A F n h
      show List.foldl _ (A + (u - 4 * f x)) L = u * nI (n + (L.length + 1)) - 4 * List.foldl _ (F + f x) L
      rw [show n + (L.length + 1) = n + 1 + L.length by omega]
      refine ih _ _ (n + 1) ?_
      rw [h, nI_succ, Int32.mul_add, Int32.mul_add, Int32.mul_one, Int32.sub_eq_add_neg, Int32.sub_eq_add_neg, Int32.sub_eq_add_neg, Int32.neg_add, Int32.sub_eq_add_neg]
      ac_rfl
  have := step L 0 0 0 (by rw [nI_0, Int32.mul_zero, Int32.mul_zero, Int32.sub_self])
  rw [Nat.zero_add] at this
  exact this
end CRs
end
section
/-! score, span, by, count: both sides -/
theorem short_eq {hi mk u : Int32} (h : 1 ≤ hi.toInt ∧ hi.toInt ≤ 60000) (hm : 0 ≤ mk.toInt ∧ mk.toInt ≤ 60) (hu : 10 ≤ u.toInt ∧ u.toInt ≤ 2000) : ∀ t : Int32, (t = if mk = 0 then (if hi / u = 0 then hi / u + 1 else if 2 * (hi - hi / u * u) < u then hi / u else hi / u + 1) else mk) → (if t * u ≤ hi then 0 else t * u - hi) = shortF hi mk u := by
  intro t ht
  have un : ¬ u ≤ 0 := fun q => by have := Int32.le_iff_toInt_le.mp q; rw [ti_0] at this; omega
  have ed := ti_div (rfl : hi.toInt = _) (rfl : u.toInt = _) (by omega) (by omega)
  rw [Int.tdiv_eq_ediv_of_nonneg (by omega)] at ed
  have q1 := Int.mul_ediv_add_emod hi.toInt u.toInt
  have q2 := Int.emod_nonneg hi.toInt (show u.toInt ≠ 0 by omega)
  have q3 := Int.emod_lt_of_pos hi.toInt (show 0 < u.toInt by omega)
  have q0 : 0 ≤ hi.toInt / u.toInt := Int.ediv_nonneg (by omega) (by omega)
  generalize hi.toInt / u.toInt = dd at ed q1 q0
  generalize hi.toInt % u.toInt = rr at q1 q2 q3
  have pm : u.toInt * dd = dd * u.toInt := Int.mul_comm _ _
  have p0 : 0 ≤ dd * u.toInt := Int.mul_nonneg q0 (by omega)
  generalize hp : dd * u.toInt = pp at pm p0
  have d6 : dd ≤ 60000 := by
    have : dd * 1 ≤ dd * u.toInt := Int.mul_le_mul_of_nonneg_left (by omega) q0
    omega
  -- the class's times, as a number
  have tv : (if mk ≤ 0 then aMax 1 (if u ≤ 0 then 0 else (2 * hi + u) / (2 * u)) else mk) = t := by
    by_cases m : mk = 0
    · have m1 : mk ≤ 0 := by rw [m]; decide
      rw [if_pos m1, if_neg un]
      rw [if_pos m] at ht
      have a1 : (2 * hi).toInt = 2 * hi.toInt := ti_mul (by decide) rfl (by omega) (by omega)
      have a2 := ti_add a1 (rfl : u.toInt = _) (by omega) (by omega)
      have a3 : (2 * u).toInt = 2 * u.toInt := ti_mul (by decide) rfl (by omega) (by omega)
      have a4 := ti_div a2 a3 (by omega) (by omega)
      rw [Int.tdiv_eq_ediv_of_nonneg (by omega)] at a4
      have e1 := ti_mul ed (rfl : u.toInt = _) (by omega) (by omega)
      rw [hp] at e1
      have e2 := ti_sub (rfl : hi.toInt = _) e1 (by omega) (by omega)
      have e3 : (2 * (hi - hi / u * u)).toInt = 2 * (hi.toInt - pp) := ti_mul (by decide) e2 (by omega) (by omega)
      have e4 := ti_add ed ti_1 (by omega) (by omega)
      -- the rounded quotient
      have rq : (2 * hi.toInt + u.toInt) / (2 * u.toInt) = if 2 * rr < u.toInt then dd else dd + 1 := by
        have c1 : 2 * hi.toInt + u.toInt = (2 * rr + u.toInt) + dd * (2 * u.toInt) := by
          have : dd * (2 * u.toInt) = 2 * (dd * u.toInt) := by rw [Int.mul_left_comm]
          omega
        rw [c1, Int.add_mul_ediv_right _ _ (show 2 * u.toInt ≠ 0 by omega)]
        by_cases s : 2 * rr < u.toInt
        · rw [if_pos s, Int.ediv_eq_zero_of_lt (by omega) (by omega)]
          omega
        · rw [if_neg s]
          have : (2 * rr + u.toInt) / (2 * u.toInt) = 1 := by
            have c2 : 2 * rr + u.toInt = (2 * rr - u.toInt) + 1 * (2 * u.toInt) := by omega
            rw [c2, Int.add_mul_ediv_right _ _ (show 2 * u.toInt ≠ 0 by omega), Int.ediv_eq_zero_of_lt (by omega) (by omega)]
            omega
          omega
      rw [rq] at a4
      refine ti_eq ?_
      rw [ti_max, ti_1, a4, ht]
      by_cases z : hi / u = 0
      · have z1 : dd = 0 := by rw [← ed, z, ti_0]
        rw [if_pos z, e4, z1]
        split <;> omega
      · have z1 : dd ≠ 0 := fun q => z (ti_eq (by rw [ed, q, ti_0]))
        rw [if_neg z]
        by_cases y : 2 * (hi - hi / u * u) < u
        · have y1 := Int32.lt_iff_toInt_lt.mp y
          rw [e3] at y1
          rw [if_pos y, ed, if_pos (by omega)]
          omega
        · have y1 : ¬ 2 * (hi.toInt - pp) < u.toInt := fun q => y (Int32.lt_iff_toInt_lt.mpr (by rw [e3]; exact q))
          rw [if_neg y, e4, if_neg (by omega)]
          omega
    · have m2 : mk.toInt ≠ 0 := fun q => m (ti_eq (by rw [q, ti_0]))
      have m1 : ¬ mk ≤ 0 := fun q => by have := Int32.le_iff_toInt_le.mp q; rw [ti_0] at this; omega
      rw [if_neg m1]
      rw [if_neg m] at ht
      exact ht.symm
  unfold shortF
  rw [tv]
  -- no overflow
  have tb : 0 ≤ t.toInt * u.toInt ∧ t.toInt * u.toInt ≤ 200000 := by
    rw [ht]
    have e4 := ti_add ed ti_1 (by omega) (by omega)
    have pq : (dd + 1) * u.toInt = pp + u.toInt := by rw [Int.add_mul, hp, Int.one_mul]
    split
    · split
      · rw [e4, pq]
        omega
      · split
        · rw [ed, hp]
          omega
        · rw [e4, pq]
          omega
    · have : mk.toInt * u.toInt ≤ 60 * u.toInt := Int.mul_le_mul_of_nonneg_right hm.2 (by omega)
      have : 0 ≤ mk.toInt * u.toInt := Int.mul_nonneg hm.1 (by omega)
      omega
  have e1 := ti_mul (rfl : t.toInt = _) (rfl : u.toInt = _) (by omega) (by omega)
  have e2 := ti_sub e1 (rfl : hi.toInt = _) (by omega) (by omega)
  refine ti_eq ?_
  rw [ti_max, ti_0, e2]
  by_cases c : t * u ≤ hi
  · have c1 := Int32.le_iff_toInt_le.mp c
    rw [if_pos c, ti_0]
    omega
  · have c1 : ¬ t.toInt * u.toInt ≤ hi.toInt := fun q => c (Int32.le_iff_toInt_le.mpr (by rw [e1]; exact q))
    rw [if_neg c, e2]
    omega
section A1s
variable {D E E1 : ADD} {n0 : Nat} {P : APD}
theorem lk0 (q : QM E) (h : RBk (xc D) (mB E)) (w : RuS (xc D) (slM E 0) 12 0 0 True) (c : RCh (xc D) (slM E 0)) : Wp (fX11_look (aSI E 0 0 0)) (fun _ E1 => LkR D E E1 (nS (mB E)) ∧ CR D E1 (nS (mB E)) (fun k => thE E k ∧ chX D (nI k))) := by
  have f1 : FmM E (aSI E 0 0 0) := FmM.code
  have e0 : slM (aSI E 0 0 0) 0 = slM E 0 := slM_fm f1
  have em : mB (aSI E 0 0 0) = mB E := f1.mb
  refine (bM_look (D := D) (q.fr f1) (by rw [em]; exact h) (by rw [e0]; exact w) (by rw [e0]; exact c)).mono (fun _ E1 l => ?_)
  have l2 : LkR D E E1 (nS (mB E)) := by
    obtain ⟨l1, l2, l3, l4, l5⟩ := l
    have ht : ∀ k, thE (aSI E 0 0 0) k ↔ thE E k := fun k => by unfold thE; rw [em]
    have hn : nS (mB (aSI E 0 0 0)) = nS (mB E) := by rw [em]
    refine ⟨fun c hc => by rw [l1 c hc, si_o (by omega)], by rw [l2, si_o (by decide)], fun k hk => ?_, fun k hk t => l4 k (by rw [hn]; exact hk) ((ht k).mpr t), fun k hk => ?_⟩
    · rw [l3 k (by rw [hn]; exact hk)]
      by_cases t : thE E k
      · rw [if_pos t, if_pos ((ht k).mpr t)]
      · rw [if_neg t, if_neg (fun z => t ((ht k).mp z))]
    · obtain ⟨a, b⟩ := l5 k (by rw [hn]; exact hk)
      refine ⟨fun t => a ((ht k).mpr t), ?_⟩
      rcases b with ⟨x, y, z⟩ | ⟨x, y⟩
      · exact Or.inl ⟨x, (ht k).mp y, z⟩
      · exact Or.inr ⟨x, fun z => y ⟨(ht k).mpr z.1, z.2⟩⟩
  exact ⟨l2, l2.cr h w⟩
/-- the chosen stones -/
noncomputable def cL0 (D E : ADD) : List Nat := chL (fun k => thE E k ∧ chX D (nI k)) (nS (mB E))
theorem ga0 (q : QX D) (h : RBk (xc D) (mB E)) : Wp (fX4_gather 0 0 D) (fun r D1 => r = D1.1 43 0 ∧ FrP D D1 ∧ PilX D D1 (cL0 D E)) := by
  refine (tX4_gather (k := 0) (v := 0) (FrP.refl D) q.1 q.2.1).mono (fun r D1 k => ⟨k.1, k.2.1, ?_⟩)
  have := k.2.2
  rw [gaL_th h] at this
  unfold cL0
  rw [chL_cg (P2 := fun s => thE E s ∧ blX D 0 0 (nI s)) (fun s _ => by rw [bl_0])]
  exact this
theorem pil_m {D1 : ADD} {L : List Nat} (p : PilX D D1 L) : D1.1 43 0 = nI L.length ∧ mnX D1 = L.length ∧ (D1.1 43 0).toInt ≤ 32 := by
  obtain ⟨p1, p2, -⟩ := p
  have v : (nI L.length).toInt = (L.length : Int) := nI_toInt (by omega)
  have e : D1.1 43 0 = nI L.length := ti_eq (by rw [p1, v])
  refine ⟨e, ?_, by omega⟩
  show (D1.1 43 0).toNatClampNeg = _
  rw [e]
  exact nI_clamp (by omega)
theorem pil_score {D1 : ADD} {L : List Nat} (p : PilX D D1 L) (u : Int32) : fX4_scoreBy u D1 = some (u * nI L.length - 4 * sumL (ofS D u) L, D1) := by
  obtain ⟨m1, m2, m3⟩ := pil_m p
  rw [eX_scoreBy u m3, m1, m2, sI_sumL (g := ofS D u) (fun j s hs => p.off u hs)]
theorem jr_score {a : Int32} (h : IR RF n0 P E) : BR RF n0 P id (fX10_score a P.2) (fX11_score a E) := by
  obtain ⟨hb, ⟨tp, fl, w, pr⟩, hc⟩ := h.nowF
  have qx := h.1.2.1.2.qx
  have qm := h.1.2.2.1.qm
  refine h.askE (v := if 10 ≤ a.toInt ∧ a.toInt ≤ 2000 then a * nI (cL0 P.2 E).length - 4 * sumL (ofS P.2 a) (cL0 P.2 E) else -1000000000) (fun q => oX_score q) (fun q => oM_score q) ?_ ?_
  · unfold fX10_score
    refine Wp.bindE (eX_isUnit _ _) ?_
    by_cases hu : 10 ≤ a.toInt ∧ a.toInt ≤ 2000
    · rw [if_pos hu, if_pos hu]
      exact Wp.neg (by decide) (Wp.bind (ga0 qx hb) (fun r D1 k => Wp.bindE (pil_score k.2.2 a) (Wp.ret rfl)))
    · rw [if_neg hu, if_neg hu]
      exact Wp.pos rfl (Wp.ret rfl)
  · unfold fX11_score
    refine Wp.lets (Wp.bindE (eM_isUnit _ _) ?_)
    by_cases hu : 10 ≤ a.toInt ∧ a.toInt ≤ 2000
    · rw [if_pos hu, if_pos hu]
      refine Wp.neg (by decide) (Wp.bind (lk0 qm hb w hc) (fun _ E1 l => Wp.bindE (bM_scoreOf l.2 hu) (Wp.ret ?_)))
      rw [sum_lin]
      rfl
    · rw [if_neg hu, if_neg hu]
      exact Wp.pos rfl (Wp.ret rfl)
theorem st_nS (h : RBk (xc D) (mB E)) {a : Int32} (s : stM E a) : a = nI a.toNatClampNeg ∧ a.toNatClampNeg < nS (mB E) ∧ thE E a.toNatClampNeg ∧ a.toNatClampNeg < 32 := by
  have bw := h.2.2.2.1
  have n5 : ((nS (mB E) : Nat) : Int) = (mB E 5 0).toInt := cl_i bw.1.2.1.1
  have h32 := bw.1.2.1.2
  rw [mB5] at n5 h32
  obtain ⟨⟨s1, s2⟩, s3⟩ := s
  have ea := cl_i s1
  exact ⟨nI_val s1, by omega, s3, by omega⟩
theorem jr_span {a b : Int32} (h : IR RF n0 P E) : BR RF n0 P id (fX10_span a b P.2) (fX11_span a b E) := by
  obtain ⟨hb, ⟨tp, fl, w, pr⟩, hc⟩ := h.nowF
  have qx := h.1.2.1.2.qx
  have qm := h.1.2.2.1.qm
  have si := seen_iff hb (a := a)
  have z1 : (1 : Int32).toInt = 1 := by decide
  have z2 : (2 : Int32).toInt = 2 := by decide
  refine h.askE (v := if stM E a then (if b.toInt = 0 then loX P.2 a else if b.toInt = 1 then hiX P.2 a else if b.toInt = 2 then @ite _ (chX P.2 a) (Classical.propDecidable _) 1 0 else -1) else -1) (fun q => oX_span q) (fun q => oM_span q) ?_ ?_
  · unfold fX10_span
    refine Wp.bind (tX4_takeAlone qx.1 qx.2.1) (fun x D1 q => ?_)
    obtain ⟨f, q⟩ := q
    by_cases hs : stM E a
    · have s3 := si.mpr hs
      rw [if_pos ⟨s3.1, s3.2.1⟩] at q
      obtain ⟨rfl, pl⟩ := q
      have va : a = nI a.toNatClampNeg := nI_val s3.1
      obtain ⟨e1, e2, e3, e4, e5⟩ := pl.2.2 0 a.toNatClampNeg rfl
      rw [← va] at e4 e5
      rw [if_pos hs]
      refine Wp.neg (by decide) (Wp.tab3 (fun h0 => Wp.idd (by decide) (Wp.ret ?_)) (fun h1 => Wp.idd (by decide) (Wp.ret ?_)) (fun h2 => Wp.bind tX1_takes (fun y D2 q2 => ?_)) (fun hd => Wp.ret ?_))
      · rw [if_pos h0]; exact e4
      · rw [if_neg (by omega), if_pos h1]; exact e5
      · obtain ⟨rfl, q2⟩ := q2
        rw [if_neg (by omega), if_neg (by omega), if_pos h2]
        rcases q2 with ⟨y1, y2⟩ | ⟨y1, y2⟩
        · rw [y1, if_pos ((f.ch a).mp y2)]
          exact Wp.lets (Wp.neg (by decide) (Wp.ret rfl))
        · rw [y1, if_neg (fun z => y2 ((f.ch a).mpr z))]
          exact Wp.lets (Wp.pos rfl (Wp.ret rfl))
      · rw [if_neg (by omega), if_neg (by omega), if_neg (by omega)]
    · rw [if_neg (fun z => hs (si.mp ⟨z.1, z.2, by have := qx.1; omega⟩))] at q
      rw [q, if_neg hs]
      exact Wp.pos rfl (Wp.ret rfl)
  · unfold fX11_span
    have f1 : FmM E (aSI E 0 0 0) := FmM.code
    have eS : stM (aSI E 0 0 0) a ↔ stM E a := by
      unfold stM
      rw [f1.mb, f1 5 (by omega)]
    refine Wp.lets (Wp.bindE (eM_isStone (qm.fr f1)) ?_)
    by_cases hs : stM E a
    · rw [if_pos (eS.mpr hs), if_pos hs]
      obtain ⟨va, hn, ht, h32⟩ := st_nS hb hs
      refine Wp.neg (by decide) (Wp.bind (lk0 qm hb w hc) (fun _ E1 l => Wp.lets ?_))
      obtain ⟨⟨l1, l2, l3, l4, l5⟩, -⟩ := l
      obtain ⟨m1, m2⟩ := l5 _ hn
      obtain ⟨lo, hi⟩ := m1 ht
      rw [← va] at lo hi m2
      have ia : vp_in a 32 := by rw [va]; exact vp_in_nI h32 (by decide)
      refine Wp.ite (fun b0 => Wp.idx ia (Wp.ret ?_)) (fun b0 => Wp.ite (fun b1 => Wp.idx ia (Wp.ret ?_)) (fun b1 => Wp.ite (fun b2 => Wp.idx ia ?_) (fun b2 => Wp.ret ?_)))
      · rw [if_pos (by rw [b0, ti_0])]; exact lo
      · rw [if_neg (by rw [b1]; decide), if_pos (by rw [b1]; decide)]; exact hi
      · have y0 : ¬ b.toInt = 0 := by rw [b2]; decide
        have y1 : ¬ b.toInt = 1 := by rw [b2]; decide
        have y2 : b.toInt = 2 := by rw [b2]; decide
        rw [if_neg y0, if_neg y1, if_pos y2]
        have bz := bz_Bo m2
        refine Wp.ite (fun y => Wp.ret ?_) (fun y => Wp.ret ?_)
        · rw [if_neg (fun z => bz.mp y ⟨ht, z⟩)]
        · have := Classical.byContradiction (fun z => y (bz.mpr z))
          rw [if_pos this.2]
      · rw [if_neg (fun q => b0 (ti_eq (by rw [q, ti_0]))), if_neg (fun q => b1 (ti_eq (by rw [q, z1]))), if_neg (fun q => b2 (ti_eq (by rw [q, z2])))]
    · rw [if_neg (fun z => hs (eS.mp z)), if_neg hs]
      exact Wp.pos rfl (Wp.ret rfl)
end A1s
end
section
/-! by, count: both sides -/
section A2s
variable {D E E1 : ADD} {n0 : Nat} {P : APD}
/-- what the reference knows of one stone -/
def K1 (D E1 : ADD) (k : Nat) : Prop := k < 32 ∧ FcR D E1 k ∧ (E1.1 33 k = loX D (nI k) ∧ E1.1 34 k = hiX D (nI k)) ∧ SpK (loX D (nI k)) (hiX D (nI k)) (knX D (nI k) 7)
noncomputable def shS (D : ADD) (u : Int32) (s : Nat) : Int32 := shortF (hiX D (nI s)) (knX D (nI s) 7) u
noncomputable def tmS (D : ADD) (u : Int32) (s : Nat) : Int32 := timesF (loX D (nI s)) (hiX D (nI s)) (knX D (nI s) 7) u
theorem CR.k1 {N k : Nat} {R : Nat → Prop} (c : CR D E1 N R) (hk : k < N) (hp : R k) : K1 D E1 k := by
  obtain ⟨⟨c1, c2⟩, c3⟩ := c
  obtain ⟨-, c4⟩ := c3 k hk
  exact ⟨by omega, c4 hp⟩
theorem k1_off {k : Nat} {u : Int32} (c : K1 D E1 k) (hu : 10 ≤ u.toInt ∧ u.toInt ≤ 2000) : fX11_off (nI k) u E1 = some (ofS D u k, E1) := by
  obtain ⟨hk, f, ⟨lo, hi⟩, sp⟩ := c
  have vk : (nI k).toInt = (k : Int) := nI_toInt (by omega)
  have f7 : E1.1 32 (11 * k + 7) = knX D (nI k) 7 := f 7 (by decide)
  rw [eM_off (by omega) (u_ne (by omega)), nI_clamp (by omega), lo, hi, f7, (off_eq sp hu).1]
  rfl
theorem k1_times {k : Nat} {u : Int32} (c : K1 D E1 k) (hu : 10 ≤ u.toInt ∧ u.toInt ≤ 2000) : fX11_timesOf (nI k) u E1 = some (tmS D u k, E1) := by
  obtain ⟨hk, f, ⟨lo, hi⟩, sp⟩ := c
  have vk : (nI k).toInt = (k : Int) := nI_toInt (by omega)
  have f7 : E1.1 32 (11 * k + 7) = knX D (nI k) 7 := f 7 (by decide)
  rw [eM_timesOf (by omega) (u_ne (by omega)), nI_clamp (by omega), lo, hi, f7, (times_eq sp hu).1]
  rfl
theorem k1_short {k : Nat} {u : Int32} (c : K1 D E1 k) (hu : 10 ≤ u.toInt ∧ u.toInt ≤ 2000) : fX11_shortOf (nI k) u E1 = some (shS D u k, E1) := by
  obtain ⟨hk, f, ⟨lo, hi⟩, sp⟩ := c
  have vk : (nI k).toInt = (k : Int) := nI_toInt (by omega)
  have f7 : E1.1 32 (11 * k + 7) = knX D (nI k) 7 := f 7 (by decide)
  have nu := u_ne (show 1 ≤ u.toInt by omega)
  have sh := short_eq (hi := hiX D (nI k)) (mk := knX D (nI k) 7) (u := u) ⟨by have := sp.1; omega, sp.1.2.2⟩ sp.2 hu
  have H : Wp (fX11_shortOf (nI k) u E1) (fun x D1 => D1 = E1 ∧ x = shS D u k) := by
    unfold fX11_shortOf shS
    rw [nI_clamp (show k < 2 ^ 31 by omega), hi]
    refine Wp.idx (vp_in_nI hk (by decide)) (Wp.lets (Wp.bindE (eM_f (by omega) ⟨by decide, by decide⟩) ?_))
    rw [nI_clamp (show k < 2 ^ 31 by omega), show (7 : Int32).toNatClampNeg = 7 from rfl, f7]
    refine Wp.letQ (fun Q j => ∀ t D1, D1 = E1 → (t = if knX D (nI k) 7 = 0 then (if hiX D (nI k) / u = 0 then hiX D (nI k) / u + 1 else if 2 * (hiX D (nI k) - hiX D (nI k) / u * u) < u then hiX D (nI k) / u else hiX D (nI k) / u + 1) else knX D (nI k) 7) → Wp (j t D1) Q) (fun t D1 e ht => ?_) (fun j K => ?_)
    · subst e
      refine Wp.lets ?_
      rw [← sh t ht]
      exact Wp.ite (fun c => Wp.ret ⟨rfl, (if_pos c).symm⟩) (fun c => Wp.ret ⟨rfl, (if_neg c).symm⟩)
    · refine Wp.ite (fun m => Wp.nz nu (Wp.lets (Wp.lets (Wp.lets (Wp.ite (fun z => K _ _ rfl ?_) (fun z => Wp.nz nu (Wp.ite (fun y => K _ _ rfl ?_) (fun y => K _ _ rfl ?_)))))))) (fun m => K _ _ rfl ?_)
      · rw [if_pos m, if_pos z]
      · rw [if_pos m, if_neg z, if_pos y]
      · rw [if_pos m, if_neg z, if_neg y]
      · rw [if_neg m]
  obtain ⟨x, D1, e, rfl, rfl⟩ := H
  exact e
theorem PilX.sho {D1 : ADD} {L : List Nat} (p : PilX D D1 L) {i s : Nat} (u : Int32) (h : L[i]? = some s) : shoX D1 (nI i) u = shS D u s := by
  obtain ⟨a, b⟩ := p.has h
  obtain ⟨e1, e2, e3, e4, e5⟩ := p.2.2 i s h
  unfold shoX
  rw [if_pos a, b, e5, e2]
  rfl
theorem PilX.tim {D1 : ADD} {L : List Nat} (p : PilX D D1 L) {i s : Nat} (u : Int32) (h : L[i]? = some s) : timX D1 (nI i) u = tmS D u s := by
  obtain ⟨a, b⟩ := p.has h
  obtain ⟨e1, e2, e3, e4, e5⟩ := p.2.2 i s h
  unfold timX
  rw [if_pos a, b, e4, e5, e2]
  rfl
noncomputable def byV (D : ADD) (s : Nat) (b c : Int32) : Int32 := if c.toInt = 0 then ofS D b s else if c.toInt = 1 then (if 8 * ofS D b s ≤ b then 1 else 0) else if c.toInt = 2 then shS D b s else if c.toInt = 3 then tmS D b s else -1
theorem jr_by {a b c : Int32} (h : IR RF n0 P E) : BR RF n0 P id (fX10_by a b c P.2) (fX11_by a b c E) := by
  obtain ⟨hb, ⟨tp, fl, w, pr⟩, hc⟩ := h.nowF
  have qx := h.1.2.1.2.qx
  have qm := h.1.2.2.1.qm
  have si := seen_iff hb (a := a)
  have V0 : ∀ s, c.toInt = 0 → byV P.2 s b c = ofS P.2 b s := fun s z => by unfold byV; rw [if_pos z]
  have V1 : ∀ s, c.toInt = 1 → byV P.2 s b c = if 8 * ofS P.2 b s ≤ b then 1 else 0 := fun s z => by unfold byV; rw [if_neg (show ¬ c.toInt = 0 by omega), if_pos z]
  have V2 : ∀ s, c.toInt = 2 → byV P.2 s b c = shS P.2 b s := fun s z => by unfold byV; rw [if_neg (show ¬ c.toInt = 0 by omega), if_neg (show ¬ c.toInt = 1 by omega), if_pos z]
  have V3 : ∀ s, c.toInt = 3 → byV P.2 s b c = tmS P.2 b s := fun s z => by unfold byV; rw [if_neg (show ¬ c.toInt = 0 by omega), if_neg (show ¬ c.toInt = 1 by omega), if_neg (show ¬ c.toInt = 2 by omega), if_pos z]
  have V4 : ∀ s, (c.toInt < 0 ∨ 4 ≤ c.toInt) → byV P.2 s b c = -1 := fun s z => by unfold byV; rw [if_neg (show ¬ c.toInt = 0 by omega), if_neg (show ¬ c.toInt = 1 by omega), if_neg (show ¬ c.toInt = 2 by omega), if_neg (show ¬ c.toInt = 3 by omega)]
  refine h.askE (v := if stM E a ∧ (10 ≤ b.toInt ∧ b.toInt ≤ 2000) then byV P.2 a.toNatClampNeg b c else -1) (fun q => oX_by q) (fun q => oM_by q) ?_ ?_
  · unfold fX10_by
    refine Wp.bindE (eX_isUnit _ _) (Wp.lets ?_)
    by_cases hu : 10 ≤ b.toInt ∧ b.toInt ≤ 2000
    · rw [if_pos hu]
      refine Wp.neg (by decide) (Wp.bind (tX4_takeAlone qx.1 qx.2.1) (fun x D1 q => ?_))
      obtain ⟨f, q⟩ := q
      by_cases hs : stM E a
      · have s3 := si.mpr hs
        rw [if_pos ⟨s3.1, s3.2.1⟩] at q
        obtain ⟨rfl, pl⟩ := q
        have l0 : [a.toNatClampNeg][0]? = some a.toNatClampNeg := rfl
        have o1 : offX D1 0 b = ofS P.2 b a.toNatClampNeg := pl.off b l0
        have o2 : shoX D1 0 b = shS P.2 b a.toNatClampNeg := pl.sho b l0
        have o3 : timX D1 0 b = tmS P.2 b a.toNatClampNeg := pl.tim b l0
        rw [if_pos (show stM E a ∧ (10 ≤ b.toInt ∧ b.toInt ≤ 2000) from ⟨hs, hu⟩)]
        refine Wp.neg (by decide) (Wp.tab4 (fun h0 => Wp.bindE (eX_offOf _ _ _) (Wp.ret ?_)) (fun h1 => Wp.bindE (eX_isNear _ _ _) (Wp.lets ?_)) (fun h2 => Wp.bindE (eX_shortOf _ _ _ (by omega)) (Wp.ret ?_)) (fun h3 => Wp.bindE (eX_timesOf _ _ _) (Wp.ret ?_)) (fun hd => Wp.ret ?_))
        · rw [V0 _ h0, o1]
        · rw [V1 _ h1, o1]
          by_cases n : 8 * ofS P.2 b a.toNatClampNeg ≤ b
          · rw [if_pos n]; exact Wp.neg (by decide) (Wp.ret rfl)
          · rw [if_neg n]; exact Wp.pos rfl (Wp.ret rfl)
        · rw [V2 _ h2, o2]
        · rw [V3 _ h3, o3]
        · rw [V4 _ hd]
      · rw [if_neg (fun z => hs (si.mp ⟨z.1, z.2, by have := qx.1; omega⟩))] at q
        rw [q, if_neg (show ¬ (stM E a ∧ (10 ≤ b.toInt ∧ b.toInt ≤ 2000)) from fun z => hs z.1)]
        exact Wp.pos rfl (Wp.ret rfl)
    · rw [if_neg hu, if_neg (show ¬ (stM E a ∧ (10 ≤ b.toInt ∧ b.toInt ≤ 2000)) from fun z => hu z.2)]
      exact Wp.pos rfl (Wp.ret rfl)
  · unfold fX11_by
    have f1 : FmM E (aSI E 0 0 0) := FmM.code
    have eS : stM (aSI E 0 0 0) a ↔ stM E a := by
      unfold stM
      rw [f1.mb, f1 5 (by omega)]
    refine Wp.lets (Wp.bindE (eM_isStone (qm.fr f1)) (Wp.lets ?_))
    by_cases hs : stM E a
    · rw [if_pos (eS.mpr hs)]
      refine Wp.neg (by decide) (Wp.bindE (eM_isUnit _ _) ?_)
      by_cases hu : 10 ≤ b.toInt ∧ b.toInt ≤ 2000
      · rw [if_pos hu, if_pos (show stM E a ∧ (10 ≤ b.toInt ∧ b.toInt ≤ 2000) from ⟨hs, hu⟩)]
        obtain ⟨va, hn, ht, h32⟩ := st_nS hb hs
        refine Wp.neg (by decide) (Wp.bind (lk0 qm hb w hc) (fun _ E1 l => ?_))
        obtain ⟨⟨l1, l2, l3, l4, l5⟩, -⟩ := l
        have k1 : K1 P.2 E1 a.toNatClampNeg := ⟨h32, l4 _ hn ht, (l5 _ hn).1 ht, sp_th hb w hn ht⟩
        have o1 := k1_off k1 hu
        have o2 := k1_short k1 hu
        have o3 := k1_times k1 hu
        rw [← va] at o1 o2 o3
        refine Wp.tab4 (fun h0 => Wp.bindE o1 (Wp.ret ?_)) (fun h1 => Wp.bindE o1 (Wp.lets ?_)) (fun h2 => Wp.bindE o2 (Wp.ret ?_)) (fun h3 => Wp.bindE o3 (Wp.ret ?_)) (fun hd => Wp.ret ?_)
        · rw [V0 _ h0]
        · rw [V1 _ h1]
          refine Wp.ite (fun y => Wp.ret ?_) (fun y => Wp.ret ?_)
          · rw [if_neg (Int32.not_le.mpr y)]
          · rw [if_pos (Int32.not_lt.mp y)]
        · rw [V2 _ h2]
        · rw [V3 _ h3]
        · rw [V4 _ hd]
      · rw [if_neg hu, if_neg (show ¬ (stM E a ∧ (10 ≤ b.toInt ∧ b.toInt ≤ 2000)) from fun z => hu z.2)]
        exact Wp.pos rfl (Wp.ret rfl)
    · rw [if_neg (fun z => hs (eS.mp z)), if_neg (show ¬ (stM E a ∧ (10 ≤ b.toInt ∧ b.toInt ≤ 2000)) from fun z => hs z.1)]
      exact Wp.pos rfl (Wp.ret rfl)
/-- the class's gathering of any kind -/
theorem gaK (q : QX D) (h : RBk (xc D) (mB E)) (k v : Int32) : Wp (fX4_gather k v D) (fun r D1 => r = D1.1 43 0 ∧ FrP D D1 ∧ PilX D D1 (chL (fun s => thE E s ∧ blX D k v (nI s)) (nS (mB E)))) := by
  refine (tX4_gather (k := k) (v := v) (FrP.refl D) q.1 q.2.1).mono (fun r D1 z => ⟨z.1, z.2.1, ?_⟩)
  have := z.2.2
  rw [gaL_th h] at this
  exact this
theorem bl_1 {v s : Int32} : blX D 1 v s ↔ chX D s ∧ knX D s 4 = v := by
  unfold blX
  rw [ti_1, if_neg (by decide), if_pos rfl]
theorem th_len (h : RBk (xc D) (mB E)) : nI (chL (fun s => thE E s) (nS (mB E))).length = D.1 2 9 := by
  obtain ⟨-, -, -, bw, s0, t0, -, -⟩ := h
  have s0 : 0 ≤ (D.1 2 9).toInt ∧ (D.1 2 9).toInt ≤ (mB E 5 0).toInt := s0
  have t0 : ∀ s : Nat, s < nS (mB E) → ((s : Int) < (D.1 2 9).toInt ↔ thE E s) := t0
  have n5 : ((nS (mB E) : Nat) : Int) = (mB E 5 0).toInt := cl_i bw.1.2.1.1
  have e9 := cl_i s0.1
  have step : ∀ i, i ≤ nS (mB E) → (chL (fun s => thE E s) i).length = min i (D.1 2 9).toNatClampNeg := by
    intro i
    induction i with
    | zero => intro _; rw [Nat.zero_min]; rfl
    | succ i ih =>
      intro hi
      have ih := ih (by omega)
      have t := t0 i (by omega)
      by_cases c : i < (D.1 2 9).toNatClampNeg
      · have th : thE E i := t.mp (by omega)
        rw [chL_t (P := fun s => thE E s) th, List.length_append, ih]
        show _ + 1 = _
        omega
      · have th : ¬ thE E i := fun z => by have := t.mpr z; omega
        rw [chL_f (P := fun s => thE E s) th, ih]
        omega
  rw [step _ (Nat.le_refl _), show min (nS (mB E)) (D.1 2 9).toNatClampNeg = (D.1 2 9).toNatClampNeg by omega]
  exact (nI_val s0.1).symm
noncomputable def cnV (D E : ADD) (a : Int32) : Int32 := if a.toInt = 0 then D.1 2 9 else if a.toInt = 1 then nI (cL0 D E).length else if a.toInt = 2 then D.1 2 10 else if a.toInt = 3 then D.1 2 11 else if a.toInt = 4 then D.1 2 12 else if a.toInt = 5 then D.1 13 0 else if a.toInt = 6 then D.1 22 0 else if 10 ≤ a.toInt ∧ a.toInt ≤ 15 then nI (chL (fun s => thE E s ∧ blX D 1 (a - 10) (nI s)) (nS (mB E))).length else -1
theorem jr_count {a : Int32} (h : IR RF n0 P E) : BR RF n0 P id (fX10_count a P.2) (fX11_count a E) := by
  obtain ⟨hb, ⟨tp, fl, w, pr⟩, hc⟩ := h.nowF
  have qx := h.1.2.1.2.qx
  have qm := h.1.2.2.1.qm
  have w1 := w.1
  have p1 := pr.1
  rw [sm0 (by decide) (by decide)] at w1 p1
  have w1 : P.2.1 13 0 = E.1 15 0 := w1
  have p1 : P.2.1 22 0 = E.1 15 1 := p1
  have e10 : (10 : Int32).toInt = 10 := by decide
  have e15 : (15 : Int32).toInt = 15 := by decide
  have e16 : (16 : Int32).toInt = 16 := by decide
  have V0 : a.toInt = 0 → cnV P.2 E a = P.2.1 2 9 := fun z => by unfold cnV; rw [z]; rfl
  have V1 : a.toInt = 1 → cnV P.2 E a = nI (cL0 P.2 E).length := fun z => by unfold cnV; rw [z]; rfl
  have V2 : a.toInt = 2 → cnV P.2 E a = P.2.1 2 10 := fun z => by unfold cnV; rw [z]; rfl
  have V3 : a.toInt = 3 → cnV P.2 E a = P.2.1 2 11 := fun z => by unfold cnV; rw [z]; rfl
  have V4 : a.toInt = 4 → cnV P.2 E a = P.2.1 2 12 := fun z => by unfold cnV; rw [z]; rfl
  have V5 : a.toInt = 5 → cnV P.2 E a = P.2.1 13 0 := fun z => by unfold cnV; rw [z]; rfl
  have V6 : a.toInt = 6 → cnV P.2 E a = P.2.1 22 0 := fun z => by unfold cnV; rw [z]; rfl
  have Vd : (a.toInt < 0 ∨ 7 ≤ a.toInt) → cnV P.2 E a = if 10 ≤ a.toInt ∧ a.toInt ≤ 15 then nI (chL (fun s => thE E s ∧ blX P.2 1 (a - 10) (nI s)) (nS (mB E))).length else -1 := fun z => by
    unfold cnV
    rw [if_neg (show ¬ a.toInt = 0 by omega), if_neg (show ¬ a.toInt = 1 by omega), if_neg (show ¬ a.toInt = 2 by omega), if_neg (show ¬ a.toInt = 3 by omega), if_neg (show ¬ a.toInt = 4 by omega), if_neg (show ¬ a.toInt = 5 by omega), if_neg (show ¬ a.toInt = 6 by omega)]
  refine h.askE (v := cnV P.2 E a) (fun q => oX_count q) (fun q => oM_count q) ?_ ?_
  · unfold fX10_count
    refine Wp.tab7 (fun z => Wp.ret (V0 z).symm) (fun z => Wp.bind (ga0 qx hb) (fun r D1 k => Wp.ret ?_)) (fun z => Wp.ret (V2 z).symm) (fun z => Wp.ret (V3 z).symm) (fun z => Wp.ret (V4 z).symm) (fun z => Wp.ret (V5 z).symm) (fun z => Wp.ret (V6 z).symm) (fun z => Wp.lets (Wp.lets ?_))
    · rw [V1 z, k.1, (pil_m k.2.2).1]
    · rw [Vd z]
      refine Wp.ilt (fun y => Wp.ret ?_) (fun y => Wp.ile (fun y2 => Wp.ret ?_) (fun y2 => Wp.bind (gaK qx hb 1 (a - 10)) (fun r D1 k => Wp.ret ?_)))
      · rw [if_neg (by omega)]
      · rw [if_neg (by omega)]
      · rw [if_pos (by omega), k.1, (pil_m k.2.2).1]
  · unfold fX11_count
    refine Wp.lets (Wp.bind (lk0 qm hb w hc) (fun _ E1 l => ?_))
    obtain ⟨⟨l1, l2, l3, l4, l5⟩, cr⟩ := l
    obtain ⟨⟨c1, c2⟩, c3⟩ := cr
    have x1 : P.2.1 2 10 = E.1 8 0 := hb.1.2.1.trans mB8
    have x2 : P.2.1 2 11 = E.1 6 0 := hb.1.2.2.1.trans mB6
    have x3 : P.2.1 2 12 = E.1 7 0 := hb.1.2.2.2.trans mB7
    refine Wp.tab7 (fun z => Wp.lets (Wp.lets (bM_sum (P := fun k => thE E k) (v := fun _ => 1) c2 (fun g y k hk K => ?_) (fun g => ?_)))) (fun z => Wp.bindE (bM_those ⟨⟨c1, c2⟩, c3⟩) (Wp.ret ?_)) (fun z => Wp.idd (by decide) (Wp.ret ?_)) (fun z => Wp.idd (by decide) (Wp.ret ?_)) (fun z => Wp.idd (by decide) (Wp.ret ?_)) (fun z => Wp.idd (by decide) (Wp.ret ?_)) (fun z => Wp.idd (by decide) (Wp.ret ?_)) (fun z => Wp.lets (Wp.lets (bM_sum (P := fun k => thE E k ∧ blX P.2 1 (a - 10) (nI k)) (v := fun _ => 1) c2 (fun g y k hk K => ?_) (fun g => ?_))))
    · unfold lX11_count_58
      have vk : (nI k).toInt = (k : Int) := nI_toInt (by omega)
      have vn : (nI (nS (mB E))).toInt = (nS (mB E) : Int) := nI_toInt (by omega)
      rw [c1, nI_clamp (show k < 2 ^ 31 by omega)]
      refine Wp.ile (fun q => absurd q (by omega)) (fun _ => Wp.idx (vp_in_nI (by omega) (by decide)) (Wp.lets ?_))
      rw [l3 k hk]
      by_cases t : thE E k
      · rw [if_pos t]
        exact Wp.neg (by decide) (Wp.lets (Wp.lets (K _ (Or.inl ⟨rfl, t⟩))))
      · rw [if_neg t]
        exact Wp.pos (by decide) (Wp.lets (Wp.lets (K _ (Or.inr ⟨rfl, t⟩))))
    · unfold lX11_count_58
      rw [c1]
      exact Wp.pos (Int32.le_refl _) (Wp.ret ((sumL_one _).trans ((th_len hb).trans (V0 z).symm)))
    · exact (V1 z).symm
    · rw [V2 z, x1, l1 8 (by omega)]; rfl
    · rw [V3 z, x2, l1 6 (by omega)]; rfl
    · rw [V4 z, x3, l1 7 (by omega)]; rfl
    · rw [V5 z, w1, l1 15 (by omega)]; rfl
    · rw [V6 z, p1, l1 15 (by omega)]; rfl
    · unfold lX11_count_133
      have vk : (nI k).toInt = (k : Int) := nI_toInt (by omega)
      have vn : (nI (nS (mB E))).toInt = (nS (mB E) : Int) := nI_toInt (by omega)
      rw [c1, nI_clamp (show k < 2 ^ 31 by omega)]
      refine Wp.ile (fun q => absurd q (by omega)) (fun _ => Wp.idx (vp_in_nI (by omega) (by decide)) (Wp.lets (Wp.lets ?_)))
      obtain ⟨b, f⟩ := c3 k hk
      have b := bz_Bo b
      refine Wp.ite (fun q => Wp.lets (Wp.lets (K _ (Or.inr ⟨rfl, fun y => b.mp q ⟨y.1, (bl_1.mp y.2).1⟩⟩)))) (fun q => ?_)
      have pk := Classical.byContradiction (fun z => q (b.mpr z))
      have f4 : E1.1 32 (11 * k + 4) = knX P.2 (nI k) 4 := (f pk).1 4 (by decide)
      refine Wp.bindE (eM_f (by omega) ⟨by decide, by decide⟩) ?_
      rw [nI_clamp (show k < 2 ^ 31 by omega), show (4 : Int32).toNatClampNeg = 4 from rfl, f4]
      exact Wp.ite (fun y => Wp.lets (Wp.lets (K _ (Or.inl ⟨rfl, pk.1, bl_1.mpr ⟨pk.2, y⟩⟩)))) (fun y => Wp.lets (Wp.lets (K _ (Or.inr ⟨rfl, fun t => y (bl_1.mp t.2).2⟩))))
    · unfold lX11_count_133
      rw [c1]
      refine Wp.pos (Int32.le_refl _) (Wp.bindE (eM_is _ _ _ _) (Wp.lets ?_))
      rw [e10, e15, Vd z]
      by_cases y : 10 ≤ a.toInt ∧ a.toInt ≤ 15
      · rw [if_pos y, if_pos y]
        exact Wp.neg (by decide) (Wp.ret (sumL_one _))
      · rw [if_neg y, if_neg y]
        exact Wp.pos rfl (Wp.ret rfl)
end A2s
end
