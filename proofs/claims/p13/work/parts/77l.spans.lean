/-! the reference's spans and who is chosen, beside the class's -/
theorem what_lo : ∀ k, k < 8 → ∀ c, c < 2 → (nI (k + 8 * c) &&& 7) = nI k := by decide +kernel
theorem what_hi : ∀ k, k < 8 → ∀ c, c < 2 → (nI (k + 8 * c) ≤ 7 ↔ c = 0) := by decide +kernel
section SPs
variable {D E E1 : ADD} {o b l : Nat} {wear : Prop} {row : Nat → Int32}
theorem bM_holds (hb : b + l < 32) (hl : l < 16) (r : RuL (xc D) (slM E 0) o b wear l) (hE : ∀ c, 15 ≤ c → c ≤ 22 → E1.1 c = E.1 c) (hr : ∀ i, i < 8 → (wear → i < 7) → E1.1 30 i = row i) : Wp (fX11_holds (nI (b + l)) E1) (fun x D1 => D1 = E1 ∧ Bo x (hldG D (1 + o) row l)) := by
  obtain ⟨m, ⟨a1, a2, a3⟩, a4, -⟩ := r
  have a2 : D.1 (1 + (o + 4)) l = nI m := a2
  rw [show 1 + (o + 4) = 1 + o + 4 by omega] at a2
  rw [sm0 (by decide) (by show b + l < 32; omega)] at a3
  have vm : (nI m).toInt = (m : Int) := nI_toInt (by omega)
  unfold fX11_holds
  have e4 : (4 : Int32) * nI (b + l) = nI (4 * (b + l)) := by
    show (4 : Int32) * nI (b + l) = Int32.ofNat (4 * (b + l))
    rw [Int32.ofNat_mul]
    rfl
  have cb : (nI (b + l)).toNatClampNeg = b + l := nI_clamp (by omega)
  have il : vp_in (nI (b + l)) 128 := vp_in_nI (by omega) (by omega)
  have e16 : E1.1 16 (b + l) = nI m := by rw [hE 16 (by decide) (by decide)]; exact a3
  refine Wp.lets (Wp.lets (Wp.lets (Wp.go1 (fun j D' => D' = E1 ∧ 4 * (b + l) ≤ j ∧ ∀ t, 4 * (b + l) + t < j → (pasG D (1 + o) row (4 * l + t) ↔ aBz (D.1 (1 + o + 8) (4 * l + t)) = 0)) (4 * (b + l) + m) (by omega) (fun g j D' hj hI K => ?_) (k0 := 4 * (b + l)) e4 (by omega) ⟨rfl, Nat.le_refl _, fun t ht => by omega⟩)))
  obtain ⟨rfl, h4, hg⟩ := hI
  unfold lX11_holds_4
  refine Wp.idx il ?_
  rw [cb, e4, e16]
  have vj : (nI j).toInt = (j : Int) := nI_toInt (by omega)
  have vs : (nI (4 * (b + l)) + nI m).toInt = ((4 * (b + l) + m : Nat) : Int) := by
    have := ti_add (nI_toInt (n := 4 * (b + l)) (by omega)) vm (by omega) (by omega)
    omega
  refine Wp.ile (fun q => Wp.ret ⟨rfl, Or.inl ⟨rfl, hl, fun i hi h4' => ?_⟩⟩) (fun q => ?_)
  · rw [a2, vm] at hi
    exact hg i (by omega)
  obtain ⟨t, rfl⟩ : ∃ t, j = 4 * (b + l) + t := ⟨j - 4 * (b + l), by omega⟩
  have tm : t < m := by omega
  have cj : (nI (4 * (b + l) + t)).toNatClampNeg = 4 * (b + l) + t := nI_clamp (by omega)
  have ix : vp_in (nI (4 * (b + l) + t)) 512 := vp_in_nI (by omega) (by omega)
  obtain ⟨⟨k1, k2⟩, n1, w17, w18, w19⟩ := a4 t tm
  have bx : 4 * (b + l) + t < 128 := by omega
  rw [sm0 (by decide) bx] at w17 w18 w19
  have k1 : 0 ≤ (D.1 (1 + (o + 5)) (4 * l + t)).toInt ∧ (D.1 (1 + (o + 5)) (4 * l + t)).toInt < 8 := k1
  have k2 : wear → (D.1 (1 + (o + 5)) (4 * l + t)).toInt < 7 := k2
  have n1 : D.1 (1 + (o + 8)) (4 * l + t) = 0 ∨ D.1 (1 + (o + 8)) (4 * l + t) = 1 := n1
  have w17 : (E.1 17 (4 * (b + l) + t)).toInt = (D.1 (1 + (o + 5)) (4 * l + t)).toInt + 8 * (D.1 (1 + (o + 8)) (4 * l + t)).toInt := w17
  have w18 : E.1 18 (4 * (b + l) + t) = D.1 (1 + (o + 6)) (4 * l + t) := w18
  have w19 : E.1 19 (4 * (b + l) + t) = D.1 (1 + (o + 7)) (4 * l + t) := w19
  rw [show 1 + (o + 5) = 1 + o + 5 by omega] at k1 k2 w17
  rw [show 1 + (o + 8) = 1 + o + 8 by omega] at n1 w17
  rw [show 1 + (o + 6) = 1 + o + 6 by omega] at w18
  rw [show 1 + (o + 7) = 1 + o + 7 by omega] at w19
  rw [cj, hE 17 (by decide) (by decide), hE 18 (by decide) (by decide), hE 19 (by decide) (by decide), w18, w19]
  have ek := cl_i k1.1
  -- the key and whether it is turned
  obtain ⟨c, hc, ec, e17, ez⟩ : ∃ c : Nat, c < 2 ∧ (D.1 (1 + o + 8) (4 * l + t)).toInt = c ∧ E.1 17 (4 * (b + l) + t) = nI ((D.1 (1 + o + 5) (4 * l + t)).toNatClampNeg + 8 * c) ∧ (aBz (D.1 (1 + o + 8) (4 * l + t)) = 0 ↔ c = 0) := by
    rcases n1 with z | z
    · refine ⟨0, by decide, by rw [z]; decide, ti_eq ?_, by rw [z]; decide⟩
      rw [w17, nI_toInt (by omega), z, ti_0]
      omega
    · refine ⟨1, by decide, by rw [z]; decide, ti_eq ?_, by rw [z]; decide⟩
      rw [w17, nI_toInt (by omega), z, ti_1]
      omega
  have kk : (D.1 (1 + o + 5) (4 * l + t)).toNatClampNeg < 8 := by omega
  rw [e17, what_lo _ kk c hc, nI_clamp (by omega), hr _ kk (fun w => by have := k2 w; omega)]
  have pas : pasG D (1 + o) row (4 * l + t) ↔ (if D.1 (1 + o + 6) (4 * l + t) = 60 then row (D.1 (1 + o + 5) (4 * l + t)).toNatClampNeg < D.1 (1 + o + 7) (4 * l + t) else if D.1 (1 + o + 6) (4 * l + t) = 62 then D.1 (1 + o + 7) (4 * l + t) < row (D.1 (1 + o + 5) (4 * l + t)).toNatClampNeg else row (D.1 (1 + o + 5) (4 * l + t)).toNatClampNeg = D.1 (1 + o + 7) (4 * l + t)) := ⟨fun z => z.2.2, fun z => ⟨k1.1, k1.2, z⟩⟩
  generalize row (D.1 (1 + o + 5) (4 * l + t)).toNatClampNeg = v at pas ⊢
  generalize D.1 (1 + o + 7) (4 * l + t) = w at pas ⊢
  have ik : vp_in (nI (D.1 (1 + o + 5) (4 * l + t)).toNatClampNeg) 8 := vp_in_nI (by omega) (by omega)
  have go : ∀ x5 : Int32, (x5 = 0 ∧ ¬ pasG D (1 + o) row (4 * l + t)) ∨ (x5 = 1 ∧ pasG D (1 + o) row (4 * l + t)) → ∀ x6 : Int32, (x6 = if c = 0 then 0 else 1) → Wp (if x5 = x6 then some ((0 : Int32), D') else aLet (nI (4 * (b + l) + t) + (1 : Int32)) (fun x7 => g x7 D')) (fun x D1 => D1 = D' ∧ Bo x (hldG D (1 + o) row l)) := by
    intro x5 h5 x6 h6
    have c01 : c = 0 ∨ c = 1 := by omega
    refine Wp.ite (fun e => Wp.ret ⟨rfl, Or.inr ⟨rfl, fun z => ?_⟩⟩) (fun e => Wp.lets (K (by omega) D' ⟨rfl, by omega, fun u hu => ?_⟩))
    · have z := z.2 t (by rw [a2, vm]; omega) (by omega)
      rw [ez] at z
      rcases h5 with ⟨x, y⟩ | ⟨x, y⟩ <;> rcases c01 with q | q
      · exact y (z.mpr q)
      · rw [x, h6, if_neg (by omega)] at e
        exact absurd e (by decide)
      · rw [x, h6, if_pos q] at e
        exact absurd e (by decide)
      · have := z.mp y
        omega
    · by_cases eu : u = t
      · subst eu
        rw [ez]
        rcases h5 with ⟨x, y⟩ | ⟨x, y⟩ <;> rcases c01 with q | q
        · rw [x, h6, if_pos q] at e
          exact absurd rfl e
        · exact ⟨fun z => absurd z y, fun z => by omega⟩
        · exact ⟨fun _ => q, fun _ => y⟩
        · rw [x, h6, if_neg (by omega)] at e
          exact absurd rfl e
      · exact hg u (by omega)
  have hi := what_hi _ kk c hc
  refine Wp.idx ix (Wp.idx ik (Wp.lets (Wp.idx ix (Wp.lets (Wp.idx ix (Wp.letQ (fun Q j => ∀ x5 : Int32, (x5 = 0 ∧ ¬ pasG D (1 + o) row (4 * l + t)) ∨ (x5 = 1 ∧ pasG D (1 + o) row (4 * l + t)) → Wp (j x5 D') Q) (fun x5 h5 => Wp.idx ix (Wp.lets ?_)) (fun j K5 => ?_)))))))
  · rw [hE 17 (by decide) (by decide), e17]
    refine Wp.ite (fun z => go x5 h5 0 (if_pos (hi.mp z)).symm) (fun z => go x5 h5 1 (if_neg (fun y => z (hi.mpr y))).symm)
  · rw [pas] at K5
    refine Wp.ite (fun s60 => ?_) (fun s60 => Wp.idx ix (Wp.ite (fun s62 => ?_) (fun s62 => ?_)))
    · rw [if_pos s60] at K5
      exact Wp.ite (fun z => K5 0 (Or.inl ⟨rfl, Int32.not_lt.mpr z⟩)) (fun z => K5 1 (Or.inr ⟨rfl, Int32.not_le.mp z⟩))
    · rw [if_neg s60, if_pos s62] at K5
      exact Wp.ite (fun z => K5 0 (Or.inl ⟨rfl, Int32.not_lt.mpr z⟩)) (fun z => K5 1 (Or.inr ⟨rfl, Int32.not_le.mp z⟩))
    · rw [if_neg s60, if_neg s62] at K5
      exact Wp.ite (fun z => K5 1 (Or.inr ⟨rfl, z⟩)) (fun z => K5 0 (Or.inl ⟨rfl, z⟩))
theorem held_eq (v : Int32) : heldF v = aMax (-500) (aMin 1000 v) := by
  refine ti_eq ?_
  have a : (-500 : Int32).toInt = -500 := by decide
  have c : (1000 : Int32).toInt = 1000 := by decide
  rw [ti_max, ti_min, a, c]
  unfold heldF
  split
  · rename_i h
    have h := Int32.le_iff_toInt_le.mp h
    split
    · rename_i h2
      have h2 := Int32.le_iff_toInt_le.mp h2
      omega
    · rename_i h2
      have h2 : ¬ v.toInt ≤ 1000 := fun q => h2 (Int32.le_iff_toInt_le.mpr (by omega))
      omega
  · rename_i h
    have h : ¬ -500 ≤ v.toInt := fun q => h (Int32.le_iff_toInt_le.mpr (by omega))
    omega
theorem one_max (x : Int32) : (if (1 : Int32) ≤ x then x else 1) = aMax 1 x := by
  refine ti_eq ?_
  rw [ti_max, ti_1]
  split
  · rename_i h
    have := Int32.le_iff_toInt_le.mp h
    rw [ti_1] at this
    omega
  · rename_i h
    have : ¬ 1 ≤ x.toInt := fun q => h (Int32.le_iff_toInt_le.mpr (by rw [ti_1]; exact q))
    rw [ti_1]
    omega
/-- the reference's facts of a stone are those that the class knows -/
def FcR (D E1 : ADD) (k : Nat) : Prop := ∀ f, f < 11 → E1.1 32 (11 * k + f) = knX D (nI k) (nI f)
theorem bM_findSpan {k : Nat} (hk : k < 32) (w : RuS (xc D) (slM E 0) 12 0 0 True) (hE : ∀ c, 15 ≤ c → c ≤ 22 → E1.1 c = E.1 c) (hf : FcR D E1 k) : Wp (fX11_findSpan (nI k) E1) (fun _ E2 => (∀ c, c ≠ 30 → c ≠ 33 → c ≠ 34 → E2.1 c = E1.1 c) ∧ (∀ j, E2.1 33 j = if j = k then loX D (nI k) else E1.1 33 j) ∧ ∀ j, E2.1 34 j = if j = k then hiX D (nI k) else E1.1 34 j) := by
  obtain ⟨w1, w2, w3⟩ := w
  rw [sm0 (by decide) (by decide)] at w1
  have w1 : D.1 13 0 = E.1 15 0 := w1
  have w2 : 0 ≤ (D.1 13 0).toInt ∧ (D.1 13 0).toInt ≤ 16 := w2
  have w3 : ∀ l : Nat, (l : Int) < (D.1 13 0).toInt → RuL (xc D) (slM E 0) 12 0 True l := w3
  have vk : (nI k).toInt = (k : Int) := nI_toInt (by omega)
  have ck : (nI k).toNatClampNeg = k := nI_clamp (by omega)
  have hk2 : 0 ≤ (nI k).toInt ∧ (nI k).toInt < 32 := by omega
  have ik : vp_in (nI k) 32 := vp_in_nI hk (by decide)
  have ef : ∀ (D' : ADD) (f : Int32) (n : Nat), f = nI n → n < 11 → D'.1 32 = E1.1 32 → fX11_f (nI k) f D' = some (knX D (nI k) (nI n), D') := fun D' f n e hn h32 => by
    have vn : (nI n).toInt = (n : Int) := nI_toInt (by omega)
    rw [e, eM_f hk2 (by omega), ck, nI_clamp (by omega), h32, hf n hn]
  have en := cl_i w2.1
  unfold fX11_findSpan
  refine Wp.bindE (ef _ 1 1 rfl (by decide) rfl) (Wp.idd (by decide) (Wp.lets (Wp.bindE (ef _ 2 2 rfl (by decide) (si_o (by decide))) (Wp.idd (by decide) (Wp.lets (Wp.bindE (ef _ 3 3 rfl (by decide) (by rw [si_o (by decide), si_o (by decide)])) (Wp.idd (by decide) (Wp.lets (Wp.bindE (ef _ 4 4 rfl (by decide) (by rw [si_o (by decide), si_o (by decide), si_o (by decide)])) (Wp.idd (by decide) (Wp.lets (Wp.bindE (ef _ 7 7 rfl (by decide) (by rw [si_o (by decide), si_o (by decide), si_o (by decide), si_o (by decide)])) (Wp.idd (by decide) (Wp.lets (Wp.bindE (ef _ 8 8 rfl (by decide) (by rw [si_o (by decide), si_o (by decide), si_o (by decide), si_o (by decide), si_o (by decide)])) (Wp.idd (by decide) (Wp.lets (Wp.bindE (ef _ 6 6 rfl (by decide) (by rw [si_o (by decide), si_o (by decide), si_o (by decide), si_o (by decide), si_o (by decide), si_o (by decide)])) (Wp.idd (by decide) (Wp.leti (fun Ea ea => ?_)))))))))))))))))))))
  have fa : ∀ c, c ≠ 30 → Ea.1 c = E1.1 c := fun c hc => by rw [ea, si_o hc, si_o hc, si_o hc, si_o hc, si_o hc, si_o hc, si_o hc]
  have ra : ∀ i, i < 8 → (True → i < 7) → Ea.1 30 i = trF D (nI k) i := fun i _ h7 => by
    have h7 := h7 trivial
    have : i = 0 ∨ i = 1 ∨ i = 2 ∨ i = 3 ∨ i = 4 ∨ i = 5 ∨ i = 6 := by omega
    rw [ea]
    simp only [si_s]
    rcases this with rfl | rfl | rfl | rfl | rfl | rfl | rfl <;> rfl
  clear ea
  have ea32 : Ea.1 32 = E1.1 32 := fa 32 (by decide)
  refine Wp.letQ (fun Q j => Wp (j (wrX D (nI k)).1 (wrX D (nI k)).2 Ea) Q) ?_ (fun j K => Wp.lets ?_)
  · have F : ∀ t, knX D (nI k) 0 - knX D (nI k) 3 + (knX D (nI k) 0 - knX D (nI k) 3) * heldF t / 1000 = knX D (nI k) 0 - knX D (nI k) 3 + (knX D (nI k) 0 - knX D (nI k) 3) * aMax (-500) (aMin 1000 t) / 1000 := fun t => by rw [held_eq]
    refine Wp.bindE (ef _ 0 0 rfl (by decide) ea32) (Wp.bindE (ef _ 3 3 rfl (by decide) ea32) (Wp.lets (Wp.bindE (eM_held _) (Wp.nz (by decide) (Wp.leti (fun x14 e14 => Wp.bindE (eM_held _) (Wp.nz (by decide) (Wp.leti (fun x16 e16 => ?_)))))))))
    have e14 : x14 = knX D (nI k) 0 - knX D (nI k) 3 + (knX D (nI k) 0 - knX D (nI k) 3) * aMax (-500) (aMin 1000 (wrX D (nI k)).1) / 1000 := by rw [e14, ← F]; rfl
    have e16 : x16 = knX D (nI k) 0 - knX D (nI k) 3 + (knX D (nI k) 0 - knX D (nI k) 3) * aMax (-500) (aMin 1000 (wrX D (nI k)).2) / 1000 := by rw [e16, ← F]; rfl
    refine Wp.letQ (fun Q j => ∀ x, x = loX D (nI k) → Wp (j x Ea) Q) (fun x hx => ?_) (fun j K => Wp.ite (fun q => K _ ?_) (fun q => K _ ?_))
    rotate_left
    · have := one_max x14
      rw [if_pos q] at this
      rw [this, e14]
      rfl
    · have := one_max x14
      rw [if_neg q] at this
      rw [this, e14]
      rfl
    refine Wp.idx ik (Wp.leti (fun Eb eb => Wp.letQ (fun Q j => ∀ y, y = hiX D (nI k) → Wp (j y Eb) Q) (fun y hy => ?_) (fun j K => Wp.ite (fun q => K _ ?_) (fun q => K _ ?_))))
    rotate_left
    · have := one_max x16
      rw [if_pos q] at this
      rw [this, e16]
      rfl
    · have := one_max x16
      rw [if_neg q] at this
      rw [this, e16]
      rfl
    rw [ck] at eb
    refine Wp.idx ik (Wp.lets (Wp.ret ⟨fun c c30 c33 c34 => ?_, fun j => ?_, fun j => ?_⟩))
    · rw [ck, si_o c34, eb, si_o c33, fa c c30]
    · rw [ck, si_o (by decide), eb, si_s, hx, fa 33 (by decide)]
    · rw [ck, si_s, hy, eb, si_o (by decide), fa 34 (by decide)]
  · -- line by line
    refine Wp.fix4 (fun m x19 x20 x21 x22 D' => D' = Ea ∧ ∃ l : Nat, x22 = nI l ∧ (l ≤ (D.1 13 0).toNatClampNeg ∨ (x21 = 0 ∧ l ≤ 17)) ∧ ((x21 = 1 ∧ wrF D (trF D (nI k)) x19 x20 l ((D.1 13 0).toNatClampNeg - l) = wrX D (nI k)) ∨ (x21 = 0 ∧ (x19, x20) = wrX D (nI k))) ∧ 20 < m + l) ?_ ?_ aFuel 1000000 _ _ _ _ _ (Nat.le_refl _) ⟨rfl, 0, rfl, Or.inl (Nat.zero_le _), Or.inl ⟨rfl, rfl⟩, by omega⟩
    rotate_left
    · intro x19 x20 x21 x22 D' hI
      obtain ⟨-, l, -, h1, -, h2⟩ := hI
      omega
    intro m g hg x19 x20 x21 x22 D' hI
    obtain ⟨rfl, l, rfl, h1, h2, h3⟩ := hI
    unfold lX11_findSpan_102
    refine Wp.idd (by decide) ?_
    rw [cl_0, fa 15 (by decide), hE 15 (by decide) (by decide), ← w1]
    have vl : (nI l).toInt = (l : Int) := nI_toInt (by omega)
    have cl : (nI l).toNatClampNeg = l := nI_clamp (by omega)
    have fin : (x19, x20) = wrX D (nI k) → Wp (j x19 x20 D') _ := fun e => by
      have e1 : x19 = (wrX D (nI k)).1 := by rw [← e]
      have e2 : x20 = (wrX D (nI k)).2 := by rw [← e]
      rw [e1, e2]
      exact K
    refine Wp.ile (fun q => fin ?_) (fun q => ?_)
    · rcases h2 with ⟨-, h2⟩ | ⟨-, h2⟩
      · rw [show (D.1 13 0).toNatClampNeg - l = 0 by omega] at h2
        exact h2
      · exact h2
    refine Wp.ite (fun z => fin ?_) (fun z => ?_)
    · rcases h2 with ⟨h2, -⟩ | ⟨-, h2⟩
      · rw [h2] at z
        exact absurd z (by decide)
      · exact h2
    obtain ⟨g1, h2⟩ := h2.resolve_right (fun y => z y.1)
    have l16 : l < 16 := by omega
    have rl := w3 l (by omega)
    have rl2 := rl
    obtain ⟨mm, -, -, d1, d2, d3⟩ := rl
    obtain ⟨d3, d4⟩ := d3 trivial
    rw [sm0 (by decide) (by show 0 + l < 32; omega), Nat.zero_add] at d1
    have d1 : E.1 20 l = D.1 14 l := d1
    have d2 : 0 ≤ (D.1 14 l).toInt ∧ (D.1 14 l).toInt < 4 := d2
    have d3 : (D.1 14 l).toInt < 3 := d3
    have d4 : (D.1 14 l).toInt < 2 → (slM E 0 21 (0 + l) = D.1 15 l ∧ slM E 0 22 (0 + l) = D.1 16 l) ∧ _ := d4
    have st : wrF D (trF D (nI k)) x19 x20 l ((D.1 13 0).toNatClampNeg - l) = @ite _ (hldG D 13 (trF D (nI k)) l) (Classical.propDecidable _) (if D.1 14 l = 2 then (x19, x20) else wrF D (trF D (nI k)) (x19 + (if D.1 14 l = 1 then -D.1 16 l else D.1 15 l)) (x20 + (if D.1 14 l = 1 then -D.1 15 l else D.1 16 l)) (l + 1) ((D.1 13 0).toNatClampNeg - (l + 1))) (wrF D (trF D (nI k)) x19 x20 (l + 1) ((D.1 13 0).toNatClampNeg - (l + 1))) := by
      rw [show (D.1 13 0).toNatClampNeg - l = ((D.1 13 0).toNatClampNeg - (l + 1)) + 1 by omega]
      rfl
    rw [st] at h2
    have hh := bM_holds (E1 := D') (row := trF D (nI k)) (b := 0) (l := l) (o := 12) (by omega) l16 rl2 (fun c a b => by rw [fa c (by omega), hE c a b]) ra
    rw [Nat.zero_add] at hh
    refine Wp.bind hh (fun x23 D25 q23 => ?_)
    obtain ⟨rfl, q23⟩ := q23
    have il : vp_in (nI l) 128 := vp_in_nI (by omega) (by decide)
    have f20 : D25.1 20 l = D.1 14 l := by rw [fa 20 (by decide), hE 20 (by decide) (by decide)]; exact d1
    refine Wp.lets (Wp.ite (fun z0 => ?_) (fun z0 => ?_))
    · have nh : ¬ hldG D 13 (trF D (nI k)) l := by
        rcases q23 with ⟨y, -⟩ | ⟨-, y⟩
        · rw [y] at z0
          exact absurd z0 (by decide)
        · exact y
      rw [if_neg nh] at h2
      exact Wp.lets (hg _ _ _ _ _ ⟨rfl, l + 1, (nI_succ l).symm, Or.inl (by omega), Or.inl ⟨g1, h2⟩, by omega⟩)
    · have yh : hldG D 13 (trF D (nI k)) l := by
        rcases q23 with ⟨-, y⟩ | ⟨y, -⟩
        · exact y
        · exact absurd y z0
      rw [if_pos yh] at h2
      refine Wp.idx il ?_
      rw [cl, f20]
      have v2 : (2 : Int32).toInt = 2 := by decide
      by_cases s2 : (D.1 14 l).toInt = 2
      · have e2 : D.1 14 l = 2 := ti_eq (by rw [s2]; rfl)
        rw [if_pos e2] at h2
        refine Wp.lets (Wp.pos (Int32.le_iff_toInt_le.mpr (by omega)) (Wp.pos rfl (Wp.lets (hg _ _ _ _ _ ⟨rfl, l + 1, (nI_succ l).symm, Or.inr ⟨rfl, by omega⟩, Or.inr ⟨rfl, h2⟩, by omega⟩))))
      · have e2 : ¬ D.1 14 l = 2 := fun y => s2 (by rw [y]; rfl)
        rw [if_neg e2] at h2
        obtain ⟨⟨o1, o2⟩, -⟩ := d4 (by omega)
        rw [sm0 (by decide) (by show 0 + l < 32; omega), Nat.zero_add] at o1 o2
        have f21 : D25.1 21 l = D.1 15 l := by rw [fa 21 (by decide), hE 21 (by decide) (by decide)]; exact o1
        have f22 : D25.1 22 l = D.1 16 l := by rw [fa 22 (by decide), hE 22 (by decide) (by decide)]; exact o2
        refine Wp.lets (Wp.neg (fun y => by have := Int32.le_iff_toInt_le.mp y; omega) (Wp.neg (by decide) (Wp.idx il ?_)))
        rw [f20]
        by_cases s0 : (D.1 14 l).toInt = 0
        · have e0 : D.1 14 l = 0 := ti_eq (by rw [s0]; rfl)
          have e1 : ¬ D.1 14 l = 1 := fun y => by rw [e0] at y; exact absurd y (by decide)
          rw [if_neg e1, if_neg e1] at h2
          rw [f21, f22]
          refine Wp.lets (Wp.pos e0 (Wp.idx il (Wp.lets (Wp.idx il ?_))))
          rw [f20, f22]
          exact Wp.lets (Wp.pos e0 (Wp.idx il (Wp.lets (Wp.lets (hg _ _ _ _ _ ⟨rfl, l + 1, (nI_succ l).symm, Or.inl (by omega), Or.inl ⟨rfl, h2⟩, by omega⟩)))))
        · have e0 : ¬ D.1 14 l = 0 := fun y => s0 (by rw [y]; rfl)
          have e1 : D.1 14 l = 1 := ti_eq (by rw [ti_1]; omega)
          rw [if_pos e1, if_pos e1] at h2
          rw [f21, f22]
          refine Wp.lets (Wp.neg e0 (Wp.idx il (Wp.lets (Wp.idx il ?_))))
          rw [f20, f21]
          exact Wp.lets (Wp.neg e0 (Wp.idx il (Wp.lets (Wp.lets (hg _ _ _ _ _ ⟨rfl, l + 1, (nI_succ l).symm, Or.inl (by omega), Or.inl ⟨rfl, h2⟩, by omega⟩)))))
end SPs
