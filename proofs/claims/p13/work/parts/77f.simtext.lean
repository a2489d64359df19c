/-! a text: both sides -/
def RTp (X M : Sl) : Prop := X 10 1 = M 2 0 ∧ ∀ j, j < 500 → aB (X 11 j) = M 1 j
def RFl (X M : Sl) : Prop := X 0 5 = M 3 0 ∧ X 0 6 = M 4 0
def RuL (X M : Sl) (o b : Nat) (wear : Prop) (l : Nat) : Prop := ∃ m : Nat, (m ≤ 4 ∧ X (o + 4) l = nI m ∧ M 16 (b + l) = nI m) ∧ (∀ t, t < m → ((0 ≤ (X (o + 5) (4 * l + t)).toInt ∧ (X (o + 5) (4 * l + t)).toInt < 8) ∧ (wear → (X (o + 5) (4 * l + t)).toInt < 7)) ∧ (X (o + 8) (4 * l + t) = 0 ∨ X (o + 8) (4 * l + t) = 1) ∧ (M 17 (4 * (b + l) + t)).toInt = (X (o + 5) (4 * l + t)).toInt + 8 * (X (o + 8) (4 * l + t)).toInt ∧ M 18 (4 * (b + l) + t) = X (o + 6) (4 * l + t) ∧ M 19 (4 * (b + l) + t) = X (o + 7) (4 * l + t)) ∧ M 20 (b + l) = X (o + 1) l ∧ (0 ≤ (X (o + 1) l).toInt ∧ (X (o + 1) l).toInt < 4) ∧ (wear → (X (o + 1) l).toInt < 3 ∧ ((X (o + 1) l).toInt < 2 → (M 21 (b + l) = X (o + 2) l ∧ M 22 (b + l) = X (o + 3) l) ∧ (0 ≤ (X (o + 2) l).toInt ∧ (X (o + 2) l).toInt ≤ 9999) ∧ (0 ≤ (X (o + 3) l).toInt ∧ (X (o + 3) l).toInt ≤ 9999) ∧ (X (o + 2) l).toInt ≤ (X (o + 3) l).toInt))
def RuS (X M : Sl) (o b q : Nat) (wear : Prop) : Prop := X o 0 = M 15 q ∧ (0 ≤ (X o 0).toInt ∧ (X o 0).toInt ≤ 16) ∧ ∀ l : Nat, (l : Int) < (X o 0).toInt → RuL X M o b wear l
def RTx (X M : Sl) : Prop := RTp X M ∧ RFl X M ∧ RuS X M 12 0 0 True ∧ RuS X M 21 16 1 False
section XTs
variable {D0 E0 D D1 E E1 : ADD} {B : Nat → Int32} {n L s e m : Nat} {k p : Int32}
/-- the class takes over what was read -/
theorem tX6_cp {o q : Nat} (ho : q ≥ o + 9 ∨ o ≥ q + 9) : Wp (fX6_copyFrom o q D) (fun _ D1 => (∀ c, (c < o ∨ o + 9 ≤ c) → D1.1 c = D.1 c) ∧ D1.1 o 0 = D.1 q 0 ∧ (∀ i j, 1 ≤ i → i ≤ 4 → j < 16 → D1.1 (o + i) j = D.1 (q + i) j) ∧ ∀ i j, 5 ≤ i → i ≤ 8 → j < 64 → D1.1 (o + i) j = D.1 (q + i) j) := by
  unfold fX6_copyFrom
  refine Wp.lets (Wp.lets (Wp.lets (Wp.lets (Wp.lets (Wp.lets (Wp.lets (Wp.lets (Wp.leti (fun D9 e9 => Wp.ret ⟨fun c hc => ?_, ?_, fun i j a b c => ?_, fun i j a b c => ?_⟩)))))))))
  · funext z
    have h0 : c ≠ o := by omega
    have h1 : c ≠ o + 1 := by omega
    have h2 : c ≠ o + 2 := by omega
    have h3 : c ≠ o + 3 := by omega
    have h4 : c ≠ o + 4 := by omega
    have h5 : c ≠ o + 5 := by omega
    have h6 : c ≠ o + 6 := by omega
    have h7 : c ≠ o + 7 := by omega
    have h8 : c ≠ o + 8 := by omega
    rw [e9]
    simp [aSI, aCp, h0, h1, h2, h3, h4, h5, h6, h7, h8]
  · rw [e9]
    simp [aSI, aCp]
  · rw [e9]
    have q0 : ∀ u v, u ≤ 8 → v ≤ 8 → ¬ (q + u = o + v) := fun u v _ _ => by omega
    have : i = 1 ∨ i = 2 ∨ i = 3 ∨ i = 4 := by omega
    rcases this with rfl | rfl | rfl | rfl <;> simp [aSI, aCp, c, q0] <;> (intros; omega)
  · rw [e9]
    have q0 : ∀ u v, u ≤ 8 → v ≤ 8 → ¬ (q + u = o + v) := fun u v _ _ => by omega
    have : i = 5 ∨ i = 6 ∨ i = 7 ∨ i = 8 := by omega
    rcases this with rfl | rfl | rfl | rfl <;> simp [aSI, aCp, c, q0] <;> (intros; omega)
/-- the reference takes over what was read -/
def CpL (b L : Nat) (E E1 : ADD) : Prop := (∀ c, (c < 16 ∨ 23 ≤ c) → E1.1 c = E.1 c) ∧ (∀ j, (j < b ∨ b + L ≤ j) → E1.1 16 j = E.1 16 j ∧ E1.1 20 j = E.1 20 j ∧ E1.1 21 j = E.1 21 j ∧ E1.1 22 j = E.1 22 j) ∧ (∀ j, (j < 4 * b ∨ 4 * (b + L) ≤ j) → E1.1 17 j = E.1 17 j ∧ E1.1 18 j = E.1 18 j ∧ E1.1 19 j = E.1 19 j) ∧ ∀ l, l < L → (E1.1 16 (b + l) = E.1 23 l ∧ E1.1 20 (b + l) = E.1 27 l ∧ E1.1 21 (b + l) = E.1 28 l ∧ E1.1 22 (b + l) = E.1 29 l) ∧ ∀ t : Nat, (t : Int) < (E.1 23 l).toInt → E1.1 17 (4 * (b + l) + t) = E.1 24 (4 * l + t) ∧ E1.1 18 (4 * (b + l) + t) = E.1 25 (4 * l + t) ∧ E1.1 19 (4 * (b + l) + t) = E.1 26 (4 * l + t)
theorem bM_lines {b L : Nat} {j344 : ADD → Option (Int32 × ADD)} {z : Int32 → ADD → Option (Int32 × ADD)} {Q : Int32 → ADD → Prop} (hb : b ≤ 16) (hL : L ≤ 16) (h32 : E.1 0 32 = nI L) (ht : ∀ l, l < L → 0 ≤ (E.1 23 l).toInt ∧ (E.1 23 l).toInt ≤ 4) (K : ∀ E1, CpL b L E E1 → Wp (j344 E1) Q) : Wp (aFix aFuel (lX11_text_166 (nI b) j344) z 0 E) Q := by
  have vL : (nI L).toInt = (L : Int) := nI_toInt (by omega)
  refine Wp.go1 (fun i D' => CpL b i E D') L (by omega) (fun g i D' hi hI K2 => ?_) (k0 := 0) rfl (Nat.zero_le _) ⟨fun _ _ => rfl, fun _ _ => ⟨rfl, rfl, rfl, rfl⟩, fun _ _ => ⟨rfl, rfl, rfl⟩, fun l hl => by omega⟩
  unfold lX11_text_166
  have vi : (nI i).toInt = (i : Int) := nI_toInt (by omega)
  have hI' := hI
  obtain ⟨i1, i2, i3, i4⟩ := hI
  rw [i1 0 (by omega), h32]
  refine Wp.ile (fun q => ?_) (fun q => ?_)
  · have : i = L := by omega
    rw [this] at hI'
    exact K D' hI'
  have il : i < L := by omega
  have ci : (nI i).toNatClampNeg = i := nI_clamp (by omega)
  have vbi : nI b + nI i = nI (b + i) := (Int32.ofNat_add b i).symm
  have cbi : (nI (b + i)).toNatClampNeg = b + i := nI_clamp (by omega)
  have ii : vp_in (nI i) 17 := vp_in_nI (by omega) (by omega)
  have ib : vp_in (nI (b + i)) 128 := vp_in_nI (by omega) (by omega)
  rw [vbi, ci, cbi]
  refine Wp.idx ii (Wp.idx ib (Wp.lets (Wp.idx ii (Wp.idx ib (Wp.lets (Wp.idx ii (Wp.idx ib (Wp.lets (Wp.idx ii (Wp.idx ib (Wp.leti (fun D5 e5 => ?_))))))))))))
  have f5 : ∀ c, c ≠ 16 → c ≠ 20 → c ≠ 21 → c ≠ 22 → D5.1 c = D'.1 c := fun c a b c' d => by rw [e5, si_o d, si_o c', si_o b, si_o a]
  have s16 : ∀ j, D5.1 16 j = if j = b + i then D'.1 23 i else D'.1 16 j := fun j => by rw [e5, si_o (by decide), si_o (by decide), si_o (by decide), si_s]
  have s20 : ∀ j, D5.1 20 j = if j = b + i then D'.1 27 i else D'.1 20 j := fun j => by rw [e5, si_o (by decide), si_o (by decide), si_s, si_o (by decide), si_o (by decide)]
  have s21 : ∀ j, D5.1 21 j = if j = b + i then D'.1 28 i else D'.1 21 j := fun j => by rw [e5, si_o (by decide), si_s, si_o (by decide), si_o (by decide), si_o (by decide), si_o (by decide)]
  have s22 : ∀ j, D5.1 22 j = if j = b + i then D'.1 29 i else D'.1 22 j := fun j => by rw [e5, si_s, si_o (by decide), si_o (by decide), si_o (by decide), si_o (by decide), si_o (by decide), si_o (by decide)]
  clear e5
  have ht := ht i il
  have e23 : D'.1 23 = E.1 23 := i1 23 (by omega)
  have et := cl_i ht.1
  refine Wp.letK (fun j => ∀ D6, (∀ c, c ≠ 17 → c ≠ 18 → c ≠ 19 → D6.1 c = D5.1 c) → (∀ j, (j < 4 * (b + i) ∨ 4 * (b + i) + 4 ≤ j) → D6.1 17 j = D5.1 17 j ∧ D6.1 18 j = D5.1 18 j ∧ D6.1 19 j = D5.1 19 j) → (∀ t : Nat, (t : Int) < (E.1 23 i).toInt → D6.1 17 (4 * (b + i) + t) = E.1 24 (4 * i + t) ∧ D6.1 18 (4 * (b + i) + t) = E.1 25 (4 * i + t) ∧ D6.1 19 (4 * (b + i) + t) = E.1 26 (4 * i + t)) → Wp (j D6) Q) (fun D6 f6 g6 t6 => ?_) (fun j K3 => Wp.lets ?_)
  · refine Wp.lets (K2 il D6 ⟨fun c hc => ?_, fun j hj => ?_, fun j hj => ?_, fun l hl => ?_⟩)
    · rw [f6 c (by omega) (by omega) (by omega), f5 c (by omega) (by omega) (by omega) (by omega), i1 c hc]
    · rw [f6 16 (by decide) (by decide) (by decide), f6 20 (by decide) (by decide) (by decide), f6 21 (by decide) (by decide) (by decide), f6 22 (by decide) (by decide) (by decide), s16, s20, s21, s22, if_neg (by omega), if_neg (by omega), if_neg (by omega), if_neg (by omega)]
      exact i2 j (by omega)
    · obtain ⟨a, b', c⟩ := g6 j (by omega)
      rw [a, b', c, f5 17 (by decide) (by decide) (by decide) (by decide), f5 18 (by decide) (by decide) (by decide) (by decide), f5 19 (by decide) (by decide) (by decide) (by decide)]
      exact i3 j (by omega)
    · rw [f6 16 (by decide) (by decide) (by decide), f6 20 (by decide) (by decide) (by decide), f6 21 (by decide) (by decide) (by decide), f6 22 (by decide) (by decide) (by decide), s16, s20, s21, s22]
      by_cases e : l = i
      · subst e
        rw [if_pos rfl, if_pos rfl, if_pos rfl, if_pos rfl, i1 23 (by omega), i1 27 (by omega), i1 28 (by omega), i1 29 (by omega)]
        exact ⟨⟨rfl, rfl, rfl, rfl⟩, t6⟩
      · rw [if_neg (by omega), if_neg (by omega), if_neg (by omega), if_neg (by omega)]
        refine ⟨(i4 l (by omega)).1, fun t htt => ?_⟩
        have h4 : (E.1 23 l).toInt ≤ 4 := (‹∀ l, l < L → 0 ≤ (E.1 23 l).toInt ∧ (E.1 23 l).toInt ≤ 4› l (by omega)).2
        obtain ⟨a, b', c⟩ := g6 (4 * (b + l) + t) (by omega)
        rw [a, b', c, f5 17 (by decide) (by decide) (by decide) (by decide), f5 18 (by decide) (by decide) (by decide) (by decide), f5 19 (by decide) (by decide) (by decide) (by decide)]
        exact (i4 l (by omega)).2 t htt
  · refine Wp.go1 (fun u D6 => (∀ c, c ≠ 17 → c ≠ 18 → c ≠ 19 → D6.1 c = D5.1 c) ∧ (∀ j, (j < 4 * (b + i) ∨ 4 * (b + i) + 4 ≤ j) → D6.1 17 j = D5.1 17 j ∧ D6.1 18 j = D5.1 18 j ∧ D6.1 19 j = D5.1 19 j) ∧ ∀ t : Nat, t < u → D6.1 17 (4 * (b + i) + t) = E.1 24 (4 * i + t) ∧ D6.1 18 (4 * (b + i) + t) = E.1 25 (4 * i + t) ∧ D6.1 19 (4 * (b + i) + t) = E.1 26 (4 * i + t)) (E.1 23 i).toNatClampNeg (by omega) (fun g2 u D6 hu hI2 K4 => ?_) (k0 := 0) rfl (Nat.zero_le _) ⟨fun _ _ _ _ => rfl, fun _ _ => ⟨rfl, rfl, rfl⟩, fun t ht => by omega⟩
    obtain ⟨u1, u2, u3⟩ := hI2
    unfold lX11_text_242
    refine Wp.idx ii ?_
    rw [ci, u1 23 (by decide) (by decide) (by decide), f5 23 (by decide) (by decide) (by decide) (by decide), e23]
    have vu : (nI u).toInt = (u : Int) := nI_toInt (by omega)
    refine Wp.ile (fun q => K3 D6 u1 u2 (fun t htt => u3 t (by omega))) (fun q => ?_)
    have e1 : ((4 : Int32) * nI i + nI u) = nI (4 * i + u) := by
      show (4 : Int32) * nI i + nI u = Int32.ofNat (4 * i + u)
      rw [Int32.ofNat_add, Int32.ofNat_mul]
      rfl
    have e2 : ((4 : Int32) * (nI b + nI i) + nI u) = nI (4 * (b + i) + u) := by
      rw [vbi]
      show (4 : Int32) * nI (b + i) + nI u = Int32.ofNat (4 * (b + i) + u)
      rw [Int32.ofNat_add (4 * (b + i)), Int32.ofNat_mul]
      rfl
    have i64 : vp_in (nI (4 * i + u)) 64 := vp_in_nI (by omega) (by omega)
    have i512 : vp_in (nI (4 * (b + i) + u)) 512 := vp_in_nI (by omega) (by omega)
    have c64 : (nI (4 * i + u)).toNatClampNeg = 4 * i + u := nI_clamp (by omega)
    have c512 : (nI (4 * (b + i) + u)).toNatClampNeg = 4 * (b + i) + u := nI_clamp (by omega)
    rw [e1, e2, c64, c512]
    refine Wp.idx i64 (Wp.idx i512 (Wp.lets (Wp.idx i64 (Wp.idx i512 (Wp.lets (Wp.idx i64 (Wp.idx i512 (Wp.leti (fun D9 e9 => Wp.lets (K4 (by omega) D9 ⟨fun c a b c' => ?_, fun j hj => ?_, fun t htt => ?_⟩))))))))))
    · rw [e9, si_o c', si_o b, si_o a, u1 c a b c']
    · obtain ⟨a, b', c⟩ := u2 j hj
      rw [e9]
      refine ⟨?_, ?_, ?_⟩
      · rw [si_o (by decide), si_o (by decide), si_s, if_neg (by omega), a]
      · rw [si_o (by decide), si_s, if_neg (by omega), si_o (by decide), b']
      · rw [si_s, if_neg (by omega), si_o (by decide), si_o (by decide), c]
    · have z : ∀ c, c = 24 ∨ c = 25 ∨ c = 26 → D6.1 c = E.1 c := fun c hc => by rw [u1 c (by omega) (by omega) (by omega), f5 c (by omega) (by omega) (by omega) (by omega), i1 c (by omega)]
      rw [e9]
      by_cases e : t = u
      · subst e
        refine ⟨?_, ?_, ?_⟩
        · rw [si_o (by decide), si_o (by decide), si_s, if_pos rfl, z 24 (by omega)]
        · rw [si_o (by decide), si_s, if_pos rfl, si_o (by decide), z 25 (by omega)]
        · rw [si_s, if_pos rfl, si_o (by decide), si_o (by decide), z 26 (by omega)]
      · obtain ⟨a, b', c⟩ := u3 t (by omega)
        refine ⟨?_, ?_, ?_⟩
        · rw [si_o (by decide), si_o (by decide), si_s, if_neg (by omega), a]
        · rw [si_o (by decide), si_s, if_neg (by omega), si_o (by decide), b']
        · rw [si_s, if_neg (by omega), si_o (by decide), si_o (by decide), c]
end XTs
