/-! the reference's heap -/
theorem bt_1 : ∀ i, i < 32 → bt 1 i = decide (i = 0) := by decide +kernel
theorem bit_t {x : Int32} {n : Nat} (hn : n < 32) : ((x >>> (nI n &&& 31)) &&& 1) = 0 ↔ bt x n = false := by
  have e0 : bt (x >>> (nI n &&& 31)) 0 = bt x n := by rw [b_sshr n hn x (by decide), if_pos (by omega)]; rfl
  constructor
  · intro h
    have h2 : bt ((x >>> (nI n &&& 31)) &&& 1) 0 = false := by rw [h, b_0]
    rw [b_and, bt_1 0 (by decide), e0] at h2
    simpa using h2
  · intro h
    refine b_ext (fun i hi => ?_)
    rw [b_0, b_and, bt_1 i hi]
    by_cases h0 : i = 0
    · subst h0
      rw [e0, h]
      rfl
    · simp [h0]
theorem bt_own {n : Nat} (hn : n < 32) : bt ((1 : Int32) <<< (nI n &&& 31)) n = true := by
  rw [b_shl n hn 1 hn, Nat.sub_self, bt_1 0 (by decide)]
  simp
/-- how many bits -/
def cnB (x : Int32) : Nat → Nat
  | 0 => 0
  | n + 1 => cnB x n + (if bt x n then 1 else 0)
theorem cnB_le (x : Int32) : ∀ n, cnB x n ≤ n
  | 0 => Nat.le_refl _
  | n + 1 => by
    have := cnB_le x n
    show cnB x n + _ ≤ n + 1
    split <;> omega
theorem cnB_mono {x y : Int32} : ∀ n, (∀ i, i < n → bt x i = true → bt y i = true) → cnB x n ≤ cnB y n
  | 0, _ => Nat.le_refl _
  | n + 1, h => by
    have ih := cnB_mono n (fun i hi => h i (by omega))
    show cnB x n + _ ≤ cnB y n + _
    by_cases hx : bt x n = true
    · rw [if_pos hx, if_pos (h n (by omega) hx)]
      omega
    · rw [if_neg hx]
      omega
theorem cnB_lt {x y : Int32} : ∀ n, (∀ i, i < n → bt x i = true → bt y i = true) → (∃ i, i < n ∧ bt y i = true ∧ bt x i = false) → cnB x n < cnB y n
  | 0, _, ⟨i, hi, _⟩ => by omega
  | n + 1, h, ⟨i, hi, hy, hx⟩ => by
    show cnB x n + _ < cnB y n + _
    by_cases hin : i = n
    · subst hin
      have ih := cnB_mono i (fun j hj => h j (by omega))
      rw [if_pos hy, hx]
      simp
      omega
    · have ih := cnB_lt n (fun i hi => h i (by omega)) ⟨i, by omega, hy, hx⟩
      by_cases hx : bt x n = true
      · rw [if_pos hx, if_pos (h n (by omega) hx)]
        omega
      · rw [if_neg hx]
        omega
abbrev subB (x y : Int32) : Prop := ∀ i, i < 32 → bt x i = true → bt y i = true
theorem subB_or {x y z : Int32} (h : subB x y) : subB x (y ||| z) := fun i hi hx => by rw [b_or, h i hi hx]; rfl
theorem cnB_ne {x y : Int32} (h : subB x y) (hne : x ≠ y) : cnB x 32 < cnB y 32 := by
  refine cnB_lt 32 h ?_
  false_or_by_contra
  rename_i hno
  refine hne (b_ext (fun i hi => ?_))
  cases hx : bt x i with
  | true => rw [h i hi hx]
  | false =>
    cases hy : bt y i with
    | false => rfl
    | true => exact absurd ⟨i, hi, hy, hx⟩ hno
section HP
variable {D : ADD}
theorem tM_areTwins {i k d : Int32} (hi : 0 ≤ i.toInt ∧ i.toInt < 32) (hk : 0 ≤ k.toInt ∧ k.toInt < 32) : Pu (fX11_areTwins i k d D) D := by
  unfold fX11_areTwins
  have z0 : Wp (aZ 0 (some ((0 : Int32), D))) (fun _ D1 => D1 = D) := Wp.z (Or.inl rfl) (Wp.ret rfl)
  have z1 : Wp (aZ 1 (some ((1 : Int32), D))) (fun _ D1 => D1 = D) := Wp.z (Or.inr rfl) (Wp.ret rfl)
  have fi : ∀ f : Int32, (0 ≤ f.toInt ∧ f.toInt < 11) → fX11_f i f D = some (D.1 32 (11 * i.toNatClampNeg + f.toNatClampNeg), D) := fun f hf => eM_f hi hf
  have fk : ∀ f : Int32, (0 ≤ f.toInt ∧ f.toInt < 11) → fX11_f k f D = some (D.1 32 (11 * k.toNatClampNeg + f.toNatClampNeg), D) := fun f hf => eM_f hk hf
  exact Wp.bindE (fi 0 ⟨by decide, by decide⟩) (Wp.bindE (fk 0 ⟨by decide, by decide⟩) (Wp.lets (Wp.idx (i_in hi.1 hi.2) (Wp.lets (Wp.lets (Wp.ite (fun _ => z0) (fun _ => Wp.idx (i_in hk.1 hk.2) (Wp.ite (fun _ => z0) (fun _ => Wp.bindE (fi 4 ⟨by decide, by decide⟩) (Wp.bindE (fk 4 ⟨by decide, by decide⟩) (Wp.ite (fun _ => Wp.bindE (fi 1 ⟨by decide, by decide⟩) (Wp.bindE (fk 1 ⟨by decide, by decide⟩) (Wp.ite (fun _ => Wp.bindE (fi 7 ⟨by decide, by decide⟩) (Wp.bindE (fk 7 ⟨by decide, by decide⟩) (Wp.ite (fun _ => Wp.bindE (eM_is _ _ _ _) (Wp.ite (fun _ => z0) (fun _ => z1))) (fun _ => z0)))) (fun _ => z0)))) (fun _ => z0))))))))))))
/-- from a stone's own bit to the least one -/
theorem tM_heapGo {s d : Int32} {Q : Int32 → ADD → Prop} (hm : MN D) (hs : 0 ≤ s.toInt ∧ s.toInt < 32) {j : Int32 → ADD → Option (Int32 × ADD)} (K : ∀ x, bt x s.toNatClampNeg = true → Wp (j x D) Q) {z : Int32 → Int32 → ADD → Option (Int32 × ADD)} : Wp (aFix aFuel (lX11_heap_48 d j) z ((1 : Int32) <<< (s &&& 31)) 0 D) Q := by
  have es := cl_i hs.1
  have own : bt ((1 : Int32) <<< (s &&& 31)) s.toNatClampNeg = true := by
    have := bt_own (n := s.toNatClampNeg) (by omega)
    rw [← nI_val hs.1] at this
    exact this
  refine Wp.fix2 (fun n x y D' => D' = D ∧ subB y x ∧ bt x s.toNatClampNeg = true ∧ 34 - (cnB y 32 : Int) < (n : Int)) ?_ ?_ aFuel 1000000 _ _ _ (Nat.le_refl _) ⟨rfl, (fun i hi h => by rw [b_0] at h; cases h), own, by omega⟩
  · intro n g hg x y D' hI
    obtain ⟨rfl, i1, i2, i3⟩ := hI
    unfold lX11_heap_48
    refine Wp.ite (fun _ => K x i2) (fun hne => Wp.letQ (fun Q j => ∀ w, subB x w → Wp (j w D') Q) (fun w hw => ?_) (fun j2 K2 => Wp.lets ?_))
    · refine hg _ _ _ ⟨rfl, hw, hw _ (by omega) i2, ?_⟩
      have := cnB_ne i1 hne
      omega
    · refine Wp.fix2 (fun n w k D2 => (0 ≤ k.toInt ∧ k.toInt ≤ 32 ∧ 32 - k.toInt < (n : Int)) ∧ D2 = D' ∧ subB x w) ?_ ?_ aFuel 1000000 _ _ _ (Nat.le_refl _) ⟨⟨by decide, by decide, by decide⟩, rfl, fun _ _ h => h⟩
      · intro n g2 hg2 w k D2 hI
        obtain ⟨⟨k0, k1, k2⟩, rfl, k3⟩ := hI
        unfold lX11_heap_60
        refine Wp.ile (fun _ => K2 w k3) (fun hk => Wp.letQ (fun Q j => ∀ w, subB x w → Wp (j w D2) Q) (fun v hv => Wp.lets (hg2 _ _ _ ⟨?_, rfl, hv⟩)) (fun j3 K3 => Wp.lets ?_))
        · have c2 : (k + 1).toInt = k.toInt + 1 := ti_add rfl ti_1 (by omega) (by omega)
          omega
        · refine Wp.fix2 (fun n w l D3 => (0 ≤ l.toInt ∧ l.toInt ≤ 32 ∧ 32 - l.toInt < (n : Int)) ∧ D3 = D2 ∧ subB x w) ?_ ?_ aFuel 1000000 _ _ _ (Nat.le_refl _) ⟨⟨by decide, by decide, by decide⟩, rfl, k3⟩
          · intro n g3 hg3 v l D3 hI
            obtain ⟨⟨l0, l1, l2⟩, rfl, l3⟩ := hI
            unfold lX11_heap_72
            refine Wp.ile (fun _ => K3 v l3) (fun hl => ?_)
            have c2 : (l + 1).toInt = l.toInt + 1 := ti_add rfl ti_1 (by omega) (by omega)
            have go : ∀ q, Wp (g3 (v ||| q) (l + 1) D3) Q := fun q => hg3 _ _ _ ⟨⟨by omega, by omega, by omega⟩, rfl, subB_or l3⟩
            refine Wp.lets (Wp.lets (Wp.ite (fun _ => Wp.lets (Wp.lets (go _))) (fun _ => Wp.bind (tM_areTwins ⟨k0, by omega⟩ ⟨l0, by omega⟩) (fun t D4 q4 => ?_))))
            subst q4
            exact Wp.ite (fun _ => Wp.lets (Wp.lets (go _))) (fun _ => Wp.lets (Wp.lets (go _)))
          · intro w l D3 hI
            obtain ⟨⟨l0, l1, l2⟩, -⟩ := hI
            omega
      · intro w k D2 hI
        obtain ⟨⟨k0, k1, k2⟩, -⟩ := hI
        omega
  · intro x y D' hI
    have := cnB_le y 32
    have := hI.2.2.2
    omega
theorem tM_least {x s : Int32} (hs : 0 ≤ s.toInt ∧ s.toInt < 32) (hb : bt x s.toNatClampNeg = true) {j : Int32 → ADD → Option (Int32 × ADD)} {Q : Int32 → ADD → Prop} (K : ∀ y, Wp (j y D) Q) {z : Int32 → ADD → Option (Int32 × ADD)} : Wp (aFix aFuel (lX11_heap_131 x j) z 0 D) Q := by
  have es := cl_i hs.1
  refine Wp.fix1 (fun n y D' => (0 ≤ y.toInt ∧ y.toInt ≤ s.toInt ∧ 32 - y.toInt < (n : Int)) ∧ D' = D) ?_ ?_ aFuel 1000000 _ _ (Nat.le_refl _) ⟨⟨by decide, by rw [ti_0]; exact hs.1, by decide⟩, rfl⟩
  · intro n g hg y D' hI
    obtain ⟨⟨i0, i1, i2⟩, rfl⟩ := hI
    unfold lX11_heap_131
    refine Wp.ite (fun h => Wp.lets (hg _ _ ⟨?_, rfl⟩)) (fun _ => K y)
    have ey := cl_i i0
    have c2 : (y + 1).toInt = y.toInt + 1 := ti_add rfl ti_1 (by omega) (by omega)
    rw [nI_val i0] at h
    have h := (bit_t (by omega)).mp h
    have hne : y.toNatClampNeg ≠ s.toNatClampNeg := fun e => by rw [e, hb] at h; cases h
    omega
  · intro y D' hI
    obtain ⟨⟨i0, i1, i2⟩, -⟩ := hI
    omega
end HP
