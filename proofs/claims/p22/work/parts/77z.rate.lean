section
/-! rate: both sides -/
theorem nI_mod {p q : Nat} (hp : p < 100000) (hq : q < 100000) (h0 : q ≠ 0) : nI p - nI p / nI q * nI q = nI (p % q) := by
  have vp : (nI p).toInt = (p : Int) := nI_toInt (by omega)
  have vq : (nI q).toInt = (q : Int) := nI_toInt (by omega)
  have ed := ti_div vp vq (by omega) (by omega)
  rw [Int.tdiv_eq_ediv_of_nonneg (by omega)] at ed
  have q1 := Int.mul_ediv_add_emod (p : Int) (q : Int)
  have q2 := Int.emod_nonneg (p : Int) (show (q : Int) ≠ 0 by omega)
  have q3 := Int.emod_lt_of_pos (p : Int) (show (0 : Int) < (q : Int) by omega)
  have cm : (p : Int) / (q : Int) * (q : Int) = (q : Int) * ((p : Int) / (q : Int)) := Int.mul_comm _ _
  have em := ti_mul ed vq (by omega) (by omega)
  have hm : p % q < q := Nat.mod_lt _ (by omega)
  refine ti_eq ?_
  rw [ti_sub vp em (by omega) (by omega), nI_toInt (by omega), Int.natCast_emod]
  omega
theorem eM_gcd {p q : Nat} {E : ADD} (hp : p < 1000) (hq : q < 1000) : fX11_gcd (nI p) (nI q) E = some (nI (Nat.gcd p q), E) := by
  have H : Wp (fX11_gcd (nI p) (nI q) E) (fun x D1 => D1 = E ∧ x = nI (Nat.gcd p q)) := by
    unfold fX11_gcd
    refine Wp.lets (Wp.lets (Wp.fix2 (fun n x y D' => ∃ a b : Nat, (x = nI a ∧ y = nI b ∧ a < 1000 ∧ b < 1000) ∧ b < n ∧ Nat.gcd a b = Nat.gcd p q ∧ D' = E) ?_ ?_ aFuel 1000000 _ _ _ (Nat.le_refl _) ⟨p, q, ⟨rfl, rfl, hp, hq⟩, by omega, rfl, rfl⟩))
    · intro n g hg x y D' hI
      obtain ⟨a, b, ⟨rfl, rfl, ha, hb⟩, i1, i2, e⟩ := hI
      subst e
      unfold lX11_gcd_4
      by_cases z : b = 0
      · refine Wp.pos (by rw [z]; rfl) (Wp.ret ⟨rfl, ?_⟩)
        rw [← i2, z, Nat.gcd_zero_right]
      · have nz : nI b ≠ 0 := fun t => z (nI_inj (by omega) (by omega) t)
        refine Wp.neg nz (Wp.nz nz (Wp.lets ?_))
        rw [nI_mod (by omega) (by omega) z]
        have hm : a % b < b := Nat.mod_lt _ (by omega)
        refine hg _ _ _ ⟨b, a % b, ⟨rfl, rfl, hb, by omega⟩, by omega, ?_, rfl⟩
        rw [← i2, Nat.gcd_comm a b, Nat.gcd_rec b a, Nat.gcd_comm]
    · intro x y D' hI
      obtain ⟨a, b, -, i1, -⟩ := hI
      omega
  obtain ⟨x, D1, e, rfl, rfl⟩ := H
  exact e
theorem bd_mul {a b A B : Int} (a0 : 0 ≤ a) (a1 : a ≤ A) (b0 : 0 ≤ b) (b1 : b ≤ B) : 0 ≤ a * b ∧ a * b ≤ A * B := ⟨Int.mul_nonneg a0 b0, Int.mul_le_mul a1 b1 b0 (by omega)⟩
theorem ti_abs {x : Int32} {z : Int} (hx : x.toInt = z) (h1 : -2147483648 < z) : (aAbs x).toInt = if 0 ≤ z then z else -z := by
  have hh := ti_hi x
  unfold aAbs
  by_cases h : 0 ≤ z
  · rw [if_pos (show (0 : Int32) ≤ x from Int32.le_iff_toInt_le.mpr (by rw [ti_0, hx]; exact h)), if_pos h, hx]
  · rw [if_neg (fun q => h (by have := Int32.le_iff_toInt_le.mp q; rw [ti_0, hx] at this; exact this)), if_neg h, ti_sub ti_0 hx (by omega) (by omega)]
    omega
/-- p to q fits u and v by e -/
def Ft (u v e : Int) (p q : Nat) : Prop := 1000 * (u * (q : Int) - v * (p : Int)) ≤ e * v * (p : Int) ∧ 1000 * (v * (p : Int) - u * (q : Int)) ≤ e * v * (p : Int)
def NF (u v e : Int) (n m : Nat) : Prop := ∀ p q : Nat, 1 ≤ p → p ≤ 12 → 1 ≤ q → q ≤ 12 → (p + q < n ∨ (p + q = n ∧ p < m)) → ¬ Ft u v e p q
def RtS (u v e : Int) (r : Int32) : Prop := (∃ p q : Nat, (1 ≤ p ∧ p ≤ 12 ∧ 1 ≤ q ∧ q ≤ 12) ∧ Ft u v e p q ∧ NF u v e (p + q) p ∧ r = nI (100 * p + q)) ∨ (NF u v e 25 0 ∧ r = -1)
theorem RtS.one {u v e : Int} {r s : Int32} (h : RtS u v e r) (g : RtS u v e s) : r = s := by
  rcases h with ⟨p, q, hp, f, n, rfl⟩ | ⟨n, rfl⟩
  · rcases g with ⟨p2, q2, hp2, f2, n2, rfl⟩ | ⟨n2, rfl⟩
    · have a1 : ¬ (p2 + q2 < p + q ∨ (p2 + q2 = p + q ∧ p2 < p)) := fun z => n p2 q2 (by omega) (by omega) (by omega) (by omega) z f2
      have a2 : ¬ (p + q < p2 + q2 ∨ (p + q = p2 + q2 ∧ p < p2)) := fun z => n2 p q (by omega) (by omega) (by omega) (by omega) z f
      rw [show p = p2 by omega, show q = q2 by omega]
    · exact absurd f (n2 p q (by omega) (by omega) (by omega) (by omega) (Or.inl (by omega)))
  · rcases g with ⟨p2, q2, hp2, f2, n2, rfl⟩ | ⟨n2, rfl⟩
    · exact absurd f2 (n p2 q2 (by omega) (by omega) (by omega) (by omega) (Or.inl (by omega)))
    · rfl
theorem NF.more {u v e : Int} {n p : Nat} (h : NF u v e n p) (g : ¬ Ft u v e p (n - p)) : NF u v e n (p + 1) := fun p' q' p1 p2 q1 q2 z f => by
  by_cases t : p' = p ∧ p' + q' = n
  · refine g ?_
    rw [← t.1, show n - p' = q' by omega]
    exact f
  · exact h p' q' p1 p2 q1 q2 (by omega) f
theorem Ft.cut {u v e : Int} {p q : Nat} (hp : 0 < p) (h : Ft u v e p q) : Ft u v e (p / Nat.gcd p q) (q / Nat.gcd p q) := by
  have g0 : 0 < Nat.gcd p q := Nat.gcd_pos_of_pos_left q hp
  have ep : Nat.gcd p q * (p / Nat.gcd p q) = p := Nat.mul_div_cancel' (Nat.gcd_dvd_left p q)
  have eq : Nat.gcd p q * (q / Nat.gcd p q) = q := Nat.mul_div_cancel' (Nat.gcd_dvd_right p q)
  generalize Nat.gcd p q = g at *
  generalize p / g = p' at *
  generalize q / g = q' at *
  subst ep eq
  obtain ⟨h1, h2⟩ := h
  rw [Int.natCast_mul, Int.natCast_mul] at h1 h2
  have gp : (0 : Int) < (g : Int) := by omega
  have t1 : u * ((g : Int) * (q' : Int)) = (g : Int) * (u * (q' : Int)) := Int.mul_left_comm _ _ _
  have t2 : v * ((g : Int) * (p' : Int)) = (g : Int) * (v * (p' : Int)) := Int.mul_left_comm _ _ _
  have t3 : e * v * ((g : Int) * (p' : Int)) = (g : Int) * (e * v * (p' : Int)) := Int.mul_left_comm _ _ _
  rw [t1, t2, t3, ← Int.mul_sub, Int.mul_left_comm] at h1 h2
  exact ⟨Int.le_of_mul_le_mul_left h1 gp, Int.le_of_mul_le_mul_left h2 gp⟩
section RTs
variable {D D1 E E1 : ADD} {N n0 : Nat} {C : Nat → Prop} {P : APD} {u v e : Int32} {p q : Nat}
theorem ft_x (hu : 0 ≤ u.toInt ∧ u.toInt ≤ 2000) (hv : 0 ≤ v.toInt ∧ v.toInt ≤ 2000) (he : 0 ≤ e.toInt ∧ e.toInt ≤ 200) (hp : p ≤ 12) (hq : q ≤ 12) : (e * v) * nI p < 1000 * aAbs (u * nI q - v * nI p) ↔ ¬ Ft u.toInt v.toInt e.toInt p q := by
  have vp : (nI p).toInt = (p : Int) := nI_toInt (by omega)
  have vq : (nI q).toInt = (q : Int) := nI_toInt (by omega)
  have b1 := bd_mul hu.1 hu.2 (show (0 : Int) ≤ (q : Int) by omega) (show (q : Int) ≤ 12 by omega)
  have b2 := bd_mul hv.1 hv.2 (show (0 : Int) ≤ (p : Int) by omega) (show (p : Int) ≤ 12 by omega)
  have b3 := bd_mul he.1 he.2 hv.1 hv.2
  have b4 := bd_mul b3.1 b3.2 (show (0 : Int) ≤ (p : Int) by omega) (show (p : Int) ≤ 12 by omega)
  have e1 : (u * nI q).toInt = u.toInt * (q : Int) := ti_mul rfl vq (by omega) (by omega)
  have e2 : (v * nI p).toInt = v.toInt * (p : Int) := ti_mul rfl vp (by omega) (by omega)
  have e3 := ti_abs (ti_sub e1 e2 (by omega) (by omega)) (by omega)
  have e4 : (e * v).toInt = e.toInt * v.toInt := ti_mul rfl rfl (by omega) (by omega)
  have e5 : (e * v * nI p).toInt = e.toInt * v.toInt * (p : Int) := ti_mul e4 vp (by omega) (by omega)
  unfold Ft
  generalize u.toInt * (q : Int) = a at *
  generalize v.toInt * (p : Int) = b at *
  generalize e.toInt * v.toInt * (p : Int) = c at *
  have e6 : ((1000 : Int32) * aAbs (u * nI q - v * nI p)).toInt = 1000 * (if 0 ≤ a - b then a - b else -(a - b)) := ti_mul (by decide) e3 (by split <;> omega) (by split <;> omega)
  rw [Int32.lt_iff_toInt_lt, e5, e6]
  by_cases z : 0 ≤ a - b
  · rw [if_pos z]
    omega
  · rw [if_neg z]
    omega
theorem ft_m {w : Int32} (hu : 0 ≤ u.toInt ∧ u.toInt ≤ 2000) (hv : 0 ≤ v.toInt ∧ v.toInt ≤ 2000) (he : 0 ≤ e.toInt ∧ e.toInt ≤ 200) (hp : p ≤ 12) (hq : q ≤ 12) (hw : w.toInt = if 0 ≤ u.toInt * (q : Int) - v.toInt * (p : Int) then u.toInt * (q : Int) - v.toInt * (p : Int) else -(u.toInt * (q : Int) - v.toInt * (p : Int))) : 0 < aCmp ((1000 : Int64) * w.toInt64) ((e.toInt64 * v.toInt64) * (nI p).toInt64) ↔ ¬ Ft u.toInt v.toInt e.toInt p q := by
  have vp : (nI p).toInt64.toInt = (p : Int) := by rw [Int32.toInt_toInt64]; exact nI_toInt (by omega)
  have b1 := bd_mul hu.1 hu.2 (show (0 : Int) ≤ (q : Int) by omega) (show (q : Int) ≤ 12 by omega)
  have b2 := bd_mul hv.1 hv.2 (show (0 : Int) ≤ (p : Int) by omega) (show (p : Int) ≤ 12 by omega)
  have b3 := bd_mul he.1 he.2 hv.1 hv.2
  have b4 := bd_mul b3.1 b3.2 (show (0 : Int) ≤ (p : Int) by omega) (show (p : Int) ≤ 12 by omega)
  have e4 : (e.toInt64 * v.toInt64).toInt = e.toInt * v.toInt := tl_mul (Int32.toInt_toInt64 e) (Int32.toInt_toInt64 v) (by omega) (by omega)
  have e5 : (e.toInt64 * v.toInt64 * (nI p).toInt64).toInt = e.toInt * v.toInt * (p : Int) := tl_mul e4 vp (by omega) (by omega)
  show 0 < lg_cmp _ _ ↔ _
  rw [lg_cmp_gt, Int64.lt_iff_toInt_lt, e5]
  unfold Ft
  generalize u.toInt * (q : Int) = a at *
  generalize v.toInt * (p : Int) = b at *
  generalize e.toInt * v.toInt * (p : Int) = c at *
  have e6 : ((1000 : Int64) * w.toInt64).toInt = 1000 * (if 0 ≤ a - b then a - b else -(a - b)) := tl_mul (by decide) (by rw [Int32.toInt_toInt64]; exact hw) (by split <;> omega) (by split <;> omega)
  rw [e6]
  by_cases z : 0 ≤ a - b
  · rw [if_pos z]
    omega
  · rw [if_neg z]
    omega
theorem nI_hun {p q : Nat} (hp : p ≤ 12) (hq : q ≤ 12) : (100 : Int32) * nI p + nI q = nI (100 * p + q) := by
  refine ti_eq ?_
  have vp : (nI p).toInt = (p : Int) := nI_toInt (by omega)
  have vq : (nI q).toInt = (q : Int) := nI_toInt (by omega)
  have e1 : ((100 : Int32) * nI p).toInt = 100 * (p : Int) := ti_mul (by decide) vp (by omega) (by omega)
  rw [ti_add e1 vq (by omega) (by omega), nI_toInt (by omega)]
  omega
theorem bX_rate (hu : 0 ≤ u.toInt ∧ u.toInt ≤ 2000) (hv : 0 ≤ v.toInt ∧ v.toInt ≤ 2000) (he : 0 ≤ e.toInt ∧ e.toInt ≤ 200) : Wp (fX10_simplestRate u v e D) (fun r _ => RtS u.toInt v.toInt e.toInt r) := by
  have e24 : (24 : Int32).toInt = 24 := by decide
  have e12 : (12 : Int32).toInt = 12 := by decide
  unfold fX10_simplestRate
  refine Wp.lets (Wp.lets (Wp.go1 (fun n _ => 2 ≤ n ∧ NF u.toInt v.toInt e.toInt n 0) 25 (by omega) (fun g n D1 hn hI K => ?_) (k0 := 2) rfl (by omega) ⟨by omega, fun p q p1 _ q1 _ h => by omega⟩))
  obtain ⟨i0, i1⟩ := hI
  have vn : (nI n).toInt = (n : Int) := nI_toInt (by omega)
  unfold lX10_simplestRate_2
  refine Wp.ilt (fun h => Wp.ret (Or.inr ⟨?_, rfl⟩)) (fun h => Wp.lets (Wp.lets (Wp.letQ (fun Q j => ∀ D2, NF u.toInt v.toInt e.toInt (n + 1) 0 → Wp (j D2) Q) (fun D2 h2 => Wp.lets (K (by omega) D2 ⟨by omega, h2⟩)) (fun j J => Wp.lets ?_))))
  · rw [show n = 25 by omega] at i1
    exact i1
  · have c1 : (nI n - 12).toInt = (n : Int) - 12 := ti_sub vn e12 (by omega) (by omega)
    have c2 : (nI n - 1).toInt = (n : Int) - 1 := ti_sub vn ti_1 (by omega) (by omega)
    have m1 : aMax 1 (nI n - 12) = nI (max 1 (n - 12)) := ti_eq (by rw [ti_max, ti_1, c1, nI_toInt (by omega)]; omega)
    have m2 : (aMin 12 (nI n - 1)).toInt = min 12 ((n : Int) - 1) := by rw [ti_min, e12, c2]
    refine Wp.go1 (fun p _ => max 1 (n - 12) ≤ p ∧ NF u.toInt v.toInt e.toInt n p) (min 12 (n - 1) + 1) (by omega) (fun g p D2 hp hJ K2 => ?_) m1 (by omega) ⟨Nat.le_refl _, fun p' q' p1 p2 q1 q2 z => i1 p' q' p1 p2 q1 q2 (by omega)⟩
    obtain ⟨j0, j1⟩ := hJ
    have vp : (nI p).toInt = (p : Int) := nI_toInt (by omega)
    unfold lX10_simplestRate_32
    refine Wp.ilt (fun h2 => J _ (fun p' q' p1 p2 q1 q2 z => j1 p' q' p1 p2 q1 q2 (by omega))) (fun h2 => Wp.lets ?_)
    rw [nI_sub (show p ≤ n by omega) (by omega)]
    refine Wp.ite (fun c => Wp.lets (K2 (by omega) _ ⟨by omega, j1.more ((ft_x hu hv he (by omega) (by omega)).mp c)⟩)) (fun c => Wp.ret (Or.inl ⟨p, n - p, by omega, Classical.byContradiction (fun z => c ((ft_x hu hv he (by omega) (by omega)).mpr z)), ?_, nI_hun (by omega) (by omega)⟩))
    rw [show p + (n - p) = n by omega]
    exact j1
theorem bM_rate (hu : 0 ≤ u.toInt ∧ u.toInt ≤ 2000) (hv : 0 ≤ v.toInt ∧ v.toInt ≤ 2000) (he : 0 ≤ e.toInt ∧ e.toInt ≤ 200) : Wp (aFix aFuel (lX11_rate_96 e u v (fun (D12 : ADD) => some ((-1 : Int32), D12))) (fun _ _ => none) 2 E) (fun r _ => RtS u.toInt v.toInt e.toInt r) := by
  have e24 : (24 : Int32).toInt = 24 := by decide
  have e13 : (13 : Int32).toInt = 13 := by decide
  refine Wp.go1 (fun n _ => 2 ≤ n ∧ NF u.toInt v.toInt e.toInt n 0) 25 (by omega) (fun g n E1 hn hI K => ?_) (k0 := 2) rfl (by omega) ⟨by omega, fun p q p1 _ q1 _ h => by omega⟩
  obtain ⟨i0, i1⟩ := hI
  have vn : (nI n).toInt = (n : Int) := nI_toInt (by omega)
  unfold lX11_rate_96
  refine Wp.ilt (fun h => Wp.ret (Or.inr ⟨?_, rfl⟩)) (fun h => Wp.letQ (fun Q j => ∀ D2, NF u.toInt v.toInt e.toInt (n + 1) 0 → Wp (j D2) Q) (fun D2 h2 => Wp.lets (K (by omega) D2 ⟨by omega, h2⟩)) (fun j J => Wp.lets ?_))
  · rw [show n = 25 by omega] at i1
    exact i1
  · refine Wp.go1 (fun p _ => 1 ≤ p ∧ NF u.toInt v.toInt e.toInt n p) n (by omega) (fun g p E2 hp hJ K2 => ?_) (k0 := 1) rfl (by omega) ⟨Nat.le_refl _, fun p' q' p1 p2 q1 q2 z => i1 p' q' p1 p2 q1 q2 (by omega)⟩
    obtain ⟨j0, j1⟩ := hJ
    have vp : (nI p).toInt = (p : Int) := nI_toInt (by omega)
    unfold lX11_rate_106
    refine Wp.ile (fun h2 => J _ (fun p' q' p1 p2 q1 q2 z => j1 p' q' p1 p2 q1 q2 (by omega))) (fun h2 => Wp.lets (Wp.lets ?_))
    rw [nI_sub (show p ≤ n by omega) (by omega)]
    have vq : (nI (n - p)).toInt = ((n - p : Nat) : Int) := nI_toInt (by omega)
    refine Wp.letQ (fun Q j => ∀ w : Int32, (p ≤ 12 → n - p ≤ 12 → w.toInt = if 0 ≤ u.toInt * ((n - p : Nat) : Int) - v.toInt * (p : Int) then u.toInt * ((n - p : Nat) : Int) - v.toInt * (p : Int) else -(u.toInt * ((n - p : Nat) : Int) - v.toInt * (p : Int))) → Wp (j w E2) Q) (fun w hw => Wp.letQ (fun Q j => ∀ E3, ((p ≤ 12 ∧ n - p ≤ 12) → ¬ Ft u.toInt v.toInt e.toInt p (n - p)) → Wp (j E3) Q) (fun E3 hf => Wp.lets (K2 (by omega) _ ⟨by omega, fun p' q' p1 p2 q1 q2 z => ?_⟩)) (fun j2 J2 => ?_)) (fun j2 J2 => ?_)
    · by_cases t : p ≤ 12 ∧ n - p ≤ 12
      · exact (j1.more (hf t)) p' q' p1 p2 q1 q2 z
      · exact j1 p' q' p1 p2 q1 q2 (by omega)
    · refine Wp.ile (fun c1 => J2 _ (fun t => by omega)) (fun c1 => Wp.ile (fun c2 => J2 _ (fun t => by omega)) (fun c2 => Wp.bindE (eM_gcd (by omega) (by omega)) ?_))
      have wv := hw (by omega) (by omega)
      have fm := ft_m hu hv he (show p ≤ 12 by omega) (show n - p ≤ 12 by omega) wv
      have gd : Nat.gcd p (n - p) ≤ p := Nat.gcd_le_left _ (by omega)
      refine Wp.ite (fun c3 => Wp.ite (fun c4 => J2 _ (fun _ => fm.mp c4)) (fun c4 => Wp.ret (Or.inl ⟨p, n - p, by omega, Classical.byContradiction (fun z => c4 (fm.mpr z)), ?_, nI_hun (by omega) (by omega)⟩))) (fun c3 => J2 _ (fun _ f => ?_))
      · rw [show p + (n - p) = n by omega]
        exact j1
      · have ne : Nat.gcd p (n - p) ≠ 1 := fun z => c3 (by rw [z]; rfl)
        have g0 : 0 < Nat.gcd p (n - p) := Nat.gcd_pos_of_pos_left _ (by omega)
        have d1 := Nat.div_lt_self (show 0 < p by omega) (show 1 < Nat.gcd p (n - p) by omega)
        have d2 := Nat.div_lt_self (show 0 < n - p by omega) (show 1 < Nat.gcd p (n - p) by omega)
        have d3 := Nat.div_pos (Nat.gcd_le_left (n - p) (show 0 < p by omega)) g0
        have d4 := Nat.div_pos (Nat.gcd_le_right p (show 0 < n - p by omega)) g0
        exact j1 _ _ d3 (by omega) d4 (by omega) (Or.inl (by omega)) (f.cut (by omega))
    · have xv : p ≤ 12 → n - p ≤ 12 → (u * nI (n - p) - v * nI p).toInt = u.toInt * ((n - p : Nat) : Int) - v.toInt * (p : Int) ∧ (-24000 ≤ u.toInt * ((n - p : Nat) : Int) - v.toInt * (p : Int) ∧ u.toInt * ((n - p : Nat) : Int) - v.toInt * (p : Int) ≤ 24000) := fun hp hq => by
        have b1 := bd_mul hu.1 hu.2 (show (0 : Int) ≤ ((n - p : Nat) : Int) by omega) (show ((n - p : Nat) : Int) ≤ 12 by omega)
        have b2 := bd_mul hv.1 hv.2 (show (0 : Int) ≤ (p : Int) by omega) (show (p : Int) ≤ 12 by omega)
        have e1 : (u * nI (n - p)).toInt = u.toInt * ((n - p : Nat) : Int) := ti_mul rfl vq (by omega) (by omega)
        have e2 : (v * nI p).toInt = v.toInt * (p : Int) := ti_mul rfl vp (by omega) (by omega)
        exact ⟨ti_sub e1 e2 (by omega) (by omega), by omega⟩
      refine Wp.ile (fun c => J2 _ (fun hp hq => ?_)) (fun c => J2 _ (fun hp hq => ?_))
      · obtain ⟨x1, -⟩ := xv hp hq
        rw [x1, ti_0] at c
        rw [x1, if_pos c]
      · obtain ⟨x1, x2⟩ := xv hp hq
        rw [x1, ti_0] at c
        rw [if_neg (by omega)]
        generalize u * nI (n - p) - v * nI p = x at x1
        rw [show -x = 0 - x from (Int32.zero_sub x).symm, ti_sub ti_0 x1 (by omega) (by omega)]
        omega
noncomputable def rtV (u v e : Int32) : Int32 := Classical.epsilon (RtS u.toInt v.toInt e.toInt)
theorem rtV_of {r : Int32} (h : RtS u.toInt v.toInt e.toInt r) : r = rtV u v e := h.one (Classical.epsilon_spec (p := RtS u.toInt v.toInt e.toInt) ⟨r, h⟩)
theorem bsv_in {L : List Nat} {a b : Int32} (hU : UR a b 300) (h : bsV D L a b ≠ -1) : 0 ≤ (bsV D L a b).toInt ∧ (bsV D L a b).toInt ≤ 2000 := by
  unfold bsV at h ⊢
  by_cases z : L.length = 0
  · rw [if_pos z] at h
    exact absurd rfl h
  · have ab := (UR.ab hU).1
    have bi := bst_in (scS D L) a.toNatClampNeg (b.toNatClampNeg - a.toNatClampNeg)
    rw [if_neg z, nI_toInt (by omega)]
    omega
theorem bM_town {t a b : Int32} (hU : UR a b 300) (cb : CB D E1 N C) : Wp (fX11_bestOfTown t a b E1) (fun r E2 => r = bsV D (chL (fun k => C k ∧ knX D (nI k) 4 = t) N) a b ∧ CB D E2 N C) := by
  have c2 := cb.1.2
  unfold fX11_bestOfTown
  refine Wp.lets (Wp.lets (bM_group (G := fun s => knX D (nI s) 4 = t) cb (fun g k E3 hk c3 K => ?_) (fun g E3 cr c3 => ?_)))
  · obtain ⟨⟨d1, d2⟩, d3⟩ := c3
    obtain ⟨b0, f⟩ := d3 k hk
    have b0 := bz_Bo b0
    have vk : (nI k).toInt = (k : Int) := nI_toInt (by omega)
    have vn : (nI N).toInt = (N : Int) := nI_toInt (by omega)
    have ik : vp_in (nI k) 32 := vp_in_nI (by omega) (by decide)
    unfold lX11_bestOfTown_3
    rw [d1, nI_clamp (show k < 2 ^ 31 by omega)]
    refine Wp.ile (fun q => absurd q (by omega)) (fun _ => Wp.idx ik (Wp.lets (Wp.lets (Wp.ite (fun q => ?_) (fun q => ?_)))))
    · exact Wp.idx ik (Wp.lets (Wp.lets (K 0 (Or.inr ⟨rfl, fun y => b0.mp q y.1⟩))))
    · have pk := Classical.byContradiction (fun z => q (b0.mpr z))
      have f4 : E3.1 32 (11 * k + 4) = knX D (nI k) 4 := (f pk).1 4 (by decide)
      refine Wp.bindE (eM_f (by omega) ⟨by decide, by decide⟩) ?_
      rw [nI_clamp (show k < 2 ^ 31 by omega), show (4 : Int32).toNatClampNeg = 4 from rfl, f4]
      exact Wp.ite (fun y => Wp.idx ik (Wp.lets (Wp.lets (K 1 (Or.inl ⟨rfl, pk, y⟩))))) (fun y => Wp.idx ik (Wp.lets (Wp.lets (K 0 (Or.inr ⟨rfl, fun t => y t.2⟩)))))
  · unfold lX11_bestOfTown_3
    rw [c3.1.1]
    exact Wp.pos (Int32.le_refl _) (bM_gb hU cr c3 (fun E4 c4 => Wp.ret ⟨rfl, c4⟩))
abbrev RtC (a b c d e : Int32) : Prop := (0 ≤ a.toInt ∧ a.toInt ≤ 5) ∧ (0 ≤ b.toInt ∧ b.toInt ≤ 5) ∧ a ≠ b ∧ (0 ≤ e.toInt ∧ e.toInt ≤ 200) ∧ UR c d 300
noncomputable def rtW (D : ADD) (L2 L3 : List Nat) (a b e : Int32) : Int32 := if bsV D L2 a b = -1 then -1 else if bsV D L3 a b = -1 then -1 else rtV (bsV D L2 a b) (bsV D L3 a b) e
theorem jr_rate {a b c d e : Int32} (h : IR RF n0 P E) : BR RF n0 P id (fX10_rate a b c d e P.2) (fX11_rate a b c d e E) := by
  obtain ⟨hb, ⟨tp, fl, w, pr⟩, hc⟩ := h.nowF
  have qx := h.1.2.1.2.qx
  have qm := h.1.2.2.1.qm
  have e3 : (300 : Int32).toInt = 300 := by decide
  have e5 : (5 : Int32).toInt = 5 := by decide
  have e2 : (200 : Int32).toInt = 200 := by decide
  refine h.askE (v := if RtC a b c d e then rtW P.2 (chL (fun s => thE E s ∧ blX P.2 1 a (nI s)) (nS (mB E))) (chL (fun s => thE E s ∧ blX P.2 1 b (nI s)) (nS (mB E))) c d e else -1) (fun q => oX_rate q) (fun q => oM_rate q) ?_ ?_
  · unfold fX10_rate
    refine Wp.bindE (eX_isTown _ _) (Wp.lets ?_)
    by_cases H : RtC a b c d e
    · rw [if_pos H]
      obtain ⟨h1, h2, h3, h4, hU⟩ := H
      rw [if_pos h1]
      refine Wp.neg (by decide) (Wp.bindE (eX_isTown _ _) ?_)
      rw [if_pos h2]
      refine Wp.neg (by decide) (Wp.neg h3 (Wp.ilt (fun z => absurd z (by rw [ti_0]; omega)) (fun _ => Wp.ilt (fun z => absurd z (by rw [e2]; omega)) (fun _ => Wp.bindE (eX_isRange _ _ _ _) ?_))))
      rw [e3, if_pos hU]
      refine Wp.neg (by decide) (Wp.bind (bX_best2 qx hb hU) (fun r D2 z => ?_))
      obtain ⟨rfl, f⟩ := z
      have q2 : QX D2 := by
        unfold QX
        rw [f.1 2 (by omega), f.1 13 (by omega), f.1 22 (by omega)]
        exact qx
      refine Wp.bind (bX_best2 q2 (hb.same (fun c c1 c2 => f.1 c (by omega)) (fun _ _ _ => rfl)) hU) (fun r D3 z => Wp.lets (Wp.lets ?_))
      obtain ⟨rfl, -⟩ := z
      rw [f.bsv, chL_cg (P := fun s => thE E s ∧ blX D2 1 b (nI s)) (P2 := fun s => thE E s ∧ blX P.2 1 b (nI s)) (fun s _ => and_congr_right (fun _ => f.bl 1 b (nI s)))]
      unfold rtW
      refine Wp.ite (fun y => Wp.ret ?_) (fun y => Wp.ite (fun y2 => Wp.ret ?_) (fun y2 => ?_))
      · rw [if_pos y]
      · rw [if_neg y, if_pos y2]
      · rw [if_neg y, if_neg y2]
        exact Wp.bind (bX_rate (bsv_in hU y) (bsv_in hU y2) h4) (fun r D4 z => Wp.ret (rtV_of z))
    · rw [if_neg H]
      refine Wp.ite (fun _ => Wp.ret rfl) (fun z1 => Wp.bindE (eX_isTown _ _) (Wp.ite (fun _ => Wp.ret rfl) (fun z2 => Wp.ite (fun _ => Wp.ret rfl) (fun z3 => Wp.ilt (fun _ => Wp.ret rfl) (fun z4 => Wp.ilt (fun _ => Wp.ret rfl) (fun z5 => Wp.bindE (eX_isRange _ _ _ _) (Wp.ite (fun _ => Wp.ret rfl) (fun z6 => absurd ?_ H))))))))
      rw [e3] at z6
      rw [ti_0] at z4
      rw [e2] at z5
      exact ⟨Classical.byContradiction (fun t => z1 (if_neg t)), Classical.byContradiction (fun t => z2 (if_neg t)), z3, ⟨z4, z5⟩, Classical.byContradiction (fun t => z6 (if_neg t))⟩
  · unfold fX11_rate
    refine Wp.lets (Wp.bindE (eM_is _ _ _ _) (Wp.lets ?_))
    rw [ti_0, e5]
    by_cases H : RtC a b c d e
    · rw [if_pos H]
      obtain ⟨h1, h2, h3, h4, hU⟩ := H
      rw [if_pos h1]
      refine Wp.neg (by decide) (Wp.bindE (eM_is _ _ _ _) ?_)
      rw [ti_0, e5, if_pos h2]
      refine Wp.neg (by decide) (Wp.neg h3 (Wp.bindE (eM_areUnits _ _ _) ?_))
      rw [if_pos hU]
      refine Wp.neg (by decide) (Wp.bindE (eM_is _ _ _ _) ?_)
      rw [ti_0, e2, if_pos h4]
      refine Wp.neg (by decide) (Wp.bind (lk0 qm hb w hc) (fun _ E1 l => Wp.bind (bM_keep l.2) (fun _ E2 cb => Wp.bind (bM_town hU cb) (fun r E3 z => ?_))))
      obtain ⟨rfl, c3⟩ := z
      refine Wp.bind (bM_town hU c3) (fun r E4 z => Wp.lets ?_)
      obtain ⟨rfl, -⟩ := z
      rw [chL_cg (P := fun s => thE E s ∧ blX P.2 1 a (nI s)) (P2 := fun s => (thE E s ∧ chX P.2 (nI s)) ∧ knX P.2 (nI s) 4 = a) (fun s _ => by rw [bl_1]; exact and_assoc.symm), chL_cg (P := fun s => thE E s ∧ blX P.2 1 b (nI s)) (P2 := fun s => (thE E s ∧ chX P.2 (nI s)) ∧ knX P.2 (nI s) 4 = b) (fun s _ => by rw [bl_1]; exact and_assoc.symm)]
      unfold rtW
      refine Wp.ite (fun y => Wp.ret ?_) (fun y => Wp.ite (fun y2 => Wp.ret ?_) (fun y2 => Wp.lets (Wp.lets ?_)))
      · rw [if_pos y]
      · rw [if_neg y, if_pos y2]
      · rw [if_neg y, if_neg y2]
        exact (bM_rate (bsv_in hU y) (bsv_in hU y2) h4).mono (fun r _ z => rtV_of z)
    · rw [if_neg H]
      refine Wp.ite (fun _ => Wp.ret rfl) (fun z1 => Wp.bindE (eM_is _ _ _ _) (Wp.ite (fun _ => Wp.ret rfl) (fun z2 => Wp.ite (fun _ => Wp.ret rfl) (fun z3 => Wp.bindE (eM_areUnits _ _ _) (Wp.ite (fun _ => Wp.ret rfl) (fun z4 => Wp.bindE (eM_is _ _ _ _) (Wp.ite (fun _ => Wp.ret rfl) (fun z5 => absurd ?_ H))))))))
      rw [ti_0, e5] at z2
      rw [ti_0, e2] at z5
      exact ⟨Classical.byContradiction (fun t => z1 (if_neg t)), Classical.byContradiction (fun t => z2 (if_neg t)), z3, Classical.byContradiction (fun t => z5 (if_neg t)), Classical.byContradiction (fun t => z4 (if_neg t))⟩
end RTs
end
section
/-! which to weigh anew: worth, anew, both sides -/
section WOs
variable {D D0 D1 D2 E E1 E2 : ADD} {A B N n0 : Nat} {S T : Nat → Int32} {L : List Nat} {R : Nat → Prop} {P : APD}
/-- a stone's off by a unit, were its span one point -/
noncomputable def ofP (D : ADD) (p u : Int32) (s : Nat) : Int32 := offF p p (knX D (nI s) 7) u
/-- the offs, with one stone's span a point -/
noncomputable def oAt (D : ADD) (k : Nat) (p u : Int32) (s : Nat) : Int32 := if s = k then ofP D p u s else ofS D u s
noncomputable def scO (o : Int32 → Nat → Int32) (L : List Nat) (u : Nat) : Int32 := nI u * nI L.length - 4 * sumL (o (nI u)) L
/-- what the reference's offs rest on, by what its rows hold -/
def CO (E1 : ADD) (N : Nat) (R : Nat → Prop) (o : Int32 → Nat → Int32) : Prop := (E1.1 0 41 = nI N ∧ N ≤ 32) ∧ ∀ k, k < N → Bo (E1.1 35 k) (R k) ∧ (R k → SpK (E1.1 33 k) (E1.1 34 k) (E1.1 32 (11 * k + 7)) ∧ ∀ u, offF (E1.1 33 k) (E1.1 34 k) (E1.1 32 (11 * k + 7)) u = o u k)
theorem CO.fr36 {o : Int32 → Nat → Int32} (c : CO E1 N R o) (f : ∀ c, c ≠ 36 → E2.1 c = E1.1 c) : CO E2 N R o := by
  obtain ⟨⟨c1, c2⟩, c3⟩ := c
  refine ⟨⟨by rw [f 0 (by decide)]; exact c1, c2⟩, fun k hk => ?_⟩
  rw [f 35 (by decide), f 33 (by decide), f 34 (by decide), f 32 (by decide)]
  exact c3 k hk
theorem CO.off {o : Int32 → Nat → Int32} (c : CO E1 N R o) {k : Nat} {u : Int32} (hk : k < N) (hp : R k) (hu : 10 ≤ u.toInt ∧ u.toInt ≤ 2000) : fX11_off (nI k) u E1 = some (o u k, E1) := by
  obtain ⟨⟨c1, c2⟩, c3⟩ := c
  obtain ⟨-, c4⟩ := c3 k hk
  obtain ⟨sp, ho⟩ := c4 hp
  have vk : (nI k).toInt = (k : Int) := nI_toInt (by omega)
  rw [eM_off (by omega) (u_ne (by omega)), nI_clamp (by omega), (off_eq sp hu).1, ho]
theorem cM_scoreOf {o : Int32 → Nat → Int32} (c : CO E1 N R o) {u : Int32} (hu : 10 ≤ u.toInt ∧ u.toInt ≤ 2000) : fX11_scoreOf u E1 = some (sumL (fun s => u - 4 * o u s) (chL R N), E1) := by
  have c' := c
  obtain ⟨⟨c1, c2⟩, c3⟩ := c
  have H : Wp (fX11_scoreOf u E1) (fun x D1 => D1 = E1 ∧ x = sumL (fun s => u - 4 * o u s) (chL R N)) := by
    unfold fX11_scoreOf
    refine Wp.lets (Wp.lets (bM_sum (P := R) (v := fun s => u - 4 * o u s) c2 (fun g y k hk K => ?_) (fun g => ?_)))
    · unfold lX11_scoreOf_4
      have vk : (nI k).toInt = (k : Int) := nI_toInt (by omega)
      have vn : (nI N).toInt = (N : Int) := nI_toInt (by omega)
      rw [c1, nI_clamp (show k < 2 ^ 31 by omega)]
      refine Wp.ile (fun q => absurd q (by omega)) (fun _ => Wp.idx (vp_in_nI (by omega) (by decide)) (Wp.lets ?_))
      have b := bz_Bo (c3 k hk).1
      refine Wp.ite (fun q => Wp.lets (Wp.lets (K _ (Or.inr ⟨rfl, b.mp q⟩)))) (fun q => ?_)
      have pk : R k := Classical.byContradiction (fun z => q (b.mpr z))
      exact Wp.bindE (c'.off hk pk hu) (Wp.lets (Wp.lets (K _ (Or.inl ⟨rfl, pk⟩))))
    · unfold lX11_scoreOf_4
      rw [c1]
      exact Wp.pos (Int32.le_refl _) (Wp.ret ⟨rfl, rfl⟩)
  obtain ⟨x, D1, e, rfl, rfl⟩ := H
  exact e
theorem cM_bestOf {o : Int32 → Nat → Int32} (hA : AB A B) (c : CO E1 N R o) : Wp (fX11_bestOf (nI A) (nI B) E1) (fun r E2 => (∀ c, c ≠ 36 → E2.1 c = E1.1 c) ∧ r = nI (bst (scO o (chL R N)) A (B - A))) := by
  have vB : (nI B).toInt = (B : Int) := nI_toInt (by omega)
  have fs : Wp (fX11_findScores (nI A) (nI B) E1) (fun _ E2 => (∀ c, c ≠ 36 → E2.1 c = E1.1 c) ∧ SrM E2 A B (scO o (chL R N))) := by
    unfold fX11_findScores
    refine Wp.lets (Wp.lets (Wp.go1 (fun k E2 => A ≤ k ∧ (∀ c, c ≠ 36 → E2.1 c = E1.1 c) ∧ ∀ u, A ≤ u → u < k → E2.1 36 (u - A) = scO o (chL R N) u) (B + 1) (by omega) (fun g k E2 hk hI K => ?_) (k0 := A) rfl (by omega) ⟨by omega, fun _ _ => rfl, fun u h1 h2 => absurd h1 (by omega)⟩))
    obtain ⟨i0, i1, i2⟩ := hI
    have vk : (nI k).toInt = (k : Int) := nI_toInt (by omega)
    unfold lX11_findScores_2
    refine Wp.ilt (fun q => Wp.ret ⟨i1, fun u h1 h2 => i2 u h1 (by omega)⟩) (fun q => Wp.bindE (cM_scoreOf (c.fr36 i1) (by omega)) ?_)
    rw [nI_sub i0 (by omega), nI_clamp (show k - A < 2 ^ 31 by omega)]
    refine Wp.idx (vp_in_nI (by omega) (by decide)) (Wp.lets (Wp.lets (K (by omega) _ ⟨by omega, fun c hc => by rw [si_o hc, i1 c hc], fun u h1 h2 => ?_⟩)))
    rw [si_s]
    by_cases e : u = k
    · rw [e, if_pos rfl, sum_lin]
      rfl
    · rw [if_neg (by omega), i2 u h1 (by omega)]
  unfold fX11_bestOf
  refine Wp.bind fs (fun _ E2 q => ?_)
  obtain ⟨q1, q2⟩ := q
  generalize scO o (chL R N) = S at q2 ⊢
  refine Wp.lets (Wp.lets (Wp.lets (Wp.go2 (fun k y D' => D' = E2 ∧ A + 1 ≤ k ∧ y = nI (bst S A (k - 1 - A))) (B + 1) (by omega) (fun g k y D' hk hI K => ?_) (k0 := A + 1) (nI_succ A).symm (by omega) ⟨rfl, by omega, ?_⟩)))
  · obtain ⟨e, i1, rfl⟩ := hI
    subst e
    have vk : (nI k).toInt = (k : Int) := nI_toInt (by omega)
    have bi := bst_in S A (k - 1 - A)
    unfold lX11_bestOf_13
    refine Wp.ilt (fun q => Wp.ret ⟨q1, ?_⟩) (fun q => ?_)
    · rw [show k - 1 - A = B - A by omega]
    · obtain ⟨v, e1, e2⟩ := eM_against hA q2 (u := k) (w := bst S A (k - 1 - A)) (by omega) (by omega)
      refine Wp.bindE e1 (Wp.lets (Wp.ite (fun c => Wp.lets (K (by omega) _ _ ⟨rfl, by omega, ?_⟩)) (fun c => Wp.lets (K (by omega) _ _ ⟨rfl, by omega, ?_⟩))))
      · rw [bst_s S i1, if_pos (by rw [← e2]; exact cmp0_lt.mp c)]
      · rw [bst_s S i1, if_neg (fun z => c (cmp0_lt.mpr (by rw [e2]; exact z)))]
  · rw [show A + 1 - 1 - A = 0 by omega]
    rfl
theorem SpK.pt {lo hi mk : Int32} (h : SpK lo hi mk) : SpK lo lo mk ∧ SpK hi hi mk := by
  obtain ⟨⟨a, b, c⟩, d⟩ := h
  exact ⟨⟨⟨a, Int.le_refl _, by omega⟩, d⟩, ⟨by omega, Int.le_refl _, c⟩, d⟩
theorem CR.at {k : Nat} {p : Int32} (c : CR D E1 N R) (hp : SpK p p (knX D (nI k) 7)) (h3 : ∀ j, E2.1 33 j = if j = k then p else E1.1 33 j) (h4 : ∀ j, E2.1 34 j = if j = k then p else E1.1 34 j) (f : ∀ c, c ≠ 33 → c ≠ 34 → c ≠ 36 → E2.1 c = E1.1 c) : CO E2 N R (oAt D k p) := by
  obtain ⟨⟨c1, c2⟩, c3⟩ := c
  refine ⟨⟨by rw [f 0 (by decide) (by decide) (by decide)]; exact c1, c2⟩, fun j hj => ?_⟩
  obtain ⟨b, c4⟩ := c3 j hj
  rw [f 35 (by decide) (by decide) (by decide), f 32 (by decide) (by decide) (by decide), h3, h4]
  refine ⟨b, fun r => ?_⟩
  obtain ⟨fc, ⟨lo, hi⟩, sp⟩ := c4 r
  have f7 : E1.1 32 (11 * j + 7) = knX D (nI j) 7 := fc 7 (by decide)
  rw [f7]
  by_cases e : j = k
  · rw [if_pos e, if_pos e]
    refine ⟨by rw [e]; exact hp, fun u => ?_⟩
    unfold oAt
    rw [if_pos e]
    rfl
  · rw [if_neg e, if_neg e, lo, hi]
    refine ⟨sp, fun u => ?_⟩
    unfold oAt
    rw [if_neg e]
    rfl
theorem sumL_put {f g : Nat → Int32} {s : Nat} (hs : R s) (e : ∀ t, t ≠ s → g t = f t) : ∀ n, s < n → sumL g (chL R n) = sumL f (chL R n) - f s + g s := by
  intro n
  induction n with
  | zero => intro h; exact absurd h (Nat.not_lt_zero _)
  | succ n ih =>
    intro h
    by_cases q : s = n
    · subst q
      rw [chL_t hs, sumL_snoc, sumL_snoc, sumL_cg (f := g) (g := f) (fun t ht => e t (by have := (chL_mem ht).1; omega)), Int32.add_sub_cancel]
    · have ih := ih (by omega)
      by_cases r : R n
      · rw [chL_t r, sumL_snoc, sumL_snoc, ih, e n (fun z => q z.symm)]
        simp only [Int32.sub_eq_add_neg]
        ac_rfl
      · rw [chL_f r, ih]
theorem sc_at {k u : Nat} {p : Int32} (hk : k < N) (hr : R k) : scO (oAt D k p) (chL R N) u = scS D (chL R N) u + 4 * ofS D (nI u) k - 4 * ofP D p (nI u) k := by
  unfold scO scS
  rw [sumL_put (f := ofS D (nI u)) (g := oAt D k p (nI u)) hr (fun t ht => by unfold oAt; rw [if_neg ht]) N hk]
  have e : oAt D k p (nI u) k = ofP D p (nI u) k := by unfold oAt; rw [if_pos rfl]
  rw [e]
  generalize nI u * nI (chL R N).length = X
  generalize sumL (ofS D (nI u)) (chL R N) = F
  generalize ofS D (nI u) k = a
  generalize ofP D p (nI u) k = b
  simp only [Int32.sub_eq_add_neg, Int32.mul_add, Int32.mul_neg, Int32.neg_add, Int32.neg_neg]
  ac_rfl
/-- the class -/
theorem PilX.ofi (p : PilX D D1 L) {i s : Nat} (q u : Int32) (h : L[i]? = some s) : ofiX D1 (nI i) q u = ofP D q u s := by
  obtain ⟨a, b⟩ := p.has h
  obtain ⟨e1, e2, e3, e4, e5⟩ := p.2.2 i s h
  unfold ofiX
  rw [if_pos a, b, e2]
  rfl
theorem PilX.num (p : PilX D D1 L) {i s : Nat} (h : L[i]? = some s) : numX D1 (nI i) = nI s := by
  obtain ⟨a, b⟩ := p.has h
  unfold numX
  rw [if_pos a, b, (p.2.2 i s h).1]
theorem PilX.fr2 (p : PilX D D1 L) (f : ∀ c, 43 ≤ c → c < 50 → D2.1 c = D1.1 c) : PilX D D2 L := by
  obtain ⟨p1, p2, p3⟩ := p
  refine ⟨by rw [f 43 (by decide) (by decide)]; exact p1, p2, fun i s h => ?_⟩
  rw [f 44 (by decide) (by decide), f 45 (by decide) (by decide), f 46 (by decide) (by decide), f 47 (by decide) (by decide), f 48 (by decide) (by decide)]
  exact p3 i s h
theorem SrX.fw (s : SrX D1 A B S) (f : ∀ c, c ≠ 52 → D2.1 c = D1.1 c) : SrX D2 A B S := by
  unfold SrX
  rw [f 50 (by decide), f 51 (by decide)]
  exact s
theorem bX_setAside {i s : Nat} (hA : AB A B) (p : PilX D D1 L) (sr : SrX D1 A B S) (h : L[i]? = some s) : Wp (fX7_setAside (nI i) D1) (fun _ D2 => (∀ c, c ≠ 52 → D2.1 c = D1.1 c) ∧ ∀ u, A ≤ u → u ≤ B → D2.1 52 (u - A) = S u + 4 * ofS D (nI u) s) := by
  obtain ⟨s0, s1, s2⟩ := sr
  have vB : (nI B).toInt = (B : Int) := nI_toInt (by omega)
  unfold fX7_setAside
  rw [s0]
  refine Wp.lets (Wp.lets (Wp.lets (Wp.go1 (fun k D2 => A ≤ k ∧ (∀ c, c ≠ 52 → D2.1 c = D1.1 c) ∧ ∀ u, A ≤ u → u < k → D2.1 52 (u - A) = S u + 4 * ofS D (nI u) s) (B + 1) (by omega) (fun g k D2 hk hI K => ?_) (k0 := A) rfl (by omega) ⟨by omega, fun _ _ => rfl, fun u h1 h2 => absurd h1 (by omega)⟩)))
  obtain ⟨i0, i1, i2⟩ := hI
  have vk : (nI k).toInt = (k : Int) := nI_toInt (by omega)
  have p2 : PilX D D2 L := p.fr2 (fun c c1 c2 => i1 c (by omega))
  unfold lX7_setAside_5
  rw [i1 50 (by decide), s0, s1]
  refine Wp.ilt (fun q => Wp.ret ⟨i1, fun u h1 h2 => i2 u h1 (by omega)⟩) (fun q => ?_)
  rw [nI_sub i0 (by omega), nI_clamp (show k - A < 2 ^ 31 by omega), i1 51 (by decide), s2 k i0 (by omega)]
  refine Wp.idx (vp_in_nI (by omega) (by decide)) (Wp.bindE (eX_offOf _ _ _) (Wp.idx (vp_in_nI (by omega) (by decide)) (Wp.lets (Wp.lets (K (by omega) _ ⟨by omega, fun c hc => by rw [si_o hc, i1 c hc], fun u h1 h2 => ?_⟩)))))
  rw [si_s, p2.off _ h]
  by_cases e : u = k
  · rw [e, if_pos rfl]
  · rw [if_neg (by omega), i2 u h1 (by omega)]
theorem cmp_rk {u w : Nat} (hu : u ≤ 2000) (hw : w ≤ 2000) : aCmp ((S u).toInt64 * (nI w).toInt64) ((S w).toInt64 * (nI u).toInt64) < 0 ↔ rk S u w < 0 := by
  show lg_cmp _ _ < 0 ↔ _
  rw [lg_cmp_lt, Int64.lt_iff_toInt_lt, lp_of _ hw, lp_of _ hu]
  unfold rk
  omega
theorem bX_bestIf {i s : Nat} {pt : Int32} (hA : AB A B) (p : PilX D D1 L) (s0 : D1.1 50 0 = nI A) (s1 : D1.1 50 1 = nI B) (h : L[i]? = some s) (ht : ∀ u, A ≤ u → u ≤ B → D1.1 52 (u - A) = T u) (hS : ∀ u, A ≤ u → u ≤ B → T u - 4 * ofP D pt (nI u) s = S u) : fX7_bestIf (nI i) pt D1 = some (nI (bst S A (B - A)), D1) := by
  have vA : (nI A).toInt = (A : Int) := nI_toInt (by omega)
  have vB : (nI B).toInt = (B : Int) := nI_toInt (by omega)
  have H : Wp (fX7_bestIf (nI i) pt D1) (fun x D2 => D2 = D1 ∧ x = nI (bst S A (B - A))) := by
    unfold fX7_bestIf
    rw [s0]
    refine Wp.lets (Wp.lets (Wp.lets (Wp.lets (Wp.go3 (fun k y w D2 => D2 = D1 ∧ A ≤ k ∧ (A < k → y = nI (bst S A (k - 1 - A)) ∧ w = (S (bst S A (k - 1 - A))).toInt64)) (B + 1) (by omega) (fun g k y w D2 hk hI K => ?_) (k0 := A) rfl (by omega) ⟨rfl, Nat.le_refl _, fun z => absurd z (Nat.lt_irrefl _)⟩))))
    obtain ⟨e, i0, i1⟩ := hI
    subst e
    have vk : (nI k).toInt = (k : Int) := nI_toInt (by omega)
    unfold lX7_bestIf_15
    rw [s0, s1]
    refine Wp.ilt (fun q => Wp.ret ⟨rfl, ?_⟩) (fun q => ?_)
    · rw [(i1 (by omega)).1, show k - 1 - A = B - A by omega]
    · rw [nI_sub i0 (by omega), nI_clamp (show k - A < 2 ^ 31 by omega), ht k i0 (by omega)]
      refine Wp.idx (vp_in_nI (by omega) (by decide)) (Wp.bindE (eX_offIf _ _ _ _) ?_)
      rw [p.ofi _ _ h, hS k i0 (by omega), s0]
      refine Wp.lets (Wp.lets (Wp.lets (Wp.ite (fun c => ?_) (fun c => ?_))))
      · have ek : k = A := by
          have := congrArg Int32.toInt c
          omega
        refine Wp.lets (K (by omega) _ _ _ ⟨rfl, by omega, fun _ => ?_⟩)
        rw [ek, show A + 1 - 1 - A = 0 by omega]
        exact ⟨rfl, rfl⟩
      · have lt : A < k := by
          rcases Nat.lt_or_eq_of_le i0 with z | z
          · exact z
          · exact absurd (by rw [z]) c
        obtain ⟨rfl, rfl⟩ := i1 lt
        have bi := bst_in S A (k - 1 - A)
        have cr := cmp_rk (S := S) (u := k) (w := bst S A (k - 1 - A)) (by omega) (by omega)
        refine Wp.ite (fun c2 => Wp.lets (K (by omega) _ _ _ ⟨rfl, by omega, fun _ => ?_⟩)) (fun c2 => Wp.lets (K (by omega) _ _ _ ⟨rfl, by omega, fun _ => ?_⟩))
        · rw [bst_s S lt, if_pos (cr.mp c2)]
          exact ⟨rfl, rfl⟩
        · rw [bst_s S lt, if_neg (fun z => c2 (cr.mpr z))]
          exact ⟨rfl, rfl⟩
  obtain ⟨x, D2, e, rfl, rfl⟩ := H
  exact e
/-- how far the best unit moves -/
noncomputable def woV (D : ADD) (L : List Nat) (s A B : Nat) : Int32 := aAbs (nI (bst (scO (oAt D s (loX D (nI s))) L) A (B - A)) - nI (bst (scO (oAt D s (hiX D (nI s))) L) A (B - A)))
theorem bX_worthOf {i s : Nat} (hA : AB A B) (p : PilX D D1 (chL R N)) (sr : SrX D1 A B (scS D (chL R N))) (h : (chL R N)[i]? = some s) : Wp (fX7_worthOf (nI i) D1) (fun r D2 => (∀ c, c ≠ 52 → D2.1 c = D1.1 c) ∧ r = woV D (chL R N) s A B) := by
  have hs := chL_mem (List.mem_of_getElem? h)
  have p2 := p.2.1
  have hl : i < (chL R N).length := (List.getElem?_eq_some_iff.mp h).1
  have vi : (nI i).toInt = (i : Int) := nI_toInt (by omega)
  have ii : vp_in (nI i) 32 := vp_in_nI (by omega) (by decide)
  obtain ⟨e1, e2, e3, e4, e5⟩ := p.2.2 i s h
  unfold fX7_worthOf
  rw [nI_clamp (show i < 2 ^ 31 by omega), e4, e5]
  refine Wp.lets (Wp.ilt (fun z => absurd z (by rw [ti_0]; omega)) (fun _ => Wp.pos (Int32.lt_iff_toInt_lt.mpr (by rw [vi, show (32 : Int32).toInt = 32 by decide]; omega)) (Wp.idx ii (Wp.lets (Wp.idx ii (Wp.lets (Wp.ite (fun z => Wp.ret ⟨fun _ _ => rfl, ?_⟩) (fun z => Wp.bind (bX_setAside hA p sr h) (fun _ D2 q => ?_)))))))))
  · unfold woV
    rw [z, Int32.sub_self]
    rfl
  · obtain ⟨f, q⟩ := q
    have p3 : PilX D D2 (chL R N) := p.fr2 (fun c c1 c2 => f c (by omega))
    have g0 : D2.1 50 0 = nI A := by rw [f 50 (by decide)]; exact sr.1
    have g1 : D2.1 50 1 = nI B := by rw [f 50 (by decide)]; exact sr.2.1
    have b1 := bX_bestIf (pt := loX D (nI s)) (S := scO (oAt D s (loX D (nI s))) (chL R N)) hA p3 g0 g1 h q (fun u _ _ => (sc_at hs.1 hs.2).symm)
    have b2 := bX_bestIf (pt := hiX D (nI s)) (S := scO (oAt D s (hiX D (nI s))) (chL R N)) hA p3 g0 g1 h q (fun u _ _ => (sc_at hs.1 hs.2).symm)
    exact Wp.bindE b1 (Wp.bindE b2 (Wp.ret ⟨f, rfl⟩))
/-- the reference -/
theorem bM_worthOf {k : Nat} (hA : AB A B) (c : CR D E1 N R) (hk : k < N) (hr : R k) : Wp (fX11_worthOf (nI k) (nI A) (nI B) E1) (fun r E2 => CR D E2 N R ∧ r = woV D (chL R N) k A B) := by
  have n32 := c.1.2
  obtain ⟨fc, ⟨lo, hi⟩, sp⟩ := (c.2 k hk).2 hr
  obtain ⟨sp1, sp2⟩ := sp.pt
  have ik : vp_in (nI k) 32 := vp_in_nI (by omega) (by decide)
  unfold fX11_worthOf
  rw [nI_clamp (show k < 2 ^ 31 by omega), lo, hi]
  have c1 : CO (aSI E1 34 k (loX D (nI k))) N R (oAt D k (loX D (nI k))) := by
    refine c.at sp1 (fun j => ?_) (fun j => si_s) (fun c c1 c2 c3 => si_o c2)
    rw [si_o (by decide)]
    by_cases e : j = k
    · rw [if_pos e, e, lo]
    · rw [if_neg e]
  refine Wp.idx ik (Wp.lets (Wp.idx ik (Wp.lets (Wp.idx ik (Wp.lets (Wp.bind (cM_bestOf hA c1) (fun x E2 q => ?_)))))))
  obtain ⟨f2, rfl⟩ := q
  have c2 : CO (aSI (aSI E2 33 k (hiX D (nI k))) 34 k (hiX D (nI k))) N R (oAt D k (hiX D (nI k))) := by
    refine c.at sp2 (fun j => ?_) (fun j => ?_) (fun c c1 c2 c3 => ?_)
    · rw [si_o (by decide), si_s, f2 33 (by decide), si_o (by decide)]
    · rw [si_s, si_o (by decide), f2 34 (by decide), si_s]
      by_cases e : j = k
      · rw [if_pos e, if_pos e]
      · rw [if_neg e, if_neg e, if_neg e]
    · rw [si_o c2, si_o c1, f2 c c3, si_o c2]
  refine Wp.idx ik (Wp.lets (Wp.idx ik (Wp.lets (Wp.bind (cM_bestOf hA c2) (fun x E3 q => ?_)))))
  obtain ⟨f3, rfl⟩ := q
  have c4 : CR D (aSI E3 33 k (loX D (nI k))) N R := by
    have s3 : ∀ j, (aSI E3 33 k (loX D (nI k))).1 33 j = E1.1 33 j := fun j => by
      rw [si_s, f3 33 (by decide), si_o (by decide), si_s, f2 33 (by decide), si_o (by decide)]
      by_cases e : j = k
      · rw [if_pos e, e, lo]
      · rw [if_neg e, if_neg e]
    have s4 : ∀ j, (aSI E3 33 k (loX D (nI k))).1 34 j = E1.1 34 j := fun j => by
      rw [si_o (by decide), f3 34 (by decide), si_s, si_o (by decide), f2 34 (by decide), si_s]
      by_cases e : j = k
      · rw [if_pos e, e, hi]
      · rw [if_neg e, if_neg e]
    have so : ∀ c, c ≠ 33 → c ≠ 34 → c ≠ 36 → (aSI E3 33 k (loX D (nI k))).1 c = E1.1 c := fun c h3 h4 h6 => by
      rw [si_o h3, f3 c h6, si_o h4, si_o h3, f2 c h6, si_o h4]
    obtain ⟨⟨d1, d2⟩, d3⟩ := c
    refine ⟨⟨by rw [so 0 (by decide) (by decide) (by decide)]; exact d1, d2⟩, fun j hj => ?_⟩
    unfold FcR
    rw [so 35 (by decide) (by decide) (by decide), so 32 (by decide) (by decide) (by decide), s3, s4]
    exact d3 j hj
  refine Wp.idx ik (Wp.lets (Wp.lets ?_))
  unfold woV
  have b1 := bst_in (scO (oAt D k (loX D (nI k))) (chL R N)) A (B - A)
  have b2 := bst_in (scO (oAt D k (hiX D (nI k))) (chL R N)) A (B - A)
  generalize bst (scO (oAt D k (loX D (nI k))) (chL R N)) A (B - A) = x at b1 ⊢
  generalize bst (scO (oAt D k (hiX D (nI k))) (chL R N)) A (B - A) = y at b2 ⊢
  have vx : (nI x).toInt = (x : Int) := nI_toInt (by omega)
  have vy : (nI y).toInt = (y : Int) := nI_toInt (by omega)
  have va := ti_abs (ti_sub vx vy (by omega) (by omega)) (by omega)
  refine Wp.ile (fun z => Wp.ret ⟨c4, ti_eq ?_⟩) (fun z => Wp.ret ⟨c4, ti_eq ?_⟩)
  · rw [va, if_pos (by omega), ti_sub vx vy (by omega) (by omega)]
  · rw [va, if_neg (by omega), ti_sub vy vx (by omega) (by omega)]
    omega
/-- where a stone lies in the pile -/
theorem bX_indexOf {a : Int32} (p : PilX D D1 L) : Wp (fX4_indexOf a D1) (fun r D2 => D2 = D1 ∧ ((∃ i s, L[i]? = some s ∧ a = nI s ∧ r = nI i) ∨ (r = -1 ∧ ∀ s, s ∈ L → a ≠ nI s))) := by
  have m := (pil_m p).1
  have p2 := p.2.1
  unfold fX4_indexOf
  refine Wp.lets (Wp.lets (Wp.go1 (fun k D2 => D2 = D1 ∧ ∀ j s, j < k → L[j]? = some s → a ≠ nI s) L.length (by omega) (fun g k D2 hk hI K => ?_) (k0 := 0) rfl (Nat.zero_le _) ⟨rfl, fun j s h => absurd h (Nat.not_lt_zero _)⟩))
  obtain ⟨rfl, i1⟩ := hI
  have vk : (nI k).toInt = (k : Int) := nI_toInt (by omega)
  have vn : (nI L.length).toInt = (L.length : Int) := nI_toInt (by omega)
  unfold lX4_indexOf_2
  rw [m]
  refine Wp.ile (fun q => Wp.ret ⟨rfl, Or.inr ⟨rfl, fun s hs => ?_⟩⟩) (fun q => Wp.bindE (eX_numberOf _ _) ?_)
  · obtain ⟨j, hj⟩ := List.getElem?_of_mem hs
    have hl : j < L.length := (List.getElem?_eq_some_iff.mp hj).1
    exact i1 j s (by omega) hj
  · have hl : k < L.length := by omega
    have hj : L[k]? = some L[k] := List.getElem?_eq_getElem hl
    rw [p.num hj]
    refine Wp.ite (fun c => Wp.ret ⟨rfl, Or.inl ⟨k, L[k], hj, c.symm, rfl⟩⟩) (fun c => Wp.lets (K hl _ ⟨rfl, fun j s h1 h2 => ?_⟩))
    by_cases e : j = k
    · subst e
      rw [hj] at h2
      have : L[j] = s := Option.some.inj h2
      rw [← this]
      exact fun z => c z.symm
    · exact i1 j s (by omega) h2
end WOs
end
section
section WPs
variable {D D1 E E1 : ADD} {A B N n0 : Nat} {L : List Nat} {R : Nat → Prop} {P : APD} {ρ σ τ : Type} {Q : ρ → ADD → Prop}
theorem bX_fold3 (Inv : List Nat → σ → τ → ADD → Prop) {F : (σ → τ → Int32 → ADD → Option (ρ × ADD)) → σ → τ → Int32 → ADD → Option (ρ × ADD)} {z : σ → τ → Int32 → ADD → Option (ρ × ADD)} {y0 : σ} {w0 : τ} (hL : L.length ≤ 32) (hF : ∀ g y w D2 i s, L[i]? = some s → Inv (L.take i) y w D2 → (∀ y' w' D3, Inv (L.take i ++ [s]) y' w' D3 → Wp (g y' w' (nI i + 1) D3) Q) → Wp (F g y w (nI i) D2) Q) (hE : ∀ g y w D2, Inv L y w D2 → Wp (F g y w (nI L.length) D2) Q) (h0 : Inv [] y0 w0 D1) : Wp (aFix aFuel F z y0 w0 0 D1) Q := by
  refine Wp.go3 (fun k y w D2 => Inv (L.take k) y w D2) L.length (by omega) (fun g k y w D2 hk hI K => ?_) (k0 := 0) rfl (Nat.zero_le _) (by show Inv (L.take 0) y0 w0 D1; rw [List.take_zero]; exact h0)
  by_cases e : k = L.length
  · have hI : Inv (L.take k) y w D2 := hI
    rw [e, List.take_length] at hI
    rw [e]
    exact hE g y w D2 hI
  · have hk2 : k < L.length := by omega
    have hs : L[k]? = some L[k] := List.getElem?_eq_getElem hk2
    refine hF g y w D2 k _ hs hI (fun y' w' D3 a => K hk2 y' w' D3 ?_)
    show Inv (L.take (k + 1)) y' w' D3
    rw [List.take_add_one, hs]
    exact a
theorem chL_in {s : Nat} : ∀ n, s < n → R s → s ∈ chL R n := by
  intro n
  induction n with
  | zero => intro h; exact absurd h (Nat.not_lt_zero _)
  | succ n ih =>
    intro h r
    by_cases e : s = n
    · subst e
      rw [chL_t r]
      exact List.mem_append_right _ List.mem_cons_self
    · by_cases q : R n
      · rw [chL_t q]
        exact List.mem_append_left _ (ih (by omega) r)
      · rw [chL_f q]
        exact ih (by omega) r
theorem n32_of (h : RBk (xc D) (mB E)) : nS (mB E) ≤ 32 := by
  have bw := h.2.2.2.1
  have n5 : ((nS (mB E) : Nat) : Int) = (mB E 5 0).toInt := cl_i bw.1.2.1.1
  have h32 := bw.1.2.1.2
  omega
theorem jr_worth {a b c : Int32} (h : IR RF n0 P E) : BR RF n0 P id (fX10_worth a b c P.2) (fX11_worth a b c E) := by
  obtain ⟨hb, ⟨tp, fl, w, pr⟩, hc⟩ := h.nowF
  have qx := h.1.2.1.2.qx
  have qm := h.1.2.2.1.qm
  have e3 : (300 : Int32).toInt = 300 := by decide
  have n32 := n32_of hb
  obtain ⟨v, vp, vn⟩ : ∃ v : Int32, ((UR b c 300 ∧ ∃ s, s ∈ cL0 P.2 E ∧ a = nI s) → v = woV P.2 (cL0 P.2 E) a.toNatClampNeg b.toNatClampNeg c.toNatClampNeg) ∧ (¬ (UR b c 300 ∧ ∃ s, s ∈ cL0 P.2 E ∧ a = nI s) → v = -1) := ⟨@ite _ (UR b c 300 ∧ ∃ s, s ∈ cL0 P.2 E ∧ a = nI s) (Classical.propDecidable _) (woV P.2 (cL0 P.2 E) a.toNatClampNeg b.toNatClampNeg c.toNatClampNeg) (-1), fun z => if_pos z, fun z => if_neg z⟩
  refine h.askE (v := v) (fun q => oX_worth q) (fun q => oM_worth q) ?_ ?_
  · unfold fX10_worth
    refine Wp.bindE (eX_isRange _ _ _ _) ?_
    rw [e3]
    by_cases hU : UR b c 300
    · rw [if_pos hU]
      obtain ⟨hA, ea, eb⟩ := UR.ab hU
      refine Wp.neg (by decide) (Wp.bind (ga0 qx hb) (fun r D1 k => Wp.bind (bX_indexOf k.2.2) (fun x D2 q => ?_)))
      obtain ⟨e, q⟩ := q
      subst e
      rcases q with ⟨i, s, h1, h2, rfl⟩ | ⟨rfl, h2⟩
      · have hm : s ∈ cL0 P.2 E := List.mem_of_getElem? h1
        have hs : s < nS (mB E) := (chL_mem hm).1
        rw [vp ⟨hU, s, hm, h2⟩]
        have hl : i < (cL0 P.2 E).length := (List.getElem?_eq_some_iff.mp h1).1
        have l2 := k.2.2.2.1
        have vi : (nI i).toInt = (i : Int) := nI_toInt (by omega)
        have es : a.toNatClampNeg = s := by rw [h2]; exact nI_clamp (by omega)
        rw [es]
        refine Wp.neg (fun z => by have := congrArg Int32.toInt z; rw [vi, ti_m1] at this; omega) ?_
        generalize b.toNatClampNeg = A at *
        generalize c.toNatClampNeg = B at *
        subst ea eb
        exact Wp.bind (bX_scoreUnits hA k.2.2) (fun _ D3 z => Wp.bind (bX_worthOf hA (k.2.2.fr z.1) z.2 h1) (fun r D4 y => Wp.ret y.2))
      · rw [vn (fun z => by obtain ⟨-, s, hm, e⟩ := z; exact h2 s hm e)]
        exact Wp.pos rfl (Wp.ret rfl)
    · rw [if_neg hU, vn (fun z => hU z.1)]
      exact Wp.pos rfl (Wp.ret rfl)
  · unfold fX11_worth
    have f1 : FmM E (aSI E 0 0 0) := FmM.code
    have eS : stM (aSI E 0 0 0) a ↔ stM E a := by
      unfold stM
      rw [f1.mb, f1 5 (by omega)]
    refine Wp.lets (Wp.bindE (eM_isStone (qm.fr f1)) (Wp.lets ?_))
    by_cases hs : stM E a
    · rw [if_pos (eS.mpr hs)]
      refine Wp.neg (by decide) (Wp.bindE (eM_areUnits _ _ _) ?_)
      by_cases hU : UR b c 300
      · rw [if_pos hU]
        obtain ⟨va, hn, ht, h32⟩ := st_nS hb hs
        refine Wp.neg (by decide) (Wp.bind (lk0 qm hb w hc) (fun _ E1 l => ?_))
        have cr := l.2
        have ia : vp_in a 32 := by rw [va]; exact vp_in_nI (by omega) (by decide)
        have b0 := bz_Bo (cr.2 _ hn).1
        refine Wp.idx ia (Wp.lets (Wp.ite (fun z => Wp.ret ?_) (fun z => ?_)))
        · rw [vn (fun y => by
            obtain ⟨-, s, hm, e⟩ := y
            have ms := chL_mem hm
            have es : a.toNatClampNeg = s := by rw [e]; exact nI_clamp (by omega)
            rw [es] at b0 z
            exact b0.mp z ms.2)]
        · have pk := Classical.byContradiction (fun y => z (b0.mpr y))
          rw [vp ⟨hU, _, chL_in _ hn pk, va⟩]
          obtain ⟨hA, ea, eb⟩ := UR.ab hU
          have W := bM_worthOf hA cr hn pk
          rw [← ea, ← eb, ← va] at W
          exact Wp.bind W (fun r E2 y => Wp.ret y.2)
      · rw [if_neg hU, vn (fun z => hU z.1)]
        exact Wp.pos rfl (Wp.ret rfl)
    · rw [if_neg (fun z => hs (eS.mp z)), vn (fun z => by
        obtain ⟨-, s, hm, e⟩ := z
        have ms := chL_mem hm
        rw [e] at hs
        exact hs ((th_st ms.1 n32).mp ms.2.1))]
      exact Wp.pos rfl (Wp.ret rfl)
/-- the first of the greatest worth -/
noncomputable def anL (D : ADD) (L : List Nat) (A B : Nat) (M : List Nat) : Int32 × Int32 := M.foldl (fun y s => if woV D L s A B ≤ y.1 then y else (woV D L s A B, nI s)) (-1, -1)
theorem anL_snoc {M : List Nat} {s : Nat} : anL D L A B (M ++ [s]) = if woV D L s A B ≤ (anL D L A B M).1 then anL D L A B M else (woV D L s A B, nI s) := by
  unfold anL
  rw [List.foldl_append]
  rfl
theorem jr_anew {a b : Int32} (h : IR RF n0 P E) : BR RF n0 P id (fX10_anew a b P.2) (fX11_anew a b E) := by
  obtain ⟨hb, ⟨tp, fl, w, pr⟩, hc⟩ := h.nowF
  have qx := h.1.2.1.2.qx
  have qm := h.1.2.2.1.qm
  have e3 : (300 : Int32).toInt = 300 := by decide
  have n32 := n32_of hb
  refine h.askE (v := if UR a b 300 then (anL P.2 (cL0 P.2 E) a.toNatClampNeg b.toNatClampNeg (cL0 P.2 E)).2 else -1) (fun q => oX_anew q) (fun q => oM_anew q) ?_ ?_
  · unfold fX10_anew
    refine Wp.bindE (eX_isRange _ _ _ _) (Wp.lets ?_)
    rw [e3]
    by_cases hU : UR a b 300
    · rw [if_pos hU, if_pos hU]
      obtain ⟨hA, ea, eb⟩ := UR.ab hU
      refine Wp.neg (by decide) (Wp.bind (ga0 qx hb) (fun r D1 k => ?_))
      obtain ⟨rfl, f, p⟩ := k
      have m := (pil_m p).1
      have l2 := p.2.1
      have vl : (nI (cL0 P.2 E).length).toInt = ((cL0 P.2 E).length : Int) := nI_toInt (by omega)
      refine Wp.ite (fun z => Wp.ret ?_) (fun z => ?_)
      · have z0 : (cL0 P.2 E).length = 0 := by rw [m] at z; rw [z, ti_0] at vl; omega
        rw [List.length_eq_zero_iff.mp z0]
        rfl
      · generalize a.toNatClampNeg = A at *
        generalize b.toNatClampNeg = B at *
        subst ea eb
        refine Wp.bind (bX_scoreUnits hA p) (fun _ D2 s => Wp.lets (Wp.lets ?_))
        have p2 := p.fr s.1
        refine bX_fold3 (L := cL0 P.2 E) (fun M y w D3 => (∀ c, c ≠ 52 → D3.1 c = D2.1 c) ∧ anL P.2 (cL0 P.2 E) A B M = (y, w)) l2 (fun g y w D3 i t ht hI K => ?_) (fun g y w D3 hI => ?_) ⟨fun _ _ => rfl, rfl⟩
        · obtain ⟨i1, i2⟩ := hI
          have hl : i < (cL0 P.2 E).length := (List.getElem?_eq_some_iff.mp ht).1
          have vi : (nI i).toInt = (i : Int) := nI_toInt (by omega)
          have p3 : PilX P.2 D3 (cL0 P.2 E) := p2.fr2 (fun c c1 c2 => i1 c (by omega))
          unfold lX10_anew_50
          rw [(pil_m p3).1]
          refine Wp.ile (fun q => absurd q (by omega)) (fun _ => Wp.bind (bX_worthOf hA p3 (s.2.fw i1) ht) (fun x D4 q => ?_))
          obtain ⟨f4, rfl⟩ := q
          have f5 : ∀ c, c ≠ 52 → D4.1 c = D2.1 c := fun c hc => by rw [f4 c hc, i1 c hc]
          have p4 : PilX P.2 D4 (cL0 P.2 E) := p2.fr2 (fun c c1 c2 => f5 c (by omega))
          refine Wp.lets (Wp.ite (fun q => Wp.lets (K _ _ _ ⟨f5, ?_⟩)) (fun q => Wp.bindE (eX_numberOf _ _) (Wp.lets (K _ _ _ ⟨f5, ?_⟩))))
          · rw [anL_snoc, i2]
            exact if_pos q
          · rw [anL_snoc, i2, p4.num ht]
            exact if_neg q
        · obtain ⟨i1, i2⟩ := hI
          have p3 : PilX P.2 D3 (cL0 P.2 E) := p2.fr2 (fun c c1 c2 => i1 c (by omega))
          unfold lX10_anew_50
          rw [(pil_m p3).1]
          refine Wp.pos (Int32.le_refl _) (Wp.ret ?_)
          rw [i2]
    · rw [if_neg hU, if_neg hU]
      exact Wp.pos rfl (Wp.ret rfl)
  · unfold fX11_anew
    refine Wp.lets (Wp.bindE (eM_areUnits _ _ _) ?_)
    by_cases hU : UR a b 300
    · rw [if_pos hU, if_pos hU]
      obtain ⟨hA, ea, eb⟩ := UR.ab hU
      refine Wp.neg (by decide) (Wp.bind (lk0 qm hb w hc) (fun _ E1 l => Wp.lets (Wp.lets ?_)))
      have cr := l.2
      generalize a.toNatClampNeg = A at *
      generalize b.toNatClampNeg = B at *
      subst ea eb
      have vn : (nI (nS (mB E))).toInt = (nS (mB E) : Int) := nI_toInt (by omega)
      refine bM_fold3 (P := fun k => thE E k ∧ chX P.2 (nI k)) (N := nS (mB E)) (fun M y w E2 => CR P.2 E2 (nS (mB E)) (fun k => thE E k ∧ chX P.2 (nI k)) ∧ anL P.2 (cL0 P.2 E) A B M = (w, y)) n32 (fun g y w E2 k hk hI K => ?_) (fun g y w E2 hI => ?_) ⟨cr, rfl⟩
      · obtain ⟨i1, i2⟩ := hI
        have vk : (nI k).toInt = (k : Int) := nI_toInt (by omega)
        have b0 := bz_Bo (i1.2 k hk).1
        unfold lX11_anew_27
        rw [i1.1.1, nI_clamp (show k < 2 ^ 31 by omega)]
        refine Wp.ile (fun q => absurd q (by omega)) (fun _ => Wp.idx (vp_in_nI (by omega) (by decide)) (Wp.lets (Wp.ite (fun q => Wp.lets (K _ _ _ (fun r => absurd r (b0.mp q)) (fun _ => ⟨i1, i2⟩))) (fun q => ?_))))
        have pk := Classical.byContradiction (fun y => q (b0.mpr y))
        refine Wp.bind (bM_worthOf hA i1 hk pk) (fun x E3 z => ?_)
        obtain ⟨c3, rfl⟩ := z
        refine Wp.ite (fun q => Wp.lets (K _ _ _ (fun _ => ⟨c3, ?_⟩) (fun r => absurd pk r))) (fun q => Wp.lets (K _ _ _ (fun _ => ⟨c3, ?_⟩) (fun r => absurd pk r)))
        · rw [anL_snoc, i2]
          exact if_pos q
        · rw [anL_snoc, i2]
          exact if_neg q
      · obtain ⟨i1, i2⟩ := hI
        unfold lX11_anew_27
        rw [i1.1.1]
        refine Wp.pos (Int32.le_refl _) (Wp.ret ?_)
        have i3 : anL P.2 (cL0 P.2 E) A B (cL0 P.2 E) = (w, y) := i2
        rw [i3]
    · rw [if_neg hU, if_neg hU]
      exact Wp.pos rfl (Wp.ret rfl)
end WPs
end
section
/-! two units: pair, both sides -/
section PRs
variable {D D1 D2 E E1 : ADD} {A B V N n0 : Nat} {S : Nat → Nat → Int64} {L : List Nat} {R : Nat → Prop} {P : APD} {ρ σ τ υ : Type} {Q : ρ → ADD → Prop}
theorem Wp.go4 (Inv : Nat → σ → τ → υ → ADD → Prop) (B : Nat) (hB : B ≤ 100000) {F : (σ → τ → υ → Int32 → ADD → Option (ρ × ADD)) → σ → τ → υ → Int32 → ADD → Option (ρ × ADD)} {z : σ → τ → υ → Int32 → ADD → Option (ρ × ADD)}
    (hF : ∀ (g : σ → τ → υ → Int32 → ADD → Option (ρ × ADD)) (k : Nat) (y : σ) (w : τ) (v : υ) (D : ADD), k ≤ B → Inv k y w v D → (k < B → ∀ y' w' v' D', Inv (k + 1) y' w' v' D' → Wp (g y' w' v' (nI k + 1) D') Q) → Wp (F g y w v (nI k) D) Q) {k0 : Nat} {y : σ} {w : τ} {v : υ} {D : ADD} {x0 : Int32} (e0 : x0 = nI k0) (hk : k0 ≤ B) (h0 : Inv k0 y w v D) : Wp (aFix aFuel F z y w v x0 D) Q := by
  refine Wp.fix4 (fun n y w v x D' => ∃ k, x = nI k ∧ k ≤ B ∧ B + 1 ≤ n + k ∧ Inv k y w v D') ?_ ?_ aFuel 1000000 _ _ _ _ _ (Nat.le_refl _) ⟨k0, e0, hk, by omega, h0⟩
  · intro n g hg y w v x D' hI
    obtain ⟨k, rfl, h1, h2, h3⟩ := hI
    exact hF g k y w v D' h1 h3 (fun hk y2 w2 v2 D2 hD2 => hg _ _ _ _ _ ⟨k + 1, (nI_succ k).symm, hk, by omega, hD2⟩)
  · intro y w v x D' hI
    obtain ⟨k, -, h1, h2, -⟩ := hI
    omega
abbrev PrT : Type := Int32 × Int32 × Int64
/-- one more pair -/
def pst (S : Nat → Nat → Int64) (t : PrT) (v u : Nat) : PrT := if aCmp ((S u v * t.1.toInt64) * t.2.1.toInt64) ((t.2.2 * (nI u).toInt64) * (nI v).toInt64) < 0 then t else (nI u, nI v, S u v)
def pin (S : Nat → Nat → Int64) (A v : Nat) (t : PrT) : Nat → PrT
  | 0 => t
  | i + 1 => pst S (pin S A v t i) v (A + i)
def pou (S : Nat → Nat → Int64) (A : Nat) : Nat → PrT
  | 0 => (nI A, nI (A + 1), S A (A + 1))
  | j + 1 => pin S A (A + 2 + j) (pou S A j) (A + 2 + j - A)
theorem pin_s {t : PrT} {x y : Int32} {m : Int64} {k : Nat} (h : A ≤ k) (e : (x, y, m) = pin S A V t (k - A)) : pin S A V t (k + 1 - A) = pst S (x, y, m) V k := by
  rw [show k + 1 - A = (k - A) + 1 by omega]
  show pst S (pin S A V t (k - A)) V (A + (k - A)) = _
  rw [← e, show A + (k - A) = k by omega]
theorem bX_inner {t : PrT} {j : Int32 → Int32 → Int64 → ADD → Option (Int32 × ADD)} {z : Int32 → Int32 → Int64 → Int32 → ADD → Option (Int32 × ADD)} {Q : Int32 → ADD → Prop} (hV : A ≤ V) (hV2 : V ≤ 2000) (hS : ∀ u, A ≤ u → u < V → fX7_sumOfListed (D.1 43 0) (nI A) (nI u) (nI V) D = some (S u V, D)) (K : Wp (j (pin S A V t (V - A)).1 (pin S A V t (V - A)).2.1 (pin S A V t (V - A)).2.2 D) Q) : Wp (aFix aFuel (lX7_bestPair_44 (nI A) (nI V) j) z t.1 t.2.1 t.2.2 (nI A) D) Q := by
  have vV : (nI V).toInt = (V : Int) := nI_toInt (by omega)
  refine Wp.go4 (fun k x y m D' => D' = D ∧ A ≤ k ∧ (x, y, m) = pin S A V t (k - A)) V (by omega) (fun g k x y m D' hk hI K2 => ?_) (k0 := A) rfl hV ⟨rfl, Nat.le_refl _, by rw [Nat.sub_self]; rfl⟩
  obtain ⟨e, i0, i1⟩ := hI
  subst e
  have vk : (nI k).toInt = (k : Int) := nI_toInt (by omega)
  unfold lX7_bestPair_44
  refine Wp.ile (fun q => ?_) (fun q => Wp.bindE (hS k i0 (by omega)) (Wp.lets ?_))
  · rw [show k - A = V - A by omega] at i1
    rw [← i1] at K
    exact K
  · have st := pin_s i0 i1
    refine Wp.ite (fun c => Wp.lets (K2 (by omega) _ _ _ _ ⟨rfl, by omega, ?_⟩)) (fun c => Wp.lets (K2 (by omega) _ _ _ _ ⟨rfl, by omega, ?_⟩))
    · rw [st]
      exact (if_pos c).symm
    · rw [st]
      exact (if_neg c).symm
theorem bM_inner {t : PrT} {j : Int32 → Int32 → Int64 → ADD → Option (Int32 × ADD)} {z : Int32 → Int32 → Int64 → Int32 → ADD → Option (Int32 × ADD)} {Q : Int32 → ADD → Prop} (hV : A ≤ V) (hV2 : V ≤ 2000) (hV3 : 1 ≤ V) (hS : ∀ u, A ≤ u → u < V → fX11_sumOf (nI u) (nI V) E = some (S u V, E)) (ht : t.2.1 ≠ 0) (K : (pin S A V t (V - A)).2.1 ≠ 0 → Wp (j (pin S A V t (V - A)).1 (pin S A V t (V - A)).2.1 (pin S A V t (V - A)).2.2 E) Q) : Wp (aFix aFuel (lX11_pair_63 (nI V) j) z t.1 t.2.1 t.2.2 (nI A) E) Q := by
  have vV : (nI V).toInt = (V : Int) := nI_toInt (by omega)
  have nV : nI V ≠ 0 := fun e => by
    rw [e, ti_0] at vV
    omega
  refine Wp.go4 (fun k x y m D' => D' = E ∧ A ≤ k ∧ y ≠ 0 ∧ (x, y, m) = pin S A V t (k - A)) V (by omega) (fun g k x y m D' hk hI K2 => ?_) (k0 := A) rfl hV ⟨rfl, Nat.le_refl _, ht, by rw [Nat.sub_self]; rfl⟩
  obtain ⟨e, i0, iy, i1⟩ := hI
  subst e
  have vk : (nI k).toInt = (k : Int) := nI_toInt (by omega)
  unfold lX11_pair_63
  refine Wp.ile (fun q => ?_) (fun q => Wp.bindE (hS k i0 (by omega)) (Wp.lets (Wp.lets ?_)))
  · rw [show k - A = V - A by omega] at i1
    rw [← i1] at K
    exact K iy
  · have st := pin_s i0 i1
    refine Wp.neg iy (Wp.ite (fun c => Wp.lets (K2 (by omega) _ _ _ _ ⟨rfl, by omega, iy, ?_⟩)) (fun c => Wp.lets (K2 (by omega) _ _ _ _ ⟨rfl, by omega, nV, ?_⟩)))
    · rw [st]
      exact (if_pos c).symm
    · rw [st]
      exact (if_neg c).symm
theorem nI_plus {a b : Nat} (ha : a < 100000) (hb : b < 100000) : nI a + nI b = nI (a + b) := ti_eq (by
  rw [ti_add (nI_toInt (show a < 2 ^ 31 by omega)) (nI_toInt (show b < 2 ^ 31 by omega)) (by omega) (by omega), nI_toInt (by omega)]
  omega)
theorem nI_m32 {a : Nat} (ha : a < 100000) : nI a * 32 = nI (a * 32) := ti_eq (by
  rw [ti_mul (nI_toInt (show a < 2 ^ 31 by omega)) (show (32 : Int32).toInt = 32 by decide) (by omega) (by omega), nI_toInt (by omega)]
  omega)
/-- the class's rows of offs -/
def OfL (D D1 : ADD) (L : List Nat) (A k : Nat) : Prop := ∀ u i s, A ≤ u → u < k → L[i]? = some s → D1.1 54 ((u - A) * 32 + i) = ofS D (nI u) s
theorem bX_listOffs (hA : AB A B) (h40 : B ≤ A + 40) (p : PilX D D1 L) : Wp (fX7_listOffs (nI A) (nI B) D1) (fun _ D2 => (∀ c, c ≠ 54 → D2.1 c = D1.1 c) ∧ OfL D D2 L A (B + 1)) := by
  have l2 := p.2.1
  have vA : (nI A).toInt = (A : Int) := nI_toInt (by omega)
  have vB : (nI B).toInt = (B : Int) := nI_toInt (by omega)
  have vn : (nI L.length).toInt = (L.length : Int) := nI_toInt (by omega)
  have e40 : (40 : Int32).toInt = 40 := by decide
  have e32 : (32 : Int32).toInt = 32 := by decide
  unfold fX7_listOffs
  refine Wp.lets (Wp.lets (Wp.go1 (fun k D2 => A ≤ k ∧ (∀ c, c ≠ 54 → D2.1 c = D1.1 c) ∧ OfL D D2 L A k) (B + 1) (by omega) (fun g k D2 hk hI K => ?_) (k0 := A) rfl (by omega) ⟨Nat.le_refl _, fun _ _ => rfl, fun u i s h1 h2 => absurd h1 (by omega)⟩))
  obtain ⟨i0, i1, i2⟩ := hI
  have vk : (nI k).toInt = (k : Int) := nI_toInt (by omega)
  unfold lX7_listOffs_3
  refine Wp.ilt (fun q => Wp.ret ⟨i1, by rw [show B + 1 = k by omega]; exact i2⟩) (fun q => ?_)
  rw [nI_sub i0 (by omega)]
  have vs : (nI (k - A)).toInt = ((k - A : Nat) : Int) := nI_toInt (by omega)
  refine Wp.ilt (fun q => absurd q (by omega)) (fun _ => Wp.letQ (fun Q j => ∀ D3, (∀ c, c ≠ 54 → D3.1 c = D1.1 c) ∧ OfL D D3 L A (k + 1) → Wp (j D3) Q) (fun D3 h => Wp.lets (K (by omega) D3 ⟨by omega, h⟩)) (fun j J => Wp.lets ?_))
  refine Wp.go1 (fun i D3 => (∀ c, c ≠ 54 → D3.1 c = D1.1 c) ∧ OfL D D3 L A k ∧ ∀ i' s, i' < i → L[i']? = some s → D3.1 54 ((k - A) * 32 + i') = ofS D (nI k) s) L.length (by omega) (fun g i D3 hi hJ K2 => ?_) (k0 := 0) rfl (Nat.zero_le _) ⟨i1, i2, fun i' s h => absurd h (Nat.not_lt_zero _)⟩
  obtain ⟨j1, j2, j3⟩ := hJ
  have vi : (nI i).toInt = (i : Int) := nI_toInt (by omega)
  have p3 : PilX D D3 L := p.fr2 (fun c c1 c2 => j1 c (by omega))
  unfold lX7_listOffs_21
  rw [(pil_m p3).1]
  refine Wp.ile (fun q => J _ ⟨j1, fun u i' s h1 h2 h3 => ?_⟩) (fun q => Wp.ile (fun q2 => absurd q2 (by omega)) (fun _ => Wp.bindE (eX_offOf _ _ _) ?_))
  · by_cases e : u = k
    · subst e
      have := (List.getElem?_eq_some_iff.mp h3).1
      exact j3 i' s (by omega) h3
    · exact j2 u i' s h1 (by omega) h3
  · have hl : i < L.length := by omega
    have hs : L[i]? = some L[i] := List.getElem?_eq_getElem hl
    rw [p3.off _ hs, nI_sub i0 (by omega), nI_m32 (by omega), nI_plus (by omega) (by omega), nI_clamp (show (k - A) * 32 + i < 2 ^ 31 by omega)]
    refine Wp.idx (vp_in_nI (by omega) (by decide)) (Wp.lets (Wp.lets (K2 (by omega) _ ⟨fun c hc => by rw [si_o hc, j1 c hc], fun u i' s h1 h2 h3 => ?_, fun i' s h1 h2 => ?_⟩)))
    · have := (List.getElem?_eq_some_iff.mp h3).1
      rw [si_s, if_neg (by omega)]
      exact j2 u i' s h1 h2 h3
    · rw [si_s]
      by_cases e : i' = i
      · subst e
        rw [if_pos rfl]
        rw [hs] at h2
        rw [Option.some.inj h2]
      · rw [if_neg (by omega)]
        exact j3 i' s (by omega) h2
theorem eX_sumListed {u v : Nat} (hA : AB A B) (h40 : B ≤ A + 40) (p : PilX D D1 L) (o : OfL D D1 L A (B + 1)) (hu : A ≤ u ∧ u ≤ B) (hv : A ≤ v ∧ v ≤ B) : fX7_sumOfListed (D1.1 43 0) (nI A) (nI u) (nI v) D1 = some (suV D L (nI u) (nI v), D1) := by
  have l2 := p.2.1
  have m := (pil_m p).1
  have vA : (nI A).toInt = (A : Int) := nI_toInt (by omega)
  have vu : (nI u).toInt = (u : Int) := nI_toInt (by omega)
  have vv : (nI v).toInt = (v : Int) := nI_toInt (by omega)
  have vn : (nI L.length).toInt = (L.length : Int) := nI_toInt (by omega)
  have e40 : (40 : Int32).toInt = 40 := by decide
  have e32 : (32 : Int32).toInt = 32 := by decide
  have v1 : (nI (u - A)).toInt = ((u - A : Nat) : Int) := nI_toInt (by omega)
  have v2 : (nI (v - A)).toInt = ((v - A : Nat) : Int) := nI_toInt (by omega)
  have H : Wp (fX7_sumOfListed (D1.1 43 0) (nI A) (nI u) (nI v) D1) (fun x D2 => D2 = D1 ∧ x = suV D L (nI u) (nI v)) := by
    unfold fX7_sumOfListed
    rw [m, nI_sub hu.1 (by omega), nI_sub hv.1 (by omega), nI_m32 (by omega), nI_m32 (by omega)]
    refine Wp.lets (Wp.ilt (fun q => absurd q (by omega)) (fun _ => Wp.ilt (fun q => absurd q (by omega)) (fun _ => Wp.ilt (fun q => absurd q (by omega)) (fun _ => Wp.ile (fun _ => ?_) (fun q => absurd q (by omega))))))
    refine Wp.lets (Wp.lets (Wp.lets (Wp.lets (bX_fold2 (L := L) (fun l y D' => D' = D1 ∧ y = l.foldl (fun y s => y + (mnS D (nI u) (nI v) s).toInt64) 0) l2 (fun g y D2 i s hs hI K => ?_) (fun g y D2 hI => ?_) ⟨rfl, rfl⟩))))
    · obtain ⟨e, rfl⟩ := hI
      subst e
      have hl := (List.getElem?_eq_some_iff.mp hs).1
      have vi : (nI i).toInt = (i : Int) := nI_toInt (by omega)
      unfold lX7_sumOfListed_53
      rw [nI_plus (by omega) (by omega), nI_plus (by omega) (by omega), nI_clamp (show (u - A) * 32 + i < 2 ^ 31 by omega), nI_clamp (show (v - A) * 32 + i < 2 ^ 31 by omega), o u i s hu.1 (by omega) hs, o v i s hv.1 (by omega) hs]
      refine Wp.ile (fun q => absurd q (by omega)) (fun _ => Wp.ile (fun q => absurd q (by omega)) (fun _ => Wp.idx (vp_in_nI (by omega) (by decide)) (Wp.idx (vp_in_nI (by omega) (by decide)) (Wp.lets (Wp.lets (K _ _ ⟨rfl, ?_⟩))))))
      rw [List.foldl_append]
      rfl
    · obtain ⟨e, rfl⟩ := hI
      subst e
      unfold lX7_sumOfListed_53
      exact Wp.pos (Int32.le_refl _) (Wp.ret ⟨rfl, rfl⟩)
  obtain ⟨x, D2, e, rfl, rfl⟩ := H
  exact e
noncomputable def prS (D : ADD) (L : List Nat) (u v : Nat) : Int64 := suV D L (nI u) (nI v)
noncomputable def prV (D : ADD) (L : List Nat) (A B : Nat) : Int32 := 10000 * (pou (prS D L) A (B - A - 1)).2.1 + (pou (prS D L) A (B - A - 1)).1
theorem pou_s {k : Nat} (h : A + 2 ≤ k) : pou S A (k + 1 - (A + 2)) = pin S A k (pou S A (k - (A + 2))) (k - A) := by
  rw [show k + 1 - (A + 2) = (k - (A + 2)) + 1 by omega]
  show pin S A (A + 2 + (k - (A + 2))) (pou S A (k - (A + 2))) (A + 2 + (k - (A + 2)) - A) = _
  rw [show A + 2 + (k - (A + 2)) = k by omega]
theorem bX_bestPair (hA : AB A B) (h40 : B ≤ A + 40) (hne : A < B) (p : PilX D D1 L) : Wp (fX7_bestPair (nI A) (nI B) D1) (fun r _ => r = prV D L A B) := by
  have vB : (nI B).toInt = (B : Int) := nI_toInt (by omega)
  unfold fX7_bestPair
  refine Wp.bind (bX_listOffs hA h40 p) (fun _ D2 q => Wp.lets ?_)
  obtain ⟨f, o⟩ := q
  have p2 : PilX D D2 L := p.fr2 (fun c c1 c2 => f c (by omega))
  have e1 : nI A + 1 = nI (A + 1) := (nI_succ A).symm
  have e2 : nI A + 2 = nI (A + 2) := nI_plus (a := A) (b := 2) (by omega) (by omega)
  rw [e1, e2]
  refine Wp.bindE (eX_sumListed hA h40 p2 o (u := A) (v := A + 1) (by omega) (by omega)) (Wp.lets (Wp.lets (Wp.lets ?_)))
  refine Wp.go4 (fun k x y m D' => D' = D2 ∧ A + 2 ≤ k ∧ (x, y, m) = pou (prS D L) A (k - (A + 2))) (B + 1) (by omega) (fun g k x y m D' hk hI K => ?_) (k0 := A + 2) rfl (by omega) ⟨rfl, Nat.le_refl _, by rw [Nat.sub_self]; rfl⟩
  obtain ⟨e, i0, i1⟩ := hI
  subst e
  have vk : (nI k).toInt = (k : Int) := nI_toInt (by omega)
  unfold lX7_bestPair_35
  refine Wp.ilt (fun q => Wp.ret ?_) (fun q => Wp.lets (Wp.lets ?_))
  · unfold prV
    rw [show B - A - 1 = k - (A + 2) by omega, ← i1]
  · have I := bX_inner (D := D') (A := A) (V := k) (S := prS D L) (t := (x, y, m)) (z := fun _ _ _ _ _ => none) (j := fun (x10 : Int32) (x11 : Int32) (x12 : Int64) (D5 : ADD) => aLet (nI k + (1 : Int32)) (fun x13 => g x10 x11 x12 x13 D5)) (Q := fun r _ => r = prV D L A B) (by omega) (by omega) (fun u h1 h2 => eX_sumListed hA h40 p2 o (by omega) (by omega)) (Wp.lets (K (by omega) _ _ _ _ ⟨rfl, by omega, ?_⟩))
    · exact I
    · rw [pou_s i0, ← i1]
theorem bM_bestPair {j : Int32 → Int32 → ADD → Option (Int32 × ADD)} {z : Int32 → Int32 → Int64 → Int32 → ADD → Option (Int32 × ADD)} {Q : Int32 → ADD → Prop} (hA : AB A B) (hne : A < B) (hS : ∀ u v, (10 ≤ u ∧ u ≤ 2000) → (10 ≤ v ∧ v ≤ 2000) → fX11_sumOf (nI u) (nI v) E = some (S u v, E)) (J : Wp (j (pou S A (B - A - 1)).1 (pou S A (B - A - 1)).2.1 E) Q) : Wp (aFix aFuel (lX11_pair_54 (nI A) (nI B) j) z 0 0 0 (nI (A + 1)) E) Q := by
  have vB : (nI B).toInt = (B : Int) := nI_toInt (by omega)
  refine Wp.go4 (fun k x y m D' => D' = E ∧ ((k = A + 1 ∧ x = 0 ∧ y = 0 ∧ m = 0) ∨ (A + 2 ≤ k ∧ y ≠ 0 ∧ (x, y, m) = pou S A (k - (A + 2))))) (B + 1) (by omega) (fun g k x y m D' hk hI K => ?_) (k0 := A + 1) rfl (by omega) ⟨rfl, Or.inl ⟨rfl, rfl, rfl, rfl⟩⟩
  obtain ⟨e, i0⟩ := hI
  subst e
  have vk : (nI k).toInt = (k : Int) := nI_toInt (by omega)
  unfold lX11_pair_54
  rcases i0 with ⟨ek, rfl, rfl, rfl⟩ | ⟨i0, iy, i1⟩
  · refine Wp.ilt (fun q => absurd q (by omega)) (fun q => Wp.lets (Wp.lets ?_))
    refine Wp.go4 (fun i x y m D2 => D2 = D' ∧ ((i = A ∧ x = 0 ∧ y = 0 ∧ m = 0) ∨ (i = A + 1 ∧ (x, y, m) = pou S A 0))) k (by omega) (fun g2 i x y m D2 hi hI K2 => ?_) (k0 := A) rfl (by omega) ⟨rfl, Or.inl ⟨rfl, rfl, rfl, rfl⟩⟩
    obtain ⟨e, i0⟩ := hI
    subst e
    have vi : (nI i).toInt = (i : Int) := nI_toInt (by omega)
    unfold lX11_pair_63
    rcases i0 with ⟨ei, rfl, rfl, rfl⟩ | ⟨ei, i1⟩
    · refine Wp.ile (fun q => absurd q (by omega)) (fun _ => Wp.bindE (hS i k (by omega) (by omega)) (Wp.lets (Wp.lets (Wp.pos rfl (Wp.lets (K2 (by omega) _ _ _ _ ⟨rfl, Or.inr ⟨by omega, ?_⟩⟩))))))
      rw [ei, ek]
      rfl
    · refine Wp.ile (fun _ => Wp.lets (K (by omega) _ _ _ _ ⟨rfl, Or.inr ⟨by omega, ?_, ?_⟩⟩)) (fun q => absurd q (by omega))
      · have ey : y = nI (A + 1) := congrArg (fun t : PrT => t.2.1) i1
        have v1 : (nI (A + 1)).toInt = ((A + 1 : Nat) : Int) := nI_toInt (by omega)
        rw [ey]
        intro t
        rw [t, ti_0] at v1
        omega
      · rw [i1, show k + 1 - (A + 2) = 0 by omega]
  · refine Wp.ilt (fun q => ?_) (fun q => Wp.lets (Wp.lets ?_))
    · rw [show B - A - 1 = k - (A + 2) by omega, ← i1] at J
      exact J
    · have I := bM_inner (E := D') (A := A) (V := k) (S := S) (t := (x, y, m)) (z := fun _ _ _ _ _ => none) (j := fun (x10 : Int32) (x11 : Int32) (x12 : Int64) (D8 : ADD) => aLet (nI k + (1 : Int32)) (fun x13 => g x10 x11 x12 x13 D8)) (Q := Q) (by omega) (by omega) (by omega) (fun u h1 h2 => hS u k (by omega) (by omega)) iy (fun iy2 => Wp.lets (K (by omega) _ _ _ _ ⟨rfl, Or.inr ⟨by omega, iy2, ?_⟩⟩))
      · exact I
      · rw [pou_s i0, ← i1]
theorem jr_pair {a b : Int32} (h : IR RF n0 P E) : BR RF n0 P id (fX10_pair a b P.2) (fX11_pair a b E) := by
  obtain ⟨hb, ⟨tp, fl, w, pr⟩, hc⟩ := h.nowF
  have qx := h.1.2.1.2.qx
  have qm := h.1.2.2.1.qm
  have e40 : (40 : Int32).toInt = 40 := by decide
  have up : UR a b 40 → UR a b 300 := fun z => by
    obtain ⟨z1, z2, z3, z4⟩ := z
    exact ⟨z1, z2, z3, by omega⟩
  obtain ⟨v, vp, vn⟩ : ∃ v : Int32, ((UR a b 40 ∧ a ≠ b) → v = (if (cL0 P.2 E).length = 0 then -1 else prV P.2 (cL0 P.2 E) a.toNatClampNeg b.toNatClampNeg)) ∧ (¬ (UR a b 40 ∧ a ≠ b) → v = -1) := ⟨if UR a b 40 ∧ a ≠ b then (if (cL0 P.2 E).length = 0 then -1 else prV P.2 (cL0 P.2 E) a.toNatClampNeg b.toNatClampNeg) else -1, fun z => if_pos z, fun z => if_neg z⟩
  refine h.askE (v := v) (fun q => oX_pair q) (fun q => oM_pair q) ?_ ?_
  · unfold fX10_pair
    refine Wp.bindE (eX_isRange _ _ _ _) (Wp.lets ?_)
    rw [e40]
    by_cases hU : UR a b 40
    · rw [if_pos hU]
      refine Wp.neg (by decide) (Wp.ite (fun q => Wp.ret ?_) (fun q => Wp.bind (ga0 qx hb) (fun r D1 k => ?_)))
      · rw [vn (fun z => z.2 q)]
      · rw [vp ⟨hU, q⟩]
        obtain ⟨rfl, f, p⟩ := k
        have m := (pil_m p).1
        have l2 := p.2.1
        have vl : (nI (cL0 P.2 E).length).toInt = ((cL0 P.2 E).length : Int) := nI_toInt (by omega)
        refine Wp.ite (fun z => Wp.ret ?_) (fun z => ?_)
        · rw [if_pos (by rw [m] at z; rw [z, ti_0] at vl; omega)]
        · rw [if_neg (fun y => z (by rw [m, y]; rfl))]
          obtain ⟨hA, ea, eb⟩ := UR.ab (up hU)
          have ne : a.toNatClampNeg ≠ b.toNatClampNeg := fun e => q (by rw [ea, eb, e])
          have ca := cl_i (show 0 ≤ a.toInt by have := hU.1; omega)
          have cb := cl_i (show 0 ≤ b.toInt by have := hU.1; have := hU.2.1; omega)
          have hd := hU.2.2.2
          have W := bX_bestPair hA (by omega) (by omega) p
          rw [← ea, ← eb] at W
          exact Wp.bind W (fun r D2 y => Wp.ret y)
    · rw [if_neg hU, vn (fun z => hU z.1)]
      exact Wp.pos rfl (Wp.ret rfl)
  · unfold fX11_pair
    refine Wp.lets (Wp.bindE (eM_areUnits _ _ _) (Wp.lets ?_))
    by_cases hV : UR a b 300
    · rw [if_pos hV]
      have sb : (b - a).toInt = b.toInt - a.toInt := by
        obtain ⟨z1, z2, z3, z4⟩ := hV
        exact ti_sub rfl rfl (by omega) (by omega)
      refine Wp.neg (by decide) (Wp.ite (fun q => Wp.ret ?_) (fun q => Wp.ile (fun d => ?_) (fun d => Wp.ret ?_)))
      · rw [vn (fun z => z.2 q)]
      · rw [sb, e40] at d
        have hU : UR a b 40 := ⟨hV.1, hV.2.1, hV.2.2.1, d⟩
        rw [vp ⟨hU, q⟩]
        refine Wp.bind (lk0 qm hb w hc) (fun _ E1 l => Wp.bindE (bM_those l.2) ?_)
        have cr := l.2
        have l2 : (cL0 P.2 E).length ≤ 32 := Nat.le_trans chL_len cr.1.2
        have vl : (nI (cL0 P.2 E).length).toInt = ((cL0 P.2 E).length : Int) := nI_toInt (by omega)
        refine Wp.ite (fun z => Wp.ret ?_) (fun z => ?_)
        · have z : nI (cL0 P.2 E).length = 0 := z
          rw [if_pos (by rw [z, ti_0] at vl; omega)]
        · rw [if_neg (fun y => z (by show nI (cL0 P.2 E).length = 0; rw [y]; rfl))]
          obtain ⟨hA, ea, eb⟩ := UR.ab hV
          have ne : a.toNatClampNeg ≠ b.toNatClampNeg := fun e => q (by rw [ea, eb, e])
          have ca := cl_i (show 0 ≤ a.toInt by have := hU.1; omega)
          have cb := cl_i (show 0 ≤ b.toInt by have := hU.1; have := hU.2.1; omega)
          have W := bM_bestPair (S := prS P.2 (cL0 P.2 E)) (E := E1) (j := fun (x4 : Int32) (x5 : Int32) (D6 : ADD) => some ((((10000 : Int32) * x5) + x4), D6)) (z := fun _ _ _ _ _ => none) (Q := fun r _ => r = prV P.2 (cL0 P.2 E) a.toNatClampNeg b.toNatClampNeg) hA (by omega) (fun u v hu hv => bM_sumOf cr (by rw [nI_toInt (by omega)]; omega) (by rw [nI_toInt (by omega)]; omega)) (Wp.ret rfl)
          rw [← ea, ← eb, nI_succ, ← ea] at W
          exact Wp.lets (Wp.lets (Wp.lets W))
      · rw [sb, e40] at d
        rw [vn (fun z => by have := z.1.2.2.2; omega)]
    · rw [if_neg hV, vn (fun z => hV (up z.1))]
      exact Wp.pos rfl (Wp.ret rfl)
end PRs
end
section
/-! sets: both sides -/
section STs
variable {D D1 E E1 : ADD} {N n0 : Nat} {L M : List Nat} {R : Nat → Prop} {t : Nat → Int32} {P : APD} {ρ σ τ υ κ : Type} {Q : ρ → ADD → Prop}
theorem Wp.go5 (Inv : Nat → σ → τ → υ → κ → ADD → Prop) (B : Nat) (hB : B ≤ 100000) {F : (σ → τ → υ → κ → Int32 → ADD → Option (ρ × ADD)) → σ → τ → υ → κ → Int32 → ADD → Option (ρ × ADD)} {z : σ → τ → υ → κ → Int32 → ADD → Option (ρ × ADD)}
    (hF : ∀ (g : σ → τ → υ → κ → Int32 → ADD → Option (ρ × ADD)) (k : Nat) (y : σ) (w : τ) (v : υ) (u : κ) (D : ADD), k ≤ B → Inv k y w v u D → (k < B → ∀ y' w' v' u' D', Inv (k + 1) y' w' v' u' D' → Wp (g y' w' v' u' (nI k + 1) D') Q) → Wp (F g y w v u (nI k) D) Q) {k0 : Nat} {y : σ} {w : τ} {v : υ} {u : κ} {D : ADD} {x0 : Int32} (e0 : x0 = nI k0) (hk : k0 ≤ B) (h0 : Inv k0 y w v u D) : Wp (aFix aFuel F z y w v u x0 D) Q := by
  refine Wp.fix5 (fun n y w v u x D' => ∃ k, x = nI k ∧ k ≤ B ∧ B + 1 ≤ n + k ∧ Inv k y w v u D') ?_ ?_ aFuel 1000000 _ _ _ _ _ _ (Nat.le_refl _) ⟨k0, e0, hk, by omega, h0⟩
  · intro n g hg y w v u x D' hI
    obtain ⟨k, rfl, h1, h2, h3⟩ := hI
    exact hF g k y w v u D' h1 h3 (fun hk y2 w2 v2 u2 D2 hD2 => hg _ _ _ _ _ _ ⟨k + 1, (nI_succ k).symm, hk, by omega, hD2⟩)
  · intro y w v u x D' hI
    obtain ⟨k, -, h1, h2, -⟩ := hI
    omega
/-- doubles: those that an earlier one is like -/
noncomputable def twL (t : Nat → Int32) (M : List Nat) : List Nat × Int32 := M.foldl (fun y s => (y.1 ++ [s], y.2 + @ite _ (∃ r, r ∈ y.1 ∧ t r = t s) (Classical.propDecidable _) 1 0)) ([], 0)
theorem twL_1 : (twL t M).1 = M := by
  have g : ∀ (M A : List Nat) (c : Int32), (M.foldl (fun (y : List Nat × Int32) s => (y.1 ++ [s], y.2 + @ite _ (∃ r, r ∈ y.1 ∧ t r = t s) (Classical.propDecidable _) 1 0)) (A, c)).1 = A ++ M := by
    intro M
    induction M with
    | nil => intro A c; exact (List.append_nil A).symm
    | cons x M ih =>
      intro A c
      show (List.foldl _ (A ++ [x], _) M).1 = _
      rw [ih, List.append_assoc]
      rfl
  exact g M [] 0
theorem twL_snoc {s : Nat} : (twL t (M ++ [s])).2 = (twL t M).2 + @ite _ (∃ r, r ∈ M ∧ t r = t s) (Classical.propDecidable _) 1 0 := by
  have e : twL t (M ++ [s]) = ((twL t M).1 ++ [s], (twL t M).2 + @ite _ (∃ r, r ∈ (twL t M).1 ∧ t r = t s) (Classical.propDecidable _) 1 0) := by
    unfold twL
    rw [List.foldl_append]
    rfl
  rw [e, twL_1]
def grL (t : Nat → Int32) (M : List Nat) : Int32 := M.foldl (fun y s => aMax y (t s)) 0
theorem grL_snoc {s : Nat} : grL t (M ++ [s]) = aMax (grL t M) (t s) := by
  unfold grL
  rw [List.foldl_append]
  rfl
abbrev sh1 (p : Nat) : Int32 := (1 : Int32) <<< (nI p &&& 31)
noncomputable def lcF (g : Int32) (H : Nat → Prop) : Nat → Int32
  | 0 => 0
  | p + 1 => lcF g H p ||| @ite _ (sh1 p ≤ g ∧ ¬ H p) (Classical.propDecidable _) (sh1 p) 0
theorem sh1_le : ∀ p, p < 6 → ∀ q, q < 6 → p ≤ q → (sh1 p).toInt ≤ (sh1 q).toInt := by decide +kernel
theorem sh1_bt : ∀ p, p < 32 → ∀ q, q < 32 → bt (sh1 p) q = decide (q = p) := by
  intro p hp q hq
  show bt ((1 : Int32) <<< (nI p &&& 31)) q = _
  rw [b_shl p hp 1 hq]
  by_cases h : p ≤ q
  · rw [bt_1 _ (by omega)]
    by_cases e : q = p
    · subst e
      simp
    · have : ¬ q - p = 0 := by omega
      simp [e, this]
  · have : ¬ q = p := by omega
    simp [h, this]
theorem lc_stop {g : Int32} {H : Nat → Prop} {p : Nat} (hp : p ≤ 5) (h : g < sh1 p) : ∀ q, p ≤ q → q ≤ 6 → lcF g H q = lcF g H p := by
  intro q
  induction q with
  | zero => intro h1 _; rw [show p = 0 by omega]
  | succ q ih =>
    intro h1 h2
    by_cases e : p = q + 1
    · rw [e]
    · have ih := ih (by omega) (by omega)
      have m := sh1_le p (by omega) q (by omega) (by omega)
      have hl := Int32.lt_iff_toInt_lt.mp h
      show lcF g H q ||| _ = _
      rw [ih, if_neg (fun z => by have := Int32.le_iff_toInt_le.mp z.1; omega), Int32.or_zero]
theorem mem_tk {i r : Nat} : r ∈ L.take i ↔ ∃ j, j < i ∧ L[j]? = some r := by
  constructor
  · intro h
    obtain ⟨j, hj⟩ := List.getElem?_of_mem h
    by_cases c : j < i
    · rw [List.getElem?_take_of_lt c] at hj
      exact ⟨j, c, hj⟩
    · rw [List.getElem?_take_eq_none (by omega)] at hj
      exact absurd hj (by simp)
  · rintro ⟨j, c, hj⟩
    refine List.mem_of_getElem? (i := j) ?_
    rw [List.getElem?_take_of_lt c]
    exact hj
/-- the class -/
theorem bX_first {x u : Int32} (p : PilX D D1 L) : Wp (fX4_firstWithTimes x u D1) (fun r D2 => D2 = D1 ∧ ∃ i, i ≤ L.length ∧ r = nI i ∧ (∀ j s, j < i → L[j]? = some s → tmS D u s ≠ x) ∧ (∀ s, L[i]? = some s → tmS D u s = x)) := by
  have m := (pil_m p).1
  have l2 := p.2.1
  have vn : (nI L.length).toInt = (L.length : Int) := nI_toInt (by omega)
  unfold fX4_firstWithTimes
  refine Wp.lets (Wp.lets (Wp.go1 (fun k D2 => D2 = D1 ∧ ∀ j s, j < k → L[j]? = some s → tmS D u s ≠ x) L.length (by omega) (fun g k D2 hk hI K => ?_) (k0 := 0) rfl (Nat.zero_le _) ⟨rfl, fun j s h => absurd h (Nat.not_lt_zero _)⟩))
  obtain ⟨e, i1⟩ := hI
  subst e
  have vk : (nI k).toInt = (k : Int) := nI_toInt (by omega)
  unfold lX4_firstWithTimes_2
  rw [m]
  refine Wp.ile (fun q => Wp.ret ⟨rfl, L.length, Nat.le_refl _, m, fun j s h1 h2 => i1 j s (by omega) h2, fun s h => ?_⟩) (fun q => Wp.bindE (eX_timesOf _ _ _) ?_)
  · have := (List.getElem?_eq_some_iff.mp h).1
    omega
  · have hl : k < L.length := by omega
    have hj : L[k]? = some L[k] := List.getElem?_eq_getElem hl
    rw [p.tim u hj]
    refine Wp.ite (fun c => Wp.ret ⟨rfl, k, hk, rfl, i1, fun s h => ?_⟩) (fun c => Wp.lets (K hl _ ⟨rfl, fun j s h1 h2 => ?_⟩))
    · rw [hj] at h
      rw [← Option.some.inj h]
      exact c
    · by_cases e : j = k
      · subst e
        rw [hj] at h2
        rw [← Option.some.inj h2]
        exact c
      · exact i1 j s (by omega) h2
theorem bX_doubles {u : Int32} (p : PilX D D1 L) : Wp (fX4_doublesBy u D1) (fun r _ => r = (twL (tmS D u) L).2) := by
  have m := (pil_m p).1
  have l2 := p.2.1
  have vn : (nI L.length).toInt = (L.length : Int) := nI_toInt (by omega)
  unfold fX4_doublesBy
  refine Wp.lets (Wp.lets (bX_fold2 (L := L) (fun l y D' => D' = D1 ∧ y = (twL (tmS D u) l).2) l2 (fun g y D2 i s hs hI K => ?_) (fun g y D2 hI => ?_) ⟨rfl, rfl⟩))
  · obtain ⟨e, rfl⟩ := hI
    subst e
    have hl := (List.getElem?_eq_some_iff.mp hs).1
    have vi : (nI i).toInt = (i : Int) := nI_toInt (by omega)
    unfold lX4_doublesBy_4
    rw [m]
    refine Wp.ile (fun q => absurd q (by omega)) (fun _ => Wp.bindE (eX_timesOf _ _ _) ?_)
    rw [p.tim u hs]
    refine Wp.bind (bX_first p) (fun x D3 q => ?_)
    obtain ⟨e, i', h1, rfl, h2, h3⟩ := q
    subst e
    have vi' : (nI i').toInt = (i' : Int) := nI_toInt (by omega)
    refine Wp.lets (Wp.ile (fun c => Wp.lets (Wp.lets (K _ _ ⟨rfl, ?_⟩))) (fun c => Wp.lets (Wp.lets (K _ _ ⟨rfl, ?_⟩))))
    · rw [twL_snoc, if_neg]
      rintro ⟨r, hr, e⟩
      obtain ⟨j, hj, hr⟩ := mem_tk.mp hr
      exact h2 j r (by omega) hr e
    · have hj : L[i']? = some L[i'] := List.getElem?_eq_getElem (by omega)
      rw [twL_snoc, if_pos ⟨L[i'], mem_tk.mpr ⟨i', by omega, hj⟩, h3 _ hj⟩]
  · obtain ⟨e, rfl⟩ := hI
    subst e
    unfold lX4_doublesBy_4
    rw [m]
    exact Wp.pos (Int32.le_refl _) (Wp.ret rfl)
theorem bX_greatest {u : Int32} (p : PilX D D1 L) : Wp (fX4_greatestTimes u D1) (fun r D2 => D2 = D1 ∧ r = grL (tmS D u) L) := by
  have m := (pil_m p).1
  have l2 := p.2.1
  have vn : (nI L.length).toInt = (L.length : Int) := nI_toInt (by omega)
  unfold fX4_greatestTimes
  refine Wp.lets (Wp.lets (bX_fold2 (L := L) (fun l y D' => D' = D1 ∧ y = grL (tmS D u) l) l2 (fun g y D2 i s hs hI K => ?_) (fun g y D2 hI => ?_) ⟨rfl, rfl⟩))
  · obtain ⟨e, rfl⟩ := hI
    subst e
    have hl := (List.getElem?_eq_some_iff.mp hs).1
    have vi : (nI i).toInt = (i : Int) := nI_toInt (by omega)
    unfold lX4_greatestTimes_4
    rw [m]
    refine Wp.ile (fun q => absurd q (by omega)) (fun _ => Wp.bindE (eX_timesOf _ _ _) (Wp.lets (Wp.lets (K _ _ ⟨rfl, ?_⟩))))
    rw [grL_snoc, p.tim u hs]
  · obtain ⟨e, rfl⟩ := hI
    subst e
    unfold lX4_greatestTimes_4
    rw [m]
    exact Wp.pos (Int32.le_refl _) (Wp.ret ⟨rfl, rfl⟩)
abbrev hsH (t : Nat → Int32) (M : List Nat) (p : Nat) : Prop := ∃ r, r ∈ M ∧ t r = sh1 p
theorem bX_lacks {u : Int32} (p : PilX D D1 L) : Wp (fX4_lacksBy u D1) (fun r _ => r = lcF (grL (tmS D u) L) (hsH (tmS D u) L) 6) := by
  have m := (pil_m p).1
  have l2 := p.2.1
  have e5 : (5 : Int32).toInt = 5 := by decide
  have vn : (nI L.length).toInt = (L.length : Int) := nI_toInt (by omega)
  unfold fX4_lacksBy
  refine Wp.bind (bX_greatest p) (fun x D2 q => ?_)
  obtain ⟨e, rfl⟩ := q
  subst e
  refine Wp.lets (Wp.lets (Wp.go2 (fun k y D' => D' = D2 ∧ y = lcF (grL (tmS D u) L) (hsH (tmS D u) L) k) 6 (by omega) (fun g k y D' hk hI K => ?_) (k0 := 0) rfl (Nat.zero_le _) ⟨rfl, rfl⟩))
  obtain ⟨e, rfl⟩ := hI
  subst e
  have vk : (nI k).toInt = (k : Int) := nI_toInt (by omega)
  unfold lX4_lacksBy_11
  refine Wp.ilt (fun q => Wp.ret ?_) (fun q => Wp.ite (fun c => Wp.ret ?_) (fun c => Wp.bind (bX_first p) (fun x D3 z => ?_)))
  · rw [show k = 6 by omega]
  · exact (lc_stop (by omega) c 6 (by omega) (Nat.le_refl _)).symm
  · obtain ⟨e, i, h1, rfl, h2, h3⟩ := z
    subst e
    rw [m]
    have vi : (nI i).toInt = (i : Int) := nI_toInt (by omega)
    have le : sh1 k ≤ grL (tmS D u) L := Int32.not_lt.mp c
    refine Wp.lets (Wp.ite (fun d => Wp.lets (Wp.lets (K (by omega) _ _ ⟨rfl, ?_⟩))) (fun d => Wp.lets (Wp.lets (K (by omega) _ _ ⟨rfl, ?_⟩))))
    · have ei : i = L.length := by
        have := congrArg Int32.toInt d
        omega
      have nh : ¬ hsH (tmS D u) L k := by
        rintro ⟨r, hr, e⟩
        obtain ⟨j, hj⟩ := List.getElem?_of_mem hr
        have := (List.getElem?_eq_some_iff.mp hj).1
        exact h2 j r (by omega) hj e
      show _ = lcF _ _ k ||| _
      rw [if_pos ⟨le, nh⟩]
    · have ei : i ≠ L.length := fun e => d (by rw [e])
      have hj : L[i]? = some L[i] := List.getElem?_eq_getElem (by omega)
      show _ = lcF _ _ k ||| _
      rw [if_neg (fun z => z.2 ⟨L[i], List.mem_of_getElem? hj, h3 _ hj⟩)]
theorem bl_5 {v s : Int32} : blX D 5 v s ↔ knX D s 9 = 1 ∧ knX D s 10 = v := by
  unfold blX
  rw [show (5 : Int32).toInt = 5 by decide, if_pos rfl]
/-- the reference: those of a set -/
def SeR (D E1 : ADD) (N : Nat) (a : Int32) (R : Nat → Prop) : Prop := (E1.1 0 41 = nI N ∧ N ≤ 32) ∧ ∀ k, k < N → (∃ x, fX11_isOfSet (nI k) a E1 = some (x, E1) ∧ Bo x (R k)) ∧ (R k → K1 D E1 k)
theorem bM_ofSet {a : Int32} (l : LkR D E E1 (nS (mB E))) (h : RBk (xc D) (mB E)) (w : RuS (xc D) (slM E 0) 12 0 0 True) : SeR D E1 (nS (mB E)) a (fun k => thE E k ∧ blX D 5 a (nI k)) := by
  have n32 := n32_of h
  have c1 := (l.cr h w).1
  obtain ⟨l1, l2, l3, l4, l5⟩ := l
  refine ⟨c1, fun k hk => ⟨?_, fun q => ⟨by omega, l4 k hk q.1, (l5 k hk).1 q.1, sp_th h w hk q.1⟩⟩⟩
  have vk : (nI k).toInt = (k : Int) := nI_toInt (by omega)
  have H : Wp (fX11_isOfSet (nI k) a E1) (fun x D1 => D1 = E1 ∧ Bo x (thE E k ∧ blX D 5 a (nI k))) := by
    unfold fX11_isOfSet
    rw [nI_clamp (show k < 2 ^ 31 by omega), l3 k hk]
    refine Wp.idx (vp_in_nI (by omega) (by decide)) (Wp.lets (Wp.lets ?_))
    by_cases ht : thE E k
    · have fc := l4 k hk ht
      have f9 : E1.1 32 (11 * k + 9) = knX D (nI k) 9 := fc 9 (by decide)
      have f10 : E1.1 32 (11 * k + 10) = knX D (nI k) 10 := fc 10 (by decide)
      rw [if_pos ht]
      refine Wp.neg (by decide) (Wp.bindE (eM_f (by omega) ⟨by decide, by decide⟩) ?_)
      rw [nI_clamp (show k < 2 ^ 31 by omega), show (9 : Int32).toNatClampNeg = 9 from rfl, f9]
      refine Wp.ite (fun q => Wp.bindE (eM_f (by omega) ⟨by decide, by decide⟩) ?_) (fun q => Wp.z (Or.inl rfl) (Wp.ret ⟨rfl, Or.inr ⟨rfl, fun z => q (bl_5.mp z.2).1⟩⟩))
      rw [nI_clamp (show k < 2 ^ 31 by omega), show (10 : Int32).toNatClampNeg = 10 from rfl, f10]
      exact Wp.ite (fun q2 => Wp.z (Or.inr rfl) (Wp.ret ⟨rfl, Or.inl ⟨rfl, ht, bl_5.mpr ⟨q, q2⟩⟩⟩)) (fun q2 => Wp.z (Or.inl rfl) (Wp.ret ⟨rfl, Or.inr ⟨rfl, fun z => q2 (bl_5.mp z.2).2⟩⟩))
    · rw [if_neg ht]
      exact Wp.pos (by decide) (Wp.z (Or.inl rfl) (Wp.ret ⟨rfl, Or.inr ⟨rfl, fun z => ht z.1⟩⟩))
  obtain ⟨x, D1, e, rfl, b⟩ := H
  exact ⟨x, e, b⟩
theorem bM_had {a u x : Int32} {k : Nat} {j : Int32 → ADD → Option (Int32 × ADD)} {z : Int32 → Int32 → ADD → Option (Int32 × ADD)} {Q : Int32 → ADD → Prop} (c : SeR D E1 N a R) (hu : 10 ≤ u.toInt ∧ u.toInt ≤ 2000) (hk : k ≤ N) (K : ∀ y, Bo y (∃ r, r ∈ chL R k ∧ tmS D u r = x) → Wp (j y E1) Q) : Wp (aFix aFuel (lX11_set_108 a u (nI k) x j) z 0 0 E1) Q := by
  obtain ⟨⟨c1, c2⟩, c3⟩ := c
  have vk : (nI k).toInt = (k : Int) := nI_toInt (by omega)
  refine Wp.go2 (fun i y D' => D' = E1 ∧ Bo y (∃ r, r ∈ chL R i ∧ tmS D u r = x)) k (by omega) (fun g i y D' hi hI K2 => ?_) (k0 := 0) rfl (Nat.zero_le _) ⟨rfl, Or.inr ⟨rfl, fun z => by obtain ⟨r, hr, -⟩ := z; exact absurd hr (by rw [chL_0]; exact List.not_mem_nil)⟩⟩
  obtain ⟨e, i1⟩ := hI
  subst e
  have vi : (nI i).toInt = (i : Int) := nI_toInt (by omega)
  unfold lX11_set_108
  refine Wp.ile (fun q => ?_) (fun q => ?_)
  · rw [show i = k by omega] at i1
    exact K _ i1
  · obtain ⟨⟨s, e1, b⟩, k1⟩ := c3 i (by omega)
    refine Wp.bindE e1 (Wp.lets (Wp.lets ?_))
    have y0 : y ||| 0 = y := Int32.or_zero
    have y1 : y ||| 1 = 1 := by
      rcases i1 with ⟨rfl, -⟩ | ⟨rfl, -⟩ <;> decide
    rcases b with ⟨rfl, r⟩ | ⟨rfl, r⟩
    · refine Wp.neg (by decide) (Wp.bindE (k1_times (k1 r) hu) (Wp.ite (fun q2 => Wp.lets (Wp.lets (K2 (by omega) _ _ ⟨rfl, ?_⟩))) (fun q2 => Wp.lets (Wp.lets (K2 (by omega) _ _ ⟨rfl, ?_⟩)))))
      · rw [y1, chL_t r]
        exact Or.inl ⟨rfl, i, List.mem_append_right _ List.mem_cons_self, q2⟩
      · rw [y0, chL_t r]
        rcases i1 with ⟨ey, r2, h2, h3⟩ | ⟨ey, h2⟩
        · exact Or.inl ⟨ey, r2, List.mem_append_left _ h2, h3⟩
        · refine Or.inr ⟨ey, fun z => ?_⟩
          obtain ⟨r2, h4, h5⟩ := z
          rcases List.mem_append.mp h4 with h4 | h4
          · exact h2 ⟨r2, h4, h5⟩
          · rw [List.mem_singleton.mp h4] at h5
            exact q2 h5
    · refine Wp.pos rfl (Wp.lets (Wp.lets (K2 (by omega) _ _ ⟨rfl, ?_⟩)))
      rw [y0, chL_f r]
      exact i1
theorem bM_hasBits {x1 x2 x3 x h0 : Int32} {j : Int32 → Int32 → Int32 → Int32 → ADD → Option (Int32 × ADD)} {z : Int32 → Int32 → ADD → Option (Int32 × ADD)} {Q : Int32 → ADD → Prop} (K : ∀ y, (∀ q, q < 6 → (bt y q = true ↔ bt h0 q = true ∨ x = sh1 q)) → Wp (j x1 x2 x3 y E1) Q) : Wp (aFix aFuel (lX11_set_171 x1 x2 x3 x j) z h0 0 E1) Q := by
  have e6 : (6 : Int32).toInt = 6 := by decide
  refine Wp.go2 (fun i y D' => D' = E1 ∧ ∀ q, q < 6 → (bt y q = true ↔ bt h0 q = true ∨ (q < i ∧ x = sh1 q))) 6 (by omega) (fun g i y D' hi hI K2 => ?_) (k0 := 0) rfl (Nat.zero_le _) ⟨rfl, fun q hq => ⟨fun z => Or.inl z, fun z => z.elim id (fun z => absurd z.1 (Nat.not_lt_zero _))⟩⟩
  obtain ⟨e, i1⟩ := hI
  subst e
  have vi : (nI i).toInt = (i : Int) := nI_toInt (by omega)
  unfold lX11_set_171
  refine Wp.ile (fun q => K _ (fun q hq => ?_)) (fun q => Wp.lets (Wp.ite (fun c => Wp.lets (Wp.lets (K2 (by omega) _ _ ⟨rfl, fun q hq => ?_⟩))) (fun c => Wp.lets (Wp.lets (K2 (by omega) _ _ ⟨rfl, fun q hq => ?_⟩)))))
  · rw [i1 q hq]
    exact ⟨fun z => z.imp id (fun z => z.2), fun z => z.imp id (fun z => ⟨by omega, z⟩)⟩
  · rw [b_or, Bool.or_eq_true, i1 q hq, sh1_bt i (by omega) q (by omega), decide_eq_true_eq]
    constructor
    · rintro ((z | z) | z)
      · exact Or.inl z
      · exact Or.inr ⟨by omega, z.2⟩
      · exact Or.inr ⟨by omega, by rw [z]; exact c⟩
    · rintro (z | z)
      · exact Or.inl (Or.inl z)
      · by_cases e : q = i
        · exact Or.inr e
        · exact Or.inl (Or.inr ⟨by omega, z.2⟩)
  · rw [Int32.or_zero, i1 q hq]
    constructor
    · rintro (z | z)
      · exact Or.inl z
      · exact Or.inr ⟨by omega, z.2⟩
    · rintro (z | z)
      · exact Or.inl z
      · by_cases e : q = i
        · rw [e] at z
          exact absurd z.2 c
        · exact Or.inr ⟨by omega, z.2⟩
theorem bM_lacks {g hs : Int32} {H : Nat → Prop} {j : Int32 → ADD → Option (Int32 × ADD)} {z : Int32 → Int32 → ADD → Option (Int32 × ADD)} {Q : Int32 → ADD → Prop} (hb : ∀ q, q < 6 → (bt hs q = true ↔ H q)) (K : Wp (j (lcF g H 6) E1) Q) : Wp (aFix aFuel (lX11_set_218 g hs j) z 0 0 E1) Q := by
  have e6 : (6 : Int32).toInt = 6 := by decide
  refine Wp.go2 (fun i y D' => D' = E1 ∧ y = lcF g H i) 6 (by omega) (fun g2 i y D' hi hI K2 => ?_) (k0 := 0) rfl (Nat.zero_le _) ⟨rfl, rfl⟩
  obtain ⟨e, rfl⟩ := hI
  subst e
  have vi : (nI i).toInt = (i : Int) := nI_toInt (by omega)
  unfold lX11_set_218
  refine Wp.ile (fun q => ?_) (fun q => Wp.lets (Wp.lets (Wp.ite (fun c => Wp.lets (Wp.lets (K2 (by omega) _ _ ⟨rfl, ?_⟩))) (fun c => Wp.ite (fun c2 => Wp.lets (Wp.lets (K2 (by omega) _ _ ⟨rfl, ?_⟩))) (fun c2 => Wp.lets (Wp.lets (K2 (by omega) _ _ ⟨rfl, ?_⟩)))))))
  · rw [show i = 6 by omega]
    exact K
  · show _ = lcF g H i ||| _
    rw [if_neg (fun z => Int32.not_le.mpr c z.1)]
  · show _ = lcF g H i ||| _
    have nb := (bit_t (show i < 32 by omega)).mp c2
    rw [if_pos ⟨Int32.not_lt.mp c, fun z => by
      rw [(hb i (by omega)).mpr z] at nb
      exact Bool.noConfusion nb⟩]
  · show _ = lcF g H i ||| _
    have nb : bt hs i = true := by
      cases e : bt hs i with
      | true => rfl
      | false => exact absurd ((bit_t (show i < 32 by omega)).mpr e) c2
    rw [if_neg (fun z => z.2 ((hb i (by omega)).mp nb))]
theorem max_if (x y : Int32) : (if y ≤ x then x else y) = aMax x y := by
  unfold aMax
  by_cases h : x < y
  · rw [if_pos h, if_neg (Int32.not_le.mpr h)]
  · rw [if_neg h, if_pos (Int32.not_lt.mp h)]
theorem bM_set {a u : Int32} {j : Int32 → Int32 → Int32 → Int32 → ADD → Option (Int32 × ADD)} {z : Int32 → Int32 → Int32 → Int32 → Int32 → ADD → Option (Int32 × ADD)} {Q : Int32 → ADD → Prop} (c : SeR D E1 N a R) (hu : 10 ≤ u.toInt ∧ u.toInt ≤ 2000) (K : ∀ hs, (∀ q, q < 6 → (bt hs q = true ↔ hsH (tmS D u) (chL R N) q)) → Wp (j (nI (chL R N).length) (twL (tmS D u) (chL R N)).2 (grL (tmS D u) (chL R N)) hs E1) Q) : Wp (aFix aFuel (lX11_set_52 a u j) z 0 0 0 0 0 E1) Q := by
  have c' := c
  obtain ⟨⟨c1, c2⟩, c3⟩ := c
  have vn : (nI N).toInt = (N : Int) := nI_toInt (by omega)
  refine Wp.go5 (fun k x y v hs D' => D' = E1 ∧ (x = nI (chL R k).length ∧ y = (twL (tmS D u) (chL R k)).2 ∧ v = grL (tmS D u) (chL R k)) ∧ ∀ q, q < 6 → (bt hs q = true ↔ hsH (tmS D u) (chL R k) q)) N (by omega) (fun g k x y v hs D' hk hI K2 => ?_) (k0 := 0) rfl (Nat.zero_le _) ⟨rfl, ⟨rfl, rfl, rfl⟩, fun q hq => ⟨fun z => by rw [b_0] at z; exact Bool.noConfusion z, fun z => by obtain ⟨r, hr, -⟩ := z; exact absurd hr (by rw [chL_0]; exact List.not_mem_nil)⟩⟩
  obtain ⟨e, ⟨rfl, rfl, rfl⟩, i1⟩ := hI
  subst e
  have vk : (nI k).toInt = (k : Int) := nI_toInt (by omega)
  unfold lX11_set_52
  rw [c1]
  refine Wp.ile (fun q => ?_) (fun q => ?_)
  · have ek : k = N := by omega
    rw [ek] at i1 ⊢
    exact K _ i1
  · obtain ⟨⟨s, e1, b⟩, k1⟩ := c3 k (by omega)
    refine Wp.bindE e1 (Wp.lets ?_)
    rcases b with ⟨rfl, r⟩ | ⟨rfl, r⟩
    · refine Wp.neg (by decide) (Wp.lets (Wp.bindE (k1_times (k1 r) hu) (Wp.letQ (fun Q j => ∀ y, y = aMax (grL (tmS D u) (chL R k)) (tmS D u k) → Wp (j y D') Q) (fun y ey => Wp.letQ (fun Q j => ∀ w, Bo w (∃ r, r ∈ chL R k ∧ tmS D u r = tmS D u k) → Wp (j w D') Q) (fun w bw => Wp.letQ (fun Q j => Wp (j (@ite _ (∃ r, r ∈ chL R k ∧ tmS D u r = tmS D u k) (Classical.propDecidable _) 1 0) D') Q) (Wp.lets (Wp.lets (bM_hasBits (fun hs2 hb2 => Wp.lets (K2 (by omega) _ _ _ _ _ ⟨rfl, ⟨?_, ?_, ?_⟩, fun q hq => ?_⟩))))) (fun j2 J2 => ?_)) (fun j1 J1 => Wp.lets (bM_had c' hu hk J1))) (fun j0 J0 => ?_))))
      · rw [chL_t r, List.length_append, ← nI_succ]
        rfl
      · rw [chL_t r, twL_snoc]
      · rw [chL_t r, grL_snoc, ey]
      · rw [hb2 q hq, i1 q hq, chL_t r]
        constructor
        · rintro (⟨r2, h2, h3⟩ | h)
          · exact ⟨r2, List.mem_append_left _ h2, h3⟩
          · exact ⟨k, List.mem_append_right _ List.mem_cons_self, h⟩
        · rintro ⟨r2, h2, h3⟩
          rcases List.mem_append.mp h2 with h2 | h2
          · exact Or.inl ⟨r2, h2, h3⟩
          · rw [List.mem_singleton.mp h2] at h3
            exact Or.inr h3
      · rcases bw with ⟨rfl, h⟩ | ⟨rfl, h⟩
        · rw [if_pos h] at J2
          exact Wp.neg (by decide) J2
        · rw [if_neg h] at J2
          exact Wp.pos rfl J2
      · refine Wp.ite (fun c => J0 _ ?_) (fun c => J0 _ ?_)
        · rw [← max_if, if_pos c]
        · rw [← max_if, if_neg c]
    · refine Wp.pos rfl (Wp.lets (K2 (by omega) _ _ _ _ _ ⟨rfl, ⟨?_, ?_, ?_⟩, ?_⟩)) <;> rw [chL_f r]
      exact i1
noncomputable def seV (t : Nat → Int32) (L : List Nat) (c : Int32) : Int32 := if c.toInt = 0 then nI L.length else if c.toInt = 1 then (twL t L).2 else if c.toInt = 2 then lcF (grL t L) (hsH t L) 6 else grL t L
theorem jr_set {a b c : Int32} (h : IR RF n0 P E) : BR RF n0 P id (fX10_set a b c P.2) (fX11_set a b c E) := by
  obtain ⟨hb, ⟨tp, fl, w, pr⟩, hc⟩ := h.nowF
  have qx := h.1.2.1.2.qx
  have qm := h.1.2.2.1.qm
  have e1 : (1 : Int32).toInt = 1 := by decide
  have e2 : (2 : Int32).toInt = 2 := by decide
  have e3 : (3 : Int32).toInt = 3 := by decide
  have e8 : (8 : Int32).toInt = 8 := by decide
  obtain ⟨v, vp, vn⟩ : ∃ v : Int32, (((1 ≤ a.toInt ∧ a.toInt ≤ 8) ∧ (10 ≤ b.toInt ∧ b.toInt ≤ 2000) ∧ (0 ≤ c.toInt ∧ c.toInt ≤ 3)) → v = seV (tmS P.2 b) (chL (fun s => thE E s ∧ blX P.2 5 a (nI s)) (nS (mB E))) c) ∧ (¬ ((1 ≤ a.toInt ∧ a.toInt ≤ 8) ∧ (10 ≤ b.toInt ∧ b.toInt ≤ 2000) ∧ (0 ≤ c.toInt ∧ c.toInt ≤ 3)) → v = -1) := ⟨if ((1 ≤ a.toInt ∧ a.toInt ≤ 8) ∧ (10 ≤ b.toInt ∧ b.toInt ≤ 2000) ∧ (0 ≤ c.toInt ∧ c.toInt ≤ 3)) then seV (tmS P.2 b) (chL (fun s => thE E s ∧ blX P.2 5 a (nI s)) (nS (mB E))) c else -1, fun z => if_pos z, fun z => if_neg z⟩
  refine h.askE (v := v) (fun q => oX_set q) (fun q => oM_set q) ?_ ?_
  · unfold fX10_set
    refine Wp.lets (Wp.ilt (fun q => Wp.ret ?_) (fun q => Wp.ilt (fun q2 => Wp.ret ?_) (fun q2 => Wp.bindE (eX_isUnit _ _) ?_)))
    · rw [vn (fun z => by have := z.1; omega)]
    · rw [vn (fun z => by have := z.1; omega)]
    · by_cases hu : 10 ≤ b.toInt ∧ b.toInt ≤ 2000
      · rw [if_pos hu]
        refine Wp.neg (by decide) (Wp.bind (gaK qx hb 5 a) (fun r D1 k => ?_))
        obtain ⟨rfl, f, p⟩ := k
        generalize chL (fun s => thE E s ∧ blX P.2 5 a (nI s)) (nS (mB E)) = L at p vp
        by_cases hc2 : 0 ≤ c.toInt ∧ c.toInt ≤ 3
        · rw [vp ⟨by omega, hu, hc2⟩]
          unfold seV
          refine Wp.tab4 (fun h0 => Wp.ret ?_) (fun h1 => Wp.bind (bX_doubles p) (fun r D2 y => Wp.ret ?_)) (fun h2 => Wp.bind (bX_lacks p) (fun r D2 y => Wp.ret ?_)) (fun h3 => Wp.bind (bX_greatest p) (fun r D2 y => Wp.ret ?_)) (fun hd => absurd hd (by omega))
          · rw [if_pos h0, (pil_m p).1]
          · rw [if_neg (by omega), if_pos h1, y]
          · rw [if_neg (by omega), if_neg (by omega), if_pos h2, y]
          · rw [if_neg (by omega), if_neg (by omega), if_neg (by omega), y.2]
        · rw [vn (fun z => hc2 z.2.2)]
          exact Wp.tab4 (fun h0 => absurd h0 (by omega)) (fun h0 => absurd h0 (by omega)) (fun h0 => absurd h0 (by omega)) (fun h0 => absurd h0 (by omega)) (fun hd => Wp.ret rfl)
      · rw [if_neg hu, vn (fun z => hu z.2.1)]
        exact Wp.pos rfl (Wp.ret rfl)
  · unfold fX11_set
    refine Wp.lets (Wp.bindE (eM_is _ _ _ _) (Wp.lets ?_))
    rw [e1, e8]
    by_cases ha : 1 ≤ a.toInt ∧ a.toInt ≤ 8
    · rw [if_pos ha]
      refine Wp.neg (by decide) (Wp.bindE (eM_isUnit _ _) ?_)
      by_cases hu : 10 ≤ b.toInt ∧ b.toInt ≤ 2000
      · rw [if_pos hu]
        refine Wp.neg (by decide) (Wp.bindE (eM_is _ _ _ _) ?_)
        rw [ti_0, e3]
        by_cases hc2 : 0 ≤ c.toInt ∧ c.toInt ≤ 3
        · rw [if_pos hc2, vp ⟨ha, hu, hc2⟩]
          refine Wp.neg (by decide) (Wp.bind (lk0 qm hb w hc) (fun _ E1 l => Wp.lets (Wp.lets (bM_set (bM_ofSet l.1 hb w) hu (fun hs hb2 => Wp.lets (Wp.lets (bM_lacks hb2 (Wp.lets ?_))))))))
          generalize chL (fun s => thE E s ∧ blX P.2 5 a (nI s)) (nS (mB E)) = L
          unfold seV
          refine Wp.ite (fun q => Wp.ret ?_) (fun q => Wp.ite (fun q2 => Wp.ret ?_) (fun q2 => Wp.ite (fun q3 => Wp.ret ?_) (fun q3 => Wp.ret ?_)))
          · rw [if_pos (by rw [q]; rfl)]
          · rw [if_neg (by rw [q2]; decide), if_pos (by rw [q2]; rfl)]
          · rw [if_neg (by rw [q3]; decide), if_neg (by rw [q3]; decide), if_pos (by rw [q3]; rfl)]
          · rw [if_neg (show ¬ c.toInt = 0 from fun z => q (ti_eq (z.trans ti_0.symm))), if_neg (show ¬ c.toInt = 1 from fun z => q2 (ti_eq (z.trans e1.symm))), if_neg (show ¬ c.toInt = 2 from fun z => q3 (ti_eq (z.trans e2.symm)))]
        · rw [if_neg hc2, vn (fun z => hc2 z.2.2)]
          exact Wp.pos rfl (Wp.ret rfl)
      · rw [if_neg hu, vn (fun z => hu z.2.1)]
        exact Wp.pos rfl (Wp.ret rfl)
    · rw [if_neg ha, vn (fun z => ha z.1)]
      exact Wp.pos rfl (Wp.ret rfl)
end STs
end
