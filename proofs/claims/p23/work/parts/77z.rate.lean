section
/-! rate: both sides -/
theorem nI_mod {p q : Nat} (hp : p < 100000) (hq : q < 100000) (h0 : q ≠ 0) : nI p - nI p / nI q * nI q = nI (p % q) := by
  have vp : (nI p).toInt = (p : Int) := nI_toInt (by omega)
  have vq : (nI q).toInt = (q : Int) := nI_toInt (by omega)
  have ed := ti_div vp vq (by omega) (by omega)
  rw [Int.tdiv_eq_ediv_of_nonneg (by omega)] at ed
  have q1 := Int.mul_ediv_add_emod (p : Int) (q : Int)
  have q2 := Int.emod_nonneg (p : Int) (show (q : Int) ≠ 0 by omega)
  have q3 := Int.emod_lt_of_pos (p : Int) (show (0 : Int) < (q : Int) by omega)
  have cm : (p : Int) / (q : Int) * (q : Int) = (q : Int) * ((p : Int) / (q : Int)) := Int.mul_comm _ _
  have em := ti_mul ed vq (by omega) (by omega)
  have hm : p % q < q := Nat.mod_lt _ (by omega)
  refine ti_eq ?_
  rw [ti_sub vp em (by omega) (by omega), nI_toInt (by omega), Int.natCast_emod]
  omega
theorem eM_gcd {p q : Nat} {E : ADD} (hp : p < 1000) (hq : q < 1000) : fX11_gcd (nI p) (nI q) E = some (nI (Nat.gcd p q), E) := by
  have H : Wp (fX11_gcd (nI p) (nI q) E) (fun x D1 => D1 = E ∧ x = nI (Nat.gcd p q)) := by
    unfold fX11_gcd
    refine Wp.lets (Wp.lets (Wp.fix2 (fun n x y D' => ∃ a b : Nat, (x = nI a ∧ y = nI b ∧ a < 1000 ∧ b < 1000) ∧ b < n ∧ Nat.gcd a b = Nat.gcd p q ∧ D' = E) ?_ ?_ aFuel 1000000 _ _ _ (Nat.le_refl _) ⟨p, q, ⟨rfl, rfl, hp, hq⟩, by omega, rfl, rfl⟩))
    · intro n g hg x y D' hI
      obtain ⟨a, b, ⟨rfl, rfl, ha, hb⟩, i1, i2, e⟩ := hI
      subst e
      unfold lX11_gcd_4
      by_cases z : b = 0
      · refine Wp.pos (by rw [z]; rfl) (Wp.ret ⟨rfl, ?_⟩)
        rw [← i2, z, Nat.gcd_zero_right]
      · have nz : nI b ≠ 0 := fun t => z (nI_inj (by omega) (by omega) t)
        refine Wp.neg nz (Wp.nz nz (Wp.lets ?_))
        rw [nI_mod (by omega) (by omega) z]
        have hm : a % b < b := Nat.mod_lt _ (by omega)
        refine hg _ _ _ ⟨b, a % b, ⟨rfl, rfl, hb, by omega⟩, by omega, ?_, rfl⟩
        rw [← i2, Nat.gcd_comm a b, Nat.gcd_rec b a, Nat.gcd_comm]
    · intro x y D' hI
      obtain ⟨a, b, -, i1, -⟩ := hI
      omega
  obtain ⟨x, D1, e, rfl, rfl⟩ := H
  exact e
theorem bd_mul {a b A B : Int} (a0 : 0 ≤ a) (a1 : a ≤ A) (b0 : 0 ≤ b) (b1 : b ≤ B) : 0 ≤ a * b ∧ a * b ≤ A * B := ⟨Int.mul_nonneg a0 b0, Int.mul_le_mul a1 b1 b0 (by omega)⟩
theorem ti_abs {x : Int32} {z : Int} (hx : x.toInt = z) (h1 : -2147483648 < z) : (aAbs x).toInt = if 0 ≤ z then z else -z := by
  have hh := ti_hi x
  unfold aAbs
  by_cases h : 0 ≤ z
  · rw [if_pos (show (0 : Int32) ≤ x from Int32.le_iff_toInt_le.mpr (by rw [ti_0, hx]; exact h)), if_pos h, hx]
  · rw [if_neg (fun q => h (by have := Int32.le_iff_toInt_le.mp q; rw [ti_0, hx] at this; exact this)), if_neg h, ti_sub ti_0 hx (by omega) (by omega)]
    omega
/-- p to q fits u and v by e -/
def Ft (u v e : Int) (p q : Nat) : Prop := 1000 * (u * (q : Int) - v * (p : Int)) ≤ e * v * (p : Int) ∧ 1000 * (v * (p : Int) - u * (q : Int)) ≤ e * v * (p : Int)
def NF (u v e : Int) (n m : Nat) : Prop := ∀ p q : Nat, 1 ≤ p → p ≤ 12 → 1 ≤ q → q ≤ 12 → (p + q < n ∨ (p + q = n ∧ p < m)) → ¬ Ft u v e p q
def RtS (u v e : Int) (r : Int32) : Prop := (∃ p q : Nat, (1 ≤ p ∧ p ≤ 12 ∧ 1 ≤ q ∧ q ≤ 12) ∧ Ft u v e p q ∧ NF u v e (p + q) p ∧ r = nI (100 * p + q)) ∨ (NF u v e 25 0 ∧ r = -1)
theorem RtS.one {u v e : Int} {r s : Int32} (h : RtS u v e r) (g : RtS u v e s) : r = s := by
  rcases h with ⟨p, q, hp, f, n, rfl⟩ | ⟨n, rfl⟩
  · rcases g with ⟨p2, q2, hp2, f2, n2, rfl⟩ | ⟨n2, rfl⟩
    · have a1 : ¬ (p2 + q2 < p + q ∨ (p2 + q2 = p + q ∧ p2 < p)) := fun z => n p2 q2 (by omega) (by omega) (by omega) (by omega) z f2
      have a2 : ¬ (p + q < p2 + q2 ∨ (p + q = p2 + q2 ∧ p < p2)) := fun z => n2 p q (by omega) (by omega) (by omega) (by omega) z f
      rw [show p = p2 by omega, show q = q2 by omega]
    · exact absurd f (n2 p q (by omega) (by omega) (by omega) (by omega) (Or.inl (by omega)))
  · rcases g with ⟨p2, q2, hp2, f2, n2, rfl⟩ | ⟨n2, rfl⟩
    · exact absurd f2 (n p2 q2 (by omega) (by omega) (by omega) (by omega) (Or.inl (by omega)))
    · rfl
theorem NF.more {u v e : Int} {n p : Nat} (h : NF u v e n p) (g : ¬ Ft u v e p (n - p)) : NF u v e n (p + 1) := fun p' q' p1 p2 q1 q2 z f => by
  by_cases t : p' = p ∧ p' + q' = n
  · refine g ?_
    rw [← t.1, show n - p' = q' by omega]
    exact f
  · exact h p' q' p1 p2 q1 q2 (by omega) f
theorem Ft.cut {u v e : Int} {p q : Nat} (hp : 0 < p) (h : Ft u v e p q) : Ft u v e (p / Nat.gcd p q) (q / Nat.gcd p q) := by
  have g0 : 0 < Nat.gcd p q := Nat.gcd_pos_of_pos_left q hp
  have ep : Nat.gcd p q * (p / Nat.gcd p q) = p := Nat.mul_div_cancel' (Nat.gcd_dvd_left p q)
  have eq : Nat.gcd p q * (q / Nat.gcd p q) = q := Nat.mul_div_cancel' (Nat.gcd_dvd_right p q)
  generalize Nat.gcd p q = g at *
  generalize p / g = p' at *
  generalize q / g = q' at *
  subst ep eq
  obtain ⟨h1, h2⟩ := h
  rw [Int.natCast_mul, Int.natCast_mul] at h1 h2
  have gp : (0 : Int) < (g : Int) := by omega
  have t1 : u * ((g : Int) * (q' : Int)) = (g : Int) * (u * (q' : Int)) := Int.mul_left_comm _ _ _
  have t2 : v * ((g : Int) * (p' : Int)) = (g : Int) * (v * (p' : Int)) := Int.mul_left_comm _ _ _
  have t3 : e * v * ((g : Int) * (p' : Int)) = (g : Int) * (e * v * (p' : Int)) := Int.mul_left_comm _ _ _
  rw [t1, t2, t3, ← Int.mul_sub, Int.mul_left_comm] at h1 h2
  exact ⟨Int.le_of_mul_le_mul_left h1 gp, Int.le_of_mul_le_mul_left h2 gp⟩
section RTs
variable {D D1 E E1 : ADD} {N n0 : Nat} {C : Nat → Prop} {P : APD} {u v e : Int32} {p q : Nat}
theorem ft_x (hu : 0 ≤ u.toInt ∧ u.toInt ≤ 2000) (hv : 0 ≤ v.toInt ∧ v.toInt ≤ 2000) (he : 0 ≤ e.toInt ∧ e.toInt ≤ 200) (hp : p ≤ 12) (hq : q ≤ 12) : (e * v) * nI p < 1000 * aAbs (u * nI q - v * nI p) ↔ ¬ Ft u.toInt v.toInt e.toInt p q := by
  have vp : (nI p).toInt = (p : Int) := nI_toInt (by omega)
  have vq : (nI q).toInt = (q : Int) := nI_toInt (by omega)
  have b1 := bd_mul hu.1 hu.2 (show (0 : Int) ≤ (q : Int) by omega) (show (q : Int) ≤ 12 by omega)
  have b2 := bd_mul hv.1 hv.2 (show (0 : Int) ≤ (p : Int) by omega) (show (p : Int) ≤ 12 by omega)
  have b3 := bd_mul he.1 he.2 hv.1 hv.2
  have b4 := bd_mul b3.1 b3.2 (show (0 : Int) ≤ (p : Int) by omega) (show (p : Int) ≤ 12 by omega)
  have e1 : (u * nI q).toInt = u.toInt * (q : Int) := ti_mul rfl vq (by omega) (by omega)
  have e2 : (v * nI p).toInt = v.toInt * (p : Int) := ti_mul rfl vp (by omega) (by omega)
  have e3 := ti_abs (ti_sub e1 e2 (by omega) (by omega)) (by omega)
  have e4 : (e * v).toInt = e.toInt * v.toInt := ti_mul rfl rfl (by omega) (by omega)
  have e5 : (e * v * nI p).toInt = e.toInt * v.toInt * (p : Int) := ti_mul e4 vp (by omega) (by omega)
  unfold Ft
  generalize u.toInt * (q : Int) = a at *
  generalize v.toInt * (p : Int) = b at *
  generalize e.toInt * v.toInt * (p : Int) = c at *
  have e6 : ((1000 : Int32) * aAbs (u * nI q - v * nI p)).toInt = 1000 * (if 0 ≤ a - b then a - b else -(a - b)) := ti_mul (by decide) e3 (by split <;> omega) (by split <;> omega)
  rw [Int32.lt_iff_toInt_lt, e5, e6]
  by_cases z : 0 ≤ a - b
  · rw [if_pos z]
    omega
  · rw [if_neg z]
    omega
theorem ft_m {w : Int32} (hu : 0 ≤ u.toInt ∧ u.toInt ≤ 2000) (hv : 0 ≤ v.toInt ∧ v.toInt ≤ 2000) (he : 0 ≤ e.toInt ∧ e.toInt ≤ 200) (hp : p ≤ 12) (hq : q ≤ 12) (hw : w.toInt = if 0 ≤ u.toInt * (q : Int) - v.toInt * (p : Int) then u.toInt * (q : Int) - v.toInt * (p : Int) else -(u.toInt * (q : Int) - v.toInt * (p : Int))) : 0 < aCmp ((1000 : Int64) * w.toInt64) ((e.toInt64 * v.toInt64) * (nI p).toInt64) ↔ ¬ Ft u.toInt v.toInt e.toInt p q := by
  have vp : (nI p).toInt64.toInt = (p : Int) := by rw [Int32.toInt_toInt64]; exact nI_toInt (by omega)
  have b1 := bd_mul hu.1 hu.2 (show (0 : Int) ≤ (q : Int) by omega) (show (q : Int) ≤ 12 by omega)
  have b2 := bd_mul hv.1 hv.2 (show (0 : Int) ≤ (p : Int) by omega) (show (p : Int) ≤ 12 by omega)
  have b3 := bd_mul he.1 he.2 hv.1 hv.2
  have b4 := bd_mul b3.1 b3.2 (show (0 : Int) ≤ (p : Int) by omega) (show (p : Int) ≤ 12 by omega)
  have e4 : (e.toInt64 * v.toInt64).toInt = e.toInt * v.toInt := tl_mul (Int32.toInt_toInt64 e) (Int32.toInt_toInt64 v) (by omega) (by omega)
  have e5 : (e.toInt64 * v.toInt64 * (nI p).toInt64).toInt = e.toInt * v.toInt * (p : Int) := tl_mul e4 vp (by omega) (by omega)
  show 0 < lg_cmp _ _ ↔ _
  rw [lg_cmp_gt, Int64.lt_iff_toInt_lt, e5]
  unfold Ft
  generalize u.toInt * (q : Int) = a at *
  generalize v.toInt * (p : Int) = b at *
  generalize e.toInt * v.toInt * (p : Int) = c at *
  have e6 : ((1000 : Int64) * w.toInt64).toInt = 1000 * (if 0 ≤ a - b then a - b else -(a - b)) := tl_mul (by decide) (by rw [Int32.toInt_toInt64]; exact hw) (by split <;> omega) (by split <;> omega)
  rw [e6]
  by_cases z : 0 ≤ a - b
  · rw [if_pos z]
    omega
  · rw [if_neg z]
    omega
theorem nI_hun {p q : Nat} (hp : p ≤ 12) (hq : q ≤ 12) : (100 : Int32) * nI p + nI q = nI (100 * p + q) := by
  refine ti_eq ?_
  have vp : (nI p).toInt = (p : Int) := nI_toInt (by omega)
  have vq : (nI q).toInt = (q : Int) := nI_toInt (by omega)
  have e1 : ((100 : Int32) * nI p).toInt = 100 * (p : Int) := ti_mul (by decide) vp (by omega) (by omega)
  rw [ti_add e1 vq (by omega) (by omega), nI_toInt (by omega)]
  omega
theorem bX_rate (hu : 0 ≤ u.toInt ∧ u.toInt ≤ 2000) (hv : 0 ≤ v.toInt ∧ v.toInt ≤ 2000) (he : 0 ≤ e.toInt ∧ e.toInt ≤ 200) : Wp (fX10_simplestRate u v e D) (fun r _ => RtS u.toInt v.toInt e.toInt r) := by
  have e24 : (24 : Int32).toInt = 24 := by decide
  have e12 : (12 : Int32).toInt = 12 := by decide
  unfold fX10_simplestRate
  refine Wp.lets (Wp.lets (Wp.go1 (fun n _ => 2 ≤ n ∧ NF u.toInt v.toInt e.toInt n 0) 25 (by omega) (fun g n D1 hn hI K => ?_) (k0 := 2) rfl (by omega) ⟨by omega, fun p q p1 _ q1 _ h => by omega⟩))
  obtain ⟨i0, i1⟩ := hI
  have vn : (nI n).toInt = (n : Int) := nI_toInt (by omega)
  unfold lX10_simplestRate_2
  refine Wp.ilt (fun h => Wp.ret (Or.inr ⟨?_, rfl⟩)) (fun h => Wp.lets (Wp.lets (Wp.letQ (fun Q j => ∀ D2, NF u.toInt v.toInt e.toInt (n + 1) 0 → Wp (j D2) Q) (fun D2 h2 => Wp.lets (K (by omega) D2 ⟨by omega, h2⟩)) (fun j J => Wp.lets ?_))))
  · rw [show n = 25 by omega] at i1
    exact i1
  · have c1 : (nI n - 12).toInt = (n : Int) - 12 := ti_sub vn e12 (by omega) (by omega)
    have c2 : (nI n - 1).toInt = (n : Int) - 1 := ti_sub vn ti_1 (by omega) (by omega)
    have m1 : aMax 1 (nI n - 12) = nI (max 1 (n - 12)) := ti_eq (by rw [ti_max, ti_1, c1, nI_toInt (by omega)]; omega)
    have m2 : (aMin 12 (nI n - 1)).toInt = min 12 ((n : Int) - 1) := by rw [ti_min, e12, c2]
    refine Wp.go1 (fun p _ => max 1 (n - 12) ≤ p ∧ NF u.toInt v.toInt e.toInt n p) (min 12 (n - 1) + 1) (by omega) (fun g p D2 hp hJ K2 => ?_) m1 (by omega) ⟨Nat.le_refl _, fun p' q' p1 p2 q1 q2 z => i1 p' q' p1 p2 q1 q2 (by omega)⟩
    obtain ⟨j0, j1⟩ := hJ
    have vp : (nI p).toInt = (p : Int) := nI_toInt (by omega)
    unfold lX10_simplestRate_32
    refine Wp.ilt (fun h2 => J _ (fun p' q' p1 p2 q1 q2 z => j1 p' q' p1 p2 q1 q2 (by omega))) (fun h2 => Wp.lets ?_)
    rw [nI_sub (show p ≤ n by omega) (by omega)]
    refine Wp.ite (fun c => Wp.lets (K2 (by omega) _ ⟨by omega, j1.more ((ft_x hu hv he (by omega) (by omega)).mp c)⟩)) (fun c => Wp.ret (Or.inl ⟨p, n - p, by omega, Classical.byContradiction (fun z => c ((ft_x hu hv he (by omega) (by omega)).mpr z)), ?_, nI_hun (by omega) (by omega)⟩))
    rw [show p + (n - p) = n by omega]
    exact j1
theorem bM_rate (hu : 0 ≤ u.toInt ∧ u.toInt ≤ 2000) (hv : 0 ≤ v.toInt ∧ v.toInt ≤ 2000) (he : 0 ≤ e.toInt ∧ e.toInt ≤ 200) : Wp (aFix aFuel (lX11_rate_96 e u v (fun (D12 : ADD) => some ((-1 : Int32), D12))) (fun _ _ => none) 2 E) (fun r _ => RtS u.toInt v.toInt e.toInt r) := by
  have e24 : (24 : Int32).toInt = 24 := by decide
  have e13 : (13 : Int32).toInt = 13 := by decide
  refine Wp.go1 (fun n _ => 2 ≤ n ∧ NF u.toInt v.toInt e.toInt n 0) 25 (by omega) (fun g n E1 hn hI K => ?_) (k0 := 2) rfl (by omega) ⟨by omega, fun p q p1 _ q1 _ h => by omega⟩
  obtain ⟨i0, i1⟩ := hI
  have vn : (nI n).toInt = (n : Int) := nI_toInt (by omega)
  unfold lX11_rate_96
  refine Wp.ilt (fun h => Wp.ret (Or.inr ⟨?_, rfl⟩)) (fun h => Wp.letQ (fun Q j => ∀ D2, NF u.toInt v.toInt e.toInt (n + 1) 0 → Wp (j D2) Q) (fun D2 h2 => Wp.lets (K (by omega) D2 ⟨by omega, h2⟩)) (fun j J => Wp.lets ?_))
  · rw [show n = 25 by omega] at i1
    exact i1
  · refine Wp.go1 (fun p _ => 1 ≤ p ∧ NF u.toInt v.toInt e.toInt n p) n (by omega) (fun g p E2 hp hJ K2 => ?_) (k0 := 1) rfl (by omega) ⟨Nat.le_refl _, fun p' q' p1 p2 q1 q2 z => i1 p' q' p1 p2 q1 q2 (by omega)⟩
    obtain ⟨j0, j1⟩ := hJ
    have vp : (nI p).toInt = (p : Int) := nI_toInt (by omega)
    unfold lX11_rate_106
    refine Wp.ile (fun h2 => J _ (fun p' q' p1 p2 q1 q2 z => j1 p' q' p1 p2 q1 q2 (by omega))) (fun h2 => Wp.lets (Wp.lets ?_))
    rw [nI_sub (show p ≤ n by omega) (by omega)]
    have vq : (nI (n - p)).toInt = ((n - p : Nat) : Int) := nI_toInt (by omega)
    refine Wp.letQ (fun Q j => ∀ w : Int32, (p ≤ 12 → n - p ≤ 12 → w.toInt = if 0 ≤ u.toInt * ((n - p : Nat) : Int) - v.toInt * (p : Int) then u.toInt * ((n - p : Nat) : Int) - v.toInt * (p : Int) else -(u.toInt * ((n - p : Nat) : Int) - v.toInt * (p : Int))) → Wp (j w E2) Q) (fun w hw => Wp.letQ (fun Q j => ∀ E3, ((p ≤ 12 ∧ n - p ≤ 12) → ¬ Ft u.toInt v.toInt e.toInt p (n - p)) → Wp (j E3) Q) (fun E3 hf => Wp.lets (K2 (by omega) _ ⟨by omega, fun p' q' p1 p2 q1 q2 z => ?_⟩)) (fun j2 J2 => ?_)) (fun j2 J2 => ?_)
    · by_cases t : p ≤ 12 ∧ n - p ≤ 12
      · exact (j1.more (hf t)) p' q' p1 p2 q1 q2 z
      · exact j1 p' q' p1 p2 q1 q2 (by omega)
    · refine Wp.ile (fun c1 => J2 _ (fun t => by omega)) (fun c1 => Wp.ile (fun c2 => J2 _ (fun t => by omega)) (fun c2 => Wp.bindE (eM_gcd (by omega) (by omega)) ?_))
      have wv := hw (by omega) (by omega)
      have fm := ft_m hu hv he (show p ≤ 12 by omega) (show n - p ≤ 12 by omega) wv
      have gd : Nat.gcd p (n - p) ≤ p := Nat.gcd_le_left _ (by omega)
      refine Wp.ite (fun c3 => Wp.ite (fun c4 => J2 _ (fun _ => fm.mp c4)) (fun c4 => Wp.ret (Or.inl ⟨p, n - p, by omega, Classical.byContradiction (fun z => c4 (fm.mpr z)), ?_, nI_hun (by omega) (by omega)⟩))) (fun c3 => J2 _ (fun _ f => ?_))
      · rw [show p + (n - p) = n by omega]
        exact j1
      · have ne : Nat.gcd p (n - p) ≠ 1 := fun z => c3 (by rw [z]; rfl)
        have g0 : 0 < Nat.gcd p (n - p) := Nat.gcd_pos_of_pos_left _ (by omega)
        have d1 := Nat.div_lt_self (show 0 < p by omega) (show 1 < Nat.gcd p (n - p) by omega)
        have d2 := Nat.div_lt_self (show 0 < n - p by omega) (show 1 < Nat.gcd p (n - p) by omega)
        have d3 := Nat.div_pos (Nat.gcd_le_left (n - p) (show 0 < p by omega)) g0
        have d4 := Nat.div_pos (Nat.gcd_le_right p (show 0 < n - p by omega)) g0
        exact j1 _ _ d3 (by omega) d4 (by omega) (Or.inl (by omega)) (f.cut (by omega))
    · have xv : p ≤ 12 → n - p ≤ 12 → (u * nI (n - p) - v * nI p).toInt = u.toInt * ((n - p : Nat) : Int) - v.toInt * (p : Int) ∧ (-24000 ≤ u.toInt * ((n - p : Nat) : Int) - v.toInt * (p : Int) ∧ u.toInt * ((n - p : Nat) : Int) - v.toInt * (p : Int) ≤ 24000) := fun hp hq => by
        have b1 := bd_mul hu.1 hu.2 (show (0 : Int) ≤ ((n - p : Nat) : Int) by omega) (show ((n - p : Nat) : Int) ≤ 12 by omega)
        have b2 := bd_mul hv.1 hv.2 (show (0 : Int) ≤ (p : Int) by omega) (show (p : Int) ≤ 12 by omega)
        have e1 : (u * nI (n - p)).toInt = u.toInt * ((n - p : Nat) : Int) := ti_mul rfl vq (by omega) (by omega)
        have e2 : (v * nI p).toInt = v.toInt * (p : Int) := ti_mul rfl vp (by omega) (by omega)
        exact ⟨ti_sub e1 e2 (by omega) (by omega), by omega⟩
      refine Wp.ile (fun c => J2 _ (fun hp hq => ?_)) (fun c => J2 _ (fun hp hq => ?_))
      · obtain ⟨x1, -⟩ := xv hp hq
        rw [x1, ti_0] at c
        rw [x1, if_pos c]
      · obtain ⟨x1, x2⟩ := xv hp hq
        rw [x1, ti_0] at c
        rw [if_neg (by omega)]
        generalize u * nI (n - p) - v * nI p = x at x1
        rw [show -x = 0 - x from (Int32.zero_sub x).symm, ti_sub ti_0 x1 (by omega) (by omega)]
        omega
noncomputable def rtV (u v e : Int32) : Int32 := Classical.epsilon (RtS u.toInt v.toInt e.toInt)
theorem rtV_of {r : Int32} (h : RtS u.toInt v.toInt e.toInt r) : r = rtV u v e := h.one (Classical.epsilon_spec (p := RtS u.toInt v.toInt e.toInt) ⟨r, h⟩)
theorem bsv_in {L : List Nat} {a b : Int32} (hU : UR a b 300) (h : bsV D L a b ≠ -1) : 0 ≤ (bsV D L a b).toInt ∧ (bsV D L a b).toInt ≤ 2000 := by
  unfold bsV at h ⊢
  by_cases z : L.length = 0
  · rw [if_pos z] at h
    exact absurd rfl h
  · have ab := (UR.ab hU).1
    have bi := bst_in (scS D L) a.toNatClampNeg (b.toNatClampNeg - a.toNatClampNeg)
    rw [if_neg z, nI_toInt (by omega)]
    omega
theorem bM_town {t a b : Int32} (hU : UR a b 300) (cb : CB D E1 N C) : Wp (fX11_bestOfTown t a b E1) (fun r E2 => r = bsV D (chL (fun k => C k ∧ knX D (nI k) 4 = t) N) a b ∧ CB D E2 N C) := by
  have c2 := cb.1.2
  unfold fX11_bestOfTown
  refine Wp.lets (Wp.lets (bM_group (G := fun s => knX D (nI s) 4 = t) cb (fun g k E3 hk c3 K => ?_) (fun g E3 cr c3 => ?_)))
  · obtain ⟨⟨d1, d2⟩, d3⟩ := c3
    obtain ⟨b0, f⟩ := d3 k hk
    have b0 := bz_Bo b0
    have vk : (nI k).toInt = (k : Int) := nI_toInt (by omega)
    have vn : (nI N).toInt = (N : Int) := nI_toInt (by omega)
    have ik : vp_in (nI k) 32 := vp_in_nI (by omega) (by decide)
    unfold lX11_bestOfTown_3
    rw [d1, nI_clamp (show k < 2 ^ 31 by omega)]
    refine Wp.ile (fun q => absurd q (by omega)) (fun _ => Wp.idx ik (Wp.lets (Wp.lets (Wp.ite (fun q => ?_) (fun q => ?_)))))
    · exact Wp.idx ik (Wp.lets (Wp.lets (K 0 (Or.inr ⟨rfl, fun y => b0.mp q y.1⟩))))
    · have pk := Classical.byContradiction (fun z => q (b0.mpr z))
      have f4 : E3.1 32 (11 * k + 4) = knX D (nI k) 4 := (f pk).1 4 (by decide)
      refine Wp.bindE (eM_f (by omega) ⟨by decide, by decide⟩) ?_
      rw [nI_clamp (show k < 2 ^ 31 by omega), show (4 : Int32).toNatClampNeg = 4 from rfl, f4]
      exact Wp.ite (fun y => Wp.idx ik (Wp.lets (Wp.lets (K 1 (Or.inl ⟨rfl, pk, y⟩))))) (fun y => Wp.idx ik (Wp.lets (Wp.lets (K 0 (Or.inr ⟨rfl, fun t => y t.2⟩)))))
  · unfold lX11_bestOfTown_3
    rw [c3.1.1]
    exact Wp.pos (Int32.le_refl _) (bM_gb hU cr c3 (fun E4 c4 => Wp.ret ⟨rfl, c4⟩))
abbrev RtC (a b c d e : Int32) : Prop := (0 ≤ a.toInt ∧ a.toInt ≤ 5) ∧ (0 ≤ b.toInt ∧ b.toInt ≤ 5) ∧ a ≠ b ∧ (0 ≤ e.toInt ∧ e.toInt ≤ 200) ∧ UR c d 300
noncomputable def rtW (D : ADD) (L2 L3 : List Nat) (a b e : Int32) : Int32 := if bsV D L2 a b = -1 then -1 else if bsV D L3 a b = -1 then -1 else rtV (bsV D L2 a b) (bsV D L3 a b) e
theorem jr_rate {a b c d e : Int32} (h : IR RF n0 P E) : BR RF n0 P id (fX10_rate a b c d e P.2) (fX11_rate a b c d e E) := by
  obtain ⟨hb, ⟨tp, fl, w, pr⟩, hc⟩ := h.nowF
  have qx := h.1.2.1.2.qx
  have qm := h.1.2.2.1.qm
  have e3 : (300 : Int32).toInt = 300 := by decide
  have e5 : (5 : Int32).toInt = 5 := by decide
  have e2 : (200 : Int32).toInt = 200 := by decide
  refine h.askE (v := if RtC a b c d e then rtW P.2 (chL (fun s => thE E s ∧ blX P.2 1 a (nI s)) (nS (mB E))) (chL (fun s => thE E s ∧ blX P.2 1 b (nI s)) (nS (mB E))) c d e else -1) (fun q => oX_rate q) (fun q => oM_rate q) ?_ ?_
  · unfold fX10_rate
    refine Wp.bindE (eX_isTown _ _) (Wp.lets ?_)
    by_cases H : RtC a b c d e
    · rw [if_pos H]
      obtain ⟨h1, h2, h3, h4, hU⟩ := H
      rw [if_pos h1]
      refine Wp.neg (by decide) (Wp.bindE (eX_isTown _ _) ?_)
      rw [if_pos h2]
      refine Wp.neg (by decide) (Wp.neg h3 (Wp.ilt (fun z => absurd z (by rw [ti_0]; omega)) (fun _ => Wp.ilt (fun z => absurd z (by rw [e2]; omega)) (fun _ => Wp.bindE (eX_isRange _ _ _ _) ?_))))
      rw [e3, if_pos hU]
      refine Wp.neg (by decide) (Wp.bind (bX_best2 qx hb hU) (fun r D2 z => ?_))
      obtain ⟨rfl, f⟩ := z
      have q2 : QX D2 := by
        unfold QX
        rw [f.1 2 (by omega), f.1 13 (by omega), f.1 22 (by omega)]
        exact qx
      refine Wp.bind (bX_best2 q2 (hb.same (fun c c1 c2 => f.1 c (by omega)) (fun _ _ _ => rfl)) hU) (fun r D3 z => Wp.lets (Wp.lets ?_))
      obtain ⟨rfl, -⟩ := z
      rw [f.bsv, chL_cg (P := fun s => thE E s ∧ blX D2 1 b (nI s)) (P2 := fun s => thE E s ∧ blX P.2 1 b (nI s)) (fun s _ => and_congr_right (fun _ => f.bl 1 b (nI s)))]
      unfold rtW
      refine Wp.ite (fun y => Wp.ret ?_) (fun y => Wp.ite (fun y2 => Wp.ret ?_) (fun y2 => ?_))
      · rw [if_pos y]
      · rw [if_neg y, if_pos y2]
      · rw [if_neg y, if_neg y2]
        exact Wp.bind (bX_rate (bsv_in hU y) (bsv_in hU y2) h4) (fun r D4 z => Wp.ret (rtV_of z))
    · rw [if_neg H]
      refine Wp.ite (fun _ => Wp.ret rfl) (fun z1 => Wp.bindE (eX_isTown _ _) (Wp.ite (fun _ => Wp.ret rfl) (fun z2 => Wp.ite (fun _ => Wp.ret rfl) (fun z3 => Wp.ilt (fun _ => Wp.ret rfl) (fun z4 => Wp.ilt (fun _ => Wp.ret rfl) (fun z5 => Wp.bindE (eX_isRange _ _ _ _) (Wp.ite (fun _ => Wp.ret rfl) (fun z6 => absurd ?_ H))))))))
      rw [e3] at z6
      rw [ti_0] at z4
      rw [e2] at z5
      exact ⟨Classical.byContradiction (fun t => z1 (if_neg t)), Classical.byContradiction (fun t => z2 (if_neg t)), z3, ⟨z4, z5⟩, Classical.byContradiction (fun t => z6 (if_neg t))⟩
  · unfold fX11_rate
    refine Wp.lets (Wp.bindE (eM_is _ _ _ _) (Wp.lets ?_))
    rw [ti_0, e5]
    by_cases H : RtC a b c d e
    · rw [if_pos H]
      obtain ⟨h1, h2, h3, h4, hU⟩ := H
      rw [if_pos h1]
      refine Wp.neg (by decide) (Wp.bindE (eM_is _ _ _ _) ?_)
      rw [ti_0, e5, if_pos h2]
      refine Wp.neg (by decide) (Wp.neg h3 (Wp.bindE (eM_areUnits _ _ _) ?_))
      rw [if_pos hU]
      refine Wp.neg (by decide) (Wp.bindE (eM_is _ _ _ _) ?_)
      rw [ti_0, e2, if_pos h4]
      refine Wp.neg (by decide) (Wp.bind (lk0 qm hb w hc) (fun _ E1 l => Wp.bind (bM_keep l.2) (fun _ E2 cb => Wp.bind (bM_town hU cb) (fun r E3 z => ?_))))
      obtain ⟨rfl, c3⟩ := z
      refine Wp.bind (bM_town hU c3) (fun r E4 z => Wp.lets ?_)
      obtain ⟨rfl, -⟩ := z
      rw [chL_cg (P := fun s => thE E s ∧ blX P.2 1 a (nI s)) (P2 := fun s => (thE E s ∧ chX P.2 (nI s)) ∧ knX P.2 (nI s) 4 = a) (fun s _ => by rw [bl_1]; exact and_assoc.symm), chL_cg (P := fun s => thE E s ∧ blX P.2 1 b (nI s)) (P2 := fun s => (thE E s ∧ chX P.2 (nI s)) ∧ knX P.2 (nI s) 4 = b) (fun s _ => by rw [bl_1]; exact and_assoc.symm)]
      unfold rtW
      refine Wp.ite (fun y => Wp.ret ?_) (fun y => Wp.ite (fun y2 => Wp.ret ?_) (fun y2 => Wp.lets (Wp.lets ?_)))
      · rw [if_pos y]
      · rw [if_neg y, if_pos y2]
      · rw [if_neg y, if_neg y2]
        exact (bM_rate (bsv_in hU y) (bsv_in hU y2) h4).mono (fun r _ z => rtV_of z)
    · rw [if_neg H]
      refine Wp.ite (fun _ => Wp.ret rfl) (fun z1 => Wp.bindE (eM_is _ _ _ _) (Wp.ite (fun _ => Wp.ret rfl) (fun z2 => Wp.ite (fun _ => Wp.ret rfl) (fun z3 => Wp.bindE (eM_areUnits _ _ _) (Wp.ite (fun _ => Wp.ret rfl) (fun z4 => Wp.bindE (eM_is _ _ _ _) (Wp.ite (fun _ => Wp.ret rfl) (fun z5 => absurd ?_ H))))))))
      rw [ti_0, e5] at z2
      rw [ti_0, e2] at z5
      exact ⟨Classical.byContradiction (fun t => z1 (if_neg t)), Classical.byContradiction (fun t => z2 (if_neg t)), z3, Classical.byContradiction (fun t => z5 (if_neg t)), Classical.byContradiction (fun t => z4 (if_neg t))⟩
end RTs
end
