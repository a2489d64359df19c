theorem xI (n0 q f : Nat) : (xB n0).2.1 q f = opInt xOps q f := by
  show (x0 n0).2.1 q f = _
  rw [x0_run]
  exact (opRun_spec n0 xOps).2.2.2.1 q f
theorem mI (n1 q f : Nat) : (m0 n1).2.1 q f = opInt mOps q f := by
  rw [m0_run]
  exact (opRun_spec n1 mOps).2.2.2.1 q f
theorem xB_im (n0 : Nat) : imOK n0 (xB n0).1 (fun _ => none) := ⟨⟨by show 32 ∈ List.range 58; decide, rfl⟩, fun j z _ h => by cases h⟩
theorem xB_Lay (n0 : Nat) : Lay n0 (xB n0) := by
  refine ⟨⟨Nat.le_refl _, fun k hk => ?_⟩, fun k S hS => ?_, aLSw_tab.mpr (fun q hq => ?_), _, xB_im n0, fun j z _ h => (by cases h), fun i j z y _ _ _ h => (by cases h)⟩
  · have := List.mem_range.mp hk
    exact ⟨Or.inl this, by show k < 98; omega⟩
  · have hl := (xTab_lt _ hS).1
    refine ⟨List.mem_range.mpr hl, ?_⟩
    simp only [xTab, List.mem_cons, List.not_mem_nil, or_false, Prod.mk.injEq] at hS
    rcases hS with ⟨rfl, rfl⟩ | ⟨rfl, rfl⟩ | ⟨rfl, rfl⟩ | ⟨rfl, rfl⟩ | ⟨rfl, rfl⟩ | ⟨rfl, rfl⟩ | ⟨rfl, rfl⟩ | ⟨rfl, rfl⟩ | ⟨rfl, rfl⟩ | ⟨rfl, rfl⟩ | ⟨rfl, rfl⟩ | ⟨rfl, rfl⟩ | ⟨rfl, rfl⟩ | ⟨rfl, rfl⟩ | ⟨rfl, rfl⟩ | ⟨rfl, rfl⟩ | ⟨rfl, rfl⟩ | ⟨rfl, rfl⟩ | ⟨rfl, rfl⟩ | ⟨rfl, rfl⟩ | ⟨rfl, rfl⟩ | ⟨rfl, rfl⟩ | ⟨rfl, rfl⟩ | ⟨rfl, rfl⟩ | ⟨rfl, rfl⟩ | ⟨rfl, rfl⟩ | ⟨rfl, rfl⟩ | ⟨rfl, rfl⟩ | ⟨rfl, rfl⟩ | ⟨rfl, rfl⟩ | ⟨rfl, rfl⟩ | ⟨rfl, rfl⟩ | ⟨rfl, rfl⟩ | ⟨rfl, rfl⟩ | ⟨rfl, rfl⟩ | ⟨rfl, rfl⟩ | ⟨rfl, rfl⟩ | ⟨rfl, rfl⟩ | ⟨rfl, rfl⟩ | ⟨rfl, rfl⟩ | ⟨rfl, rfl⟩ | ⟨rfl, rfl⟩ | ⟨rfl, rfl⟩ | ⟨rfl, rfl⟩ | ⟨rfl, rfl⟩ | ⟨rfl, rfl⟩ | ⟨rfl, rfl⟩ | ⟨rfl, rfl⟩ | ⟨rfl, rfl⟩ | ⟨rfl, rfl⟩ | ⟨rfl, rfl⟩ | ⟨rfl, rfl⟩ | ⟨rfl, rfl⟩ | ⟨rfl, rfl⟩ | ⟨rfl, rfl⟩ | ⟨rfl, rfl⟩ | ⟨rfl, rfl⟩ <;> rfl
  · refine ⟨List.mem_range.mpr (by have := sTab_lt q hq; omega), ?_⟩
    simp only [sTab, List.mem_cons, List.not_mem_nil, or_false] at hq
    rcases hq with rfl | rfl | rfl | rfl | rfl | rfl | rfl | rfl | rfl | rfl | rfl | rfl | rfl | rfl | rfl | rfl | rfl | rfl | rfl | rfl | rfl | rfl | rfl | rfl | rfl | rfl | rfl | rfl | rfl | rfl | rfl <;> rfl
theorem xB_TN (n0 : Nat) : TN (xB n0).2 := by
  have : ∀ l, l < 16 → 0 ≤ (opInt xOps 38 l).toInt := by decide +kernel
  exact fun l hl => by rw [xI]; exact this l hl
theorem xB_QX (n0 : Nat) : QXt (xB n0).2 1 := by
  have e10 : (xB n0).2.1 (1 + 1) 10 = 0 := by rw [xI]; decide +kernel
  refine ⟨?_, ?_, ?_, fun k hk => ?_, ?_, ?_, ?_, ?_⟩
  case refine_4 =>
    rw [e10, ti_0] at hk
    omega
  all_goals (simp only [xI]; decide +kernel)
theorem mB_QM (n1 : Nat) : QMs (m0 n1).2 := by
  have e8 : ∀ t, t < 4 → opInt mOps 8 t = 0 := by decide +kernel
  have e5 : ∀ t, t < 4 → opInt mOps 5 t = 0 := by decide +kernel
  have e2 : ∀ t, t < 4 → opInt mOps 2 t = 0 := by decide +kernel
  have e15 : ∀ t, t < 8 → opInt mOps 15 t = 0 := by decide +kernel
  have e16 : ∀ t, t < 128 → opInt mOps 16 t = 0 := by decide +kernel
  have e23 : ∀ t, t < 17 → opInt mOps 23 t = 0 := by decide +kernel
  refine ⟨fun t ht => ⟨?_, ?_, fun k hk => ?_, ⟨?_, ?_⟩, fun l hl => ?_, ?_⟩, fun i hi => ?_⟩
  · rw [mI, e5 t ht]; decide
  · rw [mI, e8 t ht]; decide
  · rw [mI, e8 t ht, ti_0] at hk
    omega
  · rw [mI, e15 _ (by omega)]; decide
  · rw [mI, e15 _ (by omega)]; decide
  · rw [mI, e16 _ (by omega)]; decide
  · rw [mI, e2 t ht]; decide
  · rw [mI, e23 i hi]; decide
theorem ia_first (n0 n1 : Nat) : IA n0 (xB n0) (m0 n1).2 := by
  refine ⟨xB_Lay n0, ⟨xB_TN n0, xB_QX n0⟩, mB_QM n1, ⟨?_, ?_⟩, fun im him j hj => ?_⟩
  · rw [xI, mI]; decide +kernel
  · rw [xI, mI]; decide +kernel
  · rw [im_uniq him (xB_im n0), mI]
    have : ∀ j, j < 3 → aBz (opInt mOps 39 j) = 0 := by decide +kernel
    exact Or.inl ⟨rfl, this j hj⟩
