def dk (c : ByteArray) (l : List (Nat × Instr × Nat)) : Bool := l.all (fun x => decide (decode c x.1 = .ok x.2))
theorem dk_m {c : ByteArray} {l : List (Nat × Instr × Nat)} (h : dk c l = true) {p : Nat} {i : Instr} {n : Nat} (m : (p, i, n) ∈ l) : decode c p = .ok (i, n) := by
  unfold dk at h
  rw [List.all_eq_true] at h
  have h1 := h (p, i, n) m
  simp only [decide_eq_true_eq] at h1
  exact h1
