/-- from the law's entry to its end, for every script of at most 3072 ints -/
theorem whole_start {p : Program} {e : Env} {s : State} {m : MethodId} {below : List Frame} {meth : Method} {c : Code} (l : Launch) {b L : Nat} {xs : Nat → Int32} (hL : L ≤ 3072) (C0 : lw_At p s m meth c b L xs) : W p l e room_1 s m #[Value.ref b] below meth c s.heap [] 0 0 (lw_Z below #[Value.ref b] s) (entryFrame m ([Value.ref b] : List Value).toArray 4) := by
  obtain ⟨G, hC⟩ := lc_all (l := l) (e := e) (below := below) C0
  exact law_start (I := fun _ => IR RF s.heap.size) hL hC (fun _ _ => id_all _) (ir_first _ _ (rf_first _ _))
