theorem ts_1 {q : MethodName × Nat} (h : q ∈ lw_privs_1) : q ∈ lw_privs := List.mem_append_left _ h
theorem ts_2 {q : MethodName × Nat} (h : q ∈ lw_privs_2) : q ∈ lw_privs := List.mem_append_right _ (List.mem_append_left _ h)
theorem ts_3 {q : MethodName × Nat} (h : q ∈ lw_privs_3) : q ∈ lw_privs := List.mem_append_right _ (List.mem_append_right _ (List.mem_append_left _ h))
theorem ts_4 {q : MethodName × Nat} (h : q ∈ lw_privs_4) : q ∈ lw_privs := List.mem_append_right _ (List.mem_append_right _ (List.mem_append_right _ (List.mem_append_left _ h)))
theorem ts_5 {q : MethodName × Nat} (h : q ∈ lw_privs_5) : q ∈ lw_privs := List.mem_append_right _ (List.mem_append_right _ (List.mem_append_right _ (List.mem_append_right _ (List.mem_append_left _ h))))
theorem ts_6 {q : MethodName × Nat} (h : q ∈ lw_privs_6) : q ∈ lw_privs := List.mem_append_right _ (List.mem_append_right _ (List.mem_append_right _ (List.mem_append_right _ (List.mem_append_right _ (h)))))
theorem aT_s {q : MethodName × Nat} (h : q ∈ lw_privs) : Cond.selects q.1.cls q.1 q.1 ∈ aT := List.mem_filter.mpr ⟨List.mem_append_left _ (List.mem_map.mpr ⟨q, h, rfl⟩), gw_selects⟩
