theorem aT_m {w : Cond} (h : w ∈ tables_1) (hg : goodWord w = true) : w ∈ aT := List.mem_filter.mpr ⟨List.mem_append_right _ h, hg⟩
