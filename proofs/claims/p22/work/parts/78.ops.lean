theorem id_all (n0 : Nat) : LAll n0 (IR RF n0) (IR RF n0) := by
  refine ⟨fun P Dm h => h.1.1.lays, fun P Dm h => h.1.1.1, fun P Dm h => h, ?_, ?_, ?_, ?_, ?_, ?_, ?_, ?_, ?_, ?_, ?_, ?_, ?_, ?_, ?_, ?_, ?_, ?_, ?_, ?_, ?_, ?_, ?_, ?_, ?_, ?_, ?_, ?_, ?_, ?_⟩
  · intro P Dm h a1 a2 a3
    exact (jr_stone h).weak
  · intro P Dm h a1 a2 a3
    exact (jr_tell h).weak
  · intro P Dm h a1
    exact (jr_day h).weak
  · intro P Dm h a1
    exact (jr_view h).weak
  · intro P Dm h a1 a2
    exact (jr_fact h).weak
  · intro P Dm h a1 a2
    exact (jr_entry h).weak
  · intro P Dm h a1 a2 a3 a4 a5
    exact (jr_feed h).weak
  · intro P Dm h a1
    exact (jr_end h).weak
  · intro P Dm h a1 ha
    exact (jr_text ha h).weak
  · intro P Dm h a1
    exact (jr_fault h).weak
  · intro P Dm h a1 a2 a3 a4 a5
    exact (jr_choose h).weak
  · intro P Dm h a1 a2
    exact (jr_span h).weak
  · intro P Dm h a1 a2 a3
    exact (jr_by h).weak
  · intro P Dm h a1
    exact (jr_score h).weak
  · intro P Dm h a1 a2
    exact (jr_best h).weak
  · intro P Dm h a1 a2 a3
    exact (jr_peak h).weak
  · intro P Dm h a1 a2
    exact (jr_pair h).weak
  · intro P Dm h a1 a2
    exact (jr_sum h).weak
  · intro P Dm h a1
    exact (jr_chance h).weak
  · intro P Dm h a1 a2 a3
    exact h.ask (fun q => oX_verdict q) (fun q => oM_verdict q)
  · intro P Dm h a1 a2 a3
    exact jr_set h
  · intro P Dm h a1 a2 a3 a4 a5
    exact (jr_rate h).weak
  · intro P Dm h a1 a2 a3
    exact (jr_drift h).weak
  · intro P Dm h a1 a2 a3
    exact (jr_owner h).weak
  · intro P Dm h a1 a2
    exact h.ask (fun q => oX_heap q) (fun q => oM_heap q)
  · intro P Dm h a1 a2
    exact (jr_anew h).weak
  · intro P Dm h a1 a2 a3
    exact (jr_worth h).weak
  · intro P Dm h a1
    exact (jr_count h).weak
  · intro P Dm h im him a1
    obtain ⟨r1, X, r2, D2, k1, k2, k3, k4⟩ := ir_image h him a1
    exact ⟨r1, X, r2, D2, k1, k2, trivial, k4⟩
  · intro P Dm h im him a1
    exact (ir_again h him a1).weak
