/-! the class: now and its images -/
def QXt (D : ADD) (o : Nat) : Prop := (0 ≤ (D.1 (o + 1) 8).toInt ∧ (D.1 (o + 1) 8).toInt ≤ 32) ∧ (0 ≤ (D.1 (o + 1) 9).toInt ∧ (D.1 (o + 1) 9).toInt ≤ 32) ∧ (0 ≤ (D.1 (o + 1) 10).toInt ∧ (D.1 (o + 1) 10).toInt ≤ 400) ∧ (∀ k : Nat, (k : Int) < (D.1 (o + 1) 10).toInt → 0 ≤ (D.1 (o + 7) k).toInt ∧ (D.1 (o + 7) k).toInt < 32) ∧ (0 ≤ (D.1 (o + 10) 1).toInt ∧ (D.1 (o + 10) 1).toInt ≤ 500) ∧ (0 ≤ (D.1 (o + 12) 0).toInt ∧ (D.1 (o + 12) 0).toInt ≤ 16) ∧ (0 ≤ (D.1 (o + 21) 0).toInt ∧ (D.1 (o + 21) 0).toInt ≤ 16) ∧ 0 ≤ (D.1 (o + 1) 11).toInt
/-- the present is sound, the images are as they were -/
def KX (D D1 : ADD) : Prop := (∀ c, 98 ≤ c → D1.1 c = D.1 c) ∧ TN D1 ∧ QXt D1 1
def SX (D D1 : ADD) : Prop := D1.1 2 11 = D.1 2 11 ∧ D1.1 11 1 = D.1 11 1
section XZ
variable {D : ADD}
theorem QXt.qx (h : QXt D 1) : QX D := ⟨h.2.1, h.2.2.2.2.2.1.2, h.2.2.2.2.2.2.1.2⟩
theorem QXt.fr {D1 : ADD} {o : Nat} (h : QXt D o) (f : ∀ c, o ≤ c → c < o + 31 → D1.1 c = D.1 c) : QXt D1 o := by
  unfold QXt
  rw [f (o + 1) (by omega) (by omega), f (o + 7) (by omega) (by omega), f (o + 10) (by omega) (by omega), f (o + 12) (by omega) (by omega), f (o + 21) (by omega) (by omega)]
  exact h
theorem KX.refl (h : QXt D 1) (t : TN D) : KX D D := ⟨fun _ _ => rfl, t, h⟩
theorem FX.kx {D1 : ADD} (f : FX D D1) (h : QXt D 1) (t : TN D) : KX D D1 ∧ SX D D1 := by
  refine ⟨⟨fun c hc => f c (by omega), ?_, h.fr (fun c _ h2 => f c (by omega))⟩, by rw [f 2 (by omega)], by rw [f 11 (by omega)]⟩
  unfold TN
  rw [f 38 (by omega)]
  exact t
theorem WrX.kx {D1 : ADD} {s f v : Int32} (w : WrX D D1 s f v) (h : QXt D 1) (t : TN D) (he : (D.1 2 10).toInt < 400) (hs : 0 ≤ s.toInt ∧ s.toInt < 32) : KX D D1 ∧ SX D D1 := by
  obtain ⟨h1, h2, h3, h4, h5, h6, h7, h8⟩ := h
  have h1 : 0 ≤ (D.1 2 8).toInt ∧ (D.1 2 8).toInt ≤ 32 := h1
  have h2 : 0 ≤ (D.1 2 9).toInt ∧ (D.1 2 9).toInt ≤ 32 := h2
  have h3 : 0 ≤ (D.1 2 10).toInt ∧ (D.1 2 10).toInt ≤ 400 := h3
  have h4 : ∀ k : Nat, (k : Int) < (D.1 2 10).toInt → 0 ≤ (D.1 8 k).toInt ∧ (D.1 8 k).toInt < 32 := h4
  have h8 : 0 ≤ (D.1 2 11).toInt := h8
  obtain ⟨w1, w2, w3, w4, w5, w6, w7, -⟩ := w
  have g : ∀ c, 11 ≤ c → D1.1 c = D.1 c := fun c hc => w1 c (by omega) (by omega) (by omega) (by omega) (by omega) (by omega) (by omega)
  have ek := cl_i h3.1
  have n10 : (D1.1 2 10).toInt = (D.1 2 10).toInt + 1 := by rw [w4]; exact ti_add rfl ti_1 (by omega) (by omega)
  have s1 : (s + 1).toInt = s.toInt + 1 := ti_add rfl ti_1 (by omega) (by omega)
  have e8 : D1.1 2 8 = D.1 2 8 := w3 8 (by decide) (by decide)
  have e11 : D1.1 2 11 = D.1 2 11 := w3 11 (by decide) (by decide)
  refine ⟨⟨fun c hc => g c (by omega), ?_, ?_⟩, e11, by rw [g 11 (by omega)]⟩
  · unfold TN
    rw [g 38 (by omega)]
    exact t
  · refine ⟨by show 0 ≤ (D1.1 2 8).toInt ∧ (D1.1 2 8).toInt ≤ 32; rw [e8]; exact h1, ?_, by show 0 ≤ (D1.1 2 10).toInt ∧ (D1.1 2 10).toInt ≤ 400; omega, fun k hk => ?_, by show 0 ≤ (D1.1 11 1).toInt ∧ (D1.1 11 1).toInt ≤ 500; rw [g 11 (by omega)]; exact h5, by show 0 ≤ (D1.1 13 0).toInt ∧ (D1.1 13 0).toInt ≤ 16; rw [g 13 (by omega)]; exact h6, by show 0 ≤ (D1.1 22 0).toInt ∧ (D1.1 22 0).toInt ≤ 16; rw [g 22 (by omega)]; exact h7, by show 0 ≤ (D1.1 2 11).toInt; rw [e11]; exact h8⟩
    · show 0 ≤ (D1.1 2 9).toInt ∧ (D1.1 2 9).toInt ≤ 32
      rw [w5]
      split
      · omega
      · exact h2
    · have hk : (k : Int) < (D1.1 2 10).toInt := hk
      show 0 ≤ (D1.1 8 k).toInt ∧ (D1.1 8 k).toInt < 32
      rw [w7 k]
      split
      · exact hs
      · exact h4 k (by omega)
theorem cX_stone {w st tw : Int32} (h : QXt D 1) (t : TN D) : Wp (fX10_stone w st tw D) (fun _ D1 => KX D D1 ∧ SX D D1) := by
  have h1 : 0 ≤ (D.1 2 8).toInt ∧ (D.1 2 8).toInt ≤ 32 := h.1
  have h3 : 0 ≤ (D.1 2 10).toInt ∧ (D.1 2 10).toInt ≤ 400 := h.2.2.1
  refine (tX10_stone h1 h3).mono (fun r D1 k => ?_)
  split at k
  · rename_i hc
    obtain ⟨-, D7, k1, k2, k3, k4, k5, k6⟩ := k
    have n8 : (D7.1 2 8).toInt = (D.1 2 8).toInt + 1 := by rw [k3 8, if_pos rfl]; exact ti_add rfl ti_1 (by omega) (by omega)
    have o2 : ∀ i, i ≠ 8 → D7.1 2 i = D.1 2 i := fun i hi => by rw [k3 i, if_neg hi]
    have g : ∀ c, 7 ≤ c → D7.1 c = D.1 c := fun c hc => k1 c (by omega) (by omega) (by omega)
    have q7 : QXt D7 1 := by
      obtain ⟨a1, a2, a3, a4, a5, a6, a7, a8⟩ := h
      refine ⟨by show 0 ≤ (D7.1 2 8).toInt ∧ (D7.1 2 8).toInt ≤ 32; omega, by show 0 ≤ (D7.1 2 9).toInt ∧ (D7.1 2 9).toInt ≤ 32; rw [o2 9 (by decide)]; exact a2, by show 0 ≤ (D7.1 2 10).toInt ∧ (D7.1 2 10).toInt ≤ 400; rw [o2 10 (by decide)]; exact a3, ?_, by show 0 ≤ (D7.1 11 1).toInt ∧ (D7.1 11 1).toInt ≤ 500; rw [g 11 (by omega)]; exact a5, by show 0 ≤ (D7.1 13 0).toInt ∧ (D7.1 13 0).toInt ≤ 16; rw [g 13 (by omega)]; exact a6, by show 0 ≤ (D7.1 22 0).toInt ∧ (D7.1 22 0).toInt ≤ 16; rw [g 22 (by omega)]; exact a7, by show 0 ≤ (D7.1 2 11).toInt; rw [o2 11 (by decide)]; exact a8⟩
      show ∀ k : Nat, (k : Int) < (D7.1 2 10).toInt → 0 ≤ (D7.1 8 k).toInt ∧ (D7.1 8 k).toInt < 32
      rw [o2 10 (by decide), g 8 (by omega)]
      exact a4
    have t7 : TN D7 := by unfold TN; rw [g 38 (by omega)]; exact t
    obtain ⟨⟨z1, z2, z3⟩, z4, z5⟩ := k6.kx q7 t7 (by rw [o2 10 (by decide)]; exact hc.2.1) ⟨h1.1, hc.1⟩
    exact ⟨⟨fun c hc => by rw [z1 c hc, g c (by omega)], z2, z3⟩, by rw [z4, o2 11 (by decide)], by rw [z5, g 11 (by omega)]⟩
  · obtain ⟨-, rfl⟩ := k
    exact ⟨KX.refl h t, rfl, rfl⟩
theorem cX_tell {s f v : Int32} (h : QXt D 1) (t : TN D) : Wp (fX10_tell s f v D) (fun _ D1 => KX D D1 ∧ SX D D1) := by
  have h1 : 0 ≤ (D.1 2 8).toInt ∧ (D.1 2 8).toInt ≤ 32 := h.1
  have h3 : 0 ≤ (D.1 2 10).toInt ∧ (D.1 2 10).toInt ≤ 400 := h.2.2.1
  refine (oX_tell h1.2 h3.1).mono (fun r D1 k => ?_)
  split at k
  · rename_i hc
    exact k.2.kx h t hc.2.1 ⟨hc.1.1, by have := hc.1.2; omega⟩
  · obtain ⟨-, rfl⟩ := k
    exact ⟨KX.refl h t, rfl, rfl⟩
theorem cX_day {a : Int32} (h : QXt D 1) (t : TN D) : Wp (fX10_day a D) (fun r D1 => KX D D1 ∧ D1.1 11 1 = D.1 11 1 ∧ (r = if (D.1 2 11).toInt ≤ a.toInt ∧ a.toInt ≤ 9999 then 1 else 0) ∧ D1.1 2 11 = if (D.1 2 11).toInt ≤ a.toInt ∧ a.toInt ≤ 9999 then a else D.1 2 11) := by
  refine oX_day.mono (fun r D1 k => ?_)
  have h8 : 0 ≤ (D.1 2 11).toInt := h.2.2.2.2.2.2.2
  by_cases hc : (D.1 2 11).toInt ≤ a.toInt ∧ a.toInt ≤ 9999
  · rw [if_pos hc] at k
    rw [if_pos hc, if_pos hc]
    obtain ⟨k1, k2⟩ := k
    have e11 : D1.1 2 11 = a := by rw [k2]; simp [aSI]
    have ei : ∀ i, i ≠ 11 → D1.1 2 i = D.1 2 i := fun i hi => by rw [k2]; simp [aSI, hi]
    have g : ∀ c, c ≠ 2 → D1.1 c = D.1 c := fun c hc => by rw [k2]; funext z; simp [aSI, hc]
    refine ⟨⟨fun c hc => g c (by omega), by unfold TN; rw [g 38 (by decide)]; exact t, ?_⟩, by rw [g 11 (by decide)], k1, e11⟩
    obtain ⟨a1, a2, a3, a4, a5, a6, a7, a8⟩ := h
    refine ⟨by show 0 ≤ (D1.1 2 8).toInt ∧ (D1.1 2 8).toInt ≤ 32; rw [ei 8 (by decide)]; exact a1, by show 0 ≤ (D1.1 2 9).toInt ∧ (D1.1 2 9).toInt ≤ 32; rw [ei 9 (by decide)]; exact a2, by show 0 ≤ (D1.1 2 10).toInt ∧ (D1.1 2 10).toInt ≤ 400; rw [ei 10 (by decide)]; exact a3, ?_, by show 0 ≤ (D1.1 11 1).toInt ∧ (D1.1 11 1).toInt ≤ 500; rw [g 11 (by omega)]; exact a5, by show 0 ≤ (D1.1 13 0).toInt ∧ (D1.1 13 0).toInt ≤ 16; rw [g 13 (by omega)]; exact a6, by show 0 ≤ (D1.1 22 0).toInt ∧ (D1.1 22 0).toInt ≤ 16; rw [g 22 (by omega)]; exact a7, by show 0 ≤ (D1.1 2 11).toInt; rw [e11]; omega⟩
    show ∀ k : Nat, (k : Int) < (D1.1 2 10).toInt → 0 ≤ (D1.1 8 k).toInt ∧ (D1.1 8 k).toInt < 32
    rw [ei 10 (by decide), g 8 (by omega)]
    exact a4
  · rw [if_neg hc] at k
    rw [if_neg hc, if_neg hc]
    obtain ⟨k1, rfl⟩ := k
    exact ⟨KX.refl h t, rfl, k1, rfl⟩
theorem rpS_le {a : Int32} : ∀ n : Nat, (∀ k, k < n → 0 ≤ (D.1 8 k).toInt ∧ (D.1 8 k).toInt < 32) → 0 ≤ (rpS D a n).2.toInt ∧ (rpS D a n).2.toInt ≤ 32
  | 0, _ => by show 0 ≤ (0 : Int32).toInt ∧ (0 : Int32).toInt ≤ 32; decide
  | n + 1, h => by
    have ih := rpS_le (a := a) n (fun k hk => h k (by omega))
    have hn := h n (by omega)
    have e : (D.1 8 n + 1).toInt = (D.1 8 n).toInt + 1 := ti_add rfl ti_1 (by omega) (by omega)
    unfold rpS
    split
    · show 0 ≤ (if D.1 9 n = -1 then D.1 8 n + 1 else (rpS D a n).2).toInt ∧ (if D.1 9 n = -1 then D.1 8 n + 1 else (rpS D a n).2).toInt ≤ 32
      split
      · omega
      · exact ih
    · exact ih
theorem cX_view {a : Int32} (h : QXt D 1) (t : TN D) : Wp (fX10_view a D) (fun r D1 => (KX D D1 ∧ SX D D1) ∧ r = if a = -1 ∨ (0 ≤ a.toInt ∧ a.toInt ≤ (D.1 2 11).toInt) then 1 else 0) := by
  obtain ⟨a1, a2, a3, a4, a5, a6, a7, a8⟩ := id h
  have a3 : 0 ≤ (D.1 2 10).toInt ∧ (D.1 2 10).toInt ≤ 400 := a3
  have ek := cl_i a3.1
  refine (oX_view a3 a4).mono (fun r D1 k => ?_)
  by_cases hc : a = -1 ∨ (0 ≤ a.toInt ∧ a.toInt ≤ (D.1 2 11).toInt)
  · rw [if_pos hc] at k
    rw [if_pos hc]
    obtain ⟨k1, k2, k3, k4, k5, k6, k7⟩ := k
    have g : ∀ c, 5 ≤ c → D1.1 c = D.1 c := fun c hc => k2 c (by omega) (by omega)
    have ei : ∀ i, i ≠ 9 → i ≠ 12 → D1.1 2 i = D.1 2 i := k4
    refine ⟨⟨⟨fun c hc => g c (by omega), by unfold TN; rw [g 38 (by decide)]; exact t, ?_⟩, ei 11 (by decide) (by decide), by rw [g 11 (by omega)]⟩, k1⟩
    refine ⟨by show 0 ≤ (D1.1 2 8).toInt ∧ (D1.1 2 8).toInt ≤ 32; rw [ei 8 (by decide) (by decide)]; exact a1, ?_, by show 0 ≤ (D1.1 2 10).toInt ∧ (D1.1 2 10).toInt ≤ 400; rw [ei 10 (by decide) (by decide)]; exact a3, ?_, by show 0 ≤ (D1.1 11 1).toInt ∧ (D1.1 11 1).toInt ≤ 500; rw [g 11 (by omega)]; exact a5, by show 0 ≤ (D1.1 13 0).toInt ∧ (D1.1 13 0).toInt ≤ 16; rw [g 13 (by omega)]; exact a6, by show 0 ≤ (D1.1 22 0).toInt ∧ (D1.1 22 0).toInt ≤ 16; rw [g 22 (by omega)]; exact a7, by show 0 ≤ (D1.1 2 11).toInt; rw [ei 11 (by decide) (by decide)]; exact a8⟩
    · show 0 ≤ (D1.1 2 9).toInt ∧ (D1.1 2 9).toInt ≤ 32
      rw [k6]
      exact rpS_le _ (fun k hk => a4 k (by show (k : Int) < (D.1 2 10).toInt; omega))
    · show ∀ k : Nat, (k : Int) < (D1.1 2 10).toInt → 0 ≤ (D1.1 8 k).toInt ∧ (D1.1 8 k).toInt < 32
      rw [ei 10 (by decide) (by decide), g 8 (by omega)]
      exact a4
  · rw [if_neg hc] at k
    rw [if_neg hc]
    obtain ⟨k1, rfl⟩ := k
    exact ⟨⟨KX.refl h t, rfl, rfl⟩, k1⟩
/-- only the tape is another -/
theorem tape_kx {D1 : ADD} (h : QXt D 1) (t : TN D) (g : ∀ c, c ≠ 11 → c ≠ 12 → D1.1 c = D.1 c) (l : 0 ≤ (D1.1 11 1).toInt ∧ (D1.1 11 1).toInt ≤ 500) : KX D D1 := by
  refine ⟨fun c hc => g c (by omega) (by omega), by unfold TN; rw [g 38 (by decide) (by decide)]; exact t, ?_⟩
  obtain ⟨a1, a2, a3, a4, a5, a6, a7, a8⟩ := h
  refine ⟨by show 0 ≤ (D1.1 2 8).toInt ∧ (D1.1 2 8).toInt ≤ 32; rw [g 2 (by decide) (by decide)]; exact a1, by show 0 ≤ (D1.1 2 9).toInt ∧ (D1.1 2 9).toInt ≤ 32; rw [g 2 (by decide) (by decide)]; exact a2, by show 0 ≤ (D1.1 2 10).toInt ∧ (D1.1 2 10).toInt ≤ 400; rw [g 2 (by decide) (by decide)]; exact a3, ?_, l, by show 0 ≤ (D1.1 13 0).toInt ∧ (D1.1 13 0).toInt ≤ 16; rw [g 13 (by decide) (by decide)]; exact a6, by show 0 ≤ (D1.1 22 0).toInt ∧ (D1.1 22 0).toInt ≤ 16; rw [g 22 (by decide) (by decide)]; exact a7, by show 0 ≤ (D1.1 2 11).toInt; rw [g 2 (by decide) (by decide)]; exact a8⟩
  show ∀ k : Nat, (k : Int) < (D1.1 2 10).toInt → 0 ≤ (D1.1 8 k).toInt ∧ (D1.1 8 k).toInt < 32
  rw [g 2 (by decide) (by decide), g 8 (by decide) (by decide)]
  exact a4
theorem cX_feed {a b c d e : Int32} (h : QXt D 1) (t : TN D) : Wp (fX10_feed a b c d e D) (fun r D1 => KX D D1 ∧ D1.1 2 11 = D.1 2 11 ∧ if (D.1 11 1).toInt + 20 ≤ 500 then r.toInt = (D.1 11 1).toInt + 20 ∧ r = D1.1 11 1 else r = -1 ∧ D1.1 11 1 = D.1 11 1) := by
  have l : 0 ≤ (D.1 11 1).toInt ∧ (D.1 11 1).toInt ≤ 500 := h.2.2.2.2.1
  have el := cl_i l.1
  refine (oX_feed (n := (D.1 11 1).toNatClampNeg) (by omega) (by omega)).mono (fun r D1 k => ?_)
  by_cases hc : (D.1 11 1).toInt + 20 ≤ 500
  · rw [if_pos (by omega)] at k
    rw [if_pos hc]
    obtain ⟨k1, k2, k3, k4, k5, k6⟩ := k
    exact ⟨tape_kx h t k3 (by rw [← k2]; omega), by rw [k3 2 (by decide) (by decide)], by omega, k2⟩
  · rw [if_neg (by omega)] at k
    rw [if_neg hc]
    obtain ⟨k1, rfl⟩ := k
    exact ⟨KX.refl h t, rfl, k1, rfl⟩
theorem cX_end {a : Int32} (h : QXt D 1) (t : TN D) : Wp (fX10_end a D) (fun r D1 => KX D D1 ∧ D1.1 2 11 = D.1 2 11 ∧ if 0 ≤ a.toInt ∧ a.toInt ≤ (D.1 11 1).toInt then r = a ∧ D1.1 11 1 = a else r = -1 ∧ D1.1 11 1 = D.1 11 1) := by
  have l : 0 ≤ (D.1 11 1).toInt ∧ (D.1 11 1).toInt ≤ 500 := h.2.2.2.2.1
  refine oX_end.mono (fun r D1 k => ?_)
  by_cases hc : 0 ≤ a.toInt ∧ a.toInt ≤ (D.1 11 1).toInt
  · rw [if_pos hc] at k
    rw [if_pos hc]
    obtain ⟨k1, k2⟩ := k
    have e11 : D1.1 11 1 = a := by rw [k2]; simp [aSI]
    have g : ∀ c, c ≠ 11 → D1.1 c = D.1 c := fun c hc => by rw [k2]; funext z; simp [aSI, hc]
    exact ⟨tape_kx h t (fun c a _ => g c a) (by rw [e11]; omega), by rw [g 2 (by decide)], k1, e11⟩
  · rw [if_neg hc] at k
    rw [if_neg hc]
    obtain ⟨k1, rfl⟩ := k
    exact ⟨KX.refl h t, rfl, k1, rfl⟩
theorem cX_text {a : Int32} (ha : a = 0 ∨ a = 1) (h : QXt D 1) (t : TN D) : Wp (fX10_text a D) (fun _ D1 => KX D D1 ∧ D1.1 2 11 = D.1 2 11 ∧ D1.1 11 1 = 0) := by
  obtain ⟨a1, a2, a3, a4, a5, a6, a7, a8⟩ := h
  refine (oX_text ha t a5.1 ⟨a6, a7⟩).mono (fun r D1 k => ?_)
  obtain ⟨k1, k2, k3, k4, k5⟩ := k
  refine ⟨⟨fun c hc => k1 c (by omega), k2, ?_⟩, by rw [k1 2 (by omega)], k3⟩
  refine ⟨by show 0 ≤ (D1.1 2 8).toInt ∧ (D1.1 2 8).toInt ≤ 32; rw [k1 2 (by omega)]; exact a1, by show 0 ≤ (D1.1 2 9).toInt ∧ (D1.1 2 9).toInt ≤ 32; rw [k1 2 (by omega)]; exact a2, by show 0 ≤ (D1.1 2 10).toInt ∧ (D1.1 2 10).toInt ≤ 400; rw [k1 2 (by omega)]; exact a3, ?_, by show 0 ≤ (D1.1 11 1).toInt ∧ (D1.1 11 1).toInt ≤ 500; rw [k3]; decide, k4, k5, by show 0 ≤ (D1.1 2 11).toInt; rw [k1 2 (by omega)]; exact a8⟩
  show ∀ k : Nat, (k : Int) < (D1.1 2 10).toInt → 0 ≤ (D1.1 8 k).toInt ∧ (D1.1 8 k).toInt < 32
  rw [k1 2 (by omega), k1 8 (by omega)]
  exact a4
theorem cX_choose {a b y z m : Int32} (h : QXt D 1) (t : TN D) : Wp (fX10_choose a b y z m D) (fun r D1 => (KX D D1 ∧ SX D D1) ∧ r = if ChOK y z m then 1 else 0) := by
  refine tX10_choose.mono (fun r D1 k => ?_)
  by_cases hc : ChOK y z m
  · rw [if_pos hc] at k
    rw [if_pos hc]
    obtain ⟨k1, k2, -⟩ := k
    refine ⟨⟨⟨fun c hc => k2 c (by omega), by unfold TN; rw [k2 38 (by decide)]; exact t, ?_⟩, by rw [k2 2 (by decide)], by rw [k2 11 (by decide)]⟩, k1⟩
    obtain ⟨a1, a2, a3, a4, a5, a6, a7, a8⟩ := h
    unfold QXt
    rw [k2 (1 + 1) (by decide), k2 (1 + 7) (by decide), k2 (1 + 10) (by decide), k2 (1 + 12) (by decide), k2 (1 + 21) (by decide)]
    exact ⟨a1, a2, a3, a4, a5, a6, a7, a8⟩
  · rw [if_neg hc] at k
    rw [if_neg hc]
    obtain ⟨k1, rfl⟩ := k
    exact ⟨⟨KX.refl h t, rfl, rfl⟩, k1⟩
/-- a copy of one State to another -/
theorem CpX.qt {D1 : ADD} {o p : Nat} (k : CpX cpL o p D D1) (h : QXt D p) : QXt D1 o := by
  have e : ∀ d i, d < 31 → (cpL.any (fun s => cpC s d i)) = true → D1.1 (o + d) i = D.1 (p + d) i := fun d i hd hc => k.at hd hc
  obtain ⟨a1, a2, a3, a4, a5, a6, a7, a8⟩ := h
  refine ⟨by rw [e 1 8 (by decide) (by decide)]; exact a1, by rw [e 1 9 (by decide) (by decide)]; exact a2, by rw [e 1 10 (by decide) (by decide)]; exact a3, ?_, by rw [e 10 1 (by decide) (by decide)]; exact a5, by rw [e 12 0 (by decide) (by decide)]; exact a6, by rw [e 21 0 (by decide) (by decide)]; exact a7, by rw [e 1 11 (by decide) (by decide)]; exact a8⟩
  rw [e 1 10 (by decide) (by decide)]
  intro k hk
  have hk4 : k < 400 := by omega
  rw [e 7 k (by decide) (by simp [cpL, cpC, hk4])]
  exact a4 k hk
end XZ
