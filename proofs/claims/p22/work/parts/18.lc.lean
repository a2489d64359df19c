/-! LC: what the law's entry gives -/
theorem lc_t {args : Array Value} {s : State} (hts : ∀ w ∈ lw_tbl, w.before args s = true) (i : Nat) {w : Cond} (h : tables_1[i]? = some w) : w.before args s = true := hts w (List.mem_append_right _ (List.mem_of_getElem? h))
def lc_flat : List Cond := flatC (Jvm.Cond.and given_1 narrow_1)
theorem lc_n {args : Array Value} {s : State} (h : (Jvm.Cond.and given_1 narrow_1).before args s = true) (i : Nat) {w : Cond} (hw : lc_flat[i]? = some w) : w.before args s = true := flat_of_before _ h w (List.mem_of_getElem? hw)
theorem lc_arr {args : Array Value} {s : State} {ty : FieldType} (h : (Cond.arrayClass ty).before args s = true) : ∃ cA : ClassId, ArrOfT s cA ty ∧ s.vm.findClass ("[" ++ ty.toString) = some cA := by
  obtain ⟨cA, kA, comp, h1, h2, h3⟩ := Cond.arrayClass_spec h
  exact ⟨cA, fun n z => ⟨fun k h => (by cases h), kA, h2, comp, h3⟩, h1⟩
theorem lc_arrS {args : Array Value} {s : State} {C : String} (h : (Cond.arrayOver (.object C)).before args s = true) : ∃ cA : ClassId, ArrOfT s cA (.object C) ∧ va_RA s cA (.object C) := by
  obtain ⟨comp, c, k, h1, h2, h3, h4, h5⟩ := Cond.arrayOver_spec h
  exact ⟨c, fun n z => ⟨fun k h => (by cases h), k, h3, comp, h4⟩, k, comp, h3, h4, h1, h5⟩
set_option maxRecDepth 100000 in
theorem lc_K {args : Array Value} {s : State} (hts : ∀ w ∈ lw_tbl, w.before args s = true) : ∃ (dC : Nat → ClassId) (dI : Nat → Nat → Nat) (cy : Nat → ClassId), va_K (dC, dI) vwCl (aTys cy) s := by
  have hts2 : ∀ w ∈ aT, w.before args s = true := fun w hw => hts w (List.mem_filter.mp hw).1
  have h0 : ∀ c : Nat, ∃ D : ClassId × (Nat → Nat), ∀ q, vwCl[c]? = some q → u_Kn s q.1 q.2.1 q.2.2 D.1 D.2 := by
    intro c
    match c with
    | 0 => obtain ⟨a, b, h⟩ := u_known (C := RX0) (T := TX0) (N := 13) (n := 13) hts2 kX0.2.1 (lc_t hts 36 (by decide +kernel)); exact ⟨(a, b), fun q hq => by have h9 : (RX0, TX0, 13) = q := Option.some.inj hq; subst h9; exact h⟩
    | 1 => obtain ⟨a, b, h⟩ := u_known (C := RX1) (T := TX1) (N := 5) (n := 5) hts2 kX1.2.1 (lc_t hts 141 (by decide +kernel)); exact ⟨(a, b), fun q hq => by have h9 : (RX1, TX1, 5) = q := Option.some.inj hq; subst h9; exact h⟩
    | 2 => obtain ⟨a, b, h⟩ := u_known (C := RX3) (T := TX3) (N := 1) (n := 1) hts2 kX3.2.1 (lc_t hts 295 (by decide +kernel)); exact ⟨(a, b), fun q hq => by have h9 : (RX3, TX3, 1) = q := Option.some.inj hq; subst h9; exact h⟩
    | 3 => obtain ⟨a, b, h⟩ := u_known (C := RX4) (T := TX4) (N := 7) (n := 7) hts2 kX4.2.1 (lc_t hts 232 (by decide +kernel)); exact ⟨(a, b), fun q hq => by have h9 : (RX4, TX4, 7) = q := Option.some.inj hq; subst h9; exact h⟩
    | 4 => obtain ⟨a, b, h⟩ := u_known (C := RX5) (T := TX5) (N := 8) (n := 8) hts2 kX5.2.1 (lc_t hts 196 (by decide +kernel)); exact ⟨(a, b), fun q hq => by have h9 : (RX5, TX5, 8) = q := Option.some.inj hq; subst h9; exact h⟩
    | 5 => obtain ⟨a, b, h⟩ := u_known (C := RX6) (T := TX6) (N := 9) (n := 9) hts2 kX6.2.1 (lc_t hts 103 (by decide +kernel)); exact ⟨(a, b), fun q hq => by have h9 : (RX6, TX6, 9) = q := Option.some.inj hq; subst h9; exact h⟩
    | 6 => obtain ⟨a, b, h⟩ := u_known (C := RX7) (T := TX7) (N := 7) (n := 7) hts2 kX7.2.1 (lc_t hts 267 (by decide +kernel)); exact ⟨(a, b), fun q hq => by have h9 : (RX7, TX7, 7) = q := Option.some.inj hq; subst h9; exact h⟩
    | 7 => obtain ⟨a, b, h⟩ := u_known (C := RX8) (T := TX8) (N := 7) (n := 7) hts2 kX8.2.1 (lc_t hts 30 (by decide +kernel)); exact ⟨(a, b), fun q hq => by have h9 : (RX8, TX8, 7) = q := Option.some.inj hq; subst h9; exact h⟩
    | 8 => obtain ⟨a, b, h⟩ := u_known (C := RX9) (T := TX9) (N := 2) (n := 2) hts2 kX9.2.1 (lc_t hts 88 (by decide +kernel)); exact ⟨(a, b), fun q hq => by have h9 : (RX9, TX9, 2) = q := Option.some.inj hq; subst h9; exact h⟩
    | 9 => obtain ⟨a, b, h⟩ := u_known (C := RX10) (T := TX10) (N := 7) (n := 7) hts2 kX10.2.1 (lc_t hts 22 (by decide +kernel)); exact ⟨(a, b), fun q hq => by have h9 : (RX10, TX10, 7) = q := Option.some.inj hq; subst h9; exact h⟩
    | 10 => obtain ⟨a, b, h⟩ := u_known (C := RX11) (T := TX11) (N := 51) (n := 51) hts2 kX11.2.1 (lc_t hts 998 (by decide +kernel)); exact ⟨(a, b), fun q hq => by have h9 : (RX11, TX11, 51) = q := Option.some.inj hq; subst h9; exact h⟩
    | c + 11 => exact ⟨(0, fun _ => 0), fun q hq => by cases hq⟩
  obtain ⟨D, hD⟩ := Classical.axiomOfChoice h0
  obtain ⟨c0, a0, b0⟩ := lc_arr (lc_t hts 86 (w := Cond.arrayClass .int) (by decide +kernel))
  obtain ⟨c1, a1, b1⟩ := lc_arr (lc_t hts 304 (w := Cond.arrayClass .long) (by decide +kernel))
  obtain ⟨c2, a2, b2⟩ := lc_arr (lc_t hts 101 (w := Cond.arrayClass .byte) (by decide +kernel))
  obtain ⟨c3, a3, b3⟩ := lc_arr (lc_t hts 139 (w := Cond.arrayClass .boolean) (by decide +kernel))
  obtain ⟨c4, a4, b4⟩ := lc_arrS (lc_t hts 194 (w := Cond.arrayOver (.object "StonesOfWeight$State")) (by decide +kernel))
  refine ⟨fun c => (D c).1, fun c => (D c).2, fun k => match k with
    | 0 => c0
    | 1 => c1
    | 2 => c2
    | 3 => c3
    | _ => c4, fun c q hq => hD c q hq, fun k q hq => ?_⟩
  match k, hq with
  | 0, hq => have h9 : (c0, FieldType.int) = q := Option.some.inj hq; subst h9; exact ⟨a0, b0⟩
  | 1, hq => have h9 : (c1, FieldType.long) = q := Option.some.inj hq; subst h9; exact ⟨a1, b1⟩
  | 2, hq => have h9 : (c2, FieldType.byte) = q := Option.some.inj hq; subst h9; exact ⟨a2, b2⟩
  | 3, hq => have h9 : (c3, FieldType.boolean) = q := Option.some.inj hq; subst h9; exact ⟨a3, b3⟩
  | 4, hq => have h9 : (c4, FieldType.object "StonesOfWeight$State") = q := Option.some.inj hq; subst h9; exact ⟨a4, b4⟩
  | k + 5, hq => cases hq
def lc_iLEAST : List Nat := [7, 8, 9, 10, 11, 12, 13, 14, 15, 16, 17]
set_option maxRecDepth 100000 in
theorem lc_eLEAST : ∀ j : Nat, j < 11 → lc_flat[lc_iLEAST.getD j 0]? = some (Cond.eq (.elem (.static "StonesOfWeight" "FACT_LEAST" "[I") (.int (Int32.ofNat j))) (.int (aLeast.getD j 0))) := by decide +kernel
def lc_iMOST : List Nat := [21, 22, 23, 24, 25, 26, 27, 28, 29, 30, 31]
set_option maxRecDepth 100000 in
theorem lc_eMOST : ∀ j : Nat, j < 11 → lc_flat[lc_iMOST.getD j 0]? = some (Cond.eq (.elem (.static "StonesOfWeight" "FACT_MOST" "[I") (.int (Int32.ofNat j))) (.int (aMost.getD j 0))) := by decide +kernel
abbrev lc_tm (i : Nat) : Term := .string "StonesOfWeight$Reader" ((aTexts.map Prod.fst).getD i 0)
abbrev lc_len : List Nat := [2, 3, 45, 36, 3, 24, 14, 2]
theorem lc_len_ok : aTexts.map (fun q => q.2.length) = lc_len := by decide +kernel
abbrev lc_byt : List (List Int32) := [[105, 102], [110, 111, 116], [109, 97, 110, 121, 32, 110, 101, 97, 114, 32, 109, 101, 97, 110, 32, 99, 104, 97, 110, 99, 101, 32, 116, 114, 105, 101, 100, 32, 112, 108, 97, 99, 101, 32, 116, 111, 119, 110, 115, 32, 109, 97, 114, 107, 115], [115, 116, 117, 102, 102, 32, 99, 104, 105, 112, 115, 32, 108, 101, 97, 100, 32, 116, 111, 119, 110, 32, 109, 97, 114, 107, 32, 111, 119, 110, 101, 114, 32, 97, 103, 101], [97, 110, 100], [115, 117, 114, 101, 32, 108, 105, 107, 101, 108, 121, 32, 111, 112, 101, 110, 32, 97, 103, 97, 105, 110, 115, 116], [109, 111, 114, 101, 32, 108, 101, 115, 115, 32, 115, 116, 111, 112], [116, 111]]
theorem lc_byt_ok : aBytes = lc_byt := by decide +kernel
def lc_x0 : List Nat := [37, 43, 51, 102, 145, 156, 189, 213]
def lc_x1 : List Nat := [38, 44, 52, 103, 146, 157, 190, 214]
def lc_x2 : List Nat := [39, 45, 53, 104, 147, 158, 191, 215]
def lc_x3 : List Nat := [40, 46, 54, 105, 148, 159, 192, 216]
def lc_x4 : List (List Nat) := [[41, 42], [47, 48, 49], [55, 56, 57, 58, 59, 60, 61, 62, 63, 64, 65, 66, 67, 68, 69, 70, 71, 72, 73, 74, 75, 76, 77, 78, 79, 80, 81, 82, 83, 84, 85, 86, 87, 88, 89, 90, 91, 92, 93, 94, 95, 96, 97, 98, 99], [106, 107, 108, 109, 110, 111, 112, 113, 114, 115, 116, 117, 118, 119, 120, 121, 122, 123, 124, 125, 126, 127, 128, 129, 130, 131, 132, 133, 134, 135, 136, 137, 138, 139, 140, 141], [149, 150, 151], [160, 161, 162, 163, 164, 165, 166, 167, 168, 169, 170, 171, 172, 173, 174, 175, 176, 177, 178, 179, 180, 181, 182, 183], [193, 194, 195, 196, 197, 198, 199, 200, 201, 202, 203, 204, 205, 206], [217, 218]]
def lc_x5 : List (List Nat) := [[0, 50, 100, 142, 152, 184, 207, 219], [0, 0, 101, 143, 153, 185, 208, 220], [0, 0, 0, 144, 154, 186, 209, 221], [0, 0, 0, 0, 155, 187, 210, 222], [0, 0, 0, 0, 0, 188, 211, 223], [0, 0, 0, 0, 0, 0, 212, 224], [0, 0, 0, 0, 0, 0, 0, 225], [0, 0, 0, 0, 0, 0, 0, 0]]
set_option maxRecDepth 100000 in
theorem lc_y0 : ∀ i : Nat, i < 8 → lc_flat[lc_x0.getD i 0]? = some (Cond.exactly (lc_tm i) "java/lang/String") := by decide +kernel
set_option maxRecDepth 100000 in
theorem lc_y1 : ∀ i : Nat, i < 8 → lc_flat[lc_x1.getD i 0]? = some (Cond.eq (.field (lc_tm i) "java/lang/String" "coder" "B") (.int 0)) := by decide +kernel
set_option maxRecDepth 100000 in
theorem lc_y2 : ∀ i : Nat, i < 8 → lc_flat[lc_x2.getD i 0]? = some (Cond.arrayOf (.field (lc_tm i) "java/lang/String" "value" "[B") .byte) := by decide +kernel
set_option maxRecDepth 100000 in
theorem lc_y3 : ∀ i : Nat, i < 8 → lc_flat[lc_x3.getD i 0]? = some (Cond.eq (.length (.field (lc_tm i) "java/lang/String" "value" "[B")) (.int (Int32.ofNat (lc_len.getD i 0)))) := by decide +kernel
set_option maxRecDepth 100000 in
theorem lc_y4 : ∀ i : Nat, i < 8 → ∀ j : Nat, j < lc_len.getD i 0 → lc_flat[(lc_x4.getD i []).getD j 0]? = some (Cond.eq (.elem (.field (lc_tm i) "java/lang/String" "value" "[B") (.int (Int32.ofNat j))) (.int ((lc_byt.getD i []).getD j 0))) := by decide +kernel
set_option maxRecDepth 100000 in
theorem lc_y5 : ∀ i : Nat, i < 8 → ∀ j : Nat, j < 8 → i < j → lc_flat[(lc_x5.getD i []).getD j 0]? = some (Cond.not (Cond.eq (lc_tm i) (lc_tm j))) := by decide +kernel
set_option maxRecDepth 100000 in
theorem lc_y6 : ∀ i : Nat, i < 8 → lc_len.getD i 0 < 2 ^ 31 := by decide +kernel
set_option maxRecDepth 100000 in
theorem lc_E {b : Nat} {s : State} (hts : ∀ w ∈ lw_tbl, w.before #[Value.ref b] s = true) (hgv : (Jvm.Cond.and given_1 narrow_1).before #[Value.ref b] s = true) : ∃ ex : AEx, aEX ex s.heap.size s := by
  have hA : ∀ a : Nat, a < s.heap.size → ¬ (fun q => s.heap.size ≤ q) a := fun a h1 h2 => Nat.not_le.mpr h1 h2
  obtain ⟨t1, e1, T1⟩ := va_Tof (args := #[Value.ref b]) (s := s) (tm := .static "StonesOfWeight" "FACT_LEAST" "[I") (ty := .int) (N := 11) (f := fun j => .int (aLeast.getD j 0)) (A := fun q => s.heap.size ≤ q) (by decide) (lc_n hgv 5 (by decide +kernel)) (va_eqt (lc_n hgv 6 (by decide +kernel))) (fun j hj => va_eqt (lc_n hgv _ (lc_eLEAST j hj))) hA
  obtain ⟨t2, e2, T2⟩ := va_Tof (args := #[Value.ref b]) (s := s) (tm := .static "StonesOfWeight" "FACT_MOST" "[I") (ty := .int) (N := 11) (f := fun j => .int (aMost.getD j 0)) (A := fun q => s.heap.size ≤ q) (by decide) (lc_n hgv 19 (by decide +kernel)) (va_eqt (lc_n hgv 20 (by decide +kernel))) (fun j hj => va_eqt (lc_n hgv _ (lc_eMOST j hj))) hA
  obtain ⟨adK, adV, hS, hK⟩ := vk_Sof (args := #[Value.ref b]) (s := s) (N := 8) (tm := lc_tm) (len := lc_len) (byt := lc_byt) (A := fun q => s.heap.size ≤ q) lc_y6 (fun i hi => lc_n hgv _ (lc_y0 i hi)) (fun i hi => lc_n hgv _ (lc_y1 i hi)) (fun i hi => lc_n hgv _ (lc_y2 i hi)) (fun i hi => lc_n hgv _ (lc_y3 i hi)) (fun i hi j hj => lc_n hgv _ (lc_y4 i hi j hj)) (fun i j hi hj hne => by
    rcases Nat.lt_or_ge i j with h | h
    · exact Or.inl (lc_n hgv _ (lc_y5 i hi j hj h))
    · exact Or.inr (lc_n hgv _ (lc_y5 j hj i hi (by omega)))) hA
  refine ⟨(t1, t2, adK, adV), va_Zref (lc_t hts 339 (by decide +kernel)) (lc_t hts 1 (by decide +kernel)) e1 hA, T1, va_Zref (lc_t hts 341 (by decide +kernel)) (lc_t hts 1 (by decide +kernel)) e2 hA, T2, va_Zof (lc_t hts 480 (by decide +kernel)) (lc_t hts 12 (by decide +kernel)) (va_eqi (lc_n hgv 32 (by decide +kernel))) hA, va_Zqof (lc_t hts 496 (by decide +kernel)) (lc_t hts 14 (by decide +kernel)) (lc_n hgv 33 (by decide +kernel)) hA, fun q hq => ?_, fun q hq => ?_, va_AO.of (lc_t hts 194 (by decide +kernel)), by rw [lc_len_ok, lc_byt_ok]; exact hS, fun i q hq => ?_⟩
  · rcases List.mem_cons.mp hq with rfl | hq
    · exact va_Nw.of rfl (lc_t hts 338 (by decide +kernel))
    rcases List.mem_cons.mp hq with rfl | hq
    · exact va_Nw.of rfl (lc_t hts 340 (by decide +kernel))
    cases hq
  · rcases List.mem_cons.mp hq with rfl | hq
    · exact va_Nw.of rfl (lc_t hts 31 (by decide +kernel))
    rcases List.mem_cons.mp hq with rfl | hq
    · exact va_Nw.of rfl (lc_t hts 37 (by decide +kernel))
    rcases List.mem_cons.mp hq with rfl | hq
    · exact va_Nw.of rfl (lc_t hts 89 (by decide +kernel))
    rcases List.mem_cons.mp hq with rfl | hq
    · exact va_Nw.of rfl (lc_t hts 104 (by decide +kernel))
    rcases List.mem_cons.mp hq with rfl | hq
    · exact va_Nw.of rfl (lc_t hts 142 (by decide +kernel))
    rcases List.mem_cons.mp hq with rfl | hq
    · exact va_Nw.of rfl (lc_t hts 202 (by decide +kernel))
    rcases List.mem_cons.mp hq with rfl | hq
    · exact va_Nw.of rfl (lc_t hts 233 (by decide +kernel))
    rcases List.mem_cons.mp hq with rfl | hq
    · exact va_Nw.of rfl (lc_t hts 268 (by decide +kernel))
    rcases List.mem_cons.mp hq with rfl | hq
    · exact va_Nw.of rfl (lc_t hts 296 (by decide +kernel))
    cases hq
  · match i, hq with
    | 0, hq => have h9 : (66, "if") = q := Option.some.inj hq; subst h9; exact vk_R.of (lc_t hts 466 (by decide +kernel)) (hK 0 (by decide))
    | 1, hq => have h9 : (86, "not") = q := Option.some.inj hq; subst h9; exact vk_R.of (lc_t hts 527 (by decide +kernel)) (hK 1 (by decide))
    | 2, hq => have h9 : (88, "many near mean chance tried place towns marks") = q := Option.some.inj hq; subst h9; exact vk_R.of (lc_t hts 528 (by decide +kernel)) (hK 2 (by decide))
    | 3, hq => have h9 : (90, "stuff chips lead town mark owner age") = q := Option.some.inj hq; subst h9; exact vk_R.of (lc_t hts 529 (by decide +kernel)) (hK 3 (by decide))
    | 4, hq => have h9 : (84, "and") = q := Option.some.inj hq; subst h9; exact vk_R.of (lc_t hts 546 (by decide +kernel)) (hK 4 (by decide))
    | 5, hq => have h9 : (113, "sure likely open against") = q := Option.some.inj hq; subst h9; exact vk_R.of (lc_t hts 555 (by decide +kernel)) (hK 5 (by decide))
    | 6, hq => have h9 : (115, "more less stop") = q := Option.some.inj hq; subst h9; exact vk_R.of (lc_t hts 556 (by decide +kernel)) (hK 6 (by decide))
    | 7, hq => have h9 : (125, "to") = q := Option.some.inj hq; subst h9; exact vk_R.of (lc_t hts 565 (by decide +kernel)) (hK 7 (by decide))
    | i + 8, hq => cases hq
theorem lc_all {p : Program} {l : Launch} {e : Env} {s : State} {m : MethodId} {below : List Frame} {meth : Method} {c : Code} {b L : Nat} {xs : Nat → Int32} (C0 : lw_At p s m meth c b L xs) : ∃ G : LG, LC (p, l, e, s, m, below, meth, c) b L xs G := by
  obtain ⟨hx, hb, hr, hml, hown, hts, hX, hbl, hlocks, hgv⟩ := id C0
  obtain ⟨dC, dI, cy, hK⟩ := lc_K hts
  obtain ⟨ex, hE⟩ := lc_E hts hgv
  exact ⟨(dC, dI, cy, ex), C0, hK, hE⟩
