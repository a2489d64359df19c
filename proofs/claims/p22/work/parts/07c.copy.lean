section A6
variable {ρ : Type} {V : ρ → Option Value} {g : AGl} {b : ABn} {cc : ByteArray} {own : String} {nL : Nat} {ret : Option FieldType} {d pc : Nat} {lv lv2 : List (Option Value)} {st : List Value} {D : ADD} {K K0 K1 Kd : Option (ρ × ADD)}
def aCp (D : ADD) (so do_ N : Nat) : ADD := (fun a k => if a = do_ ∧ k < N then D.1 so k else D.1 a k, D.2)
theorem aPic_C {cy : Nat → ClassId} {s : ASh} {D : ADD} {so o N : Nat} {i : Nat} (h : i ≠ o) : aPic cy s (aCp D so o N) i = aPic cy s D i := by
  have h1 : (aCp D so o N).1 i = D.1 i := by funext k; simp [aCp, h]
  have h2 : aFv s (aCp D so o N) i = aFv s D i := by funext k; simp only [aFv, h1]; rfl
  have h3 : (aCp D so o N).2 = D.2 := rfl
  simp only [aPic, h1, h2, h3]
theorem aCp_row {D : ADD} {so o N : Nat} : (aCp D so o N).1 o = va_cpy (D.1 so) (D.1 o) 0 0 N := by
  funext k
  simp [aCp, va_cpy]
theorem aCp_nar {D : ADD} {so o N : Nat} {ty : FieldType} : (fun k => vp_nar ty ((aCp D so o N).1 o k)) = va_cpy (fun k => vp_nar ty (D.1 so k)) (fun k => vp_nar ty (D.1 o k)) 0 0 N := by
  funext k
  by_cases h : k < N <;> simp [aCp, va_cpy, h]
theorem aFit_b (x : Int32) : fits .byte (.int (vp_nar .byte x)) = true := pk_fb x
theorem aFit_z (x : Int32) : fits .boolean (.int (vp_nar .boolean x)) = true := fits_narrow_boolean x
theorem A_copyi {so o N idx : Nat} {rf rf2 : Nat → Option Nat} {n : Int32} {F : ADD → Option (ρ × ADD)} (hC : AC g b cc own nL ret d) (hS : aAt g so (11, N, rf)) (hO : aAt g o (11, N, rf2)) (hn : n.toNatClampNeg = N) (hn0 : ¬ n < 0) (w1 : Cond.methodLink own idx arraycopyName ∈ aT) (w2 : Cond.native arraycopyName ∈ aT) (w3 : Cond.static arraycopyName ∈ aT) (w4 : Cond.initialized "java/lang/System" ∈ aT) (hlen : lv.length = nL) (hdd : 1 ≤ d) (hst : (st.map fun v => v.category).sum ≤ 8) (hd : decode cc pc = .ok (.invokestatic idx, 3)) (kk : ∀ D2 : ADD, AT V g b (pc + 3) lv st D2 (F D2)) : AT V g b pc lv (.int n :: .int 0 :: .ref (g.1 + o) :: .int 0 :: .ref (g.1 + so) :: st) D (aLet (aCp D so o N) F) := by
  obtain ⟨n0, dC, dI, cy, ex, w⟩ := g
  obtain ⟨⟨p, l, e, R, s, m, args, below, meth, c⟩, r1, D1⟩ := b
  obtain ⟨hx, hb, hml, hown, hts, hr, hlk, hR, hK, hE, hz⟩ := hC
  intro hk H ls locs h2 h3 h4 h5
  subst hR
  obtain ⟨hsL, hsS⟩ := hS
  have hsS : w.2.2 so = (11, N, rf) := hsS
  obtain ⟨j1, hj1⟩ := aW_get (n0 := n0) (cy := cy) (w := w) (D := D) hsL
  rw [hsS] at hj1
  have hj1 : (aW n0 cy w D)[j1]? = some (n0 + so, .inl (cy 0, N, .inl (D.1 so))) := hj1
  obtain ⟨hoL, hoS⟩ := hO
  have hoS : w.2.2 o = (11, N, rf2) := hoS
  obtain ⟨j2, hj2⟩ := aW_get (n0 := n0) (cy := cy) (w := w) (D := D) hoL
  rw [hoS] at hj2
  have hj2 : (aW n0 cy w D)[j2]? = some (n0 + o, .inl (cy 0, N, .inl (D.1 o))) := hj2
  have hf : nativeFrameWords "java/lang/System" "arraycopy" 5 ≤ 20 := by decide +kernel
  refine va_copyi hx hb (hml.trans (hlen.symm.trans h5.1.symm)) hown (hts _ w1) (hts _ w2) (hts _ w3) (hts _ w4) hK h2 h3 h4 j1 j2 0 0 hj1 hj2 rfl rfl rfl (sp := 0) (dp := 0) (n := n) (by decide) (by decide) hn0 (by rw [hn, sb_cl0]; omega) (by rw [hn, sb_cl0]; omega) (fun i hi => rfl) hdd (by show _ ≤ 40 * d; omega) hd (fun H1 locs1 q1 q2 q3 => ?_)
  rw [aW_set (D' := aCp D so o N) h3 hj2 (by rw [hoS, hn, sb_cl0]; show (.inl (cy 0, N, .inl ((aCp D so o N).1 o)) : va_E) = _; rw [aCp_row]) (fun i9 hi => aPic_C hi)] at q1
  exact kk (aCp D so o N) hk H1 ls locs1 q1 (aD_any h3) q3 h5
theorem A_copyb {so o N idx : Nat} {rf rf2 : Nat → Option Nat} {n : Int32} {F : ADD → Option (ρ × ADD)} (hC : AC g b cc own nL ret d) (hS : aAt g so (13, N, rf)) (hO : aAt g o (13, N, rf2)) (hn : n.toNatClampNeg = N) (hn0 : ¬ n < 0) (w1 : Cond.methodLink own idx arraycopyName ∈ aT) (w2 : Cond.native arraycopyName ∈ aT) (w3 : Cond.static arraycopyName ∈ aT) (w4 : Cond.initialized "java/lang/System" ∈ aT) (hlen : lv.length = nL) (hdd : 1 ≤ d) (hst : (st.map fun v => v.category).sum ≤ 8) (hd : decode cc pc = .ok (.invokestatic idx, 3)) (kk : ∀ D2 : ADD, AT V g b (pc + 3) lv st D2 (F D2)) : AT V g b pc lv (.int n :: .int 0 :: .ref (g.1 + o) :: .int 0 :: .ref (g.1 + so) :: st) D (aLet (aCp D so o N) F) := by
  obtain ⟨n0, dC, dI, cy, ex, w⟩ := g
  obtain ⟨⟨p, l, e, R, s, m, args, below, meth, c⟩, r1, D1⟩ := b
  obtain ⟨hx, hb, hml, hown, hts, hr, hlk, hR, hK, hE, hz⟩ := hC
  intro hk H ls locs h2 h3 h4 h5
  subst hR
  obtain ⟨hsL, hsS⟩ := hS
  have hsS : w.2.2 so = (13, N, rf) := hsS
  obtain ⟨j1, hj1⟩ := aW_get (n0 := n0) (cy := cy) (w := w) (D := D) hsL
  rw [hsS] at hj1
  have hj1 : (aW n0 cy w D)[j1]? = some (n0 + so, .inl (cy 2, N, .inl (fun q => vp_nar .byte (D.1 so q)))) := hj1
  obtain ⟨hoL, hoS⟩ := hO
  have hoS : w.2.2 o = (13, N, rf2) := hoS
  obtain ⟨j2, hj2⟩ := aW_get (n0 := n0) (cy := cy) (w := w) (D := D) hoL
  rw [hoS] at hj2
  have hj2 : (aW n0 cy w D)[j2]? = some (n0 + o, .inl (cy 2, N, .inl (fun q => vp_nar .byte (D.1 o q)))) := hj2
  have hf : nativeFrameWords "java/lang/System" "arraycopy" 5 ≤ 20 := by decide +kernel
  refine va_copyi hx hb (hml.trans (hlen.symm.trans h5.1.symm)) hown (hts _ w1) (hts _ w2) (hts _ w3) (hts _ w4) hK h2 h3 h4 j1 j2 2 2 hj1 hj2 rfl rfl rfl (sp := 0) (dp := 0) (n := n) (by decide) (by decide) hn0 (by rw [hn, sb_cl0]; omega) (by rw [hn, sb_cl0]; omega) (fun i hi => aFit_b _) hdd (by show _ ≤ 40 * d; omega) hd (fun H1 locs1 q1 q2 q3 => ?_)
  rw [aW_set (D' := aCp D so o N) h3 hj2 (by rw [hoS, hn, sb_cl0]; show (.inl (cy 2, N, .inl (fun q => vp_nar .byte ((aCp D so o N).1 o q))) : va_E) = _; rw [aCp_nar]) (fun i9 hi => aPic_C hi)] at q1
  exact kk (aCp D so o N) hk H1 ls locs1 q1 (aD_any h3) q3 h5
theorem A_copyz {so o N idx : Nat} {rf rf2 : Nat → Option Nat} {n : Int32} {F : ADD → Option (ρ × ADD)} (hC : AC g b cc own nL ret d) (hS : aAt g so (14, N, rf)) (hO : aAt g o (14, N, rf2)) (hn : n.toNatClampNeg = N) (hn0 : ¬ n < 0) (w1 : Cond.methodLink own idx arraycopyName ∈ aT) (w2 : Cond.native arraycopyName ∈ aT) (w3 : Cond.static arraycopyName ∈ aT) (w4 : Cond.initialized "java/lang/System" ∈ aT) (hlen : lv.length = nL) (hdd : 1 ≤ d) (hst : (st.map fun v => v.category).sum ≤ 8) (hd : decode cc pc = .ok (.invokestatic idx, 3)) (kk : ∀ D2 : ADD, AT V g b (pc + 3) lv st D2 (F D2)) : AT V g b pc lv (.int n :: .int 0 :: .ref (g.1 + o) :: .int 0 :: .ref (g.1 + so) :: st) D (aLet (aCp D so o N) F) := by
  obtain ⟨n0, dC, dI, cy, ex, w⟩ := g
  obtain ⟨⟨p, l, e, R, s, m, args, below, meth, c⟩, r1, D1⟩ := b
  obtain ⟨hx, hb, hml, hown, hts, hr, hlk, hR, hK, hE, hz⟩ := hC
  intro hk H ls locs h2 h3 h4 h5
  subst hR
  obtain ⟨hsL, hsS⟩ := hS
  have hsS : w.2.2 so = (14, N, rf) := hsS
  obtain ⟨j1, hj1⟩ := aW_get (n0 := n0) (cy := cy) (w := w) (D := D) hsL
  rw [hsS] at hj1
  have hj1 : (aW n0 cy w D)[j1]? = some (n0 + so, .inl (cy 3, N, .inl (fun q => vp_nar .boolean (D.1 so q)))) := hj1
  obtain ⟨hoL, hoS⟩ := hO
  have hoS : w.2.2 o = (14, N, rf2) := hoS
  obtain ⟨j2, hj2⟩ := aW_get (n0 := n0) (cy := cy) (w := w) (D := D) hoL
  rw [hoS] at hj2
  have hj2 : (aW n0 cy w D)[j2]? = some (n0 + o, .inl (cy 3, N, .inl (fun q => vp_nar .boolean (D.1 o q)))) := hj2
  have hf : nativeFrameWords "java/lang/System" "arraycopy" 5 ≤ 20 := by decide +kernel
  refine va_copyi hx hb (hml.trans (hlen.symm.trans h5.1.symm)) hown (hts _ w1) (hts _ w2) (hts _ w3) (hts _ w4) hK h2 h3 h4 j1 j2 3 3 hj1 hj2 rfl rfl rfl (sp := 0) (dp := 0) (n := n) (by decide) (by decide) hn0 (by rw [hn, sb_cl0]; omega) (by rw [hn, sb_cl0]; omega) (fun i hi => aFit_z _) hdd (by show _ ≤ 40 * d; omega) hd (fun H1 locs1 q1 q2 q3 => ?_)
  rw [aW_set (D' := aCp D so o N) h3 hj2 (by rw [hoS, hn, sb_cl0]; show (.inl (cy 3, N, .inl (fun q => vp_nar .boolean ((aCp D so o N).1 o q))) : va_E) = _; rw [aCp_nar]) (fun i9 hi => aPic_C hi)] at q1
  exact kk (aCp D so o N) hk H1 ls locs1 q1 (aD_any h3) q3 h5
/-! rows whose branch is known -/
theorem A_ifeq_nt {x : Int32} {off : Int} {tgt : Nat} (hC : AC g b cc own nL ret d) (hd : decode cc pc = .ok (.ifCond .eq off, 3)) (ht : (pc : Int) + off = (tgt : Int)) (hx : ¬ x = 0) (kk : AT V g b (pc + 3) lv st D K) : AT V g b pc lv (.int x :: st) D K := by
  have h := A_if_eq (x := x) (K1 := none) (K2 := K) (tgt := tgt) hC hd ht A_none kk
  rwa [if_neg hx] at h
theorem A_ifne_nt {x : Int32} {off : Int} {tgt : Nat} (hC : AC g b cc own nL ret d) (hd : decode cc pc = .ok (.ifCond .ne off, 3)) (ht : (pc : Int) + off = (tgt : Int)) (hx : x = 0) (kk : AT V g b (pc + 3) lv st D K) : AT V g b pc lv (.int x :: st) D K := by
  have h := A_if_ne (x := x) (K1 := none) (K2 := K) (tgt := tgt) hC hd ht A_none kk
  rwa [if_pos hx] at h
def aCh {α : Type} (y : Int32) (K : Option α) : Option α := if narrow .char (.int y) = .int y then K else none
theorem A_cret {x : Int32} (hC : AC g b cc own nL (some .char) d) (hd : decode cc pc = .ok (.ireturn, 1)) : AT aVi g b pc lv [.int x] D (aCh x (some (x, D))) := by
  by_cases h : narrow .char (.int x) = .int x
  · rw [aCh, if_pos h]
    exact A_tret hC hd h
  · rw [aCh, if_neg h]
    exact A_none
end A6
/-! the texts' methods, of the library -/
def fJ3_checkIndex (i n : Int32) (D : ADD) : Option (Int32 × ADD) := if i < 0 then none else if i < n then some (i, D) else none
theorem mJ3_checkIndex (l : Launch) (g : AGl) (v : Value) (hv : v = .null ∨ ∃ t, v = .ref t) (i n : Int32) (D : ADD) : AM aVi l yJ3_checkIndex_8e157 cJ3_checkIndex_8e157 3 (some .int) 0 g [.int i, .int n, v] D (fJ3_checkIndex i n D) := by
  rcases hv with rfl | ⟨t, rfl⟩
  all_goals
    refine AM_of (own := RJ3) (by decide +kernel) rfl (Nat.le_of_ble_eq_true rfl) rfl (fun b hC => ?_)
    unfold fJ3_checkIndex
    refine A_iload_n hC dJ3_checkIndex_8e157_0 rfl ?_
    refine A_if_lt (tgt := 9) hC dJ3_checkIndex_8e157_1 (by decide) A_none ?_
    refine A_iload_n hC dJ3_checkIndex_8e157_4 rfl ?_
    refine A_iload_n hC dJ3_checkIndex_8e157_5 rfl ?_
    refine A_icmp_lt (tgt := 16) hC dJ3_checkIndex_8e157_6 (by decide) ?_ A_none
    refine A_iload_n hC dJ3_checkIndex_8e157_16 rfl ?_
    exact A_iret hC dJ3_checkIndex_8e157_17
def fJ0_checkIndex (i n : Int32) (D : ADD) : Option (Unit × ADD) := aBind (fJ3_checkIndex i n D) (fun _ D1 => some ((), D1))
theorem mJ0_checkIndex (l : Launch) (g : AGl) (i n : Int32) (D : ADD) : AM aVv l yJ0_checkIndex_df160 cJ0_checkIndex_df160 2 none 1 g [.int i, .int n] D (fJ0_checkIndex i n D) := by
  refine AM_of (own := RJ0) (by decide +kernel) rfl (Nat.le_of_ble_eq_true rfl) rfl (fun b hC => ?_)
  unfold fJ0_checkIndex
  refine A_iload_n hC dJ0_checkIndex_df160_0 rfl ?_
  refine A_iload_n hC dJ0_checkIndex_df160_1 rfl ?_
  refine A_xfmt hC w_495 dJ0_checkIndex_df160_2 (fun v hv => ?_)
  refine A_callSi (As := [.int i, .int n, v]) (st := []) hC (fun l => mJ3_checkIndex l g v hv i n D) yc_J0_1059 rfl rfl ⟨by decide, by decide⟩ (Nat.le_of_ble_eq_true rfl) rfl dJ0_checkIndex_df160_5 (fun x D1 => ?_)
  refine A_pop hC dJ0_checkIndex_df160_8 rfl ?_
  exact A_vret hC dJ0_checkIndex_df160_9
def fJ1_charAt (si : Nat) (j : Int32) (D : ADD) : Option (Int32 × ADD) := aBind (fJ0_checkIndex j (Int32.ofNat (aTl si)) D) (fun _ D1 => aIn j (aTl si) (some (aTc si j.toNatClampNeg &&& 255, D1)))
theorem mJ1_charAt (l : Launch) (g : AGl) (si : Nat) (hs : si < 8) (j : Int32) (D : ADD) : AM aVi l yJ1_charAt_3b067 cJ1_charAt_3b067 2 (some .char) 2 g [.ref (g.2.2.2.2.1.2.2.2 si), .int j] D (fJ1_charAt si j D) := by
  refine AM_of (own := RJ1) (by decide +kernel) rfl (Nat.le_of_ble_eq_true rfl) rfl (fun b hC => ?_)
  unfold fJ1_charAt
  refine A_iload_n hC dJ1_charAt_3b067_0 rfl ?_
  refine A_aload_n hC dJ1_charAt_3b067_1 rfl ?_
  refine A_xlen hs hC dJ1_charAt_3b067_2 ?_
  refine A_callSv (As := [.int j, .int (Int32.ofNat (aTl si))]) (st := []) hC (fun l => mJ0_checkIndex l g j (Int32.ofNat (aTl si)) D) yc_J1_9 rfl rfl ⟨by decide, by decide⟩ (Nat.le_of_ble_eq_true rfl) rfl dJ1_charAt_3b067_3 (fun _ D1 => ?_)
  refine A_aload_n hC dJ1_charAt_3b067_6 rfl ?_
  refine A_iload_n hC dJ1_charAt_3b067_7 rfl ?_
  refine A_xbal hs hC dJ1_charAt_3b067_8 ?_
  refine A_sipush (v := 255) hC dJ1_charAt_3b067_9 (by decide) ?_
  refine A_iand hC dJ1_charAt_3b067_12 ?_
  refine A_i2c hC dJ1_charAt_3b067_13 ?_
  rw [sc_c2]
  exact A_tret hC dJ1_charAt_3b067_14 (sc_nar _)
def fJ0_isLatin1 (D : ADD) : Option (Int32 × ADD) := some (1, D)
theorem mJ0_isLatin1 (l : Launch) (g : AGl) (si : Nat) (hs : si < 8) (D : ADD) : AM aVi l yJ0_isLatin1_aae02 cJ0_isLatin1_aae02 1 (some .boolean) 0 g [.ref (g.2.2.2.2.1.2.2.1 si)] D (fJ0_isLatin1 D) := by
  refine AM_of (own := RJ0) (by decide +kernel) rfl (Nat.le_of_ble_eq_true rfl) rfl (fun b hC => ?_)
  unfold fJ0_isLatin1
  refine A_xcomp hC w_479 dJ0_isLatin1_aae02_0 ?_
  refine A_ifeq_nt (tgt := 17) hC dJ0_isLatin1_aae02_3 (by decide) (by decide) ?_
  refine A_aload_n hC dJ0_isLatin1_aae02_6 rfl ?_
  refine A_xcod hs hC w_1521 dJ0_isLatin1_aae02_7 ?_
  refine A_ifne_nt (tgt := 17) hC dJ0_isLatin1_aae02_10 (by decide) rfl ?_
  refine A_iconst (v := 1) hC dJ0_isLatin1_aae02_13 (by decide) ?_
  refine A_goto (tgt := 18) hC dJ0_isLatin1_aae02_14 (by decide) ?_
  exact A_zret hC dJ0_isLatin1_aae02_18 (Or.inr rfl)
def fJ0_coder (D : ADD) : Option (Int32 × ADD) := some (0, D)
theorem mJ0_coder (l : Launch) (g : AGl) (si : Nat) (hs : si < 8) (D : ADD) : AM aVi l yJ0_coder_7d493 cJ0_coder_7d493 1 (some .byte) 0 g [.ref (g.2.2.2.2.1.2.2.1 si)] D (fJ0_coder D) := by
  refine AM_of (own := RJ0) (by decide +kernel) rfl (Nat.le_of_ble_eq_true rfl) rfl (fun b hC => ?_)
  unfold fJ0_coder
  refine A_xcomp hC w_479 dJ0_coder_7d493_0 ?_
  refine A_ifeq_nt (tgt := 13) hC dJ0_coder_7d493_3 (by decide) (by decide) ?_
  refine A_aload_n hC dJ0_coder_7d493_6 rfl ?_
  refine A_xcod hs hC w_1521 dJ0_coder_7d493_7 ?_
  refine A_goto (tgt := 14) hC dJ0_coder_7d493_10 (by decide) ?_
  exact A_tret hC dJ0_coder_7d493_14 (by decide)
def fJ0_length_8abf5 (si : Nat) (D : ADD) : Option (Int32 × ADD) := aBind (fJ0_coder D) (fun x D1 => some (Int32.ofNat (aTl si) >>> (x &&& 31), D1))
theorem mJ0_length_8abf5 (l : Launch) (g : AGl) (si : Nat) (hs : si < 8) (D : ADD) : AM aVi l yJ0_length_8abf5 cJ0_length_8abf5 1 (some .int) 1 g [.ref (g.2.2.2.2.1.2.2.1 si)] D (fJ0_length_8abf5 si D) := by
  refine AM_of (own := RJ0) (by decide +kernel) rfl (Nat.le_of_ble_eq_true rfl) rfl (fun b hC => ?_)
  unfold fJ0_length_8abf5
  refine A_aload_n hC dJ0_length_8abf5_0 rfl ?_
  refine A_xval hs hC w_1520 dJ0_length_8abf5_1 ?_
  refine A_xlen hs hC dJ0_length_8abf5_4 ?_
  refine A_aload_n hC dJ0_length_8abf5_5 rfl ?_
  refine A_callX (As := []) (st := [.int (Int32.ofNat (aTl si))]) hC (fun l => mJ0_coder l g si hs D) hs rfl yc_J0_335 rfl rfl ⟨by decide, by decide⟩ (Nat.le_of_ble_eq_true rfl) rfl dJ0_length_8abf5_6 (fun x D1 => ?_)
  refine A_ishr hC dJ0_length_8abf5_9 ?_
  exact A_iret hC dJ0_length_8abf5_10
def fJ0_charAt_5068e (si : Nat) (j : Int32) (D : ADD) : Option (Int32 × ADD) := aBind (fJ0_isLatin1 D) (fun x D1 => if x = 0 then none else aBind (fJ1_charAt si j D1) (fun y D2 => aCh y (some (y, D2))))
theorem mJ0_charAt_5068e (l : Launch) (g : AGl) (si : Nat) (hs : si < 8) (j : Int32) (D : ADD) : AM aVi l yJ0_charAt_5068e cJ0_charAt_5068e 2 (some .char) 3 g [.ref (g.2.2.2.2.1.2.2.1 si), .int j] D (fJ0_charAt_5068e si j D) := by
  refine AM_of (own := RJ0) (by decide +kernel) rfl (Nat.le_of_ble_eq_true rfl) rfl (fun b hC => ?_)
  unfold fJ0_charAt_5068e
  refine A_aload_n hC dJ0_charAt_5068e_0 rfl ?_
  refine A_callX (As := []) (st := []) hC (fun l => mJ0_isLatin1 l g si hs D) hs rfl yc_J0_492 rfl rfl ⟨by decide, by decide⟩ (Nat.le_of_ble_eq_true rfl) rfl dJ0_charAt_5068e_1 (fun x D1 => ?_)
  refine A_if_eq (tgt := 16) hC dJ0_charAt_5068e_4 (by decide) A_none ?_
  refine A_aload_n hC dJ0_charAt_5068e_7 rfl ?_
  refine A_xval hs hC w_1520 dJ0_charAt_5068e_8 ?_
  refine A_iload_n hC dJ0_charAt_5068e_11 rfl ?_
  refine A_callSi (As := [.ref (g.2.2.2.2.1.2.2.2 si), .int j]) (st := []) hC (fun l => mJ1_charAt l g si hs j D1) yc_J0_495 rfl rfl ⟨by decide, by decide⟩ (Nat.le_of_ble_eq_true rfl) rfl dJ0_charAt_5068e_12 (fun y D2 => ?_)
  exact A_cret hC dJ0_charAt_5068e_15
