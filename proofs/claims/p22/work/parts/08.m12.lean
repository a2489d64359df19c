def lX7_setAside_5 (a1 : Int32) (j50 : ADD → Option (Unit × ADD)) (L5 : Int32 → ADD → Option (Unit × ADD)) (x2 : Int32) (D2 : ADD) : Option (Unit × ADD) := (if (D2.1 50 1) < x2 then j50 D2 else aIn (x2 - (D2.1 50 0)) 301 (aBind (fX4_offOf a1 x2 D2) (fun x3 D3 => aIn (x2 - (D2.1 50 0)) 301 (aLet (aSI D3 52 (x2 - (D2.1 50 0)).toNatClampNeg ((D2.1 51 (x2 - (D2.1 50 0)).toNatClampNeg) + ((4 : Int32) * x3))) (fun D4 => aLet (x2 + (1 : Int32)) (fun x4 => L5 x4 D4))))))
def fX7_setAside (a1 : Int32) (D : ADD) : Option (Unit × ADD) := aLet (D.1 50 0) (fun x1 => aLet (fun (D1 : ADD) => some ((), D1)) (fun (j50 : ADD → Option (Unit × ADD)) => aLet (aFix aFuel (lX7_setAside_5 a1 j50) (fun _ _ => none)) (fun j5 => j5 x1 D)))
set_option maxHeartbeats 4000000 in
set_option maxRecDepth 100000 in
theorem mX7_setAside (l : Launch) (g : AGl) (hL : aLX g) (a1 : Int32) (D : ADD) : AM aVv l yX7_setAside cX7_setAside 4 none 3 g [.ref (g.1 + 50), .ref (g.1 + 43), .int a1] D (fX7_setAside a1 D) := by
  refine AM_of (lv0 := [some (.ref (g.1 + 50)), some (.ref (g.1 + 43)), some (.int a1), none]) (own := RX7) (by decide +kernel) rfl (Nat.le_of_ble_eq_true rfl) rfl (fun b hC => ?_)
  unfold fX7_setAside
  refine A_aload_n hC dX7_setAside_0 rfl ?_
  refine A_geti (kf := 0) hC kX7 (lX_50 hL) rfl (by decide) (by decide) rfl w_272 dX7_setAside_1 ?_
  refine A_topi (fun x1 => ?_)
  refine A_istore_n (lv2 := [some (.ref (g.1 + 50)), some (.ref (g.1 + 43)), some (.int a1), some (.int x1)]) hC dX7_setAside_4 (Nat.le_of_ble_eq_true rfl) rfl rfl ?_
  refine A_join (fun (J : ADD → Option (Unit × ADD)) => ∀ (D1 : ADD), AT aVv g b 50 [none, none, none, none] [] D1 (J D1)) (fun D1 => ?_) (fun j50 hj50 => ?_)
  · exact A_vret hC dX7_setAside_50
  refine A_join (fun (J : Int32 → ADD → Option (Unit × ADD)) => ∀ (x2 : Int32) (D2 : ADD), AT aVv g b 5 [some (.ref (g.1 + 50)), some (.ref (g.1 + 43)), some (.int a1), some (.int x2)] [] D2 (J x2 D2)) (aFix_all (fun (J : Int32 → ADD → Option (Unit × ADD)) => ∀ (x2 : Int32) (D2 : ADD), AT aVv g b 5 [some (.ref (g.1 + 50)), some (.ref (g.1 + 43)), some (.int a1), some (.int x2)] [] D2 (J x2 D2)) (fun _ _ => A_none) (fun L5 hL5 x2 D2 => ?_) _) (fun j5 hj5 => ?_)
  · unfold lX7_setAside_5
    refine A_iload_n hC dX7_setAside_5 rfl ?_
    refine A_aload_n hC dX7_setAside_6 rfl ?_
    refine A_geti (kf := 1) hC kX7 (lX_50 hL) rfl (by decide) (by decide) rfl w_273 dX7_setAside_7 ?_
    refine A_icmp_gt (tgt := 50) hC dX7_setAside_10 (by decide) ?_ ?_
    · exact A_to (hj50 D2) (trivial)
    · refine A_aload_n hC dX7_setAside_13 rfl ?_
      refine A_getr (kf := 3) hC kX7 (lX_50 hL) rfl (by decide) (by decide) rfl rfl w_275 dX7_setAside_14 ?_
      refine A_iload_n hC dX7_setAside_17 rfl ?_
      refine A_aload_n hC dX7_setAside_18 rfl ?_
      refine A_geti (kf := 0) hC kX7 (lX_50 hL) rfl (by decide) (by decide) rfl w_272 dX7_setAside_19 ?_
      refine A_isub hC dX7_setAside_22 ?_
      refine A_aload_n hC dX7_setAside_23 rfl ?_
      refine A_getr (kf := 2) hC kX7 (lX_50 hL) rfl (by decide) (by decide) rfl rfl w_274 dX7_setAside_24 ?_
      refine A_iload_n hC dX7_setAside_27 rfl ?_
      refine A_aload_n hC dX7_setAside_28 rfl ?_
      refine A_geti (kf := 0) hC kX7 (lX_50 hL) rfl (by decide) (by decide) rfl w_272 dX7_setAside_29 ?_
      refine A_isub hC dX7_setAside_32 ?_
      refine A_iald hC (lX_51 hL) dX7_setAside_33 ?_
      refine A_iconst (v := 4) hC dX7_setAside_34 (by decide) ?_
      refine A_aload_n hC dX7_setAside_35 rfl ?_
      refine A_iload_n hC dX7_setAside_36 rfl ?_
      refine A_iload_n hC dX7_setAside_37 rfl ?_
      refine A_callVi (As := [.int a1, .int x2]) (st := [.int (4 : Int32), .int (D2.1 51 (x2 - (D2.1 50 0)).toNatClampNeg), .int (x2 - (D2.1 50 0)), .ref (g.1 + 52)]) hC (fun l => mX4_offOf l g hL a1 x2 D2) (lX_43 hL) rfl (Nat.le_of_ble_eq_true rfl) yc_X7_79 rfl rfl ⟨by decide, by decide⟩ (Nat.le_of_ble_eq_true rfl) rfl dX7_setAside_38 (fun x3 D3 => ?_)
      refine A_imul hC dX7_setAside_41 ?_
      refine A_iadd hC dX7_setAside_42 ?_
      refine A_iast hC (lX_52 hL) dX7_setAside_43 (fun D4 => ?_)
      refine A_iincL (z := (1 : Int32)) (lv2 := fun x4 => [some (.ref (g.1 + 50)), some (.ref (g.1 + 43)), some (.int a1), some (.int x4)]) hC dX7_setAside_44 rfl (by decide) (Nat.le_of_ble_eq_true rfl) rfl (fun _ => rfl) (fun x4 => ?_)
      refine A_goto (tgt := 5) hC dX7_setAside_47 (by decide) ?_
      exact A_to (hL5 x4 D4) (And.intro rfl (And.intro rfl (And.intro rfl (And.intro rfl (trivial)))))
  exact A_to (hj5 x1 D) (And.intro rfl (And.intro rfl (And.intro rfl (And.intro rfl (trivial)))))
def lX7_sumOfTwo_6 (a1 : Int32) (a2 : Int32) (j48 : Int64 → ADD → Option (Int64 × ADD)) (L6 : Int64 → Int32 → ADD → Option (Int64 × ADD)) (x2 : Int64) (x3 : Int32) (D2 : ADD) : Option (Int64 × ADD) := (if (D2.1 43 0) ≤ x3 then j48 x2 D2 else aBind (fX4_offOf x3 a1 D2) (fun x4 D3 => aBind (fX4_offOf x3 a2 D3) (fun x5 D4 => aLet (x2 + (aMin (x4 * a2) (x5 * a1)).toInt64) (fun x6 => aLet (x3 + (1 : Int32)) (fun x7 => L6 x6 x7 D4)))))
def fX7_sumOfTwo (a1 : Int32) (a2 : Int32) (D : ADD) : Option (Int64 × ADD) := aLet (fun (x1 : Int64) (D1 : ADD) => some ((((a1.toInt64 * a2.toInt64) * (D1.1 43 0).toInt64) - ((4 : Int64) * x1)), D1)) (fun (j48 : Int64 → ADD → Option (Int64 × ADD)) => aLet (aFix aFuel (lX7_sumOfTwo_6 a1 a2 j48) (fun _ _ _ => none)) (fun j6 => j6 (0 : Int64) (0 : Int32) D))
set_option maxHeartbeats 4000000 in
set_option maxRecDepth 100000 in
theorem mX7_sumOfTwo (l : Launch) (g : AGl) (hL : aLX g) (a1 : Int32) (a2 : Int32) (D : ADD) : AM aVl l yX7_sumOfTwo cX7_sumOfTwo 7 (some .long) 3 g [.ref (g.1 + 50), .ref (g.1 + 43), .int a1, .int a2] D (fX7_sumOfTwo a1 a2 D) := by
  refine AM_of (lv0 := [some (.ref (g.1 + 50)), some (.ref (g.1 + 43)), some (.int a1), some (.int a2), none, none, none]) (own := RX7) (by decide +kernel) rfl (Nat.le_of_ble_eq_true rfl) rfl (fun b hC => ?_)
  unfold fX7_sumOfTwo
  refine A_lconst (v := 0) hC dX7_sumOfTwo_0 (by decide) ?_
  refine A_lstore (lv2 := [some (.ref (g.1 + 50)), some (.ref (g.1 + 43)), some (.int a1), some (.int a2), some (.long (0 : Int64)), none, none]) hC dX7_sumOfTwo_1 (Nat.le_of_ble_eq_true rfl) rfl rfl ?_
  refine A_iconst (v := 0) hC dX7_sumOfTwo_3 (by decide) ?_
  refine A_istore (lv2 := [some (.ref (g.1 + 50)), some (.ref (g.1 + 43)), some (.int a1), some (.int a2), some (.long (0 : Int64)), none, some (.int (0 : Int32))]) hC dX7_sumOfTwo_4 (Nat.le_of_ble_eq_true rfl) rfl rfl ?_
  refine A_join (fun (J : Int64 → ADD → Option (Int64 × ADD)) => ∀ (x1 : Int64) (D1 : ADD), AT aVl g b 48 [none, some (.ref (g.1 + 43)), some (.int a1), some (.int a2), some (.long x1), none, none] [] D1 (J x1 D1)) (fun x1 D1 => ?_) (fun j48 hj48 => ?_)
  · refine A_iload_n hC dX7_sumOfTwo_48 rfl ?_
    refine A_i2l hC dX7_sumOfTwo_49 ?_
    refine A_iload_n hC dX7_sumOfTwo_50 rfl ?_
    refine A_i2l hC dX7_sumOfTwo_51 ?_
    refine A_lmul hC dX7_sumOfTwo_52 ?_
    refine A_aload_n hC dX7_sumOfTwo_53 rfl ?_
    refine A_geti (kf := 0) hC kX4 (lX_43 hL) rfl (by decide) (by decide) rfl w_239 dX7_sumOfTwo_54 ?_
    refine A_i2l hC dX7_sumOfTwo_57 ?_
    refine A_lmul hC dX7_sumOfTwo_58 ?_
    refine A_ldc2 hC dX7_sumOfTwo_59 w_773 ?_
    refine A_lload hC dX7_sumOfTwo_62 rfl ?_
    refine A_lmul hC dX7_sumOfTwo_64 ?_
    refine A_lsub hC dX7_sumOfTwo_65 ?_
    exact A_lret hC dX7_sumOfTwo_66
  refine A_join (fun (J : Int64 → Int32 → ADD → Option (Int64 × ADD)) => ∀ (x2 : Int64) (x3 : Int32) (D2 : ADD), AT aVl g b 6 [none, some (.ref (g.1 + 43)), some (.int a1), some (.int a2), some (.long x2), none, some (.int x3)] [] D2 (J x2 x3 D2)) (aFix_all (fun (J : Int64 → Int32 → ADD → Option (Int64 × ADD)) => ∀ (x2 : Int64) (x3 : Int32) (D2 : ADD), AT aVl g b 6 [none, some (.ref (g.1 + 43)), some (.int a1), some (.int a2), some (.long x2), none, some (.int x3)] [] D2 (J x2 x3 D2)) (fun _ _ _ => A_none) (fun L6 hL6 x2 x3 D2 => ?_) _) (fun j6 hj6 => ?_)
  · unfold lX7_sumOfTwo_6
    refine A_iload hC dX7_sumOfTwo_6 rfl ?_
    refine A_aload_n hC dX7_sumOfTwo_8 rfl ?_
    refine A_geti (kf := 0) hC kX4 (lX_43 hL) rfl (by decide) (by decide) rfl w_239 dX7_sumOfTwo_9 ?_
    refine A_icmp_ge (tgt := 48) hC dX7_sumOfTwo_12 (by decide) ?_ ?_
    · exact A_to (hj48 x2 D2) (And.intro rfl (And.intro rfl (And.intro rfl (And.intro rfl (trivial)))))
    · refine A_lload hC dX7_sumOfTwo_15 rfl ?_
      refine A_aload_n hC dX7_sumOfTwo_17 rfl ?_
      refine A_iload hC dX7_sumOfTwo_18 rfl ?_
      refine A_iload_n hC dX7_sumOfTwo_20 rfl ?_
      refine A_callVi (As := [.int x3, .int a1]) (st := [.long x2]) hC (fun l => mX4_offOf l g hL x3 a1 D2) (lX_43 hL) rfl (Nat.le_of_ble_eq_true rfl) yc_X7_79 rfl rfl ⟨by decide, by decide⟩ (Nat.le_of_ble_eq_true rfl) rfl dX7_sumOfTwo_21 (fun x4 D3 => ?_)
      refine A_iload_n hC dX7_sumOfTwo_24 rfl ?_
      refine A_imul hC dX7_sumOfTwo_25 ?_
      refine A_aload_n hC dX7_sumOfTwo_26 rfl ?_
      refine A_iload hC dX7_sumOfTwo_27 rfl ?_
      refine A_iload_n hC dX7_sumOfTwo_29 rfl ?_
      refine A_callVi (As := [.int x3, .int a2]) (st := [.int (x4 * a2), .long x2]) hC (fun l => mX4_offOf l g hL x3 a2 D3) (lX_43 hL) rfl (Nat.le_of_ble_eq_true rfl) yc_X7_79 rfl rfl ⟨by decide, by decide⟩ (Nat.le_of_ble_eq_true rfl) rfl dX7_sumOfTwo_30 (fun x5 D4 => ?_)
      refine A_iload_n hC dX7_sumOfTwo_33 rfl ?_
      refine A_imul hC dX7_sumOfTwo_34 ?_
      refine A_mmin hC w_715 w_567 w_16 w_568 rfl (by decide) (Nat.le_of_ble_eq_true rfl) dX7_sumOfTwo_35 ?_
      refine A_i2l hC dX7_sumOfTwo_38 ?_
      refine A_ladd hC dX7_sumOfTwo_39 ?_
      refine A_topl (fun x6 => ?_)
      refine A_lstore (lv2 := [none, some (.ref (g.1 + 43)), some (.int a1), some (.int a2), some (.long x6), none, some (.int x3)]) hC dX7_sumOfTwo_40 (Nat.le_of_ble_eq_true rfl) rfl rfl ?_
      refine A_iincL (z := (1 : Int32)) (lv2 := fun x7 => [none, some (.ref (g.1 + 43)), some (.int a1), some (.int a2), some (.long x6), none, some (.int x7)]) hC dX7_sumOfTwo_42 rfl (by decide) (Nat.le_of_ble_eq_true rfl) rfl (fun _ => rfl) (fun x7 => ?_)
      refine A_goto (tgt := 6) hC dX7_sumOfTwo_45 (by decide) ?_
      exact A_to (hL6 x6 x7 D4) (And.intro rfl (And.intro rfl (And.intro rfl (And.intro rfl (And.intro rfl (trivial))))))
  exact A_to (hj6 (0 : Int64) (0 : Int32) D) (And.intro rfl (And.intro rfl (And.intro rfl (And.intro rfl (And.intro rfl (trivial))))))
def fX10_stone (a1 : Int32) (a2 : Int32) (a3 : Int32) (D : ADD) : Option (Int32 × ADD) := aBind (fX0_list a1 a2 a3 D) (fun x1 D1 => some (x1, D1))
set_option maxHeartbeats 4000000 in
set_option maxRecDepth 100000 in
theorem mX10_stone (l : Launch) (g : AGl) (hL : aLX g) (a1 : Int32) (a2 : Int32) (a3 : Int32) (D : ADD) : AM aVi l yX10_stone cX10_stone 4 (some .int) 4 g [.ref (g.1 + 0), .int a1, .int a2, .int a3] D (fX10_stone a1 a2 a3 D) := by
  refine AM_of (lv0 := [some (.ref (g.1 + 0)), some (.int a1), some (.int a2), some (.int a3)]) (own := RX10) (by decide +kernel) rfl (Nat.le_of_ble_eq_true rfl) rfl (fun b hC => ?_)
  unfold fX10_stone
  refine A_aload_n hC dX10_stone_0 rfl ?_
  refine A_getr (kf := 0) hC kX10 (lX_0 hL) rfl (by decide) (by decide) rfl rfl w_305 dX10_stone_1 ?_
  refine A_getr (kf := 0) hC kX8 (lX_1 hL) rfl (by decide) (by decide) rfl rfl w_163 dX10_stone_4 ?_
  refine A_iload_n hC dX10_stone_7 rfl ?_
  refine A_iload_n hC dX10_stone_8 rfl ?_
  refine A_iload_n hC dX10_stone_9 rfl ?_
  refine A_callVi (As := [.int a1, .int a2, .int a3]) (st := []) hC (fun l => mX0_list l g hL a1 a2 a3 D) (lX_2 hL) rfl (Nat.le_of_ble_eq_true rfl) yc_X10_62 rfl rfl ⟨by decide, by decide⟩ (Nat.le_of_ble_eq_true rfl) rfl dX10_stone_10 (fun x1 D1 => ?_)
  exact A_iret hC dX10_stone_13
def fX10_tell (a1 : Int32) (a2 : Int32) (a3 : Int32) (D : ADD) : Option (Int32 × ADD) := aBind (fX0_retell a1 a2 a3 D) (fun x1 D1 => aZ x1 (some (x1, D1)))
set_option maxHeartbeats 4000000 in
set_option maxRecDepth 100000 in
theorem mX10_tell (l : Launch) (g : AGl) (hL : aLX g) (a1 : Int32) (a2 : Int32) (a3 : Int32) (D : ADD) : AM aVi l yX10_tell cX10_tell 4 (some .boolean) 4 g [.ref (g.1 + 0), .int a1, .int a2, .int a3] D (fX10_tell a1 a2 a3 D) := by
  refine AM_of (lv0 := [some (.ref (g.1 + 0)), some (.int a1), some (.int a2), some (.int a3)]) (own := RX10) (by decide +kernel) rfl (Nat.le_of_ble_eq_true rfl) rfl (fun b hC => ?_)
  unfold fX10_tell
  refine A_aload_n hC dX10_tell_0 rfl ?_
  refine A_getr (kf := 0) hC kX10 (lX_0 hL) rfl (by decide) (by decide) rfl rfl w_305 dX10_tell_1 ?_
  refine A_getr (kf := 0) hC kX8 (lX_1 hL) rfl (by decide) (by decide) rfl rfl w_163 dX10_tell_4 ?_
  refine A_iload_n hC dX10_tell_7 rfl ?_
  refine A_iload_n hC dX10_tell_8 rfl ?_
  refine A_iload_n hC dX10_tell_9 rfl ?_
  refine A_callVi (As := [.int a1, .int a2, .int a3]) (st := []) hC (fun l => mX0_retell l g hL a1 a2 a3 D) (lX_2 hL) rfl (Nat.le_of_ble_eq_true rfl) yc_X10_68 rfl rfl ⟨by decide, by decide⟩ (Nat.le_of_ble_eq_true rfl) rfl dX10_tell_10 (fun x1 D1 => ?_)
  exact A_zretc hC dX10_tell_13
def lX11_chanceOf_6 (a1 : Int32) (j51 : ADD → Option (Int64 × ADD)) (L6 : Int32 → ADD → Option (Int64 × ADD)) (x3 : Int32) (D5 : ADD) : Option (Int64 × ADD) := (if (D5.1 0 41) ≤ x3 then j51 D5 else aIn x3 32 (aLet (fun (D6 : ADD) => aLet (x3 + (1 : Int32)) (fun x4 => L6 x4 D6)) (fun (j45 : ADD → Option (Int64 × ADD)) => (if (aBz (D5.1 35 x3.toNatClampNeg)) = 0 then j45 D5 else aIn x3 32 (aIn x3 32 (aBind (fX11_likely a1 ((D5.1 34 x3.toNatClampNeg) - (D5.1 33 x3.toNatClampNeg)) D5) (fun x5 D7 => aBind (fX11_draw x5 a1 D7) (fun _ D8 => j45 D8))))))))
def fX11_chanceOf (a1 : Int32) (D : ADD) : Option (Int64 × ADD) := aBind (fX11_beginChances D) (fun _ D1 => aLet (fun (D2 : ADD) => aBind (fX11_nearOf a1 D2) (fun x1 D3 => aBind (fX11_chancesFrom x1 D3) (fun x2 D4 => some (x2, D4)))) (fun (j51 : ADD → Option (Int64 × ADD)) => aLet (aFix aFuel (lX11_chanceOf_6 a1 j51) (fun _ _ => none)) (fun j6 => j6 (0 : Int32) D1)))
set_option maxHeartbeats 4000000 in
set_option maxRecDepth 100000 in
theorem mX11_chanceOf (l : Launch) (g : AGl) (hL : aLM g) (a1 : Int32) (D : ADD) : AM aVl l yX11_chanceOf cX11_chanceOf 3 (some .long) 4 g [.ref (g.1 + 0), .int a1] D (fX11_chanceOf a1 D) := by
  refine AM_of (lv0 := [some (.ref (g.1 + 0)), some (.int a1), none]) (own := RX11) (by decide +kernel) rfl (Nat.le_of_ble_eq_true rfl) rfl (fun b hC => ?_)
  unfold fX11_chanceOf
  refine A_aload_n hC dX11_chanceOf_0 rfl ?_
  refine A_callVv (As := []) (st := []) hC (fun l => mX11_beginChances l g hL D) (lM_0 hL) rfl (Nat.le_of_ble_eq_true rfl) yc_X11_364 rfl rfl ⟨by decide, by decide⟩ (Nat.le_of_ble_eq_true rfl) rfl dX11_chanceOf_1 (fun _ D1 => ?_)
  refine A_iconst (v := 0) hC dX11_chanceOf_4 (by decide) ?_
  refine A_istore_n (lv2 := [some (.ref (g.1 + 0)), some (.int a1), some (.int (0 : Int32))]) hC dX11_chanceOf_5 (Nat.le_of_ble_eq_true rfl) rfl rfl ?_
  refine A_join (fun (J : ADD → Option (Int64 × ADD)) => ∀ (D2 : ADD), AT aVl g b 51 [some (.ref (g.1 + 0)), some (.int a1), none] [] D2 (J D2)) (fun D2 => ?_) (fun j51 hj51 => ?_)
  · refine A_aload_n hC dX11_chanceOf_51 rfl ?_
    refine A_aload_n hC dX11_chanceOf_52 rfl ?_
    refine A_iload_n hC dX11_chanceOf_53 rfl ?_
    refine A_callVi (As := [.int a1]) (st := [.ref (g.1 + 0)]) hC (fun l => mX11_nearOf l g hL a1 D2) (lM_0 hL) rfl (Nat.le_of_ble_eq_true rfl) yc_X11_373 rfl rfl ⟨by decide, by decide⟩ (Nat.le_of_ble_eq_true rfl) rfl dX11_chanceOf_54 (fun x1 D3 => ?_)
    refine A_callVl (As := [.int x1]) (st := []) hC (fun l => mX11_chancesFrom l g hL x1 D3) (lM_0 hL) rfl (Nat.le_of_ble_eq_true rfl) yc_X11_376 rfl rfl ⟨by decide, by decide⟩ (Nat.le_of_ble_eq_true rfl) rfl dX11_chanceOf_57 (fun x2 D4 => ?_)
    exact A_lret hC dX11_chanceOf_60
  refine A_join (fun (J : Int32 → ADD → Option (Int64 × ADD)) => ∀ (x3 : Int32) (D5 : ADD), AT aVl g b 6 [some (.ref (g.1 + 0)), some (.int a1), some (.int x3)] [] D5 (J x3 D5)) (aFix_all (fun (J : Int32 → ADD → Option (Int64 × ADD)) => ∀ (x3 : Int32) (D5 : ADD), AT aVl g b 6 [some (.ref (g.1 + 0)), some (.int a1), some (.int x3)] [] D5 (J x3 D5)) (fun _ _ => A_none) (fun L6 hL6 x3 D5 => ?_) _) (fun j6 hj6 => ?_)
  · unfold lX11_chanceOf_6
    refine A_iload_n hC dX11_chanceOf_6 rfl ?_
    refine A_aload_n hC dX11_chanceOf_7 rfl ?_
    refine A_geti (kf := 41) hC kX11 (lM_0 hL) rfl (by decide) (by decide) rfl w_1044 dX11_chanceOf_8 ?_
    refine A_icmp_ge (tgt := 51) hC dX11_chanceOf_11 (by decide) ?_ ?_
    · exact A_to (hj51 D5) (And.intro rfl (And.intro rfl (trivial)))
    · refine A_aload_n hC dX11_chanceOf_14 rfl ?_
      refine A_getr (kf := 46) hC kX11 (lM_0 hL) rfl (by decide) (by decide) rfl rfl w_1049 dX11_chanceOf_15 ?_
      refine A_iload_n hC dX11_chanceOf_18 rfl ?_
      refine A_zald hC (lM_35 hL) dX11_chanceOf_19 ?_
      refine A_join (fun (J : ADD → Option (Int64 × ADD)) => ∀ (D6 : ADD), AT aVl g b 45 [some (.ref (g.1 + 0)), some (.int a1), some (.int x3)] [] D6 (J D6)) (fun D6 => ?_) (fun j45 hj45 => ?_)
      · refine A_iincL (z := (1 : Int32)) (lv2 := fun x4 => [some (.ref (g.1 + 0)), some (.int a1), some (.int x4)]) hC dX11_chanceOf_45 rfl (by decide) (Nat.le_of_ble_eq_true rfl) rfl (fun _ => rfl) (fun x4 => ?_)
        refine A_goto (tgt := 6) hC dX11_chanceOf_48 (by decide) ?_
        exact A_to (hL6 x4 D6) (And.intro rfl (And.intro rfl (And.intro rfl (trivial))))
      refine A_if_eq (tgt := 45) hC dX11_chanceOf_20 (by decide) ?_ ?_
      · exact A_to (hj45 D5) (And.intro rfl (And.intro rfl (And.intro rfl (trivial))))
      · refine A_aload_n hC dX11_chanceOf_23 rfl ?_
        refine A_iload_n hC dX11_chanceOf_24 rfl ?_
        refine A_aload_n hC dX11_chanceOf_25 rfl ?_
        refine A_getr (kf := 45) hC kX11 (lM_0 hL) rfl (by decide) (by decide) rfl rfl w_1048 dX11_chanceOf_26 ?_
        refine A_iload_n hC dX11_chanceOf_29 rfl ?_
        refine A_iald hC (lM_34 hL) dX11_chanceOf_30 ?_
        refine A_aload_n hC dX11_chanceOf_31 rfl ?_
        refine A_getr (kf := 44) hC kX11 (lM_0 hL) rfl (by decide) (by decide) rfl rfl w_1047 dX11_chanceOf_32 ?_
        refine A_iload_n hC dX11_chanceOf_35 rfl ?_
        refine A_iald hC (lM_33 hL) dX11_chanceOf_36 ?_
        refine A_isub hC dX11_chanceOf_37 ?_
        refine A_callSi (As := [.int a1, .int ((D5.1 34 x3.toNatClampNeg) - (D5.1 33 x3.toNatClampNeg))]) (st := [.ref (g.1 + 0)]) hC (fun l => mX11_likely l g a1 ((D5.1 34 x3.toNatClampNeg) - (D5.1 33 x3.toNatClampNeg)) D5) yc_X11_367 rfl rfl ⟨by decide, by decide⟩ (Nat.le_of_ble_eq_true rfl) rfl dX11_chanceOf_38 (fun x5 D7 => ?_)
        refine A_iload_n hC dX11_chanceOf_41 rfl ?_
        refine A_callVv (As := [.int x5, .int a1]) (st := []) hC (fun l => mX11_draw l g hL x5 a1 D7) (lM_0 hL) rfl (Nat.le_of_ble_eq_true rfl) yc_X11_370 rfl rfl ⟨by decide, by decide⟩ (Nat.le_of_ble_eq_true rfl) rfl dX11_chanceOf_42 (fun _ D8 => ?_)
        exact A_to (hj45 D8) (And.intro rfl (And.intro rfl (And.intro rfl (trivial))))
  exact A_to (hj6 (0 : Int32) D1) (And.intro rfl (And.intro rfl (And.intro rfl (trivial))))
def lX11_findScores_2 (a1 : Int32) (a2 : Int32) (j26 : ADD → Option (Unit × ADD)) (L2 : Int32 → ADD → Option (Unit × ADD)) (x1 : Int32) (D2 : ADD) : Option (Unit × ADD) := (if a2 < x1 then j26 D2 else aBind (fX11_scoreOf x1 D2) (fun x2 D3 => aIn (x1 - a1) 301 (aLet (aSI D3 36 (x1 - a1).toNatClampNeg x2) (fun D4 => aLet (x1 + (1 : Int32)) (fun x3 => L2 x3 D4)))))
def fX11_findScores (a1 : Int32) (a2 : Int32) (D : ADD) : Option (Unit × ADD) := aLet (fun (D1 : ADD) => some ((), D1)) (fun (j26 : ADD → Option (Unit × ADD)) => aLet (aFix aFuel (lX11_findScores_2 a1 a2 j26) (fun _ _ => none)) (fun j2 => j2 a1 D))
set_option maxHeartbeats 4000000 in
set_option maxRecDepth 100000 in
theorem mX11_findScores (l : Launch) (g : AGl) (hL : aLM g) (a1 : Int32) (a2 : Int32) (D : ADD) : AM aVv l yX11_findScores cX11_findScores 4 none 4 g [.ref (g.1 + 0), .int a1, .int a2] D (fX11_findScores a1 a2 D) := by
  refine AM_of (lv0 := [some (.ref (g.1 + 0)), some (.int a1), some (.int a2), none]) (own := RX11) (by decide +kernel) rfl (Nat.le_of_ble_eq_true rfl) rfl (fun b hC => ?_)
  unfold fX11_findScores
  refine A_iload_n hC dX11_findScores_0 rfl ?_
  refine A_istore_n (lv2 := [some (.ref (g.1 + 0)), some (.int a1), some (.int a2), some (.int a1)]) hC dX11_findScores_1 (Nat.le_of_ble_eq_true rfl) rfl rfl ?_
  refine A_join (fun (J : ADD → Option (Unit × ADD)) => ∀ (D1 : ADD), AT aVv g b 26 [none, none, none, none] [] D1 (J D1)) (fun D1 => ?_) (fun j26 hj26 => ?_)
  · exact A_vret hC dX11_findScores_26
  refine A_join (fun (J : Int32 → ADD → Option (Unit × ADD)) => ∀ (x1 : Int32) (D2 : ADD), AT aVv g b 2 [some (.ref (g.1 + 0)), some (.int a1), some (.int a2), some (.int x1)] [] D2 (J x1 D2)) (aFix_all (fun (J : Int32 → ADD → Option (Unit × ADD)) => ∀ (x1 : Int32) (D2 : ADD), AT aVv g b 2 [some (.ref (g.1 + 0)), some (.int a1), some (.int a2), some (.int x1)] [] D2 (J x1 D2)) (fun _ _ => A_none) (fun L2 hL2 x1 D2 => ?_) _) (fun j2 hj2 => ?_)
  · unfold lX11_findScores_2
    refine A_iload_n hC dX11_findScores_2 rfl ?_
    refine A_iload_n hC dX11_findScores_3 rfl ?_
    refine A_icmp_gt (tgt := 26) hC dX11_findScores_4 (by decide) ?_ ?_
    · exact A_to (hj26 D2) (trivial)
    · refine A_aload_n hC dX11_findScores_7 rfl ?_
      refine A_getr (kf := 47) hC kX11 (lM_0 hL) rfl (by decide) (by decide) rfl rfl w_1050 dX11_findScores_8 ?_
      refine A_iload_n hC dX11_findScores_11 rfl ?_
      refine A_iload_n hC dX11_findScores_12 rfl ?_
      refine A_isub hC dX11_findScores_13 ?_
      refine A_aload_n hC dX11_findScores_14 rfl ?_
      refine A_iload_n hC dX11_findScores_15 rfl ?_
      refine A_callVi (As := [.int x1]) (st := [.int (x1 - a1), .ref (g.1 + 36)]) hC (fun l => mX11_scoreOf l g hL x1 D2) (lM_0 hL) rfl (Nat.le_of_ble_eq_true rfl) yc_X11_330 rfl rfl ⟨by decide, by decide⟩ (Nat.le_of_ble_eq_true rfl) rfl dX11_findScores_16 (fun x2 D3 => ?_)
      refine A_iast hC (lM_36 hL) dX11_findScores_19 (fun D4 => ?_)
      refine A_iincL (z := (1 : Int32)) (lv2 := fun x3 => [some (.ref (g.1 + 0)), some (.int a1), some (.int a2), some (.int x3)]) hC dX11_findScores_20 rfl (by decide) (Nat.le_of_ble_eq_true rfl) rfl (fun _ => rfl) (fun x3 => ?_)
      refine A_goto (tgt := 2) hC dX11_findScores_23 (by decide) ?_
      exact A_to (hL2 x3 D4) (And.intro rfl (And.intro rfl (And.intro rfl (And.intro rfl (trivial)))))
  exact A_to (hj2 a1 D) (And.intro rfl (And.intro rfl (And.intro rfl (And.intro rfl (trivial)))))
def lX11_pair_63 (x9 : Int32) (j125 : Int32 → Int32 → Int64 → ADD → Option (Int32 × ADD)) (L63 : Int32 → Int32 → Int64 → Int32 → ADD → Option (Int32 × ADD)) (x14 : Int32) (x15 : Int32) (x16 : Int64) (x17 : Int32) (D9 : ADD) : Option (Int32 × ADD) := (if x9 ≤ x17 then j125 x14 x15 x16 D9 else aBind (fX11_sumOf x17 x9 D9) (fun x18 D10 => aLet (fun (x19 : Int32) (x20 : Int32) (x21 : Int64) (D11 : ADD) => aLet (x17 + (1 : Int32)) (fun x22 => L63 x19 x20 x21 x22 D11)) (fun (j119 : Int32 → Int32 → Int64 → ADD → Option (Int32 × ADD)) => aLet (fun (D12 : ADD) => j119 x17 x9 x18 D12) (fun (j108 : ADD → Option (Int32 × ADD)) => (if x15 = 0 then j108 D10 else (if (aCmp ((x18 * x14.toInt64) * x15.toInt64) ((x16 * x17.toInt64) * x9.toInt64)) < 0 then j119 x14 x15 x16 D10 else j108 D10))))))
def lX11_pair_54 (a1 : Int32) (a2 : Int32) (j131 : Int32 → Int32 → ADD → Option (Int32 × ADD)) (L54 : Int32 → Int32 → Int64 → Int32 → ADD → Option (Int32 × ADD)) (x6 : Int32) (x7 : Int32) (x8 : Int64) (x9 : Int32) (D7 : ADD) : Option (Int32 × ADD) := (if a2 < x9 then j131 x6 x7 D7 else aLet (fun (x10 : Int32) (x11 : Int32) (x12 : Int64) (D8 : ADD) => aLet (x9 + (1 : Int32)) (fun x13 => L54 x10 x11 x12 x13 D8)) (fun (j125 : Int32 → Int32 → Int64 → ADD → Option (Int32 × ADD)) => aLet (aFix aFuel (lX11_pair_63 x9 j125) (fun _ _ _ _ _ => none)) (fun j63 => j63 x6 x7 x8 a1 D7)))
def fX11_pair (a1 : Int32) (a2 : Int32) (D : ADD) : Option (Int32 × ADD) := aLet (aSI D 0 0 (0 : Int32)) (fun D1 => aBind (fX11_areUnits a1 a2 D1) (fun x1 D2 => aLet (fun (D3 : ADD) => some ((-1 : Int32), D3)) (fun (j26 : ADD → Option (Int32 × ADD)) => (if x1 = 0 then j26 D2 else (if a1 = a2 then j26 D2 else (if (a2 - a1) ≤ (40 : Int32) then aBind (fX11_look D2) (fun _ D4 => aBind (fX11_those D4) (fun x2 D5 => (if x2 = 0 then some ((-1 : Int32), D5) else aLet (a1 + (1 : Int32)) (fun x3 => aLet (fun (x4 : Int32) (x5 : Int32) (D6 : ADD) => some ((((10000 : Int32) * x5) + x4), D6)) (fun (j131 : Int32 → Int32 → ADD → Option (Int32 × ADD)) => aLet (aFix aFuel (lX11_pair_54 a1 a2 j131) (fun _ _ _ _ _ => none)) (fun j54 => j54 (0 : Int32) (0 : Int32) (0 : Int64) x3 D5)))))) else j26 D2))))))
set_option maxHeartbeats 4000000 in
set_option maxRecDepth 100000 in
theorem mX11_pair (l : Launch) (g : AGl) (hL : aLM g) (a1 : Int32) (a2 : Int32) (D : ADD) : AM aVi l yX11_pair cX11_pair 11 (some .int) 4 g [.ref (g.1 + 0), .int a1, .int a2] D (fX11_pair a1 a2 D) := by
  refine AM_of (lv0 := [some (.ref (g.1 + 0)), some (.int a1), some (.int a2), none, none, none, none, none, none, none, none]) (own := RX11) (by decide +kernel) rfl (Nat.le_of_ble_eq_true rfl) rfl (fun b hC => ?_)
  unfold fX11_pair
  refine A_aload_n hC dX11_pair_0 rfl ?_
  refine A_iconst (v := 0) hC dX11_pair_1 (by decide) ?_
  refine A_puti (kf := 0) hC kX11 (lM_0 hL) rfl (by decide) (by decide) rfl rfl rfl w_1003 dX11_pair_2 (fun D1 => ?_)
  refine A_iload_n hC dX11_pair_5 rfl ?_
  refine A_iload_n hC dX11_pair_6 rfl ?_
  refine A_callSi (As := [.int a1, .int a2]) (st := []) hC (fun l => mX11_areUnits l g a1 a2 D1) yc_X11_340 rfl rfl ⟨by decide, by decide⟩ (Nat.le_of_ble_eq_true rfl) rfl dX11_pair_7 (fun x1 D2 => ?_)
  refine A_join (fun (J : ADD → Option (Int32 × ADD)) => ∀ (D3 : ADD), AT aVi g b 26 [none, none, none, none, none, none, none, none, none, none, none] [] D3 (J D3)) (fun D3 => ?_) (fun j26 hj26 => ?_)
  · refine A_iconst (v := -1) hC dX11_pair_26 (by decide) ?_
    exact A_iret hC dX11_pair_27
  refine A_if_eq (tgt := 26) hC dX11_pair_10 (by decide) ?_ ?_
  · exact A_to (hj26 D2) (trivial)
  · refine A_iload_n hC dX11_pair_13 rfl ?_
    refine A_iload_n hC dX11_pair_14 rfl ?_
    refine A_icmp_eq (tgt := 26) hC dX11_pair_15 (by decide) ?_ ?_
    · exact A_to (hj26 D2) (trivial)
    · refine A_iload_n hC dX11_pair_18 rfl ?_
      refine A_iload_n hC dX11_pair_19 rfl ?_
      refine A_isub hC dX11_pair_20 ?_
      refine A_bipush (v := 40) hC dX11_pair_21 (by decide) ?_
      refine A_icmp_le (tgt := 28) hC dX11_pair_23 (by decide) ?_ ?_
      · refine A_aload_n hC dX11_pair_28 rfl ?_
        refine A_callVv (As := []) (st := []) hC (fun l => mX11_look l g hL D2) (lM_0 hL) rfl (Nat.le_of_ble_eq_true rfl) yc_X11_311 rfl rfl ⟨by decide, by decide⟩ (Nat.le_of_ble_eq_true rfl) rfl dX11_pair_29 (fun _ D4 => ?_)
        refine A_aload_n hC dX11_pair_32 rfl ?_
        refine A_callVi (As := []) (st := []) hC (fun l => mX11_those l g hL D4) (lM_0 hL) rfl (Nat.le_of_ble_eq_true rfl) yc_X11_344 rfl rfl ⟨by decide, by decide⟩ (Nat.le_of_ble_eq_true rfl) rfl dX11_pair_33 (fun x2 D5 => ?_)
        refine A_if_ne (tgt := 41) hC dX11_pair_36 (by decide) ?_ ?_
        · refine A_iconst (v := 0) hC dX11_pair_41 (by decide) ?_
          refine A_istore_n (lv2 := [some (.ref (g.1 + 0)), some (.int a1), some (.int a2), some (.int (0 : Int32)), none, none, none, none, none, none, none]) hC dX11_pair_42 (Nat.le_of_ble_eq_true rfl) rfl rfl ?_
          refine A_iconst (v := 0) hC dX11_pair_43 (by decide) ?_
          refine A_istore (lv2 := [some (.ref (g.1 + 0)), some (.int a1), some (.int a2), some (.int (0 : Int32)), some (.int (0 : Int32)), none, none, none, none, none, none]) hC dX11_pair_44 (Nat.le_of_ble_eq_true rfl) rfl rfl ?_
          refine A_lconst (v := 0) hC dX11_pair_46 (by decide) ?_
          refine A_lstore (lv2 := [some (.ref (g.1 + 0)), some (.int a1), some (.int a2), some (.int (0 : Int32)), some (.int (0 : Int32)), some (.long (0 : Int64)), none, none, none, none, none]) hC dX11_pair_47 (Nat.le_of_ble_eq_true rfl) rfl rfl ?_
          refine A_iload_n hC dX11_pair_49 rfl ?_
          refine A_iconst (v := 1) hC dX11_pair_50 (by decide) ?_
          refine A_iadd hC dX11_pair_51 ?_
          refine A_topi (fun x3 => ?_)
          refine A_istore (lv2 := [some (.ref (g.1 + 0)), some (.int a1), some (.int a2), some (.int (0 : Int32)), some (.int (0 : Int32)), some (.long (0 : Int64)), none, some (.int x3), none, none, none]) hC dX11_pair_52 (Nat.le_of_ble_eq_true rfl) rfl rfl ?_
          refine A_join (fun (J : Int32 → Int32 → ADD → Option (Int32 × ADD)) => ∀ (x4 : Int32) (x5 : Int32) (D6 : ADD), AT aVi g b 131 [none, none, none, some (.int x4), some (.int x5), none, none, none, none, none, none] [] D6 (J x4 x5 D6)) (fun x4 x5 D6 => ?_) (fun j131 hj131 => ?_)
          · refine A_sipush (v := 10000) hC dX11_pair_131 (by decide) ?_
            refine A_iload hC dX11_pair_134 rfl ?_
            refine A_imul hC dX11_pair_136 ?_
            refine A_iload_n hC dX11_pair_137 rfl ?_
            refine A_iadd hC dX11_pair_138 ?_
            exact A_iret hC dX11_pair_139
          refine A_join (fun (J : Int32 → Int32 → Int64 → Int32 → ADD → Option (Int32 × ADD)) => ∀ (x6 : Int32) (x7 : Int32) (x8 : Int64) (x9 : Int32) (D7 : ADD), AT aVi g b 54 [some (.ref (g.1 + 0)), some (.int a1), some (.int a2), some (.int x6), some (.int x7), some (.long x8), none, some (.int x9), none, none, none] [] D7 (J x6 x7 x8 x9 D7)) (aFix_all (fun (J : Int32 → Int32 → Int64 → Int32 → ADD → Option (Int32 × ADD)) => ∀ (x6 : Int32) (x7 : Int32) (x8 : Int64) (x9 : Int32) (D7 : ADD), AT aVi g b 54 [some (.ref (g.1 + 0)), some (.int a1), some (.int a2), some (.int x6), some (.int x7), some (.long x8), none, some (.int x9), none, none, none] [] D7 (J x6 x7 x8 x9 D7)) (fun _ _ _ _ _ => A_none) (fun L54 hL54 x6 x7 x8 x9 D7 => ?_) _) (fun j54 hj54 => ?_)
          · unfold lX11_pair_54
            refine A_iload hC dX11_pair_54 rfl ?_
            refine A_iload_n hC dX11_pair_56 rfl ?_
            refine A_icmp_gt (tgt := 131) hC dX11_pair_57 (by decide) ?_ ?_
            · exact A_to (hj131 x6 x7 D7) (And.intro rfl (And.intro rfl (trivial)))
            · refine A_iload_n hC dX11_pair_60 rfl ?_
              refine A_istore (lv2 := [some (.ref (g.1 + 0)), some (.int a1), some (.int a2), some (.int x6), some (.int x7), some (.long x8), none, some (.int x9), some (.int a1), none, none]) hC dX11_pair_61 (Nat.le_of_ble_eq_true rfl) rfl rfl ?_
              refine A_join (fun (J : Int32 → Int32 → Int64 → ADD → Option (Int32 × ADD)) => ∀ (x10 : Int32) (x11 : Int32) (x12 : Int64) (D8 : ADD), AT aVi g b 125 [some (.ref (g.1 + 0)), some (.int a1), some (.int a2), some (.int x10), some (.int x11), some (.long x12), none, some (.int x9), none, none, none] [] D8 (J x10 x11 x12 D8)) (fun x10 x11 x12 D8 => ?_) (fun j125 hj125 => ?_)
              · refine A_iincL (z := (1 : Int32)) (lv2 := fun x13 => [some (.ref (g.1 + 0)), some (.int a1), some (.int a2), some (.int x10), some (.int x11), some (.long x12), none, some (.int x13), none, none, none]) hC dX11_pair_125 rfl (by decide) (Nat.le_of_ble_eq_true rfl) rfl (fun _ => rfl) (fun x13 => ?_)
                refine A_goto (tgt := 54) hC dX11_pair_128 (by decide) ?_
                exact A_to (hL54 x10 x11 x12 x13 D8) (And.intro rfl (And.intro rfl (And.intro rfl (And.intro rfl (And.intro rfl (And.intro rfl (And.intro rfl (trivial))))))))
              refine A_join (fun (J : Int32 → Int32 → Int64 → Int32 → ADD → Option (Int32 × ADD)) => ∀ (x14 : Int32) (x15 : Int32) (x16 : Int64) (x17 : Int32) (D9 : ADD), AT aVi g b 63 [some (.ref (g.1 + 0)), some (.int a1), some (.int a2), some (.int x14), some (.int x15), some (.long x16), none, some (.int x9), some (.int x17), none, none] [] D9 (J x14 x15 x16 x17 D9)) (aFix_all (fun (J : Int32 → Int32 → Int64 → Int32 → ADD → Option (Int32 × ADD)) => ∀ (x14 : Int32) (x15 : Int32) (x16 : Int64) (x17 : Int32) (D9 : ADD), AT aVi g b 63 [some (.ref (g.1 + 0)), some (.int a1), some (.int a2), some (.int x14), some (.int x15), some (.long x16), none, some (.int x9), some (.int x17), none, none] [] D9 (J x14 x15 x16 x17 D9)) (fun _ _ _ _ _ => A_none) (fun L63 hL63 x14 x15 x16 x17 D9 => ?_) _) (fun j63 hj63 => ?_)
              · unfold lX11_pair_63
                refine A_iload hC dX11_pair_63 rfl ?_
                refine A_iload hC dX11_pair_65 rfl ?_
                refine A_icmp_ge (tgt := 125) hC dX11_pair_67 (by decide) ?_ ?_
                · exact A_to (hj125 x14 x15 x16 D9) (And.intro rfl (And.intro rfl (And.intro rfl (And.intro rfl (And.intro rfl (And.intro rfl (And.intro rfl (trivial))))))))
                · refine A_aload_n hC dX11_pair_70 rfl ?_
                  refine A_iload hC dX11_pair_71 rfl ?_
                  refine A_iload hC dX11_pair_73 rfl ?_
                  refine A_callVl (As := [.int x17, .int x9]) (st := []) hC (fun l => mX11_sumOf l g hL x17 x9 D9) (lM_0 hL) rfl (Nat.le_of_ble_eq_true rfl) yc_X11_356 rfl rfl ⟨by decide, by decide⟩ (Nat.le_of_ble_eq_true rfl) rfl dX11_pair_75 (fun x18 D10 => ?_)
                  refine A_lstore (lv2 := [some (.ref (g.1 + 0)), some (.int a1), some (.int a2), some (.int x14), some (.int x15), some (.long x16), none, some (.int x9), some (.int x17), some (.long x18), none]) hC dX11_pair_78 (Nat.le_of_ble_eq_true rfl) rfl rfl ?_
                  refine A_iload hC dX11_pair_80 rfl ?_
                  refine A_join (fun (J : Int32 → Int32 → Int64 → ADD → Option (Int32 × ADD)) => ∀ (x19 : Int32) (x20 : Int32) (x21 : Int64) (D11 : ADD), AT aVi g b 119 [some (.ref (g.1 + 0)), some (.int a1), some (.int a2), some (.int x19), some (.int x20), some (.long x21), none, some (.int x9), some (.int x17), none, none] [] D11 (J x19 x20 x21 D11)) (fun x19 x20 x21 D11 => ?_) (fun j119 hj119 => ?_)
                  · refine A_iincL (z := (1 : Int32)) (lv2 := fun x22 => [some (.ref (g.1 + 0)), some (.int a1), some (.int a2), some (.int x19), some (.int x20), some (.long x21), none, some (.int x9), some (.int x22), none, none]) hC dX11_pair_119 rfl (by decide) (Nat.le_of_ble_eq_true rfl) rfl (fun _ => rfl) (fun x22 => ?_)
                    refine A_goto (tgt := 63) hC dX11_pair_122 (by decide) ?_
                    exact A_to (hL63 x19 x20 x21 x22 D11) (And.intro rfl (And.intro rfl (And.intro rfl (And.intro rfl (And.intro rfl (And.intro rfl (And.intro rfl (And.intro rfl (trivial)))))))))
                  refine A_join (fun (J : ADD → Option (Int32 × ADD)) => ∀ (D12 : ADD), AT aVi g b 108 [some (.ref (g.1 + 0)), some (.int a1), some (.int a2), none, none, none, none, some (.int x9), some (.int x17), some (.long x18), none] [] D12 (J D12)) (fun D12 => ?_) (fun j108 hj108 => ?_)
                  · refine A_lload hC dX11_pair_108 rfl ?_
                    refine A_lstore (lv2 := [some (.ref (g.1 + 0)), some (.int a1), some (.int a2), none, none, some (.long x18), none, some (.int x9), some (.int x17), some (.long x18), none]) hC dX11_pair_110 (Nat.le_of_ble_eq_true rfl) rfl rfl ?_
                    refine A_iload hC dX11_pair_112 rfl ?_
                    refine A_istore_n (lv2 := [some (.ref (g.1 + 0)), some (.int a1), some (.int a2), some (.int x17), none, some (.long x18), none, some (.int x9), some (.int x17), some (.long x18), none]) hC dX11_pair_114 (Nat.le_of_ble_eq_true rfl) rfl rfl ?_
                    refine A_iload hC dX11_pair_115 rfl ?_
                    refine A_istore (lv2 := [some (.ref (g.1 + 0)), some (.int a1), some (.int a2), some (.int x17), some (.int x9), some (.long x18), none, some (.int x9), some (.int x17), some (.long x18), none]) hC dX11_pair_117 (Nat.le_of_ble_eq_true rfl) rfl rfl ?_
                    exact A_to (hj119 x17 x9 x18 D12) (And.intro rfl (And.intro rfl (And.intro rfl (And.intro rfl (And.intro rfl (And.intro rfl (And.intro rfl (And.intro rfl (trivial)))))))))
                  refine A_if_eq (tgt := 108) hC dX11_pair_82 (by decide) ?_ ?_
                  · exact A_to (hj108 D10) (And.intro rfl (And.intro rfl (And.intro rfl (And.intro rfl (And.intro rfl (And.intro rfl (trivial)))))))
                  · refine A_lload hC dX11_pair_85 rfl ?_
                    refine A_iload_n hC dX11_pair_87 rfl ?_
                    refine A_i2l hC dX11_pair_88 ?_
                    refine A_lmul hC dX11_pair_89 ?_
                    refine A_iload hC dX11_pair_90 rfl ?_
                    refine A_i2l hC dX11_pair_92 ?_
                    refine A_lmul hC dX11_pair_93 ?_
                    refine A_lload hC dX11_pair_94 rfl ?_
                    refine A_iload hC dX11_pair_96 rfl ?_
                    refine A_i2l hC dX11_pair_98 ?_
                    refine A_lmul hC dX11_pair_99 ?_
                    refine A_iload hC dX11_pair_100 rfl ?_
                    refine A_i2l hC dX11_pair_102 ?_
                    refine A_lmul hC dX11_pair_103 ?_
                    refine A_lcmp hC dX11_pair_104 ?_
                    refine A_if_lt (tgt := 119) hC dX11_pair_105 (by decide) ?_ ?_
                    · exact A_to (hj119 x14 x15 x16 D10) (And.intro rfl (And.intro rfl (And.intro rfl (And.intro rfl (And.intro rfl (And.intro rfl (And.intro rfl (And.intro rfl (trivial)))))))))
                    · exact A_to (hj108 D10) (And.intro rfl (And.intro rfl (And.intro rfl (And.intro rfl (And.intro rfl (And.intro rfl (trivial)))))))
              exact A_to (hj63 x6 x7 x8 a1 D7) (And.intro rfl (And.intro rfl (And.intro rfl (And.intro rfl (And.intro rfl (And.intro rfl (And.intro rfl (And.intro rfl (trivial)))))))))
          exact A_to (hj54 (0 : Int32) (0 : Int32) (0 : Int64) x3 D5) (And.intro rfl (And.intro rfl (And.intro rfl (And.intro rfl (And.intro rfl (And.intro rfl (And.intro rfl (trivial))))))))
        · refine A_iconst (v := -1) hC dX11_pair_39 (by decide) ?_
          exact A_iret hC dX11_pair_40
      · exact A_to (hj26 D2) (trivial)
def fX11_score (a1 : Int32) (D : ADD) : Option (Int32 × ADD) := aLet (aSI D 0 0 (0 : Int32)) (fun D1 => aBind (fX11_isUnit a1 D1) (fun x1 D2 => (if x1 = 0 then some ((-1000000000 : Int32), D2) else aBind (fX11_look D2) (fun _ D3 => aBind (fX11_scoreOf a1 D3) (fun x2 D4 => some (x2, D4))))))
set_option maxHeartbeats 4000000 in
set_option maxRecDepth 100000 in
theorem mX11_score (l : Launch) (g : AGl) (hL : aLM g) (a1 : Int32) (D : ADD) : AM aVi l yX11_score cX11_score 2 (some .int) 4 g [.ref (g.1 + 0), .int a1] D (fX11_score a1 D) := by
  refine AM_of (lv0 := [some (.ref (g.1 + 0)), some (.int a1)]) (own := RX11) (by decide +kernel) rfl (Nat.le_of_ble_eq_true rfl) rfl (fun b hC => ?_)
  unfold fX11_score
  refine A_aload_n hC dX11_score_0 rfl ?_
  refine A_iconst (v := 0) hC dX11_score_1 (by decide) ?_
  refine A_puti (kf := 0) hC kX11 (lM_0 hL) rfl (by decide) (by decide) rfl rfl rfl w_1003 dX11_score_2 (fun D1 => ?_)
  refine A_iload_n hC dX11_score_5 rfl ?_
  refine A_callSi (As := [.int a1]) (st := []) hC (fun l => mX11_isUnit l g a1 D1) yc_X11_314 rfl rfl ⟨by decide, by decide⟩ (Nat.le_of_ble_eq_true rfl) rfl dX11_score_6 (fun x1 D2 => ?_)
  refine A_if_ne (tgt := 16) hC dX11_score_9 (by decide) ?_ ?_
  · refine A_aload_n hC dX11_score_16 rfl ?_
    refine A_callVv (As := []) (st := []) hC (fun l => mX11_look l g hL D2) (lM_0 hL) rfl (Nat.le_of_ble_eq_true rfl) yc_X11_311 rfl rfl ⟨by decide, by decide⟩ (Nat.le_of_ble_eq_true rfl) rfl dX11_score_17 (fun _ D3 => ?_)
    refine A_aload_n hC dX11_score_20 rfl ?_
    refine A_iload_n hC dX11_score_21 rfl ?_
    refine A_callVi (As := [.int a1]) (st := []) hC (fun l => mX11_scoreOf l g hL a1 D3) (lM_0 hL) rfl (Nat.le_of_ble_eq_true rfl) yc_X11_330 rfl rfl ⟨by decide, by decide⟩ (Nat.le_of_ble_eq_true rfl) rfl dX11_score_22 (fun x2 D4 => ?_)
    exact A_iret hC dX11_score_25
  · refine A_ldcw hC dX11_score_12 w_1356 ?_
    exact A_iret hC dX11_score_15
def fX11_sum (a1 : Int32) (a2 : Int32) (D : ADD) : Option (Int64 × ADD) := aLet (aSI D 0 0 (0 : Int32)) (fun D1 => aBind (fX11_isUnit a1 D1) (fun x1 D2 => aLet (fun (D3 : ADD) => some ((-1000000000000 : Int64), D3)) (fun (j24 : ADD → Option (Int64 × ADD)) => (if x1 = 0 then j24 D2 else aBind (fX11_isUnit a2 D2) (fun x2 D4 => (if x2 = 0 then j24 D4 else (if a1 < a2 then aBind (fX11_look D4) (fun _ D5 => aBind (fX11_sumOf a1 a2 D5) (fun x3 D6 => some (x3, D6))) else j24 D4)))))))
set_option maxHeartbeats 4000000 in
set_option maxRecDepth 100000 in
theorem mX11_sum (l : Launch) (g : AGl) (hL : aLM g) (a1 : Int32) (a2 : Int32) (D : ADD) : AM aVl l yX11_sum cX11_sum 3 (some .long) 4 g [.ref (g.1 + 0), .int a1, .int a2] D (fX11_sum a1 a2 D) := by
  refine AM_of (lv0 := [some (.ref (g.1 + 0)), some (.int a1), some (.int a2)]) (own := RX11) (by decide +kernel) rfl (Nat.le_of_ble_eq_true rfl) rfl (fun b hC => ?_)
  unfold fX11_sum
  refine A_aload_n hC dX11_sum_0 rfl ?_
  refine A_iconst (v := 0) hC dX11_sum_1 (by decide) ?_
  refine A_puti (kf := 0) hC kX11 (lM_0 hL) rfl (by decide) (by decide) rfl rfl rfl w_1003 dX11_sum_2 (fun D1 => ?_)
  refine A_iload_n hC dX11_sum_5 rfl ?_
  refine A_callSi (As := [.int a1]) (st := []) hC (fun l => mX11_isUnit l g a1 D1) yc_X11_314 rfl rfl ⟨by decide, by decide⟩ (Nat.le_of_ble_eq_true rfl) rfl dX11_sum_6 (fun x1 D2 => ?_)
  refine A_join (fun (J : ADD → Option (Int64 × ADD)) => ∀ (D3 : ADD), AT aVl g b 24 [none, none, none] [] D3 (J D3)) (fun D3 => ?_) (fun j24 hj24 => ?_)
  · refine A_ldc2 hC dX11_sum_24 w_1408 ?_
    exact A_lret hC dX11_sum_27
  refine A_if_eq (tgt := 24) hC dX11_sum_9 (by decide) ?_ ?_
  · exact A_to (hj24 D2) (trivial)
  · refine A_iload_n hC dX11_sum_12 rfl ?_
    refine A_callSi (As := [.int a2]) (st := []) hC (fun l => mX11_isUnit l g a2 D2) yc_X11_314 rfl rfl ⟨by decide, by decide⟩ (Nat.le_of_ble_eq_true rfl) rfl dX11_sum_13 (fun x2 D4 => ?_)
    refine A_if_eq (tgt := 24) hC dX11_sum_16 (by decide) ?_ ?_
    · exact A_to (hj24 D4) (trivial)
    · refine A_iload_n hC dX11_sum_19 rfl ?_
      refine A_iload_n hC dX11_sum_20 rfl ?_
      refine A_icmp_lt (tgt := 28) hC dX11_sum_21 (by decide) ?_ ?_
      · refine A_aload_n hC dX11_sum_28 rfl ?_
        refine A_callVv (As := []) (st := []) hC (fun l => mX11_look l g hL D4) (lM_0 hL) rfl (Nat.le_of_ble_eq_true rfl) yc_X11_311 rfl rfl ⟨by decide, by decide⟩ (Nat.le_of_ble_eq_true rfl) rfl dX11_sum_29 (fun _ D5 => ?_)
        refine A_aload_n hC dX11_sum_32 rfl ?_
        refine A_iload_n hC dX11_sum_33 rfl ?_
        refine A_iload_n hC dX11_sum_34 rfl ?_
        refine A_callVl (As := [.int a1, .int a2]) (st := []) hC (fun l => mX11_sumOf l g hL a1 a2 D5) (lM_0 hL) rfl (Nat.le_of_ble_eq_true rfl) yc_X11_356 rfl rfl ⟨by decide, by decide⟩ (Nat.le_of_ble_eq_true rfl) rfl dX11_sum_35 (fun x3 D6 => ?_)
        exact A_lret hC dX11_sum_38
      · exact A_to (hj24 D4) (trivial)
def lX11_text_242 (x4 : Int32) (x6 : Int32) (j338 : ADD → Option (Int32 × ADD)) (L242 : Int32 → ADD → Option (Int32 × ADD)) (x8 : Int32) (D27 : ADD) : Option (Int32 × ADD) := aIn x6 17 ((if (D27.1 23 x6.toNatClampNeg) ≤ x8 then j338 D27 else aIn (((4 : Int32) * x6) + x8) 64 (aIn (((4 : Int32) * (x4 + x6)) + x8) 512 (aLet (aSI D27 17 (((4 : Int32) * (x4 + x6)) + x8).toNatClampNeg (D27.1 24 (((4 : Int32) * x6) + x8).toNatClampNeg)) (fun D28 => aIn (((4 : Int32) * x6) + x8) 64 (aIn (((4 : Int32) * (x4 + x6)) + x8) 512 (aLet (aSI D28 18 (((4 : Int32) * (x4 + x6)) + x8).toNatClampNeg (D28.1 25 (((4 : Int32) * x6) + x8).toNatClampNeg)) (fun D29 => aIn (((4 : Int32) * x6) + x8) 64 (aIn (((4 : Int32) * (x4 + x6)) + x8) 512 (aLet (aSI D29 19 (((4 : Int32) * (x4 + x6)) + x8).toNatClampNeg (D29.1 26 (((4 : Int32) * x6) + x8).toNatClampNeg)) (fun D30 => aLet (x8 + (1 : Int32)) (fun x9 => L242 x9 D30))))))))))))
def lX11_text_166 (x4 : Int32) (j344 : ADD → Option (Int32 × ADD)) (L166 : Int32 → ADD → Option (Int32 × ADD)) (x6 : Int32) (D21 : ADD) : Option (Int32 × ADD) := (if (D21.1 0 32) ≤ x6 then j344 D21 else aIn x6 17 (aIn (x4 + x6) 128 (aLet (aSI D21 16 (x4 + x6).toNatClampNeg (D21.1 23 x6.toNatClampNeg)) (fun D22 => aIn x6 17 (aIn (x4 + x6) 128 (aLet (aSI D22 20 (x4 + x6).toNatClampNeg (D22.1 27 x6.toNatClampNeg)) (fun D23 => aIn x6 17 (aIn (x4 + x6) 128 (aLet (aSI D23 21 (x4 + x6).toNatClampNeg (D23.1 28 x6.toNatClampNeg)) (fun D24 => aIn x6 17 (aIn (x4 + x6) 128 (aLet (aSI D24 22 (x4 + x6).toNatClampNeg (D24.1 29 x6.toNatClampNeg)) (fun D25 => aLet (fun (D26 : ADD) => aLet (x6 + (1 : Int32)) (fun x7 => L166 x7 D26)) (fun (j338 : ADD → Option (Int32 × ADD)) => aLet (aFix aFuel (lX11_text_242 x4 x6 j338) (fun _ _ => none)) (fun j242 => j242 (0 : Int32) D25)))))))))))))))
def lX11_text_62 (a1 : Int32) (j82 : Int32 → ADD → Option (Int32 × ADD)) (L62 : Int32 → ADD → Option (Int32 × ADD)) (x10 : Int32) (D31 : ADD) : Option (Int32 × ADD) := (if x10 = 0 then j82 x10 D31 else (if (D31.1 0 26) = 0 then j82 x10 D31 else aBind (fX11_oneLine a1 D31) (fun x11 D32 => L62 x11 D32)))
def fX11_text (a1 : Int32) (D : ADD) : Option (Int32 × ADD) := aLet (aSI D 0 0 (0 : Int32)) (fun D1 => aIn (0 : Int32) 4 (aLet (aSI D1 0 24 (D1.1 2 (0 : Int32).toNatClampNeg)) (fun D2 => aIn (0 : Int32) 4 (aLet (aSI D2 2 (0 : Int32).toNatClampNeg (0 : Int32)) (fun D3 => aIn (0 : Int32) 4 (aLet (aSI D3 3 (0 : Int32).toNatClampNeg (0 : Int32)) (fun D4 => aIn (0 : Int32) 4 (aLet (aSI D4 4 (0 : Int32).toNatClampNeg (-1 : Int32)) (fun D5 => aLet (aSI D5 0 23 (0 : Int32)) (fun D6 => aLet (aSI D6 0 29 (-1 : Int32)) (fun D7 => aLet (aSI D7 0 30 (0 : Int32)) (fun D8 => aLet (aSI D8 0 32 (0 : Int32)) (fun D9 => aBind (fX11_next D9) (fun _ D10 => aLet (fun (x1 : Int32) (D11 : ADD) => aLet (fun (D12 : ADD) => aLet (fun (x2 : Int32) (D13 : ADD) => aIn (0 : Int32) 4 (aLet (aSI D13 3 (0 : Int32).toNatClampNeg x2) (fun D14 => aLet (fun (x3 : Int32) (D15 : ADD) => aIn (0 : Int32) 4 (aLet (aSI D15 4 (0 : Int32).toNatClampNeg x3) (fun D16 => some ((-1 : Int32), D16)))) (fun (j131 : Int32 → ADD → Option (Int32 × ADD)) => (if x1 = 0 then j131 (D14.1 0 29) D14 else j131 (D14.1 0 31) D14))))) (fun (j110 : Int32 → ADD → Option (Int32 × ADD)) => (if x1 = 0 then j110 (1 : Int32) D12 else j110 (D12.1 0 30) D12))) (fun (j93 : ADD → Option (Int32 × ADD)) => (if x1 = 0 then j93 D11 else (if (D11.1 0 30) ≤ 0 then aLet (fun (x4 : Int32) (D17 : ADD) => aLet (fun (x5 : Int32) (D18 : ADD) => aIn x5 8 (aLet (aSI D18 15 x5.toNatClampNeg (D18.1 0 32)) (fun D19 => aLet (fun (D20 : ADD) => some ((D20.1 0 32), D20)) (fun (j344 : ADD → Option (Int32 × ADD)) => aLet (aFix aFuel (lX11_text_166 x4 j344) (fun _ _ => none)) (fun j166 => j166 (0 : Int32) D19))))) (fun (j158 : Int32 → ADD → Option (Int32 × ADD)) => (if a1 = 0 then j158 (0 : Int32) D17 else j158 (1 : Int32) D17))) (fun (j144 : Int32 → ADD → Option (Int32 × ADD)) => (if a1 = 0 then j144 (0 : Int32) D11 else j144 (16 : Int32) D11)) else j93 D11)))) (fun (j82 : Int32 → ADD → Option (Int32 × ADD)) => aLet (aFix aFuel (lX11_text_62 a1 j82) (fun _ _ => none)) (fun j62 => j62 (1 : Int32) D10))))))))))))))))
set_option maxHeartbeats 4000000 in
set_option maxRecDepth 100000 in
theorem mX11_text (l : Launch) (g : AGl) (hL : aLM g) (a1 : Int32) (D : ADD) : AM aVi l yX11_text cX11_text 6 (some .int) 4 g [.ref (g.1 + 0), .int a1] D (fX11_text a1 D) := by
  refine AM_of (lv0 := [some (.ref (g.1 + 0)), some (.int a1), none, none, none, none]) (own := RX11) (by decide +kernel) rfl (Nat.le_of_ble_eq_true rfl) rfl (fun b hC => ?_)
  unfold fX11_text
  refine A_aload_n hC dX11_text_0 rfl ?_
  refine A_iconst (v := 0) hC dX11_text_1 (by decide) ?_
  refine A_puti (kf := 0) hC kX11 (lM_0 hL) rfl (by decide) (by decide) rfl rfl rfl w_1003 dX11_text_2 (fun D1 => ?_)
  refine A_aload_n hC dX11_text_5 rfl ?_
  refine A_aload_n hC dX11_text_6 rfl ?_
  refine A_getr (kf := 2) hC kX11 (lM_0 hL) rfl (by decide) (by decide) rfl rfl w_1005 dX11_text_7 ?_
  refine A_iconst (v := 0) hC dX11_text_10 (by decide) ?_
  refine A_iald hC (lM_2 hL) dX11_text_11 ?_
  refine A_puti (kf := 24) hC kX11 (lM_0 hL) rfl (by decide) (by decide) rfl rfl rfl w_1027 dX11_text_12 (fun D2 => ?_)
  refine A_aload_n hC dX11_text_15 rfl ?_
  refine A_getr (kf := 2) hC kX11 (lM_0 hL) rfl (by decide) (by decide) rfl rfl w_1005 dX11_text_16 ?_
  refine A_iconst (v := 0) hC dX11_text_19 (by decide) ?_
  refine A_iconst (v := 0) hC dX11_text_20 (by decide) ?_
  refine A_iast hC (lM_2 hL) dX11_text_21 (fun D3 => ?_)
  refine A_aload_n hC dX11_text_22 rfl ?_
  refine A_getr (kf := 3) hC kX11 (lM_0 hL) rfl (by decide) (by decide) rfl rfl w_1006 dX11_text_23 ?_
  refine A_iconst (v := 0) hC dX11_text_26 (by decide) ?_
  refine A_iconst (v := 0) hC dX11_text_27 (by decide) ?_
  refine A_iast hC (lM_3 hL) dX11_text_28 (fun D4 => ?_)
  refine A_aload_n hC dX11_text_29 rfl ?_
  refine A_getr (kf := 4) hC kX11 (lM_0 hL) rfl (by decide) (by decide) rfl rfl w_1007 dX11_text_30 ?_
  refine A_iconst (v := 0) hC dX11_text_33 (by decide) ?_
  refine A_iconst (v := -1) hC dX11_text_34 (by decide) ?_
  refine A_iast hC (lM_4 hL) dX11_text_35 (fun D5 => ?_)
  refine A_aload_n hC dX11_text_36 rfl ?_
  refine A_iconst (v := 0) hC dX11_text_37 (by decide) ?_
  refine A_puti (kf := 23) hC kX11 (lM_0 hL) rfl (by decide) (by decide) rfl rfl rfl w_1026 dX11_text_38 (fun D6 => ?_)
  refine A_aload_n hC dX11_text_41 rfl ?_
  refine A_iconst (v := -1) hC dX11_text_42 (by decide) ?_
  refine A_puti (kf := 29) hC kX11 (lM_0 hL) rfl (by decide) (by decide) rfl rfl rfl w_1032 dX11_text_43 (fun D7 => ?_)
  refine A_aload_n hC dX11_text_46 rfl ?_
  refine A_iconst (v := 0) hC dX11_text_47 (by decide) ?_
  refine A_puti (kf := 30) hC kX11 (lM_0 hL) rfl (by decide) (by decide) rfl rfl rfl w_1033 dX11_text_48 (fun D8 => ?_)
  refine A_aload_n hC dX11_text_51 rfl ?_
  refine A_iconst (v := 0) hC dX11_text_52 (by decide) ?_
  refine A_puti (kf := 32) hC kX11 (lM_0 hL) rfl (by decide) (by decide) rfl rfl rfl w_1035 dX11_text_53 (fun D9 => ?_)
  refine A_iconst (v := 1) hC dX11_text_56 (by decide) ?_
  refine A_istore_n (lv2 := [some (.ref (g.1 + 0)), some (.int a1), some (.int (1 : Int32)), none, none, none]) hC dX11_text_57 (Nat.le_of_ble_eq_true rfl) rfl rfl ?_
  refine A_aload_n hC dX11_text_58 rfl ?_
  refine A_callVv (As := []) (st := []) hC (fun l => mX11_next l g hL D9) (lM_0 hL) rfl (Nat.le_of_ble_eq_true rfl) yc_X11_204 rfl rfl ⟨by decide, by decide⟩ (Nat.le_of_ble_eq_true rfl) rfl dX11_text_59 (fun _ D10 => ?_)
  refine A_join (fun (J : Int32 → ADD → Option (Int32 × ADD)) => ∀ (x1 : Int32) (D11 : ADD), AT aVi g b 82 [some (.ref (g.1 + 0)), some (.int a1), some (.int x1), none, none, none] [] D11 (J x1 D11)) (fun x1 D11 => ?_) (fun j82 hj82 => ?_)
  · refine A_iload_n hC dX11_text_82 rfl ?_
    refine A_join (fun (J : ADD → Option (Int32 × ADD)) => ∀ (D12 : ADD), AT aVi g b 93 [some (.ref (g.1 + 0)), none, some (.int x1), none, none, none] [] D12 (J D12)) (fun D12 => ?_) (fun j93 hj93 => ?_)
    · refine A_aload_n hC dX11_text_93 rfl ?_
      refine A_getr (kf := 3) hC kX11 (lM_0 hL) rfl (by decide) (by decide) rfl rfl w_1006 dX11_text_94 ?_
      refine A_iconst (v := 0) hC dX11_text_97 (by decide) ?_
      refine A_iload_n hC dX11_text_98 rfl ?_
      refine A_join (fun (J : Int32 → ADD → Option (Int32 × ADD)) => ∀ (x2 : Int32) (D13 : ADD), AT aVi g b 110 [some (.ref (g.1 + 0)), none, some (.int x1), none, none, none] [.int x2, .int (0 : Int32), .ref (g.1 + 3)] D13 (J x2 D13)) (fun x2 D13 => ?_) (fun j110 hj110 => ?_)
      · refine A_iast hC (lM_3 hL) dX11_text_110 (fun D14 => ?_)
        refine A_aload_n hC dX11_text_111 rfl ?_
        refine A_getr (kf := 4) hC kX11 (lM_0 hL) rfl (by decide) (by decide) rfl rfl w_1007 dX11_text_112 ?_
        refine A_iconst (v := 0) hC dX11_text_115 (by decide) ?_
        refine A_iload_n hC dX11_text_116 rfl ?_
        refine A_join (fun (J : Int32 → ADD → Option (Int32 × ADD)) => ∀ (x3 : Int32) (D15 : ADD), AT aVi g b 131 [none, none, none, none, none, none] [.int x3, .int (0 : Int32), .ref (g.1 + 4)] D15 (J x3 D15)) (fun x3 D15 => ?_) (fun j131 hj131 => ?_)
        · refine A_iast hC (lM_4 hL) dX11_text_131 (fun D16 => ?_)
          refine A_iconst (v := -1) hC dX11_text_132 (by decide) ?_
          exact A_iret hC dX11_text_133
        refine A_if_eq (tgt := 127) hC dX11_text_117 (by decide) ?_ ?_
        · refine A_aload_n hC dX11_text_127 rfl ?_
          refine A_geti (kf := 29) hC kX11 (lM_0 hL) rfl (by decide) (by decide) rfl w_1032 dX11_text_128 ?_
          exact A_to (hj131 (D14.1 0 29) D14) (trivial)
        · refine A_aload_n hC dX11_text_120 rfl ?_
          refine A_geti (kf := 31) hC kX11 (lM_0 hL) rfl (by decide) (by decide) rfl w_1034 dX11_text_121 ?_
          refine A_goto (tgt := 131) hC dX11_text_124 (by decide) ?_
          exact A_to (hj131 (D14.1 0 31) D14) (trivial)
      refine A_if_eq (tgt := 109) hC dX11_text_99 (by decide) ?_ ?_
      · refine A_iconst (v := 1) hC dX11_text_109 (by decide) ?_
        exact A_to (hj110 (1 : Int32) D12) (And.intro rfl (And.intro rfl (trivial)))
      · refine A_aload_n hC dX11_text_102 rfl ?_
        refine A_geti (kf := 30) hC kX11 (lM_0 hL) rfl (by decide) (by decide) rfl w_1033 dX11_text_103 ?_
        refine A_goto (tgt := 110) hC dX11_text_106 (by decide) ?_
        exact A_to (hj110 (D12.1 0 30) D12) (And.intro rfl (And.intro rfl (trivial)))
    refine A_if_eq (tgt := 93) hC dX11_text_83 (by decide) ?_ ?_
    · exact A_to (hj93 D11) (And.intro rfl (And.intro rfl (trivial)))
    · refine A_aload_n hC dX11_text_86 rfl ?_
      refine A_geti (kf := 30) hC kX11 (lM_0 hL) rfl (by decide) (by decide) rfl w_1033 dX11_text_87 ?_
      refine A_if_le (tgt := 134) hC dX11_text_90 (by decide) ?_ ?_
      · refine A_iload_n hC dX11_text_134 rfl ?_
        refine A_join (fun (J : Int32 → ADD → Option (Int32 × ADD)) => ∀ (x4 : Int32) (D17 : ADD), AT aVi g b 144 [some (.ref (g.1 + 0)), some (.int a1), none, none, none, none] [.int x4] D17 (J x4 D17)) (fun x4 D17 => ?_) (fun j144 hj144 => ?_)
        · refine A_istore_n (lv2 := [some (.ref (g.1 + 0)), some (.int a1), none, some (.int x4), none, none]) hC dX11_text_144 (Nat.le_of_ble_eq_true rfl) rfl rfl ?_
          refine A_aload_n hC dX11_text_145 rfl ?_
          refine A_getr (kf := 15) hC kX11 (lM_0 hL) rfl (by decide) (by decide) rfl rfl w_1018 dX11_text_146 ?_
          refine A_iload_n hC dX11_text_149 rfl ?_
          refine A_join (fun (J : Int32 → ADD → Option (Int32 × ADD)) => ∀ (x5 : Int32) (D18 : ADD), AT aVi g b 158 [some (.ref (g.1 + 0)), none, none, some (.int x4), none, none] [.int x5, .ref (g.1 + 15)] D18 (J x5 D18)) (fun x5 D18 => ?_) (fun j158 hj158 => ?_)
          · refine A_aload_n hC dX11_text_158 rfl ?_
            refine A_geti (kf := 32) hC kX11 (lM_0 hL) rfl (by decide) (by decide) rfl w_1035 dX11_text_159 ?_
            refine A_iast hC (lM_15 hL) dX11_text_162 (fun D19 => ?_)
            refine A_iconst (v := 0) hC dX11_text_163 (by decide) ?_
            refine A_istore (lv2 := [some (.ref (g.1 + 0)), none, none, some (.int x4), some (.int (0 : Int32)), none]) hC dX11_text_164 (Nat.le_of_ble_eq_true rfl) rfl rfl ?_
            refine A_join (fun (J : ADD → Option (Int32 × ADD)) => ∀ (D20 : ADD), AT aVi g b 344 [some (.ref (g.1 + 0)), none, none, none, none, none] [] D20 (J D20)) (fun D20 => ?_) (fun j344 hj344 => ?_)
            · refine A_aload_n hC dX11_text_344 rfl ?_
              refine A_geti (kf := 32) hC kX11 (lM_0 hL) rfl (by decide) (by decide) rfl w_1035 dX11_text_345 ?_
              exact A_iret hC dX11_text_348
            refine A_join (fun (J : Int32 → ADD → Option (Int32 × ADD)) => ∀ (x6 : Int32) (D21 : ADD), AT aVi g b 166 [some (.ref (g.1 + 0)), none, none, some (.int x4), some (.int x6), none] [] D21 (J x6 D21)) (aFix_all (fun (J : Int32 → ADD → Option (Int32 × ADD)) => ∀ (x6 : Int32) (D21 : ADD), AT aVi g b 166 [some (.ref (g.1 + 0)), none, none, some (.int x4), some (.int x6), none] [] D21 (J x6 D21)) (fun _ _ => A_none) (fun L166 hL166 x6 D21 => ?_) _) (fun j166 hj166 => ?_)
            · unfold lX11_text_166
              refine A_iload hC dX11_text_166 rfl ?_
              refine A_aload_n hC dX11_text_168 rfl ?_
              refine A_geti (kf := 32) hC kX11 (lM_0 hL) rfl (by decide) (by decide) rfl w_1035 dX11_text_169 ?_
              refine A_icmp_ge (tgt := 344) hC dX11_text_172 (by decide) ?_ ?_
              · exact A_to (hj344 D21) (And.intro rfl (trivial))
              · refine A_aload_n hC dX11_text_175 rfl ?_
                refine A_getr (kf := 16) hC kX11 (lM_0 hL) rfl (by decide) (by decide) rfl rfl w_1019 dX11_text_176 ?_
                refine A_iload_n hC dX11_text_179 rfl ?_
                refine A_iload hC dX11_text_180 rfl ?_
                refine A_iadd hC dX11_text_182 ?_
                refine A_aload_n hC dX11_text_183 rfl ?_
                refine A_getr (kf := 33) hC kX11 (lM_0 hL) rfl (by decide) (by decide) rfl rfl w_1036 dX11_text_184 ?_
                refine A_iload hC dX11_text_187 rfl ?_
                refine A_iald hC (lM_23 hL) dX11_text_189 ?_
                refine A_iast hC (lM_16 hL) dX11_text_190 (fun D22 => ?_)
                refine A_aload_n hC dX11_text_191 rfl ?_
                refine A_getr (kf := 20) hC kX11 (lM_0 hL) rfl (by decide) (by decide) rfl rfl w_1023 dX11_text_192 ?_
                refine A_iload_n hC dX11_text_195 rfl ?_
                refine A_iload hC dX11_text_196 rfl ?_
                refine A_iadd hC dX11_text_198 ?_
                refine A_aload_n hC dX11_text_199 rfl ?_
                refine A_getr (kf := 37) hC kX11 (lM_0 hL) rfl (by decide) (by decide) rfl rfl w_1040 dX11_text_200 ?_
                refine A_iload hC dX11_text_203 rfl ?_
                refine A_iald hC (lM_27 hL) dX11_text_205 ?_
                refine A_iast hC (lM_20 hL) dX11_text_206 (fun D23 => ?_)
                refine A_aload_n hC dX11_text_207 rfl ?_
                refine A_getr (kf := 21) hC kX11 (lM_0 hL) rfl (by decide) (by decide) rfl rfl w_1024 dX11_text_208 ?_
                refine A_iload_n hC dX11_text_211 rfl ?_
                refine A_iload hC dX11_text_212 rfl ?_
                refine A_iadd hC dX11_text_214 ?_
                refine A_aload_n hC dX11_text_215 rfl ?_
                refine A_getr (kf := 38) hC kX11 (lM_0 hL) rfl (by decide) (by decide) rfl rfl w_1041 dX11_text_216 ?_
                refine A_iload hC dX11_text_219 rfl ?_
                refine A_iald hC (lM_28 hL) dX11_text_221 ?_
                refine A_iast hC (lM_21 hL) dX11_text_222 (fun D24 => ?_)
                refine A_aload_n hC dX11_text_223 rfl ?_
                refine A_getr (kf := 22) hC kX11 (lM_0 hL) rfl (by decide) (by decide) rfl rfl w_1025 dX11_text_224 ?_
                refine A_iload_n hC dX11_text_227 rfl ?_
                refine A_iload hC dX11_text_228 rfl ?_
                refine A_iadd hC dX11_text_230 ?_
                refine A_aload_n hC dX11_text_231 rfl ?_
                refine A_getr (kf := 39) hC kX11 (lM_0 hL) rfl (by decide) (by decide) rfl rfl w_1042 dX11_text_232 ?_
                refine A_iload hC dX11_text_235 rfl ?_
                refine A_iald hC (lM_29 hL) dX11_text_237 ?_
                refine A_iast hC (lM_22 hL) dX11_text_238 (fun D25 => ?_)
                refine A_iconst (v := 0) hC dX11_text_239 (by decide) ?_
                refine A_istore (lv2 := [some (.ref (g.1 + 0)), none, none, some (.int x4), some (.int x6), some (.int (0 : Int32))]) hC dX11_text_240 (Nat.le_of_ble_eq_true rfl) rfl rfl ?_
                refine A_join (fun (J : ADD → Option (Int32 × ADD)) => ∀ (D26 : ADD), AT aVi g b 338 [some (.ref (g.1 + 0)), none, none, some (.int x4), some (.int x6), none] [] D26 (J D26)) (fun D26 => ?_) (fun j338 hj338 => ?_)
                · refine A_iincL (z := (1 : Int32)) (lv2 := fun x7 => [some (.ref (g.1 + 0)), none, none, some (.int x4), some (.int x7), none]) hC dX11_text_338 rfl (by decide) (Nat.le_of_ble_eq_true rfl) rfl (fun _ => rfl) (fun x7 => ?_)
                  refine A_goto (tgt := 166) hC dX11_text_341 (by decide) ?_
                  exact A_to (hL166 x7 D26) (And.intro rfl (And.intro rfl (And.intro rfl (trivial))))
                refine A_join (fun (J : Int32 → ADD → Option (Int32 × ADD)) => ∀ (x8 : Int32) (D27 : ADD), AT aVi g b 242 [some (.ref (g.1 + 0)), none, none, some (.int x4), some (.int x6), some (.int x8)] [] D27 (J x8 D27)) (aFix_all (fun (J : Int32 → ADD → Option (Int32 × ADD)) => ∀ (x8 : Int32) (D27 : ADD), AT aVi g b 242 [some (.ref (g.1 + 0)), none, none, some (.int x4), some (.int x6), some (.int x8)] [] D27 (J x8 D27)) (fun _ _ => A_none) (fun L242 hL242 x8 D27 => ?_) _) (fun j242 hj242 => ?_)
                · unfold lX11_text_242
                  refine A_iload hC dX11_text_242 rfl ?_
                  refine A_aload_n hC dX11_text_244 rfl ?_
                  refine A_getr (kf := 33) hC kX11 (lM_0 hL) rfl (by decide) (by decide) rfl rfl w_1036 dX11_text_245 ?_
                  refine A_iload hC dX11_text_248 rfl ?_
                  refine A_iald hC (lM_23 hL) dX11_text_250 ?_
                  refine A_icmp_ge (tgt := 338) hC dX11_text_251 (by decide) ?_ ?_
                  · exact A_to (hj338 D27) (And.intro rfl (And.intro rfl (And.intro rfl (trivial))))
                  · refine A_aload_n hC dX11_text_254 rfl ?_
                    refine A_getr (kf := 17) hC kX11 (lM_0 hL) rfl (by decide) (by decide) rfl rfl w_1020 dX11_text_255 ?_
                    refine A_iconst (v := 4) hC dX11_text_258 (by decide) ?_
                    refine A_iload_n hC dX11_text_259 rfl ?_
                    refine A_iload hC dX11_text_260 rfl ?_
                    refine A_iadd hC dX11_text_262 ?_
                    refine A_imul hC dX11_text_263 ?_
                    refine A_iload hC dX11_text_264 rfl ?_
                    refine A_iadd hC dX11_text_266 ?_
                    refine A_aload_n hC dX11_text_267 rfl ?_
                    refine A_getr (kf := 34) hC kX11 (lM_0 hL) rfl (by decide) (by decide) rfl rfl w_1037 dX11_text_268 ?_
                    refine A_iconst (v := 4) hC dX11_text_271 (by decide) ?_
                    refine A_iload hC dX11_text_272 rfl ?_
                    refine A_imul hC dX11_text_274 ?_
                    refine A_iload hC dX11_text_275 rfl ?_
                    refine A_iadd hC dX11_text_277 ?_
                    refine A_iald hC (lM_24 hL) dX11_text_278 ?_
                    refine A_iast hC (lM_17 hL) dX11_text_279 (fun D28 => ?_)
                    refine A_aload_n hC dX11_text_280 rfl ?_
                    refine A_getr (kf := 18) hC kX11 (lM_0 hL) rfl (by decide) (by decide) rfl rfl w_1021 dX11_text_281 ?_
                    refine A_iconst (v := 4) hC dX11_text_284 (by decide) ?_
                    refine A_iload_n hC dX11_text_285 rfl ?_
                    refine A_iload hC dX11_text_286 rfl ?_
                    refine A_iadd hC dX11_text_288 ?_
                    refine A_imul hC dX11_text_289 ?_
                    refine A_iload hC dX11_text_290 rfl ?_
                    refine A_iadd hC dX11_text_292 ?_
                    refine A_aload_n hC dX11_text_293 rfl ?_
                    refine A_getr (kf := 35) hC kX11 (lM_0 hL) rfl (by decide) (by decide) rfl rfl w_1038 dX11_text_294 ?_
                    refine A_iconst (v := 4) hC dX11_text_297 (by decide) ?_
                    refine A_iload hC dX11_text_298 rfl ?_
                    refine A_imul hC dX11_text_300 ?_
                    refine A_iload hC dX11_text_301 rfl ?_
                    refine A_iadd hC dX11_text_303 ?_
                    refine A_iald hC (lM_25 hL) dX11_text_304 ?_
                    refine A_iast hC (lM_18 hL) dX11_text_305 (fun D29 => ?_)
                    refine A_aload_n hC dX11_text_306 rfl ?_
                    refine A_getr (kf := 19) hC kX11 (lM_0 hL) rfl (by decide) (by decide) rfl rfl w_1022 dX11_text_307 ?_
                    refine A_iconst (v := 4) hC dX11_text_310 (by decide) ?_
                    refine A_iload_n hC dX11_text_311 rfl ?_
                    refine A_iload hC dX11_text_312 rfl ?_
                    refine A_iadd hC dX11_text_314 ?_
                    refine A_imul hC dX11_text_315 ?_
                    refine A_iload hC dX11_text_316 rfl ?_
                    refine A_iadd hC dX11_text_318 ?_
                    refine A_aload_n hC dX11_text_319 rfl ?_
                    refine A_getr (kf := 36) hC kX11 (lM_0 hL) rfl (by decide) (by decide) rfl rfl w_1039 dX11_text_320 ?_
                    refine A_iconst (v := 4) hC dX11_text_323 (by decide) ?_
                    refine A_iload hC dX11_text_324 rfl ?_
                    refine A_imul hC dX11_text_326 ?_
                    refine A_iload hC dX11_text_327 rfl ?_
                    refine A_iadd hC dX11_text_329 ?_
                    refine A_iald hC (lM_26 hL) dX11_text_330 ?_
                    refine A_iast hC (lM_19 hL) dX11_text_331 (fun D30 => ?_)
                    refine A_iincL (z := (1 : Int32)) (lv2 := fun x9 => [some (.ref (g.1 + 0)), none, none, some (.int x4), some (.int x6), some (.int x9)]) hC dX11_text_332 rfl (by decide) (Nat.le_of_ble_eq_true rfl) rfl (fun _ => rfl) (fun x9 => ?_)
                    refine A_goto (tgt := 242) hC dX11_text_335 (by decide) ?_
                    exact A_to (hL242 x9 D30) (And.intro rfl (And.intro rfl (And.intro rfl (And.intro rfl (trivial)))))
                exact A_to (hj242 (0 : Int32) D25) (And.intro rfl (And.intro rfl (And.intro rfl (And.intro rfl (trivial)))))
            exact A_to (hj166 (0 : Int32) D19) (And.intro rfl (And.intro rfl (And.intro rfl (trivial))))
          refine A_if_eq (tgt := 157) hC dX11_text_150 (by decide) ?_ ?_
          · refine A_iconst (v := 0) hC dX11_text_157 (by decide) ?_
            exact A_to (hj158 (0 : Int32) D17) (And.intro rfl (And.intro rfl (trivial)))
          · refine A_iconst (v := 1) hC dX11_text_153 (by decide) ?_
            refine A_goto (tgt := 158) hC dX11_text_154 (by decide) ?_
            exact A_to (hj158 (1 : Int32) D17) (And.intro rfl (And.intro rfl (trivial)))
        refine A_if_eq (tgt := 143) hC dX11_text_135 (by decide) ?_ ?_
        · refine A_iconst (v := 0) hC dX11_text_143 (by decide) ?_
          exact A_to (hj144 (0 : Int32) D11) (And.intro rfl (And.intro rfl (trivial)))
        · refine A_bipush (v := 16) hC dX11_text_138 (by decide) ?_
          refine A_goto (tgt := 144) hC dX11_text_140 (by decide) ?_
          exact A_to (hj144 (16 : Int32) D11) (And.intro rfl (And.intro rfl (trivial)))
      · exact A_to (hj93 D11) (And.intro rfl (And.intro rfl (trivial)))
  refine A_join (fun (J : Int32 → ADD → Option (Int32 × ADD)) => ∀ (x10 : Int32) (D31 : ADD), AT aVi g b 62 [some (.ref (g.1 + 0)), some (.int a1), some (.int x10), none, none, none] [] D31 (J x10 D31)) (aFix_all (fun (J : Int32 → ADD → Option (Int32 × ADD)) => ∀ (x10 : Int32) (D31 : ADD), AT aVi g b 62 [some (.ref (g.1 + 0)), some (.int a1), some (.int x10), none, none, none] [] D31 (J x10 D31)) (fun _ _ => A_none) (fun L62 hL62 x10 D31 => ?_) _) (fun j62 hj62 => ?_)
  · unfold lX11_text_62
    refine A_iload_n hC dX11_text_62 rfl ?_
    refine A_if_eq (tgt := 82) hC dX11_text_63 (by decide) ?_ ?_
    · exact A_to (hj82 x10 D31) (And.intro rfl (And.intro rfl (And.intro rfl (trivial))))
    · refine A_aload_n hC dX11_text_66 rfl ?_
      refine A_geti (kf := 26) hC kX11 (lM_0 hL) rfl (by decide) (by decide) rfl w_1029 dX11_text_67 ?_
      refine A_if_eq (tgt := 82) hC dX11_text_70 (by decide) ?_ ?_
      · exact A_to (hj82 x10 D31) (And.intro rfl (And.intro rfl (And.intro rfl (trivial))))
      · refine A_aload_n hC dX11_text_73 rfl ?_
        refine A_iload_n hC dX11_text_74 rfl ?_
        refine A_callVi (As := [.int a1]) (st := []) hC (fun l => mX11_oneLine l g hL a1 D31) (lM_0 hL) rfl (Nat.le_of_ble_eq_true rfl) yc_X11_287 rfl rfl ⟨by decide, by decide⟩ (Nat.le_of_ble_eq_true rfl) rfl dX11_text_75 (fun x11 D32 => ?_)
        refine A_istore_n (lv2 := [some (.ref (g.1 + 0)), some (.int a1), some (.int x11), none, none, none]) hC dX11_text_78 (Nat.le_of_ble_eq_true rfl) rfl rfl ?_
        refine A_goto (tgt := 62) hC dX11_text_79 (by decide) ?_
        exact A_to (hL62 x11 D32) (And.intro rfl (And.intro rfl (And.intro rfl (trivial))))
  exact A_to (hj62 (1 : Int32) D10) (And.intro rfl (And.intro rfl (And.intro rfl (trivial))))
def lX4_gather_8 (a1 : Int32) (a2 : Int32) (j44 : ADD → Option (Int32 × ADD)) (L8 : Int32 → ADD → Option (Int32 × ADD)) (x1 : Int32) (D3 : ADD) : Option (Int32 × ADD) := (if (D3.1 2 9) ≤ x1 then j44 D3 else aBind (fX4_belongs x1 a1 a2 D3) (fun x2 D4 => aLet (fun (D5 : ADD) => aLet (x1 + (1 : Int32)) (fun x3 => L8 x3 D5)) (fun (j38 : ADD → Option (Int32 × ADD)) => (if x2 = 0 then j38 D4 else aBind (fX4_lay x1 D4) (fun _ D6 => j38 D6)))))
def fX4_gather (a1 : Int32) (a2 : Int32) (D : ADD) : Option (Int32 × ADD) := aLet (aSI D 43 0 (0 : Int32)) (fun D1 => aLet (fun (D2 : ADD) => some ((D2.1 43 0), D2)) (fun (j44 : ADD → Option (Int32 × ADD)) => aLet (aFix aFuel (lX4_gather_8 a1 a2 j44) (fun _ _ => none)) (fun j8 => j8 (0 : Int32) D1)))
set_option maxHeartbeats 4000000 in
set_option maxRecDepth 100000 in
theorem mX4_gather (l : Launch) (g : AGl) (hL : aLX g) (a1 : Int32) (a2 : Int32) (D : ADD) : AM aVi l yX4_gather cX4_gather 5 (some .int) 4 g [.ref (g.1 + 43), .ref (g.1 + 1), .int a1, .int a2] D (fX4_gather a1 a2 D) := by
  refine AM_of (lv0 := [some (.ref (g.1 + 43)), some (.ref (g.1 + 1)), some (.int a1), some (.int a2), none]) (own := RX4) (by decide +kernel) rfl (Nat.le_of_ble_eq_true rfl) rfl (fun b hC => ?_)
  unfold fX4_gather
  refine A_aload_n hC dX4_gather_0 rfl ?_
  refine A_iconst (v := 0) hC dX4_gather_1 (by decide) ?_
  refine A_puti (kf := 0) hC kX4 (lX_43 hL) rfl (by decide) (by decide) rfl rfl rfl w_237 dX4_gather_2 (fun D1 => ?_)
  refine A_iconst (v := 0) hC dX4_gather_5 (by decide) ?_
  refine A_istore (lv2 := [some (.ref (g.1 + 43)), some (.ref (g.1 + 1)), some (.int a1), some (.int a2), some (.int (0 : Int32))]) hC dX4_gather_6 (Nat.le_of_ble_eq_true rfl) rfl rfl ?_
  refine A_join (fun (J : ADD → Option (Int32 × ADD)) => ∀ (D2 : ADD), AT aVi g b 44 [some (.ref (g.1 + 43)), none, none, none, none] [] D2 (J D2)) (fun D2 => ?_) (fun j44 hj44 => ?_)
  · refine A_aload_n hC dX4_gather_44 rfl ?_
    refine A_geti (kf := 0) hC kX4 (lX_43 hL) rfl (by decide) (by decide) rfl w_237 dX4_gather_45 ?_
    exact A_iret hC dX4_gather_48
  refine A_join (fun (J : Int32 → ADD → Option (Int32 × ADD)) => ∀ (x1 : Int32) (D3 : ADD), AT aVi g b 8 [some (.ref (g.1 + 43)), some (.ref (g.1 + 1)), some (.int a1), some (.int a2), some (.int x1)] [] D3 (J x1 D3)) (aFix_all (fun (J : Int32 → ADD → Option (Int32 × ADD)) => ∀ (x1 : Int32) (D3 : ADD), AT aVi g b 8 [some (.ref (g.1 + 43)), some (.ref (g.1 + 1)), some (.int a1), some (.int a2), some (.int x1)] [] D3 (J x1 D3)) (fun _ _ => A_none) (fun L8 hL8 x1 D3 => ?_) _) (fun j8 hj8 => ?_)
  · unfold lX4_gather_8
    refine A_iload hC dX4_gather_8 rfl ?_
    refine A_aload_n hC dX4_gather_10 rfl ?_
    refine A_getr (kf := 0) hC kX8 (lX_1 hL) rfl (by decide) (by decide) rfl rfl w_164 dX4_gather_11 ?_
    refine A_geti (kf := 9) hC kX0 (lX_2 hL) rfl (by decide) (by decide) rfl w_51 dX4_gather_14 ?_
    refine A_icmp_ge (tgt := 44) hC dX4_gather_17 (by decide) ?_ ?_
    · exact A_to (hj44 D3) (And.intro rfl (trivial))
    · refine A_aload_n hC dX4_gather_20 rfl ?_
      refine A_iload hC dX4_gather_21 rfl ?_
      refine A_iload_n hC dX4_gather_23 rfl ?_
      refine A_iload_n hC dX4_gather_24 rfl ?_
      refine A_callSi (As := [.ref (g.1 + 1), .int x1, .int a1, .int a2]) (st := []) hC (fun l => mX4_belongs l g hL x1 a1 a2 D3) yc_X4_45 rfl rfl ⟨by decide, by decide⟩ (Nat.le_of_ble_eq_true rfl) rfl dX4_gather_25 (fun x2 D4 => ?_)
      refine A_join (fun (J : ADD → Option (Int32 × ADD)) => ∀ (D5 : ADD), AT aVi g b 38 [some (.ref (g.1 + 43)), some (.ref (g.1 + 1)), some (.int a1), some (.int a2), some (.int x1)] [] D5 (J D5)) (fun D5 => ?_) (fun j38 hj38 => ?_)
      · refine A_iincL (z := (1 : Int32)) (lv2 := fun x3 => [some (.ref (g.1 + 43)), some (.ref (g.1 + 1)), some (.int a1), some (.int a2), some (.int x3)]) hC dX4_gather_38 rfl (by decide) (Nat.le_of_ble_eq_true rfl) rfl (fun _ => rfl) (fun x3 => ?_)
        refine A_goto (tgt := 8) hC dX4_gather_41 (by decide) ?_
        exact A_to (hL8 x3 D5) (And.intro rfl (And.intro rfl (And.intro rfl (And.intro rfl (And.intro rfl (trivial))))))
      refine A_if_eq (tgt := 38) hC dX4_gather_28 (by decide) ?_ ?_
      · exact A_to (hj38 D4) (And.intro rfl (And.intro rfl (And.intro rfl (And.intro rfl (And.intro rfl (trivial))))))
      · refine A_aload_n hC dX4_gather_31 rfl ?_
        refine A_aload_n hC dX4_gather_32 rfl ?_
        refine A_iload hC dX4_gather_33 rfl ?_
        refine A_callVv (As := [.ref (g.1 + 1), .int x1]) (st := []) hC (fun l => mX4_lay l g hL x1 D4) (lX_43 hL) rfl (Nat.le_of_ble_eq_true rfl) yc_X4_49 rfl rfl ⟨by decide, by decide⟩ (Nat.le_of_ble_eq_true rfl) rfl dX4_gather_35 (fun _ D6 => ?_)
        exact A_to (hj38 D6) (And.intro rfl (And.intro rfl (And.intro rfl (And.intro rfl (And.intro rfl (trivial))))))
  exact A_to (hj8 (0 : Int32) D1) (And.intro rfl (And.intro rfl (And.intro rfl (And.intro rfl (And.intro rfl (trivial))))))
def lX4_marksNear_4 (a1 : Int32) (j43 : Int32 → ADD → Option (Int32 × ADD)) (L4 : Int32 → Int32 → ADD → Option (Int32 × ADD)) (x2 : Int32) (x3 : Int32) (D2 : ADD) : Option (Int32 × ADD) := (if (D2.1 43 0) ≤ x3 then j43 x2 D2 else aBind (fX4_markOf x3 D2) (fun x4 D3 => aLet (fun (x5 : Int32) (D4 : ADD) => aLet (x2 + x5) (fun x6 => aLet (x3 + (1 : Int32)) (fun x7 => L4 x6 x7 D4))) (fun (j35 : Int32 → ADD → Option (Int32 × ADD)) => aLet (fun (D5 : ADD) => j35 (0 : Int32) D5) (fun (j34 : ADD → Option (Int32 × ADD)) => (if x4 ≤ 0 then j34 D3 else aBind (fX4_isNear x3 a1 D3) (fun x8 D6 => (if x8 = 0 then j34 D6 else j35 (1 : Int32) D6)))))))
def fX4_marksNear (a1 : Int32) (D : ADD) : Option (Int32 × ADD) := aLet (fun (x1 : Int32) (D1 : ADD) => some (x1, D1)) (fun (j43 : Int32 → ADD → Option (Int32 × ADD)) => aLet (aFix aFuel (lX4_marksNear_4 a1 j43) (fun _ _ _ => none)) (fun j4 => j4 (0 : Int32) (0 : Int32) D))
set_option maxHeartbeats 4000000 in
set_option maxRecDepth 100000 in
theorem mX4_marksNear (l : Launch) (g : AGl) (hL : aLX g) (a1 : Int32) (D : ADD) : AM aVi l yX4_marksNear cX4_marksNear 4 (some .int) 4 g [.ref (g.1 + 43), .int a1] D (fX4_marksNear a1 D) := by
  refine AM_of (lv0 := [some (.ref (g.1 + 43)), some (.int a1), none, none]) (own := RX4) (by decide +kernel) rfl (Nat.le_of_ble_eq_true rfl) rfl (fun b hC => ?_)
  unfold fX4_marksNear
  refine A_iconst (v := 0) hC dX4_marksNear_0 (by decide) ?_
  refine A_istore_n (lv2 := [some (.ref (g.1 + 43)), some (.int a1), some (.int (0 : Int32)), none]) hC dX4_marksNear_1 (Nat.le_of_ble_eq_true rfl) rfl rfl ?_
  refine A_iconst (v := 0) hC dX4_marksNear_2 (by decide) ?_
  refine A_istore_n (lv2 := [some (.ref (g.1 + 43)), some (.int a1), some (.int (0 : Int32)), some (.int (0 : Int32))]) hC dX4_marksNear_3 (Nat.le_of_ble_eq_true rfl) rfl rfl ?_
  refine A_join (fun (J : Int32 → ADD → Option (Int32 × ADD)) => ∀ (x1 : Int32) (D1 : ADD), AT aVi g b 43 [none, none, some (.int x1), none] [] D1 (J x1 D1)) (fun x1 D1 => ?_) (fun j43 hj43 => ?_)
  · refine A_iload_n hC dX4_marksNear_43 rfl ?_
    exact A_iret hC dX4_marksNear_44
  refine A_join (fun (J : Int32 → Int32 → ADD → Option (Int32 × ADD)) => ∀ (x2 : Int32) (x3 : Int32) (D2 : ADD), AT aVi g b 4 [some (.ref (g.1 + 43)), some (.int a1), some (.int x2), some (.int x3)] [] D2 (J x2 x3 D2)) (aFix_all (fun (J : Int32 → Int32 → ADD → Option (Int32 × ADD)) => ∀ (x2 : Int32) (x3 : Int32) (D2 : ADD), AT aVi g b 4 [some (.ref (g.1 + 43)), some (.int a1), some (.int x2), some (.int x3)] [] D2 (J x2 x3 D2)) (fun _ _ _ => A_none) (fun L4 hL4 x2 x3 D2 => ?_) _) (fun j4 hj4 => ?_)
  · unfold lX4_marksNear_4
    refine A_iload_n hC dX4_marksNear_4 rfl ?_
    refine A_aload_n hC dX4_marksNear_5 rfl ?_
    refine A_geti (kf := 0) hC kX4 (lX_43 hL) rfl (by decide) (by decide) rfl w_237 dX4_marksNear_6 ?_
    refine A_icmp_ge (tgt := 43) hC dX4_marksNear_9 (by decide) ?_ ?_
    · exact A_to (hj43 x2 D2) (And.intro rfl (trivial))
    · refine A_iload_n hC dX4_marksNear_12 rfl ?_
      refine A_aload_n hC dX4_marksNear_13 rfl ?_
      refine A_iload_n hC dX4_marksNear_14 rfl ?_
      refine A_callVi (As := [.int x3]) (st := [.int x2]) hC (fun l => mX4_markOf l g hL x3 D2) (lX_43 hL) rfl (Nat.le_of_ble_eq_true rfl) yc_X4_93 rfl rfl ⟨by decide, by decide⟩ (Nat.le_of_ble_eq_true rfl) rfl dX4_marksNear_15 (fun x4 D3 => ?_)
      refine A_join (fun (J : Int32 → ADD → Option (Int32 × ADD)) => ∀ (x5 : Int32) (D4 : ADD), AT aVi g b 35 [some (.ref (g.1 + 43)), some (.int a1), none, some (.int x3)] [.int x5, .int x2] D4 (J x5 D4)) (fun x5 D4 => ?_) (fun j35 hj35 => ?_)
      · refine A_iadd hC dX4_marksNear_35 ?_
        refine A_topi (fun x6 => ?_)
        refine A_istore_n (lv2 := [some (.ref (g.1 + 43)), some (.int a1), some (.int x6), some (.int x3)]) hC dX4_marksNear_36 (Nat.le_of_ble_eq_true rfl) rfl rfl ?_
        refine A_iincL (z := (1 : Int32)) (lv2 := fun x7 => [some (.ref (g.1 + 43)), some (.int a1), some (.int x6), some (.int x7)]) hC dX4_marksNear_37 rfl (by decide) (Nat.le_of_ble_eq_true rfl) rfl (fun _ => rfl) (fun x7 => ?_)
        refine A_goto (tgt := 4) hC dX4_marksNear_40 (by decide) ?_
        exact A_to (hL4 x6 x7 D4) (And.intro rfl (And.intro rfl (And.intro rfl (And.intro rfl (trivial)))))
      refine A_join (fun (J : ADD → Option (Int32 × ADD)) => ∀ (D5 : ADD), AT aVi g b 34 [some (.ref (g.1 + 43)), some (.int a1), none, some (.int x3)] [.int x2] D5 (J D5)) (fun D5 => ?_) (fun j34 hj34 => ?_)
      · refine A_iconst (v := 0) hC dX4_marksNear_34 (by decide) ?_
        exact A_to (hj35 (0 : Int32) D5) (And.intro rfl (And.intro rfl (And.intro rfl (trivial))))
      refine A_if_le (tgt := 34) hC dX4_marksNear_18 (by decide) ?_ ?_
      · exact A_to (hj34 D3) (And.intro rfl (And.intro rfl (And.intro rfl (trivial))))
      · refine A_aload_n hC dX4_marksNear_21 rfl ?_
        refine A_iload_n hC dX4_marksNear_22 rfl ?_
        refine A_iload_n hC dX4_marksNear_23 rfl ?_
        refine A_callVi (As := [.int x3, .int a1]) (st := [.int x2]) hC (fun l => mX4_isNear l g hL x3 a1 D3) (lX_43 hL) rfl (Nat.le_of_ble_eq_true rfl) yc_X4_81 rfl rfl ⟨by decide, by decide⟩ (Nat.le_of_ble_eq_true rfl) rfl dX4_marksNear_24 (fun x8 D6 => ?_)
        refine A_if_eq (tgt := 34) hC dX4_marksNear_27 (by decide) ?_ ?_
        · exact A_to (hj34 D6) (And.intro rfl (And.intro rfl (And.intro rfl (trivial))))
        · refine A_iconst (v := 1) hC dX4_marksNear_30 (by decide) ?_
          refine A_goto (tgt := 35) hC dX4_marksNear_31 (by decide) ?_
          exact A_to (hj35 (1 : Int32) D6) (And.intro rfl (And.intro rfl (And.intro rfl (trivial))))
  exact A_to (hj4 (0 : Int32) (0 : Int32) D) (And.intro rfl (And.intro rfl (And.intro rfl (And.intro rfl (trivial)))))
def lX4_nearBy_4 (a1 : Int32) (j35 : Int32 → ADD → Option (Int32 × ADD)) (L4 : Int32 → Int32 → ADD → Option (Int32 × ADD)) (x2 : Int32) (x3 : Int32) (D2 : ADD) : Option (Int32 × ADD) := (if (D2.1 43 0) ≤ x3 then j35 x2 D2 else aBind (fX4_isNear x3 a1 D2) (fun x4 D3 => aLet (fun (x5 : Int32) (D4 : ADD) => aLet (x2 + x5) (fun x6 => aLet (x3 + (1 : Int32)) (fun x7 => L4 x6 x7 D4))) (fun (j27 : Int32 → ADD → Option (Int32 × ADD)) => (if x4 = 0 then j27 (0 : Int32) D3 else j27 (1 : Int32) D3))))
def fX4_nearBy (a1 : Int32) (D : ADD) : Option (Int32 × ADD) := aLet (fun (x1 : Int32) (D1 : ADD) => some (x1, D1)) (fun (j35 : Int32 → ADD → Option (Int32 × ADD)) => aLet (aFix aFuel (lX4_nearBy_4 a1 j35) (fun _ _ _ => none)) (fun j4 => j4 (0 : Int32) (0 : Int32) D))
set_option maxHeartbeats 4000000 in
set_option maxRecDepth 100000 in
theorem mX4_nearBy (l : Launch) (g : AGl) (hL : aLX g) (a1 : Int32) (D : ADD) : AM aVi l yX4_nearBy cX4_nearBy 4 (some .int) 4 g [.ref (g.1 + 43), .int a1] D (fX4_nearBy a1 D) := by
  refine AM_of (lv0 := [some (.ref (g.1 + 43)), some (.int a1), none, none]) (own := RX4) (by decide +kernel) rfl (Nat.le_of_ble_eq_true rfl) rfl (fun b hC => ?_)
  unfold fX4_nearBy
  refine A_iconst (v := 0) hC dX4_nearBy_0 (by decide) ?_
  refine A_istore_n (lv2 := [some (.ref (g.1 + 43)), some (.int a1), some (.int (0 : Int32)), none]) hC dX4_nearBy_1 (Nat.le_of_ble_eq_true rfl) rfl rfl ?_
  refine A_iconst (v := 0) hC dX4_nearBy_2 (by decide) ?_
  refine A_istore_n (lv2 := [some (.ref (g.1 + 43)), some (.int a1), some (.int (0 : Int32)), some (.int (0 : Int32))]) hC dX4_nearBy_3 (Nat.le_of_ble_eq_true rfl) rfl rfl ?_
  refine A_join (fun (J : Int32 → ADD → Option (Int32 × ADD)) => ∀ (x1 : Int32) (D1 : ADD), AT aVi g b 35 [none, none, some (.int x1), none] [] D1 (J x1 D1)) (fun x1 D1 => ?_) (fun j35 hj35 => ?_)
  · refine A_iload_n hC dX4_nearBy_35 rfl ?_
    exact A_iret hC dX4_nearBy_36
  refine A_join (fun (J : Int32 → Int32 → ADD → Option (Int32 × ADD)) => ∀ (x2 : Int32) (x3 : Int32) (D2 : ADD), AT aVi g b 4 [some (.ref (g.1 + 43)), some (.int a1), some (.int x2), some (.int x3)] [] D2 (J x2 x3 D2)) (aFix_all (fun (J : Int32 → Int32 → ADD → Option (Int32 × ADD)) => ∀ (x2 : Int32) (x3 : Int32) (D2 : ADD), AT aVi g b 4 [some (.ref (g.1 + 43)), some (.int a1), some (.int x2), some (.int x3)] [] D2 (J x2 x3 D2)) (fun _ _ _ => A_none) (fun L4 hL4 x2 x3 D2 => ?_) _) (fun j4 hj4 => ?_)
  · unfold lX4_nearBy_4
    refine A_iload_n hC dX4_nearBy_4 rfl ?_
    refine A_aload_n hC dX4_nearBy_5 rfl ?_
    refine A_geti (kf := 0) hC kX4 (lX_43 hL) rfl (by decide) (by decide) rfl w_237 dX4_nearBy_6 ?_
    refine A_icmp_ge (tgt := 35) hC dX4_nearBy_9 (by decide) ?_ ?_
    · exact A_to (hj35 x2 D2) (And.intro rfl (trivial))
    · refine A_iload_n hC dX4_nearBy_12 rfl ?_
      refine A_aload_n hC dX4_nearBy_13 rfl ?_
      refine A_iload_n hC dX4_nearBy_14 rfl ?_
      refine A_iload_n hC dX4_nearBy_15 rfl ?_
      refine A_callVi (As := [.int x3, .int a1]) (st := [.int x2]) hC (fun l => mX4_isNear l g hL x3 a1 D2) (lX_43 hL) rfl (Nat.le_of_ble_eq_true rfl) yc_X4_81 rfl rfl ⟨by decide, by decide⟩ (Nat.le_of_ble_eq_true rfl) rfl dX4_nearBy_16 (fun x4 D3 => ?_)
      refine A_join (fun (J : Int32 → ADD → Option (Int32 × ADD)) => ∀ (x5 : Int32) (D4 : ADD), AT aVi g b 27 [some (.ref (g.1 + 43)), some (.int a1), none, some (.int x3)] [.int x5, .int x2] D4 (J x5 D4)) (fun x5 D4 => ?_) (fun j27 hj27 => ?_)
      · refine A_iadd hC dX4_nearBy_27 ?_
        refine A_topi (fun x6 => ?_)
        refine A_istore_n (lv2 := [some (.ref (g.1 + 43)), some (.int a1), some (.int x6), some (.int x3)]) hC dX4_nearBy_28 (Nat.le_of_ble_eq_true rfl) rfl rfl ?_
        refine A_iincL (z := (1 : Int32)) (lv2 := fun x7 => [some (.ref (g.1 + 43)), some (.int a1), some (.int x6), some (.int x7)]) hC dX4_nearBy_29 rfl (by decide) (Nat.le_of_ble_eq_true rfl) rfl (fun _ => rfl) (fun x7 => ?_)
        refine A_goto (tgt := 4) hC dX4_nearBy_32 (by decide) ?_
        exact A_to (hL4 x6 x7 D4) (And.intro rfl (And.intro rfl (And.intro rfl (And.intro rfl (trivial)))))
      refine A_if_eq (tgt := 26) hC dX4_nearBy_19 (by decide) ?_ ?_
      · refine A_iconst (v := 0) hC dX4_nearBy_26 (by decide) ?_
        exact A_to (hj27 (0 : Int32) D3) (And.intro rfl (And.intro rfl (And.intro rfl (trivial))))
      · refine A_iconst (v := 1) hC dX4_nearBy_22 (by decide) ?_
        refine A_goto (tgt := 27) hC dX4_nearBy_23 (by decide) ?_
        exact A_to (hj27 (1 : Int32) D3) (And.intro rfl (And.intro rfl (And.intro rfl (trivial))))
  exact A_to (hj4 (0 : Int32) (0 : Int32) D) (And.intro rfl (And.intro rfl (And.intro rfl (And.intro rfl (trivial)))))
def fX4_takeAlone (a1 : Int32) (D : ADD) : Option (Int32 × ADD) := aLet (aSI D 43 0 (0 : Int32)) (fun D1 => aLet (fun (D2 : ADD) => some ((0 : Int32), D2)) (fun (j20 : ADD → Option (Int32 × ADD)) => (if a1 < 0 then j20 D1 else (if a1 < (D1.1 2 9) then aBind (fX4_lay a1 D1) (fun _ D3 => some ((1 : Int32), D3)) else j20 D1))))
set_option maxHeartbeats 4000000 in
set_option maxRecDepth 100000 in
theorem mX4_takeAlone (l : Launch) (g : AGl) (hL : aLX g) (a1 : Int32) (D : ADD) : AM aVi l yX4_takeAlone cX4_takeAlone 3 (some .boolean) 4 g [.ref (g.1 + 43), .ref (g.1 + 1), .int a1] D (fX4_takeAlone a1 D) := by
  refine AM_of (lv0 := [some (.ref (g.1 + 43)), some (.ref (g.1 + 1)), some (.int a1)]) (own := RX4) (by decide +kernel) rfl (Nat.le_of_ble_eq_true rfl) rfl (fun b hC => ?_)
  unfold fX4_takeAlone
  refine A_aload_n hC dX4_takeAlone_0 rfl ?_
  refine A_iconst (v := 0) hC dX4_takeAlone_1 (by decide) ?_
  refine A_puti (kf := 0) hC kX4 (lX_43 hL) rfl (by decide) (by decide) rfl rfl rfl w_237 dX4_takeAlone_2 (fun D1 => ?_)
  refine A_iload_n hC dX4_takeAlone_5 rfl ?_
  refine A_join (fun (J : ADD → Option (Int32 × ADD)) => ∀ (D2 : ADD), AT aVi g b 20 [none, none, none] [] D2 (J D2)) (fun D2 => ?_) (fun j20 hj20 => ?_)
  · refine A_iconst (v := 0) hC dX4_takeAlone_20 (by decide) ?_
    exact A_zret hC dX4_takeAlone_21 (Or.inl rfl)
  refine A_if_lt (tgt := 20) hC dX4_takeAlone_6 (by decide) ?_ ?_
  · exact A_to (hj20 D1) (trivial)
  · refine A_iload_n hC dX4_takeAlone_9 rfl ?_
    refine A_aload_n hC dX4_takeAlone_10 rfl ?_
    refine A_getr (kf := 0) hC kX8 (lX_1 hL) rfl (by decide) (by decide) rfl rfl w_164 dX4_takeAlone_11 ?_
    refine A_geti (kf := 9) hC kX0 (lX_2 hL) rfl (by decide) (by decide) rfl w_51 dX4_takeAlone_14 ?_
    refine A_icmp_lt (tgt := 22) hC dX4_takeAlone_17 (by decide) ?_ ?_
    · refine A_aload_n hC dX4_takeAlone_22 rfl ?_
      refine A_aload_n hC dX4_takeAlone_23 rfl ?_
      refine A_iload_n hC dX4_takeAlone_24 rfl ?_
      refine A_callVv (As := [.ref (g.1 + 1), .int a1]) (st := []) hC (fun l => mX4_lay l g hL a1 D1) (lX_43 hL) rfl (Nat.le_of_ble_eq_true rfl) yc_X4_49 rfl rfl ⟨by decide, by decide⟩ (Nat.le_of_ble_eq_true rfl) rfl dX4_takeAlone_25 (fun _ D3 => ?_)
      refine A_iconst (v := 1) hC dX4_takeAlone_28 (by decide) ?_
      exact A_zret hC dX4_takeAlone_29 (Or.inr rfl)
    · exact A_to (hj20 D1) (trivial)
