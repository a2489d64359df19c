def fX11_span (a1 : Int32) (a2 : Int32) (D : ADD) : Option (Int32 × ADD) := aLet (aSI D 0 0 (0 : Int32)) (fun D1 => aBind (fX11_isStone a1 D1) (fun x1 D2 => (if x1 = 0 then some ((-1 : Int32), D2) else aBind (fX11_look D2) (fun _ D3 => aLet (fun (x2 : Int32) (D4 : ADD) => some (x2, D4)) (fun (j69 : Int32 → ADD → Option (Int32 × ADD)) => (if a2 = 0 then aIn a1 32 (j69 (D3.1 33 a1.toNatClampNeg) D3) else (if a2 = (1 : Int32) then aIn a1 32 (j69 (D3.1 34 a1.toNatClampNeg) D3) else (if a2 = (2 : Int32) then aIn a1 32 ((if (aBz (D3.1 35 a1.toNatClampNeg)) = 0 then j69 (0 : Int32) D3 else j69 (1 : Int32) D3)) else j69 (-1 : Int32) D3))))))))
set_option maxHeartbeats 4000000 in
set_option maxRecDepth 100000 in
theorem mX11_span (l : Launch) (g : AGl) (hL : aLM g) (a1 : Int32) (a2 : Int32) (D : ADD) : AM aVi l yX11_span cX11_span 3 (some .int) 3 g [.ref (g.1 + 0), .int a1, .int a2] D (fX11_span a1 a2 D) := by
  refine AM_of (lv0 := [some (.ref (g.1 + 0)), some (.int a1), some (.int a2)]) (own := RX11) (by decide +kernel) rfl (Nat.le_of_ble_eq_true rfl) rfl (fun b hC => ?_)
  unfold fX11_span
  refine A_aload_n hC dX11_span_0 rfl ?_
  refine A_iconst (v := 0) hC dX11_span_1 (by decide) ?_
  refine A_puti (kf := 0) hC kX11 (lM_0 hL) rfl (by decide) (by decide) rfl rfl rfl w_1003 dX11_span_2 (fun D1 => ?_)
  refine A_aload_n hC dX11_span_5 rfl ?_
  refine A_iload_n hC dX11_span_6 rfl ?_
  refine A_callVi (As := [.int a1]) (st := []) hC (fun l => mX11_isStone l g hL a1 D1) (lM_0 hL) rfl (Nat.le_of_ble_eq_true rfl) yc_X11_157 rfl rfl ⟨by decide, by decide⟩ (Nat.le_of_ble_eq_true rfl) rfl dX11_span_7 (fun x1 D2 => ?_)
  refine A_if_ne (tgt := 15) hC dX11_span_10 (by decide) ?_ ?_
  · refine A_aload_n hC dX11_span_15 rfl ?_
    refine A_callVv (As := []) (st := []) hC (fun l => mX11_look l g hL D2) (lM_0 hL) rfl (Nat.le_of_ble_eq_true rfl) yc_X11_311 rfl rfl ⟨by decide, by decide⟩ (Nat.le_of_ble_eq_true rfl) rfl dX11_span_16 (fun _ D3 => ?_)
    refine A_iload_n hC dX11_span_19 rfl ?_
    refine A_join (fun (J : Int32 → ADD → Option (Int32 × ADD)) => ∀ (x2 : Int32) (D4 : ADD), AT aVi g b 69 [none, none, none] [.int x2] D4 (J x2 D4)) (fun x2 D4 => ?_) (fun j69 hj69 => ?_)
    · exact A_iret hC dX11_span_69
    refine A_if_ne (tgt := 32) hC dX11_span_20 (by decide) ?_ ?_
    · refine A_iload_n hC dX11_span_32 rfl ?_
      refine A_iconst (v := 1) hC dX11_span_33 (by decide) ?_
      refine A_icmp_ne (tgt := 46) hC dX11_span_34 (by decide) ?_ ?_
      · refine A_iload_n hC dX11_span_46 rfl ?_
        refine A_iconst (v := 2) hC dX11_span_47 (by decide) ?_
        refine A_icmp_ne (tgt := 68) hC dX11_span_48 (by decide) ?_ ?_
        · refine A_iconst (v := -1) hC dX11_span_68 (by decide) ?_
          exact A_to (hj69 (-1 : Int32) D3) (trivial)
        · refine A_aload_n hC dX11_span_51 rfl ?_
          refine A_getr (kf := 46) hC kX11 (lM_0 hL) rfl (by decide) (by decide) rfl rfl w_1049 dX11_span_52 ?_
          refine A_iload_n hC dX11_span_55 rfl ?_
          refine A_zald hC (lM_35 hL) dX11_span_56 ?_
          refine A_if_eq (tgt := 64) hC dX11_span_57 (by decide) ?_ ?_
          · refine A_iconst (v := 0) hC dX11_span_64 (by decide) ?_
            refine A_goto (tgt := 69) hC dX11_span_65 (by decide) ?_
            exact A_to (hj69 (0 : Int32) D3) (trivial)
          · refine A_iconst (v := 1) hC dX11_span_60 (by decide) ?_
            refine A_goto (tgt := 69) hC dX11_span_61 (by decide) ?_
            exact A_to (hj69 (1 : Int32) D3) (trivial)
      · refine A_aload_n hC dX11_span_37 rfl ?_
        refine A_getr (kf := 45) hC kX11 (lM_0 hL) rfl (by decide) (by decide) rfl rfl w_1048 dX11_span_38 ?_
        refine A_iload_n hC dX11_span_41 rfl ?_
        refine A_iald hC (lM_34 hL) dX11_span_42 ?_
        refine A_goto (tgt := 69) hC dX11_span_43 (by decide) ?_
        exact A_to (hj69 (D3.1 34 a1.toNatClampNeg) D3) (trivial)
    · refine A_aload_n hC dX11_span_23 rfl ?_
      refine A_getr (kf := 44) hC kX11 (lM_0 hL) rfl (by decide) (by decide) rfl rfl w_1047 dX11_span_24 ?_
      refine A_iload_n hC dX11_span_27 rfl ?_
      refine A_iald hC (lM_33 hL) dX11_span_28 ?_
      refine A_goto (tgt := 69) hC dX11_span_29 (by decide) ?_
      exact A_to (hj69 (D3.1 33 a1.toNatClampNeg) D3) (trivial)
  · refine A_iconst (v := -1) hC dX11_span_13 (by decide) ?_
    exact A_iret hC dX11_span_14
def lX11_sumOf_5 (a1 : Int32) (a2 : Int32) (j85 : Int64 → ADD → Option (Int64 × ADD)) (L5 : Int64 → Int32 → ADD → Option (Int64 × ADD)) (x2 : Int64) (x3 : Int32) (D2 : ADD) : Option (Int64 × ADD) := (if (D2.1 0 41) ≤ x3 then j85 x2 D2 else aIn x3 32 (aLet (fun (x4 : Int64) (D3 : ADD) => aLet (x3 + (1 : Int32)) (fun x5 => L5 x4 x5 D3)) (fun (j79 : Int64 → ADD → Option (Int64 × ADD)) => (if (aBz (D2.1 35 x3.toNatClampNeg)) = 0 then j79 x2 D2 else aBind (fX11_off x3 a1 D2) (fun x6 D4 => aBind (fX11_off x3 a2 D4) (fun x7 D5 => aLet (fun (x8 : Int64) (D6 : ADD) => aLet (x2 + x8) (fun x9 => j79 x9 D6)) (fun (j77 : Int64 → ADD → Option (Int64 × ADD)) => (if (x7 * a1) < (x6 * a2) then j77 ((a2 - ((4 : Int32) * x7)).toInt64 * a1.toInt64) D5 else j77 ((a1 - ((4 : Int32) * x6)).toInt64 * a2.toInt64) D5))))))))
def fX11_sumOf (a1 : Int32) (a2 : Int32) (D : ADD) : Option (Int64 × ADD) := aLet (fun (x1 : Int64) (D1 : ADD) => some (x1, D1)) (fun (j85 : Int64 → ADD → Option (Int64 × ADD)) => aLet (aFix aFuel (lX11_sumOf_5 a1 a2 j85) (fun _ _ _ => none)) (fun j5 => j5 (0 : Int64) (0 : Int32) D))
set_option maxHeartbeats 4000000 in
set_option maxRecDepth 100000 in
theorem mX11_sumOf (l : Launch) (g : AGl) (hL : aLM g) (a1 : Int32) (a2 : Int32) (D : ADD) : AM aVl l yX11_sumOf cX11_sumOf 8 (some .long) 3 g [.ref (g.1 + 0), .int a1, .int a2] D (fX11_sumOf a1 a2 D) := by
  refine AM_of (lv0 := [some (.ref (g.1 + 0)), some (.int a1), some (.int a2), none, none, none, none, none]) (own := RX11) (by decide +kernel) rfl (Nat.le_of_ble_eq_true rfl) rfl (fun b hC => ?_)
  unfold fX11_sumOf
  refine A_lconst (v := 0) hC dX11_sumOf_0 (by decide) ?_
  refine A_lstore_n (lv2 := [some (.ref (g.1 + 0)), some (.int a1), some (.int a2), some (.long (0 : Int64)), none, none, none, none]) hC dX11_sumOf_1 (Nat.le_of_ble_eq_true rfl) rfl rfl ?_
  refine A_iconst (v := 0) hC dX11_sumOf_2 (by decide) ?_
  refine A_istore (lv2 := [some (.ref (g.1 + 0)), some (.int a1), some (.int a2), some (.long (0 : Int64)), none, some (.int (0 : Int32)), none, none]) hC dX11_sumOf_3 (Nat.le_of_ble_eq_true rfl) rfl rfl ?_
  refine A_join (fun (J : Int64 → ADD → Option (Int64 × ADD)) => ∀ (x1 : Int64) (D1 : ADD), AT aVl g b 85 [none, none, none, some (.long x1), none, none, none, none] [] D1 (J x1 D1)) (fun x1 D1 => ?_) (fun j85 hj85 => ?_)
  · refine A_lload_n hC dX11_sumOf_85 rfl ?_
    exact A_lret hC dX11_sumOf_86
  refine A_join (fun (J : Int64 → Int32 → ADD → Option (Int64 × ADD)) => ∀ (x2 : Int64) (x3 : Int32) (D2 : ADD), AT aVl g b 5 [some (.ref (g.1 + 0)), some (.int a1), some (.int a2), some (.long x2), none, some (.int x3), none, none] [] D2 (J x2 x3 D2)) (aFix_all (fun (J : Int64 → Int32 → ADD → Option (Int64 × ADD)) => ∀ (x2 : Int64) (x3 : Int32) (D2 : ADD), AT aVl g b 5 [some (.ref (g.1 + 0)), some (.int a1), some (.int a2), some (.long x2), none, some (.int x3), none, none] [] D2 (J x2 x3 D2)) (fun _ _ _ => A_none) (fun L5 hL5 x2 x3 D2 => ?_) _) (fun j5 hj5 => ?_)
  · unfold lX11_sumOf_5
    refine A_iload hC dX11_sumOf_5 rfl ?_
    refine A_aload_n hC dX11_sumOf_7 rfl ?_
    refine A_geti (kf := 41) hC kX11 (lM_0 hL) rfl (by decide) (by decide) rfl w_1044 dX11_sumOf_8 ?_
    refine A_icmp_ge (tgt := 85) hC dX11_sumOf_11 (by decide) ?_ ?_
    · exact A_to (hj85 x2 D2) (And.intro rfl (trivial))
    · refine A_aload_n hC dX11_sumOf_14 rfl ?_
      refine A_getr (kf := 46) hC kX11 (lM_0 hL) rfl (by decide) (by decide) rfl rfl w_1049 dX11_sumOf_15 ?_
      refine A_iload hC dX11_sumOf_18 rfl ?_
      refine A_zald hC (lM_35 hL) dX11_sumOf_20 ?_
      refine A_join (fun (J : Int64 → ADD → Option (Int64 × ADD)) => ∀ (x4 : Int64) (D3 : ADD), AT aVl g b 79 [some (.ref (g.1 + 0)), some (.int a1), some (.int a2), some (.long x4), none, some (.int x3), none, none] [] D3 (J x4 D3)) (fun x4 D3 => ?_) (fun j79 hj79 => ?_)
      · refine A_iincL (z := (1 : Int32)) (lv2 := fun x5 => [some (.ref (g.1 + 0)), some (.int a1), some (.int a2), some (.long x4), none, some (.int x5), none, none]) hC dX11_sumOf_79 rfl (by decide) (Nat.le_of_ble_eq_true rfl) rfl (fun _ => rfl) (fun x5 => ?_)
        refine A_goto (tgt := 5) hC dX11_sumOf_82 (by decide) ?_
        exact A_to (hL5 x4 x5 D3) (And.intro rfl (And.intro rfl (And.intro rfl (And.intro rfl (And.intro rfl (trivial))))))
      refine A_if_eq (tgt := 79) hC dX11_sumOf_21 (by decide) ?_ ?_
      · exact A_to (hj79 x2 D2) (And.intro rfl (And.intro rfl (And.intro rfl (And.intro rfl (And.intro rfl (trivial))))))
      · refine A_aload_n hC dX11_sumOf_24 rfl ?_
        refine A_iload hC dX11_sumOf_25 rfl ?_
        refine A_iload_n hC dX11_sumOf_27 rfl ?_
        refine A_callVi (As := [.int x3, .int a1]) (st := []) hC (fun l => mX11_off l g hL x3 a1 D2) (lM_0 hL) rfl (Nat.le_of_ble_eq_true rfl) yc_X11_323 rfl rfl ⟨by decide, by decide⟩ (Nat.le_of_ble_eq_true rfl) rfl dX11_sumOf_28 (fun x6 D4 => ?_)
        refine A_istore (lv2 := [some (.ref (g.1 + 0)), some (.int a1), some (.int a2), some (.long x2), none, some (.int x3), some (.int x6), none]) hC dX11_sumOf_31 (Nat.le_of_ble_eq_true rfl) rfl rfl ?_
        refine A_aload_n hC dX11_sumOf_33 rfl ?_
        refine A_iload hC dX11_sumOf_34 rfl ?_
        refine A_iload_n hC dX11_sumOf_36 rfl ?_
        refine A_callVi (As := [.int x3, .int a2]) (st := []) hC (fun l => mX11_off l g hL x3 a2 D4) (lM_0 hL) rfl (Nat.le_of_ble_eq_true rfl) yc_X11_323 rfl rfl ⟨by decide, by decide⟩ (Nat.le_of_ble_eq_true rfl) rfl dX11_sumOf_37 (fun x7 D5 => ?_)
        refine A_istore (lv2 := [some (.ref (g.1 + 0)), some (.int a1), some (.int a2), some (.long x2), none, some (.int x3), some (.int x6), some (.int x7)]) hC dX11_sumOf_40 (Nat.le_of_ble_eq_true rfl) rfl rfl ?_
        refine A_lload_n hC dX11_sumOf_42 rfl ?_
        refine A_iload hC dX11_sumOf_43 rfl ?_
        refine A_iload_n hC dX11_sumOf_45 rfl ?_
        refine A_imul hC dX11_sumOf_46 ?_
        refine A_iload hC dX11_sumOf_47 rfl ?_
        refine A_iload_n hC dX11_sumOf_49 rfl ?_
        refine A_imul hC dX11_sumOf_50 ?_
        refine A_join (fun (J : Int64 → ADD → Option (Int64 × ADD)) => ∀ (x8 : Int64) (D6 : ADD), AT aVl g b 77 [some (.ref (g.1 + 0)), some (.int a1), some (.int a2), none, none, some (.int x3), none, none] [.long x8, .long x2] D6 (J x8 D6)) (fun x8 D6 => ?_) (fun j77 hj77 => ?_)
        · refine A_ladd hC dX11_sumOf_77 ?_
          refine A_topl (fun x9 => ?_)
          refine A_lstore_n (lv2 := [some (.ref (g.1 + 0)), some (.int a1), some (.int a2), some (.long x9), none, some (.int x3), none, none]) hC dX11_sumOf_78 (Nat.le_of_ble_eq_true rfl) rfl rfl ?_
          exact A_to (hj79 x9 D6) (And.intro rfl (And.intro rfl (And.intro rfl (And.intro rfl (And.intro rfl (trivial))))))
        refine A_icmp_gt (tgt := 67) hC dX11_sumOf_51 (by decide) ?_ ?_
        · refine A_iload_n hC dX11_sumOf_67 rfl ?_
          refine A_iconst (v := 4) hC dX11_sumOf_68 (by decide) ?_
          refine A_iload hC dX11_sumOf_69 rfl ?_
          refine A_imul hC dX11_sumOf_71 ?_
          refine A_isub hC dX11_sumOf_72 ?_
          refine A_i2l hC dX11_sumOf_73 ?_
          refine A_iload_n hC dX11_sumOf_74 rfl ?_
          refine A_i2l hC dX11_sumOf_75 ?_
          refine A_lmul hC dX11_sumOf_76 ?_
          exact A_to (hj77 ((a2 - ((4 : Int32) * x7)).toInt64 * a1.toInt64) D5) (And.intro rfl (And.intro rfl (And.intro rfl (And.intro rfl (trivial)))))
        · refine A_iload_n hC dX11_sumOf_54 rfl ?_
          refine A_iconst (v := 4) hC dX11_sumOf_55 (by decide) ?_
          refine A_iload hC dX11_sumOf_56 rfl ?_
          refine A_imul hC dX11_sumOf_58 ?_
          refine A_isub hC dX11_sumOf_59 ?_
          refine A_i2l hC dX11_sumOf_60 ?_
          refine A_iload_n hC dX11_sumOf_61 rfl ?_
          refine A_i2l hC dX11_sumOf_62 ?_
          refine A_lmul hC dX11_sumOf_63 ?_
          refine A_goto (tgt := 77) hC dX11_sumOf_64 (by decide) ?_
          exact A_to (hj77 ((a1 - ((4 : Int32) * x6)).toInt64 * a2.toInt64) D5) (And.intro rfl (And.intro rfl (And.intro rfl (And.intro rfl (trivial)))))
  exact A_to (hj5 (0 : Int64) (0 : Int32) D) (And.intro rfl (And.intro rfl (And.intro rfl (And.intro rfl (And.intro rfl (trivial))))))
def lX3_ofNear_7 (a1 : Int32) (j34 : ADD → Option (Int32 × ADD)) (L7 : Int32 → ADD → Option (Int32 × ADD)) (x2 : Int32) (D4 : ADD) : Option (Int32 × ADD) := (if (D4.1 43 0) ≤ x2 then j34 D4 else aBind (fX4_luckyOf x2 a1 D4) (fun x3 D5 => aBind (fX3_draw x3 a1 D5) (fun _ D6 => aLet (x2 + (1 : Int32)) (fun x4 => L7 x4 D6))))
def fX3_ofNear (a1 : Int32) (a2 : Int32) (D : ADD) : Option (Int32 × ADD) := aBind (fX3_begin D) (fun _ D1 => aLet (fun (D2 : ADD) => aBind (fX3_from a2 D2) (fun x1 D3 => some (x1, D3))) (fun (j34 : ADD → Option (Int32 × ADD)) => aLet (aFix aFuel (lX3_ofNear_7 a1 j34) (fun _ _ => none)) (fun j7 => j7 (0 : Int32) D1)))
set_option maxHeartbeats 4000000 in
set_option maxRecDepth 100000 in
theorem mX3_ofNear (l : Launch) (g : AGl) (hL : aLX g) (a1 : Int32) (a2 : Int32) (D : ADD) : AM aVi l yX3_ofNear cX3_ofNear 5 (some .int) 3 g [.ref (g.1 + 55), .ref (g.1 + 43), .int a1, .int a2] D (fX3_ofNear a1 a2 D) := by
  refine AM_of (lv0 := [some (.ref (g.1 + 55)), some (.ref (g.1 + 43)), some (.int a1), some (.int a2), none]) (own := RX3) (by decide +kernel) rfl (Nat.le_of_ble_eq_true rfl) rfl (fun b hC => ?_)
  unfold fX3_ofNear
  refine A_aload_n hC dX3_ofNear_0 rfl ?_
  refine A_callVv (As := []) (st := []) hC (fun l => mX3_begin l g hL D) (lX_55 hL) rfl (Nat.le_of_ble_eq_true rfl) yc_X3_15 rfl rfl ⟨by decide, by decide⟩ (Nat.le_of_ble_eq_true rfl) rfl dX3_ofNear_1 (fun _ D1 => ?_)
  refine A_iconst (v := 0) hC dX3_ofNear_4 (by decide) ?_
  refine A_istore (lv2 := [some (.ref (g.1 + 55)), some (.ref (g.1 + 43)), some (.int a1), some (.int a2), some (.int (0 : Int32))]) hC dX3_ofNear_5 (Nat.le_of_ble_eq_true rfl) rfl rfl ?_
  refine A_join (fun (J : ADD → Option (Int32 × ADD)) => ∀ (D2 : ADD), AT aVi g b 34 [some (.ref (g.1 + 55)), none, none, some (.int a2), none] [] D2 (J D2)) (fun D2 => ?_) (fun j34 hj34 => ?_)
  · refine A_aload_n hC dX3_ofNear_34 rfl ?_
    refine A_iload_n hC dX3_ofNear_35 rfl ?_
    refine A_callVi (As := [.int a2]) (st := []) hC (fun l => mX3_from l g hL a2 D2) (lX_55 hL) rfl (Nat.le_of_ble_eq_true rfl) yc_X3_32 rfl rfl ⟨by decide, by decide⟩ (Nat.le_of_ble_eq_true rfl) rfl dX3_ofNear_36 (fun x1 D3 => ?_)
    exact A_iret hC dX3_ofNear_39
  refine A_join (fun (J : Int32 → ADD → Option (Int32 × ADD)) => ∀ (x2 : Int32) (D4 : ADD), AT aVi g b 7 [some (.ref (g.1 + 55)), some (.ref (g.1 + 43)), some (.int a1), some (.int a2), some (.int x2)] [] D4 (J x2 D4)) (aFix_all (fun (J : Int32 → ADD → Option (Int32 × ADD)) => ∀ (x2 : Int32) (D4 : ADD), AT aVi g b 7 [some (.ref (g.1 + 55)), some (.ref (g.1 + 43)), some (.int a1), some (.int a2), some (.int x2)] [] D4 (J x2 D4)) (fun _ _ => A_none) (fun L7 hL7 x2 D4 => ?_) _) (fun j7 hj7 => ?_)
  · unfold lX3_ofNear_7
    refine A_iload hC dX3_ofNear_7 rfl ?_
    refine A_aload_n hC dX3_ofNear_9 rfl ?_
    refine A_geti (kf := 0) hC kX4 (lX_43 hL) rfl (by decide) (by decide) rfl w_238 dX3_ofNear_10 ?_
    refine A_icmp_ge (tgt := 34) hC dX3_ofNear_13 (by decide) ?_ ?_
    · exact A_to (hj34 D4) (And.intro rfl (And.intro rfl (trivial)))
    · refine A_aload_n hC dX3_ofNear_16 rfl ?_
      refine A_aload_n hC dX3_ofNear_17 rfl ?_
      refine A_iload hC dX3_ofNear_18 rfl ?_
      refine A_iload_n hC dX3_ofNear_20 rfl ?_
      refine A_callVi (As := [.int x2, .int a1]) (st := [.ref (g.1 + 55)]) hC (fun l => mX4_luckyOf l g hL x2 a1 D4) (lX_43 hL) rfl (Nat.le_of_ble_eq_true rfl) yc_X3_24 rfl rfl ⟨by decide, by decide⟩ (Nat.le_of_ble_eq_true rfl) rfl dX3_ofNear_21 (fun x3 D5 => ?_)
      refine A_iload_n hC dX3_ofNear_24 rfl ?_
      refine A_callVv (As := [.int x3, .int a1]) (st := []) hC (fun l => mX3_draw l g hL x3 a1 D5) (lX_55 hL) rfl (Nat.le_of_ble_eq_true rfl) yc_X3_28 rfl rfl ⟨by decide, by decide⟩ (Nat.le_of_ble_eq_true rfl) rfl dX3_ofNear_25 (fun _ D6 => ?_)
      refine A_iincL (z := (1 : Int32)) (lv2 := fun x4 => [some (.ref (g.1 + 55)), some (.ref (g.1 + 43)), some (.int a1), some (.int a2), some (.int x4)]) hC dX3_ofNear_28 rfl (by decide) (Nat.le_of_ble_eq_true rfl) rfl (fun _ => rfl) (fun x4 => ?_)
      refine A_goto (tgt := 7) hC dX3_ofNear_31 (by decide) ?_
      exact A_to (hL7 x4 D6) (And.intro rfl (And.intro rfl (And.intro rfl (And.intro rfl (And.intro rfl (trivial))))))
  exact A_to (hj7 (0 : Int32) D1) (And.intro rfl (And.intro rfl (And.intro rfl (And.intro rfl (And.intro rfl (trivial))))))
def lX4_doublesBy_4 (a1 : Int32) (j41 : Int32 → ADD → Option (Int32 × ADD)) (L4 : Int32 → Int32 → ADD → Option (Int32 × ADD)) (x2 : Int32) (x3 : Int32) (D2 : ADD) : Option (Int32 × ADD) := (if (D2.1 43 0) ≤ x3 then j41 x2 D2 else aBind (fX4_timesOf x3 a1 D2) (fun x4 D3 => aBind (fX4_firstWithTimes x4 a1 D3) (fun x5 D4 => aLet (fun (x6 : Int32) (D5 : ADD) => aLet (x2 + x6) (fun x7 => aLet (x3 + (1 : Int32)) (fun x8 => L4 x7 x8 D5))) (fun (j33 : Int32 → ADD → Option (Int32 × ADD)) => (if x3 ≤ x5 then j33 (0 : Int32) D4 else j33 (1 : Int32) D4)))))
def fX4_doublesBy (a1 : Int32) (D : ADD) : Option (Int32 × ADD) := aLet (fun (x1 : Int32) (D1 : ADD) => some (x1, D1)) (fun (j41 : Int32 → ADD → Option (Int32 × ADD)) => aLet (aFix aFuel (lX4_doublesBy_4 a1 j41) (fun _ _ _ => none)) (fun j4 => j4 (0 : Int32) (0 : Int32) D))
set_option maxHeartbeats 4000000 in
set_option maxRecDepth 100000 in
theorem mX4_doublesBy (l : Launch) (g : AGl) (hL : aLX g) (a1 : Int32) (D : ADD) : AM aVi l yX4_doublesBy cX4_doublesBy 4 (some .int) 3 g [.ref (g.1 + 43), .int a1] D (fX4_doublesBy a1 D) := by
  refine AM_of (lv0 := [some (.ref (g.1 + 43)), some (.int a1), none, none]) (own := RX4) (by decide +kernel) rfl (Nat.le_of_ble_eq_true rfl) rfl (fun b hC => ?_)
  unfold fX4_doublesBy
  refine A_iconst (v := 0) hC dX4_doublesBy_0 (by decide) ?_
  refine A_istore_n (lv2 := [some (.ref (g.1 + 43)), some (.int a1), some (.int (0 : Int32)), none]) hC dX4_doublesBy_1 (Nat.le_of_ble_eq_true rfl) rfl rfl ?_
  refine A_iconst (v := 0) hC dX4_doublesBy_2 (by decide) ?_
  refine A_istore_n (lv2 := [some (.ref (g.1 + 43)), some (.int a1), some (.int (0 : Int32)), some (.int (0 : Int32))]) hC dX4_doublesBy_3 (Nat.le_of_ble_eq_true rfl) rfl rfl ?_
  refine A_join (fun (J : Int32 → ADD → Option (Int32 × ADD)) => ∀ (x1 : Int32) (D1 : ADD), AT aVi g b 41 [none, none, some (.int x1), none] [] D1 (J x1 D1)) (fun x1 D1 => ?_) (fun j41 hj41 => ?_)
  · refine A_iload_n hC dX4_doublesBy_41 rfl ?_
    exact A_iret hC dX4_doublesBy_42
  refine A_join (fun (J : Int32 → Int32 → ADD → Option (Int32 × ADD)) => ∀ (x2 : Int32) (x3 : Int32) (D2 : ADD), AT aVi g b 4 [some (.ref (g.1 + 43)), some (.int a1), some (.int x2), some (.int x3)] [] D2 (J x2 x3 D2)) (aFix_all (fun (J : Int32 → Int32 → ADD → Option (Int32 × ADD)) => ∀ (x2 : Int32) (x3 : Int32) (D2 : ADD), AT aVi g b 4 [some (.ref (g.1 + 43)), some (.int a1), some (.int x2), some (.int x3)] [] D2 (J x2 x3 D2)) (fun _ _ _ => A_none) (fun L4 hL4 x2 x3 D2 => ?_) _) (fun j4 hj4 => ?_)
  · unfold lX4_doublesBy_4
    refine A_iload_n hC dX4_doublesBy_4 rfl ?_
    refine A_aload_n hC dX4_doublesBy_5 rfl ?_
    refine A_geti (kf := 0) hC kX4 (lX_43 hL) rfl (by decide) (by decide) rfl w_237 dX4_doublesBy_6 ?_
    refine A_icmp_ge (tgt := 41) hC dX4_doublesBy_9 (by decide) ?_ ?_
    · exact A_to (hj41 x2 D2) (And.intro rfl (trivial))
    · refine A_iload_n hC dX4_doublesBy_12 rfl ?_
      refine A_aload_n hC dX4_doublesBy_13 rfl ?_
      refine A_aload_n hC dX4_doublesBy_14 rfl ?_
      refine A_iload_n hC dX4_doublesBy_15 rfl ?_
      refine A_iload_n hC dX4_doublesBy_16 rfl ?_
      refine A_callVi (As := [.int x3, .int a1]) (st := [.ref (g.1 + 43), .int x2]) hC (fun l => mX4_timesOf l g hL x3 a1 D2) (lX_43 hL) rfl (Nat.le_of_ble_eq_true rfl) yc_X4_99 rfl rfl ⟨by decide, by decide⟩ (Nat.le_of_ble_eq_true rfl) rfl dX4_doublesBy_17 (fun x4 D3 => ?_)
      refine A_iload_n hC dX4_doublesBy_20 rfl ?_
      refine A_callVi (As := [.int x4, .int a1]) (st := [.int x2]) hC (fun l => mX4_firstWithTimes l g hL x4 a1 D3) (lX_43 hL) rfl (Nat.le_of_ble_eq_true rfl) yc_X4_102 rfl rfl ⟨by decide, by decide⟩ (Nat.le_of_ble_eq_true rfl) rfl dX4_doublesBy_21 (fun x5 D4 => ?_)
      refine A_iload_n hC dX4_doublesBy_24 rfl ?_
      refine A_join (fun (J : Int32 → ADD → Option (Int32 × ADD)) => ∀ (x6 : Int32) (D5 : ADD), AT aVi g b 33 [some (.ref (g.1 + 43)), some (.int a1), none, some (.int x3)] [.int x6, .int x2] D5 (J x6 D5)) (fun x6 D5 => ?_) (fun j33 hj33 => ?_)
      · refine A_iadd hC dX4_doublesBy_33 ?_
        refine A_topi (fun x7 => ?_)
        refine A_istore_n (lv2 := [some (.ref (g.1 + 43)), some (.int a1), some (.int x7), some (.int x3)]) hC dX4_doublesBy_34 (Nat.le_of_ble_eq_true rfl) rfl rfl ?_
        refine A_iincL (z := (1 : Int32)) (lv2 := fun x8 => [some (.ref (g.1 + 43)), some (.int a1), some (.int x7), some (.int x8)]) hC dX4_doublesBy_35 rfl (by decide) (Nat.le_of_ble_eq_true rfl) rfl (fun _ => rfl) (fun x8 => ?_)
        refine A_goto (tgt := 4) hC dX4_doublesBy_38 (by decide) ?_
        exact A_to (hL4 x7 x8 D5) (And.intro rfl (And.intro rfl (And.intro rfl (And.intro rfl (trivial)))))
      refine A_icmp_ge (tgt := 32) hC dX4_doublesBy_25 (by decide) ?_ ?_
      · refine A_iconst (v := 0) hC dX4_doublesBy_32 (by decide) ?_
        exact A_to (hj33 (0 : Int32) D4) (And.intro rfl (And.intro rfl (And.intro rfl (trivial))))
      · refine A_iconst (v := 1) hC dX4_doublesBy_28 (by decide) ?_
        refine A_goto (tgt := 33) hC dX4_doublesBy_29 (by decide) ?_
        exact A_to (hj33 (1 : Int32) D4) (And.intro rfl (And.intro rfl (And.intro rfl (trivial))))
  exact A_to (hj4 (0 : Int32) (0 : Int32) D) (And.intro rfl (And.intro rfl (And.intro rfl (And.intro rfl (trivial)))))
def fX4_isNear (a1 : Int32) (a2 : Int32) (D : ADD) : Option (Int32 × ADD) := aBind (fX4_offOf a1 a2 D) (fun x1 D1 => aLet (fun (x2 : Int32) (D2 : ADD) => aZ x2 (some (x2, D2))) (fun (j18 : Int32 → ADD → Option (Int32 × ADD)) => (if a2 < ((8 : Int32) * x1) then j18 (0 : Int32) D1 else j18 (1 : Int32) D1)))
set_option maxHeartbeats 4000000 in
set_option maxRecDepth 100000 in
theorem mX4_isNear (l : Launch) (g : AGl) (hL : aLX g) (a1 : Int32) (a2 : Int32) (D : ADD) : AM aVi l yX4_isNear cX4_isNear 3 (some .boolean) 3 g [.ref (g.1 + 43), .int a1, .int a2] D (fX4_isNear a1 a2 D) := by
  refine AM_of (lv0 := [some (.ref (g.1 + 43)), some (.int a1), some (.int a2)]) (own := RX4) (by decide +kernel) rfl (Nat.le_of_ble_eq_true rfl) rfl (fun b hC => ?_)
  unfold fX4_isNear
  refine A_bipush (v := 8) hC dX4_isNear_0 (by decide) ?_
  refine A_aload_n hC dX4_isNear_2 rfl ?_
  refine A_iload_n hC dX4_isNear_3 rfl ?_
  refine A_iload_n hC dX4_isNear_4 rfl ?_
  refine A_callVi (As := [.int a1, .int a2]) (st := [.int (8 : Int32)]) hC (fun l => mX4_offOf l g hL a1 a2 D) (lX_43 hL) rfl (Nat.le_of_ble_eq_true rfl) yc_X4_67 rfl rfl ⟨by decide, by decide⟩ (Nat.le_of_ble_eq_true rfl) rfl dX4_isNear_5 (fun x1 D1 => ?_)
  refine A_imul hC dX4_isNear_8 ?_
  refine A_iload_n hC dX4_isNear_9 rfl ?_
  refine A_join (fun (J : Int32 → ADD → Option (Int32 × ADD)) => ∀ (x2 : Int32) (D2 : ADD), AT aVi g b 18 [none, none, none] [.int x2] D2 (J x2 D2)) (fun x2 D2 => ?_) (fun j18 hj18 => ?_)
  · exact A_zretc hC dX4_isNear_18
  refine A_icmp_gt (tgt := 17) hC dX4_isNear_10 (by decide) ?_ ?_
  · refine A_iconst (v := 0) hC dX4_isNear_17 (by decide) ?_
    exact A_to (hj18 (0 : Int32) D1) (trivial)
  · refine A_iconst (v := 1) hC dX4_isNear_13 (by decide) ?_
    refine A_goto (tgt := 18) hC dX4_isNear_14 (by decide) ?_
    exact A_to (hj18 (1 : Int32) D1) (trivial)
def lX4_lacksBy_11 (a1 : Int32) (x1 : Int32) (j58 : Int32 → ADD → Option (Int32 × ADD)) (L11 : Int32 → Int32 → ADD → Option (Int32 × ADD)) (x3 : Int32) (x4 : Int32) (D3 : ADD) : Option (Int32 × ADD) := (if (5 : Int32) < x4 then j58 x3 D3 else (if x1 < ((1 : Int32) <<< (x4 &&& 31)) then j58 x3 D3 else aBind (fX4_firstWithTimes ((1 : Int32) <<< (x4 &&& 31)) a1 D3) (fun x5 D4 => aLet (fun (x6 : Int32) (D5 : ADD) => aLet (x3 ||| x6) (fun x7 => aLet (x4 + (1 : Int32)) (fun x8 => L11 x7 x8 D5))) (fun (j50 : Int32 → ADD → Option (Int32 × ADD)) => (if x5 = (D4.1 43 0) then j50 ((1 : Int32) <<< (x4 &&& 31)) D4 else j50 (0 : Int32) D4)))))
def fX4_lacksBy (a1 : Int32) (D : ADD) : Option (Int32 × ADD) := aBind (fX4_greatestTimes a1 D) (fun x1 D1 => aLet (fun (x2 : Int32) (D2 : ADD) => some (x2, D2)) (fun (j58 : Int32 → ADD → Option (Int32 × ADD)) => aLet (aFix aFuel (lX4_lacksBy_11 a1 x1 j58) (fun _ _ _ => none)) (fun j11 => j11 (0 : Int32) (0 : Int32) D1)))
set_option maxHeartbeats 4000000 in
set_option maxRecDepth 100000 in
theorem mX4_lacksBy (l : Launch) (g : AGl) (hL : aLX g) (a1 : Int32) (D : ADD) : AM aVi l yX4_lacksBy cX4_lacksBy 5 (some .int) 3 g [.ref (g.1 + 43), .int a1] D (fX4_lacksBy a1 D) := by
  refine AM_of (lv0 := [some (.ref (g.1 + 43)), some (.int a1), none, none, none]) (own := RX4) (by decide +kernel) rfl (Nat.le_of_ble_eq_true rfl) rfl (fun b hC => ?_)
  unfold fX4_lacksBy
  refine A_iconst (v := 0) hC dX4_lacksBy_0 (by decide) ?_
  refine A_istore_n (lv2 := [some (.ref (g.1 + 43)), some (.int a1), some (.int (0 : Int32)), none, none]) hC dX4_lacksBy_1 (Nat.le_of_ble_eq_true rfl) rfl rfl ?_
  refine A_aload_n hC dX4_lacksBy_2 rfl ?_
  refine A_iload_n hC dX4_lacksBy_3 rfl ?_
  refine A_callVi (As := [.int a1]) (st := []) hC (fun l => mX4_greatestTimes l g hL a1 D) (lX_43 hL) rfl (Nat.le_of_ble_eq_true rfl) yc_X4_105 rfl rfl ⟨by decide, by decide⟩ (Nat.le_of_ble_eq_true rfl) rfl dX4_lacksBy_4 (fun x1 D1 => ?_)
  refine A_istore_n (lv2 := [some (.ref (g.1 + 43)), some (.int a1), some (.int (0 : Int32)), some (.int x1), none]) hC dX4_lacksBy_7 (Nat.le_of_ble_eq_true rfl) rfl rfl ?_
  refine A_iconst (v := 0) hC dX4_lacksBy_8 (by decide) ?_
  refine A_istore (lv2 := [some (.ref (g.1 + 43)), some (.int a1), some (.int (0 : Int32)), some (.int x1), some (.int (0 : Int32))]) hC dX4_lacksBy_9 (Nat.le_of_ble_eq_true rfl) rfl rfl ?_
  refine A_join (fun (J : Int32 → ADD → Option (Int32 × ADD)) => ∀ (x2 : Int32) (D2 : ADD), AT aVi g b 58 [none, none, some (.int x2), none, none] [] D2 (J x2 D2)) (fun x2 D2 => ?_) (fun j58 hj58 => ?_)
  · refine A_iload_n hC dX4_lacksBy_58 rfl ?_
    exact A_iret hC dX4_lacksBy_59
  refine A_join (fun (J : Int32 → Int32 → ADD → Option (Int32 × ADD)) => ∀ (x3 : Int32) (x4 : Int32) (D3 : ADD), AT aVi g b 11 [some (.ref (g.1 + 43)), some (.int a1), some (.int x3), some (.int x1), some (.int x4)] [] D3 (J x3 x4 D3)) (aFix_all (fun (J : Int32 → Int32 → ADD → Option (Int32 × ADD)) => ∀ (x3 : Int32) (x4 : Int32) (D3 : ADD), AT aVi g b 11 [some (.ref (g.1 + 43)), some (.int a1), some (.int x3), some (.int x1), some (.int x4)] [] D3 (J x3 x4 D3)) (fun _ _ _ => A_none) (fun L11 hL11 x3 x4 D3 => ?_) _) (fun j11 hj11 => ?_)
  · unfold lX4_lacksBy_11
    refine A_iload hC dX4_lacksBy_11 rfl ?_
    refine A_iconst (v := 5) hC dX4_lacksBy_13 (by decide) ?_
    refine A_icmp_gt (tgt := 58) hC dX4_lacksBy_14 (by decide) ?_ ?_
    · exact A_to (hj58 x3 D3) (And.intro rfl (trivial))
    · refine A_iconst (v := 1) hC dX4_lacksBy_17 (by decide) ?_
      refine A_iload hC dX4_lacksBy_18 rfl ?_
      refine A_ishl hC dX4_lacksBy_20 ?_
      refine A_iload_n hC dX4_lacksBy_21 rfl ?_
      refine A_icmp_gt (tgt := 58) hC dX4_lacksBy_22 (by decide) ?_ ?_
      · exact A_to (hj58 x3 D3) (And.intro rfl (trivial))
      · refine A_iload_n hC dX4_lacksBy_25 rfl ?_
        refine A_aload_n hC dX4_lacksBy_26 rfl ?_
        refine A_iconst (v := 1) hC dX4_lacksBy_27 (by decide) ?_
        refine A_iload hC dX4_lacksBy_28 rfl ?_
        refine A_ishl hC dX4_lacksBy_30 ?_
        refine A_iload_n hC dX4_lacksBy_31 rfl ?_
        refine A_callVi (As := [.int ((1 : Int32) <<< (x4 &&& 31)), .int a1]) (st := [.int x3]) hC (fun l => mX4_firstWithTimes l g hL ((1 : Int32) <<< (x4 &&& 31)) a1 D3) (lX_43 hL) rfl (Nat.le_of_ble_eq_true rfl) yc_X4_102 rfl rfl ⟨by decide, by decide⟩ (Nat.le_of_ble_eq_true rfl) rfl dX4_lacksBy_32 (fun x5 D4 => ?_)
        refine A_aload_n hC dX4_lacksBy_35 rfl ?_
        refine A_geti (kf := 0) hC kX4 (lX_43 hL) rfl (by decide) (by decide) rfl w_237 dX4_lacksBy_36 ?_
        refine A_join (fun (J : Int32 → ADD → Option (Int32 × ADD)) => ∀ (x6 : Int32) (D5 : ADD), AT aVi g b 50 [some (.ref (g.1 + 43)), some (.int a1), none, some (.int x1), some (.int x4)] [.int x6, .int x3] D5 (J x6 D5)) (fun x6 D5 => ?_) (fun j50 hj50 => ?_)
        · refine A_ior hC dX4_lacksBy_50 ?_
          refine A_topi (fun x7 => ?_)
          refine A_istore_n (lv2 := [some (.ref (g.1 + 43)), some (.int a1), some (.int x7), some (.int x1), some (.int x4)]) hC dX4_lacksBy_51 (Nat.le_of_ble_eq_true rfl) rfl rfl ?_
          refine A_iincL (z := (1 : Int32)) (lv2 := fun x8 => [some (.ref (g.1 + 43)), some (.int a1), some (.int x7), some (.int x1), some (.int x8)]) hC dX4_lacksBy_52 rfl (by decide) (Nat.le_of_ble_eq_true rfl) rfl (fun _ => rfl) (fun x8 => ?_)
          refine A_goto (tgt := 11) hC dX4_lacksBy_55 (by decide) ?_
          exact A_to (hL11 x7 x8 D5) (And.intro rfl (And.intro rfl (And.intro rfl (And.intro rfl (And.intro rfl (trivial))))))
        refine A_icmp_ne (tgt := 49) hC dX4_lacksBy_39 (by decide) ?_ ?_
        · refine A_iconst (v := 0) hC dX4_lacksBy_49 (by decide) ?_
          exact A_to (hj50 (0 : Int32) D4) (And.intro rfl (And.intro rfl (And.intro rfl (And.intro rfl (trivial)))))
        · refine A_iconst (v := 1) hC dX4_lacksBy_42 (by decide) ?_
          refine A_iload hC dX4_lacksBy_43 rfl ?_
          refine A_ishl hC dX4_lacksBy_45 ?_
          refine A_goto (tgt := 50) hC dX4_lacksBy_46 (by decide) ?_
          exact A_to (hj50 ((1 : Int32) <<< (x4 &&& 31)) D4) (And.intro rfl (And.intro rfl (And.intro rfl (And.intro rfl (trivial)))))
  exact A_to (hj11 (0 : Int32) (0 : Int32) D1) (And.intro rfl (And.intro rfl (And.intro rfl (And.intro rfl (And.intro rfl (trivial))))))
def fX4_lay (a1 : Int32) (D : ADD) : Option (Unit × ADD) := aLet (D.1 43 0) (fun x1 => aLet (fun (D1 : ADD) => some ((), D1)) (fun (j15 : ADD → Option (Unit × ADD)) => (if x1 < 0 then j15 D else (if x1 < (32 : Int32) then aIn x1 32 (aLet (aSI D 46 x1.toNatClampNeg a1) (fun D2 => aBind (fX0_known a1 (7 : Int32) D2) (fun x2 D3 => aIn x1 32 (aLet (aSI D3 47 x1.toNatClampNeg x2) (fun D4 => aBind (fX0_known a1 (4 : Int32) D4) (fun x3 D5 => aIn x1 32 (aLet (aSI D5 48 x1.toNatClampNeg x3) (fun D6 => aLet (aSI D6 43 0 ((D6.1 43 0) + (1 : Int32))) (fun D7 => aBind (fX4_measure x1 D7) (fun _ D8 => some ((), D8))))))))))) else j15 D))))
set_option maxHeartbeats 4000000 in
set_option maxRecDepth 100000 in
theorem mX4_lay (l : Launch) (g : AGl) (hL : aLX g) (a1 : Int32) (D : ADD) : AM aVv l yX4_lay cX4_lay 5 none 3 g [.ref (g.1 + 43), .ref (g.1 + 1), .int a1] D (fX4_lay a1 D) := by
  refine AM_of (lv0 := [some (.ref (g.1 + 43)), some (.ref (g.1 + 1)), some (.int a1), none, none]) (own := RX4) (by decide +kernel) rfl (Nat.le_of_ble_eq_true rfl) rfl (fun b hC => ?_)
  unfold fX4_lay
  refine A_aload_n hC dX4_lay_0 rfl ?_
  refine A_geti (kf := 0) hC kX4 (lX_43 hL) rfl (by decide) (by decide) rfl w_237 dX4_lay_1 ?_
  refine A_topi (fun x1 => ?_)
  refine A_istore_n (lv2 := [some (.ref (g.1 + 43)), some (.ref (g.1 + 1)), some (.int a1), some (.int x1), none]) hC dX4_lay_4 (Nat.le_of_ble_eq_true rfl) rfl rfl ?_
  refine A_iload_n hC dX4_lay_5 rfl ?_
  refine A_join (fun (J : ADD → Option (Unit × ADD)) => ∀ (D1 : ADD), AT aVv g b 15 [none, none, none, none, none] [] D1 (J D1)) (fun D1 => ?_) (fun j15 hj15 => ?_)
  · exact A_vret hC dX4_lay_15
  refine A_if_lt (tgt := 15) hC dX4_lay_6 (by decide) ?_ ?_
  · exact A_to (hj15 D) (trivial)
  · refine A_iload_n hC dX4_lay_9 rfl ?_
    refine A_bipush (v := 32) hC dX4_lay_10 (by decide) ?_
    refine A_icmp_lt (tgt := 16) hC dX4_lay_12 (by decide) ?_ ?_
    · refine A_aload_n hC dX4_lay_16 rfl ?_
      refine A_getr (kf := 0) hC kX8 (lX_1 hL) rfl (by decide) (by decide) rfl rfl w_164 dX4_lay_17 ?_
      refine A_astore (lv2 := [some (.ref (g.1 + 43)), some (.ref (g.1 + 1)), some (.int a1), some (.int x1), some (.ref (g.1 + 2))]) hC dX4_lay_20 (Nat.le_of_ble_eq_true rfl) rfl rfl ?_
      refine A_aload_n hC dX4_lay_22 rfl ?_
      refine A_getr (kf := 3) hC kX4 (lX_43 hL) rfl (by decide) (by decide) rfl rfl w_247 dX4_lay_23 ?_
      refine A_iload_n hC dX4_lay_26 rfl ?_
      refine A_iload_n hC dX4_lay_27 rfl ?_
      refine A_iast hC (lX_46 hL) dX4_lay_28 (fun D2 => ?_)
      refine A_aload_n hC dX4_lay_29 rfl ?_
      refine A_getr (kf := 4) hC kX4 (lX_43 hL) rfl (by decide) (by decide) rfl rfl w_248 dX4_lay_30 ?_
      refine A_iload_n hC dX4_lay_33 rfl ?_
      refine A_aload hC dX4_lay_34 rfl ?_
      refine A_iload_n hC dX4_lay_36 rfl ?_
      refine A_bipush (v := 7) hC dX4_lay_37 (by decide) ?_
      refine A_callVi (As := [.int a1, .int (7 : Int32)]) (st := [.int x1, .ref (g.1 + 47)]) hC (fun l => mX0_known l g hL a1 (7 : Int32) D2) (lX_2 hL) rfl (Nat.le_of_ble_eq_true rfl) yc_X4_123 rfl rfl ⟨by decide, by decide⟩ (Nat.le_of_ble_eq_true rfl) rfl dX4_lay_39 (fun x2 D3 => ?_)
      refine A_iast hC (lX_47 hL) dX4_lay_42 (fun D4 => ?_)
      refine A_aload_n hC dX4_lay_43 rfl ?_
      refine A_getr (kf := 5) hC kX4 (lX_43 hL) rfl (by decide) (by decide) rfl rfl w_249 dX4_lay_44 ?_
      refine A_iload_n hC dX4_lay_47 rfl ?_
      refine A_aload hC dX4_lay_48 rfl ?_
      refine A_iload_n hC dX4_lay_50 rfl ?_
      refine A_iconst (v := 4) hC dX4_lay_51 (by decide) ?_
      refine A_callVi (As := [.int a1, .int (4 : Int32)]) (st := [.int x1, .ref (g.1 + 48)]) hC (fun l => mX0_known l g hL a1 (4 : Int32) D4) (lX_2 hL) rfl (Nat.le_of_ble_eq_true rfl) yc_X4_123 rfl rfl ⟨by decide, by decide⟩ (Nat.le_of_ble_eq_true rfl) rfl dX4_lay_52 (fun x3 D5 => ?_)
      refine A_iast hC (lX_48 hL) dX4_lay_55 (fun D6 => ?_)
      refine A_aload_n hC dX4_lay_56 rfl ?_
      refine A_dup hC dX4_lay_57 rfl ?_
      refine A_geti (kf := 0) hC kX4 (lX_43 hL) rfl (by decide) (by decide) rfl w_237 dX4_lay_58 ?_
      refine A_iconst (v := 1) hC dX4_lay_61 (by decide) ?_
      refine A_iadd hC dX4_lay_62 ?_
      refine A_puti (kf := 0) hC kX4 (lX_43 hL) rfl (by decide) (by decide) rfl rfl rfl w_237 dX4_lay_63 (fun D7 => ?_)
      refine A_aload_n hC dX4_lay_66 rfl ?_
      refine A_aload hC dX4_lay_67 rfl ?_
      refine A_aload_n hC dX4_lay_69 rfl ?_
      refine A_getr (kf := 2) hC kX8 (lX_1 hL) rfl (by decide) (by decide) rfl rfl w_169 dX4_lay_70 ?_
      refine A_iload_n hC dX4_lay_73 rfl ?_
      refine A_callVv (As := [.ref (g.1 + 2), .ref (g.1 + 13), .int x1]) (st := []) hC (fun l => mX4_measure l g hL x1 D7) (lX_43 hL) rfl (Nat.le_of_ble_eq_true rfl) yc_X4_140 rfl rfl ⟨by decide, by decide⟩ (Nat.le_of_ble_eq_true rfl) rfl dX4_lay_74 (fun _ D8 => ?_)
      exact A_vret hC dX4_lay_77
    · exact A_to (hj15 D) (trivial)
def lX4_leastOfHeap_55 (a2 : Int32) (x8 : Int32) (j96 : Int64 → ADD → Option (Int32 × ADD)) (L55 : Int64 → Int32 → ADD → Option (Int32 × ADD)) (x12 : Int64) (x13 : Int32) (D7 : ADD) : Option (Int32 × ADD) := (if (D7.1 43 0) ≤ x13 then j96 x12 D7 else aBind (fX4_areTwins x8 x13 a2 D7) (fun x14 D8 => aLet (fun (x15 : Int64) (D9 : ADD) => aLet (x12 ||| x15) (fun x16 => aLet (x13 + (1 : Int32)) (fun x17 => L55 x16 x17 D9))) (fun (j87 : Int64 → ADD → Option (Int32 × ADD)) => (if x14 = 0 then j87 (0 : Int64) D8 else j87 ((1 : Int64) <<< (x13.toInt64 &&& 63)) D8))))
def lX4_leastOfHeap_11 (a2 : Int32) (j102 : Int64 → ADD → Option (Int32 × ADD)) (L11 : Int64 → Int64 → Int32 → ADD → Option (Int32 × ADD)) (x5 : Int64) (x6 : Int64) (x7 : Int32) (D4 : ADD) : Option (Int32 × ADD) := (if (D4.1 43 0) ≤ x7 then j102 x5 D4 else aBind (fX4_firstIn (x5 &&& (x6 ^^^ (-1 : Int64))) D4) (fun x8 D5 => (if x8 = (-1 : Int32) then j102 x5 D5 else aLet (x6 ||| ((1 : Int64) <<< (x8.toInt64 &&& 63))) (fun x9 => aLet (fun (x10 : Int64) (D6 : ADD) => aLet (x7 + (1 : Int32)) (fun x11 => L11 x10 x9 x11 D6)) (fun (j96 : Int64 → ADD → Option (Int32 × ADD)) => aLet (aFix aFuel (lX4_leastOfHeap_55 a2 x8 j96) (fun _ _ _ => none)) (fun j55 => j55 x5 (0 : Int32) D5))))))
def fX4_leastOfHeap (a1 : Int32) (a2 : Int32) (D : ADD) : Option (Int32 × ADD) := aLet ((1 : Int64) <<< (a1.toInt64 &&& 63)) (fun x1 => aLet (fun (x2 : Int64) (D1 : ADD) => aBind (fX4_firstIn x2 D1) (fun x3 D2 => aBind (fX4_numberOf x3 D2) (fun x4 D3 => some (x4, D3)))) (fun (j102 : Int64 → ADD → Option (Int32 × ADD)) => aLet (aFix aFuel (lX4_leastOfHeap_11 a2 j102) (fun _ _ _ _ => none)) (fun j11 => j11 x1 (0 : Int64) (0 : Int32) D)))
set_option maxHeartbeats 4000000 in
set_option maxRecDepth 100000 in
theorem mX4_leastOfHeap (l : Launch) (g : AGl) (hL : aLX g) (a1 : Int32) (a2 : Int32) (D : ADD) : AM aVi l yX4_leastOfHeap cX4_leastOfHeap 11 (some .int) 3 g [.ref (g.1 + 43), .ref (g.1 + 2), .int a1, .int a2] D (fX4_leastOfHeap a1 a2 D) := by
  refine AM_of (lv0 := [some (.ref (g.1 + 43)), some (.ref (g.1 + 2)), some (.int a1), some (.int a2), none, none, none, none, none, none, none]) (own := RX4) (by decide +kernel) rfl (Nat.le_of_ble_eq_true rfl) rfl (fun b hC => ?_)
  unfold fX4_leastOfHeap
  refine A_lconst (v := 1) hC dX4_leastOfHeap_0 (by decide) ?_
  refine A_iload_n hC dX4_leastOfHeap_1 rfl ?_
  refine A_lshl hC dX4_leastOfHeap_2 ?_
  refine A_topl (fun x1 => ?_)
  refine A_lstore (lv2 := [some (.ref (g.1 + 43)), some (.ref (g.1 + 2)), some (.int a1), some (.int a2), some (.long x1), none, none, none, none, none, none]) hC dX4_leastOfHeap_3 (Nat.le_of_ble_eq_true rfl) rfl rfl ?_
  refine A_lconst (v := 0) hC dX4_leastOfHeap_5 (by decide) ?_
  refine A_lstore (lv2 := [some (.ref (g.1 + 43)), some (.ref (g.1 + 2)), some (.int a1), some (.int a2), some (.long x1), none, some (.long (0 : Int64)), none, none, none, none]) hC dX4_leastOfHeap_6 (Nat.le_of_ble_eq_true rfl) rfl rfl ?_
  refine A_iconst (v := 0) hC dX4_leastOfHeap_8 (by decide) ?_
  refine A_istore (lv2 := [some (.ref (g.1 + 43)), some (.ref (g.1 + 2)), some (.int a1), some (.int a2), some (.long x1), none, some (.long (0 : Int64)), none, some (.int (0 : Int32)), none, none]) hC dX4_leastOfHeap_9 (Nat.le_of_ble_eq_true rfl) rfl rfl ?_
  refine A_join (fun (J : Int64 → ADD → Option (Int32 × ADD)) => ∀ (x2 : Int64) (D1 : ADD), AT aVi g b 102 [some (.ref (g.1 + 43)), none, none, none, some (.long x2), none, none, none, none, none, none] [] D1 (J x2 D1)) (fun x2 D1 => ?_) (fun j102 hj102 => ?_)
  · refine A_aload_n hC dX4_leastOfHeap_102 rfl ?_
    refine A_lload hC dX4_leastOfHeap_103 rfl ?_
    refine A_callSi (As := [.long x2]) (st := [.ref (g.1 + 43)]) hC (fun l => mX4_firstIn l g x2 D1) yc_X4_115 rfl rfl ⟨by decide, by decide⟩ (Nat.le_of_ble_eq_true rfl) rfl dX4_leastOfHeap_105 (fun x3 D2 => ?_)
    refine A_callVi (As := [.int x3]) (st := []) hC (fun l => mX4_numberOf l g hL x3 D2) (lX_43 hL) rfl (Nat.le_of_ble_eq_true rfl) yc_X4_57 rfl rfl ⟨by decide, by decide⟩ (Nat.le_of_ble_eq_true rfl) rfl dX4_leastOfHeap_108 (fun x4 D3 => ?_)
    exact A_iret hC dX4_leastOfHeap_111
  refine A_join (fun (J : Int64 → Int64 → Int32 → ADD → Option (Int32 × ADD)) => ∀ (x5 : Int64) (x6 : Int64) (x7 : Int32) (D4 : ADD), AT aVi g b 11 [some (.ref (g.1 + 43)), some (.ref (g.1 + 2)), none, some (.int a2), some (.long x5), none, some (.long x6), none, some (.int x7), none, none] [] D4 (J x5 x6 x7 D4)) (aFix_all (fun (J : Int64 → Int64 → Int32 → ADD → Option (Int32 × ADD)) => ∀ (x5 : Int64) (x6 : Int64) (x7 : Int32) (D4 : ADD), AT aVi g b 11 [some (.ref (g.1 + 43)), some (.ref (g.1 + 2)), none, some (.int a2), some (.long x5), none, some (.long x6), none, some (.int x7), none, none] [] D4 (J x5 x6 x7 D4)) (fun _ _ _ _ => A_none) (fun L11 hL11 x5 x6 x7 D4 => ?_) _) (fun j11 hj11 => ?_)
  · unfold lX4_leastOfHeap_11
    refine A_iload hC dX4_leastOfHeap_11 rfl ?_
    refine A_aload_n hC dX4_leastOfHeap_13 rfl ?_
    refine A_geti (kf := 0) hC kX4 (lX_43 hL) rfl (by decide) (by decide) rfl w_237 dX4_leastOfHeap_14 ?_
    refine A_icmp_ge (tgt := 102) hC dX4_leastOfHeap_17 (by decide) ?_ ?_
    · exact A_to (hj102 x5 D4) (And.intro rfl (And.intro rfl (trivial)))
    · refine A_lload hC dX4_leastOfHeap_20 rfl ?_
      refine A_lload hC dX4_leastOfHeap_22 rfl ?_
      refine A_ldc2 hC dX4_leastOfHeap_24 w_931 ?_
      refine A_lxor hC dX4_leastOfHeap_27 ?_
      refine A_land hC dX4_leastOfHeap_28 ?_
      refine A_callSi (As := [.long (x5 &&& (x6 ^^^ (-1 : Int64)))]) (st := []) hC (fun l => mX4_firstIn l g (x5 &&& (x6 ^^^ (-1 : Int64))) D4) yc_X4_115 rfl rfl ⟨by decide, by decide⟩ (Nat.le_of_ble_eq_true rfl) rfl dX4_leastOfHeap_29 (fun x8 D5 => ?_)
      refine A_istore (lv2 := [some (.ref (g.1 + 43)), some (.ref (g.1 + 2)), none, some (.int a2), some (.long x5), none, some (.long x6), none, some (.int x7), some (.int x8), none]) hC dX4_leastOfHeap_32 (Nat.le_of_ble_eq_true rfl) rfl rfl ?_
      refine A_iload hC dX4_leastOfHeap_34 rfl ?_
      refine A_iconst (v := -1) hC dX4_leastOfHeap_36 (by decide) ?_
      refine A_icmp_ne (tgt := 43) hC dX4_leastOfHeap_37 (by decide) ?_ ?_
      · refine A_lload hC dX4_leastOfHeap_43 rfl ?_
        refine A_lconst (v := 1) hC dX4_leastOfHeap_45 (by decide) ?_
        refine A_iload hC dX4_leastOfHeap_46 rfl ?_
        refine A_lshl hC dX4_leastOfHeap_48 ?_
        refine A_lor hC dX4_leastOfHeap_49 ?_
        refine A_topl (fun x9 => ?_)
        refine A_lstore (lv2 := [some (.ref (g.1 + 43)), some (.ref (g.1 + 2)), none, some (.int a2), some (.long x5), none, some (.long x9), none, some (.int x7), some (.int x8), none]) hC dX4_leastOfHeap_50 (Nat.le_of_ble_eq_true rfl) rfl rfl ?_
        refine A_iconst (v := 0) hC dX4_leastOfHeap_52 (by decide) ?_
        refine A_istore (lv2 := [some (.ref (g.1 + 43)), some (.ref (g.1 + 2)), none, some (.int a2), some (.long x5), none, some (.long x9), none, some (.int x7), some (.int x8), some (.int (0 : Int32))]) hC dX4_leastOfHeap_53 (Nat.le_of_ble_eq_true rfl) rfl rfl ?_
        refine A_join (fun (J : Int64 → ADD → Option (Int32 × ADD)) => ∀ (x10 : Int64) (D6 : ADD), AT aVi g b 96 [some (.ref (g.1 + 43)), some (.ref (g.1 + 2)), none, some (.int a2), some (.long x10), none, some (.long x9), none, some (.int x7), none, none] [] D6 (J x10 D6)) (fun x10 D6 => ?_) (fun j96 hj96 => ?_)
        · refine A_iincL (z := (1 : Int32)) (lv2 := fun x11 => [some (.ref (g.1 + 43)), some (.ref (g.1 + 2)), none, some (.int a2), some (.long x10), none, some (.long x9), none, some (.int x11), none, none]) hC dX4_leastOfHeap_96 rfl (by decide) (Nat.le_of_ble_eq_true rfl) rfl (fun _ => rfl) (fun x11 => ?_)
          refine A_goto (tgt := 11) hC dX4_leastOfHeap_99 (by decide) ?_
          exact A_to (hL11 x10 x9 x11 D6) (And.intro rfl (And.intro rfl (And.intro rfl (And.intro rfl (And.intro rfl (And.intro rfl (trivial)))))))
        refine A_join (fun (J : Int64 → Int32 → ADD → Option (Int32 × ADD)) => ∀ (x12 : Int64) (x13 : Int32) (D7 : ADD), AT aVi g b 55 [some (.ref (g.1 + 43)), some (.ref (g.1 + 2)), none, some (.int a2), some (.long x12), none, some (.long x9), none, some (.int x7), some (.int x8), some (.int x13)] [] D7 (J x12 x13 D7)) (aFix_all (fun (J : Int64 → Int32 → ADD → Option (Int32 × ADD)) => ∀ (x12 : Int64) (x13 : Int32) (D7 : ADD), AT aVi g b 55 [some (.ref (g.1 + 43)), some (.ref (g.1 + 2)), none, some (.int a2), some (.long x12), none, some (.long x9), none, some (.int x7), some (.int x8), some (.int x13)] [] D7 (J x12 x13 D7)) (fun _ _ _ => A_none) (fun L55 hL55 x12 x13 D7 => ?_) _) (fun j55 hj55 => ?_)
        · unfold lX4_leastOfHeap_55
          refine A_iload hC dX4_leastOfHeap_55 rfl ?_
          refine A_aload_n hC dX4_leastOfHeap_57 rfl ?_
          refine A_geti (kf := 0) hC kX4 (lX_43 hL) rfl (by decide) (by decide) rfl w_237 dX4_leastOfHeap_58 ?_
          refine A_icmp_ge (tgt := 96) hC dX4_leastOfHeap_61 (by decide) ?_ ?_
          · exact A_to (hj96 x12 D7) (And.intro rfl (And.intro rfl (And.intro rfl (And.intro rfl (And.intro rfl (And.intro rfl (trivial)))))))
          · refine A_lload hC dX4_leastOfHeap_64 rfl ?_
            refine A_aload_n hC dX4_leastOfHeap_66 rfl ?_
            refine A_aload_n hC dX4_leastOfHeap_67 rfl ?_
            refine A_iload hC dX4_leastOfHeap_68 rfl ?_
            refine A_iload hC dX4_leastOfHeap_70 rfl ?_
            refine A_iload_n hC dX4_leastOfHeap_72 rfl ?_
            refine A_callVi (As := [.ref (g.1 + 2), .int x8, .int x13, .int a2]) (st := [.long x12]) hC (fun l => mX4_areTwins l g hL x8 x13 a2 D7) (lX_43 hL) rfl (Nat.le_of_ble_eq_true rfl) yc_X4_119 rfl rfl ⟨by decide, by decide⟩ (Nat.le_of_ble_eq_true rfl) rfl dX4_leastOfHeap_73 (fun x14 D8 => ?_)
            refine A_join (fun (J : Int64 → ADD → Option (Int32 × ADD)) => ∀ (x15 : Int64) (D9 : ADD), AT aVi g b 87 [some (.ref (g.1 + 43)), some (.ref (g.1 + 2)), none, some (.int a2), none, none, some (.long x9), none, some (.int x7), some (.int x8), some (.int x13)] [.long x15, .long x12] D9 (J x15 D9)) (fun x15 D9 => ?_) (fun j87 hj87 => ?_)
            · refine A_lor hC dX4_leastOfHeap_87 ?_
              refine A_topl (fun x16 => ?_)
              refine A_lstore (lv2 := [some (.ref (g.1 + 43)), some (.ref (g.1 + 2)), none, some (.int a2), some (.long x16), none, some (.long x9), none, some (.int x7), some (.int x8), some (.int x13)]) hC dX4_leastOfHeap_88 (Nat.le_of_ble_eq_true rfl) rfl rfl ?_
              refine A_iincL (z := (1 : Int32)) (lv2 := fun x17 => [some (.ref (g.1 + 43)), some (.ref (g.1 + 2)), none, some (.int a2), some (.long x16), none, some (.long x9), none, some (.int x7), some (.int x8), some (.int x17)]) hC dX4_leastOfHeap_90 rfl (by decide) (Nat.le_of_ble_eq_true rfl) rfl (fun _ => rfl) (fun x17 => ?_)
              refine A_goto (tgt := 55) hC dX4_leastOfHeap_93 (by decide) ?_
              exact A_to (hL55 x16 x17 D9) (And.intro rfl (And.intro rfl (And.intro rfl (And.intro rfl (And.intro rfl (And.intro rfl (And.intro rfl (And.intro rfl (trivial)))))))))
            refine A_if_eq (tgt := 86) hC dX4_leastOfHeap_76 (by decide) ?_ ?_
            · refine A_lconst (v := 0) hC dX4_leastOfHeap_86 (by decide) ?_
              exact A_to (hj87 (0 : Int64) D8) (And.intro rfl (And.intro rfl (And.intro rfl (And.intro rfl (And.intro rfl (And.intro rfl (And.intro rfl (trivial))))))))
            · refine A_lconst (v := 1) hC dX4_leastOfHeap_79 (by decide) ?_
              refine A_iload hC dX4_leastOfHeap_80 rfl ?_
              refine A_lshl hC dX4_leastOfHeap_82 ?_
              refine A_goto (tgt := 87) hC dX4_leastOfHeap_83 (by decide) ?_
              exact A_to (hj87 ((1 : Int64) <<< (x13.toInt64 &&& 63)) D8) (And.intro rfl (And.intro rfl (And.intro rfl (And.intro rfl (And.intro rfl (And.intro rfl (And.intro rfl (trivial))))))))
        exact A_to (hj55 x5 (0 : Int32) D5) (And.intro rfl (And.intro rfl (And.intro rfl (And.intro rfl (And.intro rfl (And.intro rfl (And.intro rfl (And.intro rfl (trivial)))))))))
      · refine A_goto (tgt := 102) hC dX4_leastOfHeap_40 (by decide) ?_
        exact A_to (hj102 x5 D5) (And.intro rfl (And.intro rfl (trivial)))
  exact A_to (hj11 x1 (0 : Int64) (0 : Int32) D) (And.intro rfl (And.intro rfl (And.intro rfl (And.intro rfl (And.intro rfl (And.intro rfl (trivial)))))))
def lX4_scoreBy_4 (a1 : Int32) (j27 : Int32 → ADD → Option (Int32 × ADD)) (L4 : Int32 → Int32 → ADD → Option (Int32 × ADD)) (x2 : Int32) (x3 : Int32) (D2 : ADD) : Option (Int32 × ADD) := (if (D2.1 43 0) ≤ x3 then j27 x2 D2 else aBind (fX4_offOf x3 a1 D2) (fun x4 D3 => aLet (x2 + x4) (fun x5 => aLet (x3 + (1 : Int32)) (fun x6 => L4 x5 x6 D3))))
def fX4_scoreBy (a1 : Int32) (D : ADD) : Option (Int32 × ADD) := aLet (fun (x1 : Int32) (D1 : ADD) => some (((a1 * (D1.1 43 0)) - ((4 : Int32) * x1)), D1)) (fun (j27 : Int32 → ADD → Option (Int32 × ADD)) => aLet (aFix aFuel (lX4_scoreBy_4 a1 j27) (fun _ _ _ => none)) (fun j4 => j4 (0 : Int32) (0 : Int32) D))
set_option maxHeartbeats 4000000 in
set_option maxRecDepth 100000 in
theorem mX4_scoreBy (l : Launch) (g : AGl) (hL : aLX g) (a1 : Int32) (D : ADD) : AM aVi l yX4_scoreBy cX4_scoreBy 4 (some .int) 3 g [.ref (g.1 + 43), .int a1] D (fX4_scoreBy a1 D) := by
  refine AM_of (lv0 := [some (.ref (g.1 + 43)), some (.int a1), none, none]) (own := RX4) (by decide +kernel) rfl (Nat.le_of_ble_eq_true rfl) rfl (fun b hC => ?_)
  unfold fX4_scoreBy
  refine A_iconst (v := 0) hC dX4_scoreBy_0 (by decide) ?_
  refine A_istore_n (lv2 := [some (.ref (g.1 + 43)), some (.int a1), some (.int (0 : Int32)), none]) hC dX4_scoreBy_1 (Nat.le_of_ble_eq_true rfl) rfl rfl ?_
  refine A_iconst (v := 0) hC dX4_scoreBy_2 (by decide) ?_
  refine A_istore_n (lv2 := [some (.ref (g.1 + 43)), some (.int a1), some (.int (0 : Int32)), some (.int (0 : Int32))]) hC dX4_scoreBy_3 (Nat.le_of_ble_eq_true rfl) rfl rfl ?_
  refine A_join (fun (J : Int32 → ADD → Option (Int32 × ADD)) => ∀ (x1 : Int32) (D1 : ADD), AT aVi g b 27 [some (.ref (g.1 + 43)), some (.int a1), some (.int x1), none] [] D1 (J x1 D1)) (fun x1 D1 => ?_) (fun j27 hj27 => ?_)
  · refine A_iload_n hC dX4_scoreBy_27 rfl ?_
    refine A_aload_n hC dX4_scoreBy_28 rfl ?_
    refine A_geti (kf := 0) hC kX4 (lX_43 hL) rfl (by decide) (by decide) rfl w_237 dX4_scoreBy_29 ?_
    refine A_imul hC dX4_scoreBy_32 ?_
    refine A_iconst (v := 4) hC dX4_scoreBy_33 (by decide) ?_
    refine A_iload_n hC dX4_scoreBy_34 rfl ?_
    refine A_imul hC dX4_scoreBy_35 ?_
    refine A_isub hC dX4_scoreBy_36 ?_
    exact A_iret hC dX4_scoreBy_37
  refine A_join (fun (J : Int32 → Int32 → ADD → Option (Int32 × ADD)) => ∀ (x2 : Int32) (x3 : Int32) (D2 : ADD), AT aVi g b 4 [some (.ref (g.1 + 43)), some (.int a1), some (.int x2), some (.int x3)] [] D2 (J x2 x3 D2)) (aFix_all (fun (J : Int32 → Int32 → ADD → Option (Int32 × ADD)) => ∀ (x2 : Int32) (x3 : Int32) (D2 : ADD), AT aVi g b 4 [some (.ref (g.1 + 43)), some (.int a1), some (.int x2), some (.int x3)] [] D2 (J x2 x3 D2)) (fun _ _ _ => A_none) (fun L4 hL4 x2 x3 D2 => ?_) _) (fun j4 hj4 => ?_)
  · unfold lX4_scoreBy_4
    refine A_iload_n hC dX4_scoreBy_4 rfl ?_
    refine A_aload_n hC dX4_scoreBy_5 rfl ?_
    refine A_geti (kf := 0) hC kX4 (lX_43 hL) rfl (by decide) (by decide) rfl w_237 dX4_scoreBy_6 ?_
    refine A_icmp_ge (tgt := 27) hC dX4_scoreBy_9 (by decide) ?_ ?_
    · exact A_to (hj27 x2 D2) (And.intro rfl (And.intro rfl (And.intro rfl (trivial))))
    · refine A_iload_n hC dX4_scoreBy_12 rfl ?_
      refine A_aload_n hC dX4_scoreBy_13 rfl ?_
      refine A_iload_n hC dX4_scoreBy_14 rfl ?_
      refine A_iload_n hC dX4_scoreBy_15 rfl ?_
      refine A_callVi (As := [.int x3, .int a1]) (st := [.int x2]) hC (fun l => mX4_offOf l g hL x3 a1 D2) (lX_43 hL) rfl (Nat.le_of_ble_eq_true rfl) yc_X4_67 rfl rfl ⟨by decide, by decide⟩ (Nat.le_of_ble_eq_true rfl) rfl dX4_scoreBy_16 (fun x4 D3 => ?_)
      refine A_iadd hC dX4_scoreBy_19 ?_
      refine A_topi (fun x5 => ?_)
      refine A_istore_n (lv2 := [some (.ref (g.1 + 43)), some (.int a1), some (.int x5), some (.int x3)]) hC dX4_scoreBy_20 (Nat.le_of_ble_eq_true rfl) rfl rfl ?_
      refine A_iincL (z := (1 : Int32)) (lv2 := fun x6 => [some (.ref (g.1 + 43)), some (.int a1), some (.int x5), some (.int x6)]) hC dX4_scoreBy_21 rfl (by decide) (Nat.le_of_ble_eq_true rfl) rfl (fun _ => rfl) (fun x6 => ?_)
      refine A_goto (tgt := 4) hC dX4_scoreBy_24 (by decide) ?_
      exact A_to (hL4 x5 x6 D3) (And.intro rfl (And.intro rfl (And.intro rfl (And.intro rfl (trivial)))))
  exact A_to (hj4 (0 : Int32) (0 : Int32) D) (And.intro rfl (And.intro rfl (And.intro rfl (And.intro rfl (trivial)))))
def lX4_shortsBy_4 (a1 : Int32) (j39 : Int32 → ADD → Option (Int32 × ADD)) (L4 : Int32 → Int32 → ADD → Option (Int32 × ADD)) (x2 : Int32) (x3 : Int32) (D2 : ADD) : Option (Int32 × ADD) := (if (D2.1 43 0) ≤ x3 then j39 x2 D2 else aBind (fX4_shortOf x3 a1 D2) (fun x4 D3 => aLet (fun (x5 : Int32) (D4 : ADD) => aLet (x2 + x5) (fun x6 => aLet (x3 + (1 : Int32)) (fun x7 => L4 x6 x7 D4))) (fun (j31 : Int32 → ADD → Option (Int32 × ADD)) => (if ((100 : Int32) * x4) ≤ a1 then j31 (0 : Int32) D3 else j31 (1 : Int32) D3))))
def fX4_shortsBy (a1 : Int32) (D : ADD) : Option (Int32 × ADD) := aLet (fun (x1 : Int32) (D1 : ADD) => some (x1, D1)) (fun (j39 : Int32 → ADD → Option (Int32 × ADD)) => aLet (aFix aFuel (lX4_shortsBy_4 a1 j39) (fun _ _ _ => none)) (fun j4 => j4 (0 : Int32) (0 : Int32) D))
set_option maxHeartbeats 4000000 in
set_option maxRecDepth 100000 in
theorem mX4_shortsBy (l : Launch) (g : AGl) (hL : aLX g) (a1 : Int32) (D : ADD) : AM aVi l yX4_shortsBy cX4_shortsBy 4 (some .int) 3 g [.ref (g.1 + 43), .int a1] D (fX4_shortsBy a1 D) := by
  refine AM_of (lv0 := [some (.ref (g.1 + 43)), some (.int a1), none, none]) (own := RX4) (by decide +kernel) rfl (Nat.le_of_ble_eq_true rfl) rfl (fun b hC => ?_)
  unfold fX4_shortsBy
  refine A_iconst (v := 0) hC dX4_shortsBy_0 (by decide) ?_
  refine A_istore_n (lv2 := [some (.ref (g.1 + 43)), some (.int a1), some (.int (0 : Int32)), none]) hC dX4_shortsBy_1 (Nat.le_of_ble_eq_true rfl) rfl rfl ?_
  refine A_iconst (v := 0) hC dX4_shortsBy_2 (by decide) ?_
  refine A_istore_n (lv2 := [some (.ref (g.1 + 43)), some (.int a1), some (.int (0 : Int32)), some (.int (0 : Int32))]) hC dX4_shortsBy_3 (Nat.le_of_ble_eq_true rfl) rfl rfl ?_
  refine A_join (fun (J : Int32 → ADD → Option (Int32 × ADD)) => ∀ (x1 : Int32) (D1 : ADD), AT aVi g b 39 [none, none, some (.int x1), none] [] D1 (J x1 D1)) (fun x1 D1 => ?_) (fun j39 hj39 => ?_)
  · refine A_iload_n hC dX4_shortsBy_39 rfl ?_
    exact A_iret hC dX4_shortsBy_40
  refine A_join (fun (J : Int32 → Int32 → ADD → Option (Int32 × ADD)) => ∀ (x2 : Int32) (x3 : Int32) (D2 : ADD), AT aVi g b 4 [some (.ref (g.1 + 43)), some (.int a1), some (.int x2), some (.int x3)] [] D2 (J x2 x3 D2)) (aFix_all (fun (J : Int32 → Int32 → ADD → Option (Int32 × ADD)) => ∀ (x2 : Int32) (x3 : Int32) (D2 : ADD), AT aVi g b 4 [some (.ref (g.1 + 43)), some (.int a1), some (.int x2), some (.int x3)] [] D2 (J x2 x3 D2)) (fun _ _ _ => A_none) (fun L4 hL4 x2 x3 D2 => ?_) _) (fun j4 hj4 => ?_)
  · unfold lX4_shortsBy_4
    refine A_iload_n hC dX4_shortsBy_4 rfl ?_
    refine A_aload_n hC dX4_shortsBy_5 rfl ?_
    refine A_geti (kf := 0) hC kX4 (lX_43 hL) rfl (by decide) (by decide) rfl w_237 dX4_shortsBy_6 ?_
    refine A_icmp_ge (tgt := 39) hC dX4_shortsBy_9 (by decide) ?_ ?_
    · exact A_to (hj39 x2 D2) (And.intro rfl (trivial))
    · refine A_iload_n hC dX4_shortsBy_12 rfl ?_
      refine A_bipush (v := 100) hC dX4_shortsBy_13 (by decide) ?_
      refine A_aload_n hC dX4_shortsBy_15 rfl ?_
      refine A_iload_n hC dX4_shortsBy_16 rfl ?_
      refine A_iload_n hC dX4_shortsBy_17 rfl ?_
      refine A_callVi (As := [.int x3, .int a1]) (st := [.int (100 : Int32), .int x2]) hC (fun l => mX4_shortOf l g hL x3 a1 D2) (lX_43 hL) rfl (Nat.le_of_ble_eq_true rfl) yc_X4_96 rfl rfl ⟨by decide, by decide⟩ (Nat.le_of_ble_eq_true rfl) rfl dX4_shortsBy_18 (fun x4 D3 => ?_)
      refine A_imul hC dX4_shortsBy_21 ?_
      refine A_iload_n hC dX4_shortsBy_22 rfl ?_
      refine A_join (fun (J : Int32 → ADD → Option (Int32 × ADD)) => ∀ (x5 : Int32) (D4 : ADD), AT aVi g b 31 [some (.ref (g.1 + 43)), some (.int a1), none, some (.int x3)] [.int x5, .int x2] D4 (J x5 D4)) (fun x5 D4 => ?_) (fun j31 hj31 => ?_)
      · refine A_iadd hC dX4_shortsBy_31 ?_
        refine A_topi (fun x6 => ?_)
        refine A_istore_n (lv2 := [some (.ref (g.1 + 43)), some (.int a1), some (.int x6), some (.int x3)]) hC dX4_shortsBy_32 (Nat.le_of_ble_eq_true rfl) rfl rfl ?_
        refine A_iincL (z := (1 : Int32)) (lv2 := fun x7 => [some (.ref (g.1 + 43)), some (.int a1), some (.int x6), some (.int x7)]) hC dX4_shortsBy_33 rfl (by decide) (Nat.le_of_ble_eq_true rfl) rfl (fun _ => rfl) (fun x7 => ?_)
        refine A_goto (tgt := 4) hC dX4_shortsBy_36 (by decide) ?_
        exact A_to (hL4 x6 x7 D4) (And.intro rfl (And.intro rfl (And.intro rfl (And.intro rfl (trivial)))))
      refine A_icmp_le (tgt := 30) hC dX4_shortsBy_23 (by decide) ?_ ?_
      · refine A_iconst (v := 0) hC dX4_shortsBy_30 (by decide) ?_
        exact A_to (hj31 (0 : Int32) D3) (And.intro rfl (And.intro rfl (And.intro rfl (trivial))))
      · refine A_iconst (v := 1) hC dX4_shortsBy_26 (by decide) ?_
        refine A_goto (tgt := 31) hC dX4_shortsBy_27 (by decide) ?_
        exact A_to (hj31 (1 : Int32) D3) (And.intro rfl (And.intro rfl (And.intro rfl (trivial))))
  exact A_to (hj4 (0 : Int32) (0 : Int32) D) (And.intro rfl (And.intro rfl (And.intro rfl (And.intro rfl (trivial)))))
def lX7_bestIf_15 (a1 : Int32) (a2 : Int32) (j89 : Int32 → ADD → Option (Int32 × ADD)) (L15 : Int32 → Int64 → Int32 → ADD → Option (Int32 × ADD)) (x4 : Int32) (x5 : Int64) (x6 : Int32) (D2 : ADD) : Option (Int32 × ADD) := (if (D2.1 50 1) < x6 then j89 x4 D2 else aIn (x6 - (D2.1 50 0)) 301 (aBind (fX4_offIf a1 a2 x6 D2) (fun x7 D3 => aLet ((D2.1 52 (x6 - (D2.1 50 0)).toNatClampNeg) - ((4 : Int32) * x7)).toInt64 (fun x8 => aLet (fun (x9 : Int32) (x10 : Int64) (D4 : ADD) => aLet (x6 + (1 : Int32)) (fun x11 => L15 x9 x10 x11 D4)) (fun (j83 : Int32 → Int64 → ADD → Option (Int32 × ADD)) => aLet (fun (D5 : ADD) => j83 x6 x8 D5) (fun (j75 : ADD → Option (Int32 × ADD)) => (if x6 = (D3.1 50 0) then j75 D3 else (if (aCmp (x8 * x4.toInt64) (x5 * x6.toInt64)) < 0 then j83 x4 x5 D3 else j75 D3))))))))
def fX7_bestIf (a1 : Int32) (a2 : Int32) (D : ADD) : Option (Int32 × ADD) := aLet (D.1 50 0) (fun x1 => aLet (D.1 50 0) (fun x2 => aLet (fun (x3 : Int32) (D1 : ADD) => some (x3, D1)) (fun (j89 : Int32 → ADD → Option (Int32 × ADD)) => aLet (aFix aFuel (lX7_bestIf_15 a1 a2 j89) (fun _ _ _ _ => none)) (fun j15 => j15 x1 (0 : Int64) x2 D))))
set_option maxHeartbeats 4000000 in
set_option maxRecDepth 100000 in
theorem mX7_bestIf (l : Launch) (g : AGl) (hL : aLX g) (a1 : Int32) (a2 : Int32) (D : ADD) : AM aVi l yX7_bestIf cX7_bestIf 10 (some .int) 3 g [.ref (g.1 + 50), .ref (g.1 + 43), .int a1, .int a2] D (fX7_bestIf a1 a2 D) := by
  refine AM_of (lv0 := [some (.ref (g.1 + 50)), some (.ref (g.1 + 43)), some (.int a1), some (.int a2), none, none, none, none, none, none]) (own := RX7) (by decide +kernel) rfl (Nat.le_of_ble_eq_true rfl) rfl (fun b hC => ?_)
  unfold fX7_bestIf
  refine A_aload_n hC dX7_bestIf_0 rfl ?_
  refine A_geti (kf := 0) hC kX7 (lX_50 hL) rfl (by decide) (by decide) rfl w_272 dX7_bestIf_1 ?_
  refine A_topi (fun x1 => ?_)
  refine A_istore (lv2 := [some (.ref (g.1 + 50)), some (.ref (g.1 + 43)), some (.int a1), some (.int a2), some (.int x1), none, none, none, none, none]) hC dX7_bestIf_4 (Nat.le_of_ble_eq_true rfl) rfl rfl ?_
  refine A_lconst (v := 0) hC dX7_bestIf_6 (by decide) ?_
  refine A_lstore (lv2 := [some (.ref (g.1 + 50)), some (.ref (g.1 + 43)), some (.int a1), some (.int a2), some (.int x1), some (.long (0 : Int64)), none, none, none, none]) hC dX7_bestIf_7 (Nat.le_of_ble_eq_true rfl) rfl rfl ?_
  refine A_aload_n hC dX7_bestIf_9 rfl ?_
  refine A_geti (kf := 0) hC kX7 (lX_50 hL) rfl (by decide) (by decide) rfl w_272 dX7_bestIf_10 ?_
  refine A_topi (fun x2 => ?_)
  refine A_istore (lv2 := [some (.ref (g.1 + 50)), some (.ref (g.1 + 43)), some (.int a1), some (.int a2), some (.int x1), some (.long (0 : Int64)), none, some (.int x2), none, none]) hC dX7_bestIf_13 (Nat.le_of_ble_eq_true rfl) rfl rfl ?_
  refine A_join (fun (J : Int32 → ADD → Option (Int32 × ADD)) => ∀ (x3 : Int32) (D1 : ADD), AT aVi g b 89 [none, none, none, none, some (.int x3), none, none, none, none, none] [] D1 (J x3 D1)) (fun x3 D1 => ?_) (fun j89 hj89 => ?_)
  · refine A_iload hC dX7_bestIf_89 rfl ?_
    exact A_iret hC dX7_bestIf_91
  refine A_join (fun (J : Int32 → Int64 → Int32 → ADD → Option (Int32 × ADD)) => ∀ (x4 : Int32) (x5 : Int64) (x6 : Int32) (D2 : ADD), AT aVi g b 15 [some (.ref (g.1 + 50)), some (.ref (g.1 + 43)), some (.int a1), some (.int a2), some (.int x4), some (.long x5), none, some (.int x6), none, none] [] D2 (J x4 x5 x6 D2)) (aFix_all (fun (J : Int32 → Int64 → Int32 → ADD → Option (Int32 × ADD)) => ∀ (x4 : Int32) (x5 : Int64) (x6 : Int32) (D2 : ADD), AT aVi g b 15 [some (.ref (g.1 + 50)), some (.ref (g.1 + 43)), some (.int a1), some (.int a2), some (.int x4), some (.long x5), none, some (.int x6), none, none] [] D2 (J x4 x5 x6 D2)) (fun _ _ _ _ => A_none) (fun L15 hL15 x4 x5 x6 D2 => ?_) _) (fun j15 hj15 => ?_)
  · unfold lX7_bestIf_15
    refine A_iload hC dX7_bestIf_15 rfl ?_
    refine A_aload_n hC dX7_bestIf_17 rfl ?_
    refine A_geti (kf := 1) hC kX7 (lX_50 hL) rfl (by decide) (by decide) rfl w_273 dX7_bestIf_18 ?_
    refine A_icmp_gt (tgt := 89) hC dX7_bestIf_21 (by decide) ?_ ?_
    · exact A_to (hj89 x4 D2) (And.intro rfl (trivial))
    · refine A_aload_n hC dX7_bestIf_24 rfl ?_
      refine A_getr (kf := 3) hC kX7 (lX_50 hL) rfl (by decide) (by decide) rfl rfl w_275 dX7_bestIf_25 ?_
      refine A_iload hC dX7_bestIf_28 rfl ?_
      refine A_aload_n hC dX7_bestIf_30 rfl ?_
      refine A_geti (kf := 0) hC kX7 (lX_50 hL) rfl (by decide) (by decide) rfl w_272 dX7_bestIf_31 ?_
      refine A_isub hC dX7_bestIf_34 ?_
      refine A_iald hC (lX_52 hL) dX7_bestIf_35 ?_
      refine A_iconst (v := 4) hC dX7_bestIf_36 (by decide) ?_
      refine A_aload_n hC dX7_bestIf_37 rfl ?_
      refine A_iload_n hC dX7_bestIf_38 rfl ?_
      refine A_iload_n hC dX7_bestIf_39 rfl ?_
      refine A_iload hC dX7_bestIf_40 rfl ?_
      refine A_callVi (As := [.int a1, .int a2, .int x6]) (st := [.int (4 : Int32), .int (D2.1 52 (x6 - (D2.1 50 0)).toNatClampNeg)]) hC (fun l => mX4_offIf l g hL a1 a2 x6 D2) (lX_43 hL) rfl (Nat.le_of_ble_eq_true rfl) yc_X7_104 rfl rfl ⟨by decide, by decide⟩ (Nat.le_of_ble_eq_true rfl) rfl dX7_bestIf_42 (fun x7 D3 => ?_)
      refine A_imul hC dX7_bestIf_45 ?_
      refine A_isub hC dX7_bestIf_46 ?_
      refine A_i2l hC dX7_bestIf_47 ?_
      refine A_topl (fun x8 => ?_)
      refine A_lstore (lv2 := [some (.ref (g.1 + 50)), some (.ref (g.1 + 43)), some (.int a1), some (.int a2), some (.int x4), some (.long x5), none, some (.int x6), some (.long x8), none]) hC dX7_bestIf_48 (Nat.le_of_ble_eq_true rfl) rfl rfl ?_
      refine A_iload hC dX7_bestIf_50 rfl ?_
      refine A_aload_n hC dX7_bestIf_52 rfl ?_
      refine A_geti (kf := 0) hC kX7 (lX_50 hL) rfl (by decide) (by decide) rfl w_272 dX7_bestIf_53 ?_
      refine A_join (fun (J : Int32 → Int64 → ADD → Option (Int32 × ADD)) => ∀ (x9 : Int32) (x10 : Int64) (D4 : ADD), AT aVi g b 83 [some (.ref (g.1 + 50)), some (.ref (g.1 + 43)), some (.int a1), some (.int a2), some (.int x9), some (.long x10), none, some (.int x6), none, none] [] D4 (J x9 x10 D4)) (fun x9 x10 D4 => ?_) (fun j83 hj83 => ?_)
      · refine A_iincL (z := (1 : Int32)) (lv2 := fun x11 => [some (.ref (g.1 + 50)), some (.ref (g.1 + 43)), some (.int a1), some (.int a2), some (.int x9), some (.long x10), none, some (.int x11), none, none]) hC dX7_bestIf_83 rfl (by decide) (Nat.le_of_ble_eq_true rfl) rfl (fun _ => rfl) (fun x11 => ?_)
        refine A_goto (tgt := 15) hC dX7_bestIf_86 (by decide) ?_
        exact A_to (hL15 x9 x10 x11 D4) (And.intro rfl (And.intro rfl (And.intro rfl (And.intro rfl (And.intro rfl (And.intro rfl (And.intro rfl (trivial))))))))
      refine A_join (fun (J : ADD → Option (Int32 × ADD)) => ∀ (D5 : ADD), AT aVi g b 75 [some (.ref (g.1 + 50)), some (.ref (g.1 + 43)), some (.int a1), some (.int a2), none, none, none, some (.int x6), some (.long x8), none] [] D5 (J D5)) (fun D5 => ?_) (fun j75 hj75 => ?_)
      · refine A_iload hC dX7_bestIf_75 rfl ?_
        refine A_istore (lv2 := [some (.ref (g.1 + 50)), some (.ref (g.1 + 43)), some (.int a1), some (.int a2), some (.int x6), none, none, some (.int x6), some (.long x8), none]) hC dX7_bestIf_77 (Nat.le_of_ble_eq_true rfl) rfl rfl ?_
        refine A_lload hC dX7_bestIf_79 rfl ?_
        refine A_lstore (lv2 := [some (.ref (g.1 + 50)), some (.ref (g.1 + 43)), some (.int a1), some (.int a2), some (.int x6), some (.long x8), none, some (.int x6), some (.long x8), none]) hC dX7_bestIf_81 (Nat.le_of_ble_eq_true rfl) rfl rfl ?_
        exact A_to (hj83 x6 x8 D5) (And.intro rfl (And.intro rfl (And.intro rfl (And.intro rfl (And.intro rfl (And.intro rfl (And.intro rfl (trivial))))))))
      refine A_icmp_eq (tgt := 75) hC dX7_bestIf_56 (by decide) ?_ ?_
      · exact A_to (hj75 D3) (And.intro rfl (And.intro rfl (And.intro rfl (And.intro rfl (And.intro rfl (And.intro rfl (trivial)))))))
      · refine A_lload hC dX7_bestIf_59 rfl ?_
        refine A_iload hC dX7_bestIf_61 rfl ?_
        refine A_i2l hC dX7_bestIf_63 ?_
        refine A_lmul hC dX7_bestIf_64 ?_
        refine A_lload hC dX7_bestIf_65 rfl ?_
        refine A_iload hC dX7_bestIf_67 rfl ?_
        refine A_i2l hC dX7_bestIf_69 ?_
        refine A_lmul hC dX7_bestIf_70 ?_
        refine A_lcmp hC dX7_bestIf_71 ?_
        refine A_if_lt (tgt := 83) hC dX7_bestIf_72 (by decide) ?_ ?_
        · exact A_to (hj83 x4 x5 D3) (And.intro rfl (And.intro rfl (And.intro rfl (And.intro rfl (And.intro rfl (And.intro rfl (And.intro rfl (trivial))))))))
        · exact A_to (hj75 D3) (And.intro rfl (And.intro rfl (And.intro rfl (And.intro rfl (And.intro rfl (And.intro rfl (trivial)))))))
  exact A_to (hj15 x1 (0 : Int64) x2 D) (And.intro rfl (And.intro rfl (And.intro rfl (And.intro rfl (And.intro rfl (And.intro rfl (And.intro rfl (trivial))))))))
def lX7_betterPeaks_4 (a1 : Int32) (j49 : Int32 → ADD → Option (Int32 × ADD)) (L4 : Int32 → Int32 → ADD → Option (Int32 × ADD)) (x2 : Int32) (x3 : Int32) (D2 : ADD) : Option (Int32 × ADD) := (if (D2.1 50 5) ≤ x3 then j49 x2 D2 else (if (Int32.ofNat 301) ≤ x3 then j49 x2 D2 else aIn x3 301 (aBind (fX7_isBetter (D2.1 53 x3.toNatClampNeg) a1 D2) (fun x4 D3 => aLet (fun (x5 : Int32) (D4 : ADD) => aLet (x2 + x5) (fun x6 => aLet (x3 + (1 : Int32)) (fun x7 => L4 x6 x7 D4))) (fun (j41 : Int32 → ADD → Option (Int32 × ADD)) => (if x4 = 0 then j41 (0 : Int32) D3 else j41 (1 : Int32) D3))))))
def fX7_betterPeaks (a1 : Int32) (D : ADD) : Option (Int32 × ADD) := aLet (fun (x1 : Int32) (D1 : ADD) => some (x1, D1)) (fun (j49 : Int32 → ADD → Option (Int32 × ADD)) => aLet (aFix aFuel (lX7_betterPeaks_4 a1 j49) (fun _ _ _ => none)) (fun j4 => j4 (0 : Int32) (0 : Int32) D))
set_option maxHeartbeats 4000000 in
set_option maxRecDepth 100000 in
theorem mX7_betterPeaks (l : Launch) (g : AGl) (hL : aLX g) (a1 : Int32) (D : ADD) : AM aVi l yX7_betterPeaks cX7_betterPeaks 4 (some .int) 3 g [.ref (g.1 + 50), .int a1] D (fX7_betterPeaks a1 D) := by
  refine AM_of (lv0 := [some (.ref (g.1 + 50)), some (.int a1), none, none]) (own := RX7) (by decide +kernel) rfl (Nat.le_of_ble_eq_true rfl) rfl (fun b hC => ?_)
  unfold fX7_betterPeaks
  refine A_iconst (v := 0) hC dX7_betterPeaks_0 (by decide) ?_
  refine A_istore_n (lv2 := [some (.ref (g.1 + 50)), some (.int a1), some (.int (0 : Int32)), none]) hC dX7_betterPeaks_1 (Nat.le_of_ble_eq_true rfl) rfl rfl ?_
  refine A_iconst (v := 0) hC dX7_betterPeaks_2 (by decide) ?_
  refine A_istore_n (lv2 := [some (.ref (g.1 + 50)), some (.int a1), some (.int (0 : Int32)), some (.int (0 : Int32))]) hC dX7_betterPeaks_3 (Nat.le_of_ble_eq_true rfl) rfl rfl ?_
  refine A_join (fun (J : Int32 → ADD → Option (Int32 × ADD)) => ∀ (x1 : Int32) (D1 : ADD), AT aVi g b 49 [none, none, some (.int x1), none] [] D1 (J x1 D1)) (fun x1 D1 => ?_) (fun j49 hj49 => ?_)
  · refine A_iload_n hC dX7_betterPeaks_49 rfl ?_
    exact A_iret hC dX7_betterPeaks_50
  refine A_join (fun (J : Int32 → Int32 → ADD → Option (Int32 × ADD)) => ∀ (x2 : Int32) (x3 : Int32) (D2 : ADD), AT aVi g b 4 [some (.ref (g.1 + 50)), some (.int a1), some (.int x2), some (.int x3)] [] D2 (J x2 x3 D2)) (aFix_all (fun (J : Int32 → Int32 → ADD → Option (Int32 × ADD)) => ∀ (x2 : Int32) (x3 : Int32) (D2 : ADD), AT aVi g b 4 [some (.ref (g.1 + 50)), some (.int a1), some (.int x2), some (.int x3)] [] D2 (J x2 x3 D2)) (fun _ _ _ => A_none) (fun L4 hL4 x2 x3 D2 => ?_) _) (fun j4 hj4 => ?_)
  · unfold lX7_betterPeaks_4
    refine A_iload_n hC dX7_betterPeaks_4 rfl ?_
    refine A_aload_n hC dX7_betterPeaks_5 rfl ?_
    refine A_geti (kf := 5) hC kX7 (lX_50 hL) rfl (by decide) (by decide) rfl w_277 dX7_betterPeaks_6 ?_
    refine A_icmp_ge (tgt := 49) hC dX7_betterPeaks_9 (by decide) ?_ ?_
    · exact A_to (hj49 x2 D2) (And.intro rfl (trivial))
    · refine A_iload_n hC dX7_betterPeaks_12 rfl ?_
      refine A_aload_n hC dX7_betterPeaks_13 rfl ?_
      refine A_getr (kf := 4) hC kX7 (lX_50 hL) rfl (by decide) (by decide) rfl rfl w_276 dX7_betterPeaks_14 ?_
      refine A_aleni hC (lX_53 hL) dX7_betterPeaks_17 ?_
      refine A_icmp_ge (tgt := 49) hC dX7_betterPeaks_18 (by decide) ?_ ?_
      · exact A_to (hj49 x2 D2) (And.intro rfl (trivial))
      · refine A_iload_n hC dX7_betterPeaks_21 rfl ?_
        refine A_aload_n hC dX7_betterPeaks_22 rfl ?_
        refine A_aload_n hC dX7_betterPeaks_23 rfl ?_
        refine A_getr (kf := 4) hC kX7 (lX_50 hL) rfl (by decide) (by decide) rfl rfl w_276 dX7_betterPeaks_24 ?_
        refine A_iload_n hC dX7_betterPeaks_27 rfl ?_
        refine A_iald hC (lX_53 hL) dX7_betterPeaks_28 ?_
        refine A_iload_n hC dX7_betterPeaks_29 rfl ?_
        refine A_callVi (As := [.int (D2.1 53 x3.toNatClampNeg), .int a1]) (st := [.int x2]) hC (fun l => mX7_isBetter l g hL (D2.1 53 x3.toNatClampNeg) a1 D2) (lX_50 hL) rfl (Nat.le_of_ble_eq_true rfl) yc_X7_100 rfl rfl ⟨by decide, by decide⟩ (Nat.le_of_ble_eq_true rfl) rfl dX7_betterPeaks_30 (fun x4 D3 => ?_)
        refine A_join (fun (J : Int32 → ADD → Option (Int32 × ADD)) => ∀ (x5 : Int32) (D4 : ADD), AT aVi g b 41 [some (.ref (g.1 + 50)), some (.int a1), none, some (.int x3)] [.int x5, .int x2] D4 (J x5 D4)) (fun x5 D4 => ?_) (fun j41 hj41 => ?_)
        · refine A_iadd hC dX7_betterPeaks_41 ?_
          refine A_topi (fun x6 => ?_)
          refine A_istore_n (lv2 := [some (.ref (g.1 + 50)), some (.int a1), some (.int x6), some (.int x3)]) hC dX7_betterPeaks_42 (Nat.le_of_ble_eq_true rfl) rfl rfl ?_
          refine A_iincL (z := (1 : Int32)) (lv2 := fun x7 => [some (.ref (g.1 + 50)), some (.int a1), some (.int x6), some (.int x7)]) hC dX7_betterPeaks_43 rfl (by decide) (Nat.le_of_ble_eq_true rfl) rfl (fun _ => rfl) (fun x7 => ?_)
          refine A_goto (tgt := 4) hC dX7_betterPeaks_46 (by decide) ?_
          exact A_to (hL4 x6 x7 D4) (And.intro rfl (And.intro rfl (And.intro rfl (And.intro rfl (trivial)))))
        refine A_if_eq (tgt := 40) hC dX7_betterPeaks_33 (by decide) ?_ ?_
        · refine A_iconst (v := 0) hC dX7_betterPeaks_40 (by decide) ?_
          exact A_to (hj41 (0 : Int32) D3) (And.intro rfl (And.intro rfl (And.intro rfl (trivial))))
        · refine A_iconst (v := 1) hC dX7_betterPeaks_36 (by decide) ?_
          refine A_goto (tgt := 41) hC dX7_betterPeaks_37 (by decide) ?_
          exact A_to (hj41 (1 : Int32) D3) (And.intro rfl (And.intro rfl (And.intro rfl (trivial))))
  exact A_to (hj4 (0 : Int32) (0 : Int32) D) (And.intro rfl (And.intro rfl (And.intro rfl (And.intro rfl (trivial)))))
def lX7_listOffs_21 (a1 : Int32) (x1 : Int32) (j66 : ADD → Option (Unit × ADD)) (L21 : Int32 → ADD → Option (Unit × ADD)) (x3 : Int32) (D4 : ADD) : Option (Unit × ADD) := (if (D4.1 43 0) ≤ x3 then j66 D4 else (if (32 : Int32) ≤ x3 then j66 D4 else aBind (fX4_offOf x3 x1 D4) (fun x4 D5 => aIn (((x1 - a1) * (32 : Int32)) + x3) 1312 (aLet (aSI D5 54 (((x1 - a1) * (32 : Int32)) + x3).toNatClampNeg x4) (fun D6 => aLet (x3 + (1 : Int32)) (fun x5 => L21 x5 D6))))))
def lX7_listOffs_3 (a1 : Int32) (a2 : Int32) (j72 : ADD → Option (Unit × ADD)) (L3 : Int32 → ADD → Option (Unit × ADD)) (x1 : Int32) (D2 : ADD) : Option (Unit × ADD) := (if a2 < x1 then j72 D2 else (if (40 : Int32) < (x1 - a1) then j72 D2 else aLet (fun (D3 : ADD) => aLet (x1 + (1 : Int32)) (fun x2 => L3 x2 D3)) (fun (j66 : ADD → Option (Unit × ADD)) => aLet (aFix aFuel (lX7_listOffs_21 a1 x1 j66) (fun _ _ => none)) (fun j21 => j21 (0 : Int32) D2))))
def fX7_listOffs (a1 : Int32) (a2 : Int32) (D : ADD) : Option (Unit × ADD) := aLet (fun (D1 : ADD) => some ((), D1)) (fun (j72 : ADD → Option (Unit × ADD)) => aLet (aFix aFuel (lX7_listOffs_3 a1 a2 j72) (fun _ _ => none)) (fun j3 => j3 a1 D))
set_option maxHeartbeats 4000000 in
set_option maxRecDepth 100000 in
theorem mX7_listOffs (l : Launch) (g : AGl) (hL : aLX g) (a1 : Int32) (a2 : Int32) (D : ADD) : AM aVv l yX7_listOffs cX7_listOffs 6 none 3 g [.ref (g.1 + 50), .ref (g.1 + 43), .int a1, .int a2] D (fX7_listOffs a1 a2 D) := by
  refine AM_of (lv0 := [some (.ref (g.1 + 50)), some (.ref (g.1 + 43)), some (.int a1), some (.int a2), none, none]) (own := RX7) (by decide +kernel) rfl (Nat.le_of_ble_eq_true rfl) rfl (fun b hC => ?_)
  unfold fX7_listOffs
  refine A_iload_n hC dX7_listOffs_0 rfl ?_
  refine A_istore (lv2 := [some (.ref (g.1 + 50)), some (.ref (g.1 + 43)), some (.int a1), some (.int a2), some (.int a1), none]) hC dX7_listOffs_1 (Nat.le_of_ble_eq_true rfl) rfl rfl ?_
  refine A_join (fun (J : ADD → Option (Unit × ADD)) => ∀ (D1 : ADD), AT aVv g b 72 [none, none, none, none, none, none] [] D1 (J D1)) (fun D1 => ?_) (fun j72 hj72 => ?_)
  · exact A_vret hC dX7_listOffs_72
  refine A_join (fun (J : Int32 → ADD → Option (Unit × ADD)) => ∀ (x1 : Int32) (D2 : ADD), AT aVv g b 3 [some (.ref (g.1 + 50)), some (.ref (g.1 + 43)), some (.int a1), some (.int a2), some (.int x1), none] [] D2 (J x1 D2)) (aFix_all (fun (J : Int32 → ADD → Option (Unit × ADD)) => ∀ (x1 : Int32) (D2 : ADD), AT aVv g b 3 [some (.ref (g.1 + 50)), some (.ref (g.1 + 43)), some (.int a1), some (.int a2), some (.int x1), none] [] D2 (J x1 D2)) (fun _ _ => A_none) (fun L3 hL3 x1 D2 => ?_) _) (fun j3 hj3 => ?_)
  · unfold lX7_listOffs_3
    refine A_iload hC dX7_listOffs_3 rfl ?_
    refine A_iload_n hC dX7_listOffs_5 rfl ?_
    refine A_icmp_gt (tgt := 72) hC dX7_listOffs_6 (by decide) ?_ ?_
    · exact A_to (hj72 D2) (trivial)
    · refine A_iload hC dX7_listOffs_9 rfl ?_
      refine A_iload_n hC dX7_listOffs_11 rfl ?_
      refine A_isub hC dX7_listOffs_12 ?_
      refine A_bipush (v := 40) hC dX7_listOffs_13 (by decide) ?_
      refine A_icmp_gt (tgt := 72) hC dX7_listOffs_15 (by decide) ?_ ?_
      · exact A_to (hj72 D2) (trivial)
      · refine A_iconst (v := 0) hC dX7_listOffs_18 (by decide) ?_
        refine A_istore (lv2 := [some (.ref (g.1 + 50)), some (.ref (g.1 + 43)), some (.int a1), some (.int a2), some (.int x1), some (.int (0 : Int32))]) hC dX7_listOffs_19 (Nat.le_of_ble_eq_true rfl) rfl rfl ?_
        refine A_join (fun (J : ADD → Option (Unit × ADD)) => ∀ (D3 : ADD), AT aVv g b 66 [some (.ref (g.1 + 50)), some (.ref (g.1 + 43)), some (.int a1), some (.int a2), some (.int x1), none] [] D3 (J D3)) (fun D3 => ?_) (fun j66 hj66 => ?_)
        · refine A_iincL (z := (1 : Int32)) (lv2 := fun x2 => [some (.ref (g.1 + 50)), some (.ref (g.1 + 43)), some (.int a1), some (.int a2), some (.int x2), none]) hC dX7_listOffs_66 rfl (by decide) (Nat.le_of_ble_eq_true rfl) rfl (fun _ => rfl) (fun x2 => ?_)
          refine A_goto (tgt := 3) hC dX7_listOffs_69 (by decide) ?_
          exact A_to (hL3 x2 D3) (And.intro rfl (And.intro rfl (And.intro rfl (And.intro rfl (And.intro rfl (trivial))))))
        refine A_join (fun (J : Int32 → ADD → Option (Unit × ADD)) => ∀ (x3 : Int32) (D4 : ADD), AT aVv g b 21 [some (.ref (g.1 + 50)), some (.ref (g.1 + 43)), some (.int a1), some (.int a2), some (.int x1), some (.int x3)] [] D4 (J x3 D4)) (aFix_all (fun (J : Int32 → ADD → Option (Unit × ADD)) => ∀ (x3 : Int32) (D4 : ADD), AT aVv g b 21 [some (.ref (g.1 + 50)), some (.ref (g.1 + 43)), some (.int a1), some (.int a2), some (.int x1), some (.int x3)] [] D4 (J x3 D4)) (fun _ _ => A_none) (fun L21 hL21 x3 D4 => ?_) _) (fun j21 hj21 => ?_)
        · unfold lX7_listOffs_21
          refine A_iload hC dX7_listOffs_21 rfl ?_
          refine A_aload_n hC dX7_listOffs_23 rfl ?_
          refine A_geti (kf := 0) hC kX4 (lX_43 hL) rfl (by decide) (by decide) rfl w_239 dX7_listOffs_24 ?_
          refine A_icmp_ge (tgt := 66) hC dX7_listOffs_27 (by decide) ?_ ?_
          · exact A_to (hj66 D4) (And.intro rfl (And.intro rfl (And.intro rfl (And.intro rfl (And.intro rfl (trivial))))))
          · refine A_iload hC dX7_listOffs_30 rfl ?_
            refine A_bipush (v := 32) hC dX7_listOffs_32 (by decide) ?_
            refine A_icmp_ge (tgt := 66) hC dX7_listOffs_34 (by decide) ?_ ?_
            · exact A_to (hj66 D4) (And.intro rfl (And.intro rfl (And.intro rfl (And.intro rfl (And.intro rfl (trivial))))))
            · refine A_aload_n hC dX7_listOffs_37 rfl ?_
              refine A_getr (kf := 6) hC kX7 (lX_50 hL) rfl (by decide) (by decide) rfl rfl w_278 dX7_listOffs_38 ?_
              refine A_iload hC dX7_listOffs_41 rfl ?_
              refine A_iload_n hC dX7_listOffs_43 rfl ?_
              refine A_isub hC dX7_listOffs_44 ?_
              refine A_bipush (v := 32) hC dX7_listOffs_45 (by decide) ?_
              refine A_imul hC dX7_listOffs_47 ?_
              refine A_iload hC dX7_listOffs_48 rfl ?_
              refine A_iadd hC dX7_listOffs_50 ?_
              refine A_aload_n hC dX7_listOffs_51 rfl ?_
              refine A_iload hC dX7_listOffs_52 rfl ?_
              refine A_iload hC dX7_listOffs_54 rfl ?_
              refine A_callVi (As := [.int x3, .int x1]) (st := [.int (((x1 - a1) * (32 : Int32)) + x3), .ref (g.1 + 54)]) hC (fun l => mX4_offOf l g hL x3 x1 D4) (lX_43 hL) rfl (Nat.le_of_ble_eq_true rfl) yc_X7_79 rfl rfl ⟨by decide, by decide⟩ (Nat.le_of_ble_eq_true rfl) rfl dX7_listOffs_56 (fun x4 D5 => ?_)
              refine A_iast hC (lX_54 hL) dX7_listOffs_59 (fun D6 => ?_)
              refine A_iincL (z := (1 : Int32)) (lv2 := fun x5 => [some (.ref (g.1 + 50)), some (.ref (g.1 + 43)), some (.int a1), some (.int a2), some (.int x1), some (.int x5)]) hC dX7_listOffs_60 rfl (by decide) (Nat.le_of_ble_eq_true rfl) rfl (fun _ => rfl) (fun x5 => ?_)
              refine A_goto (tgt := 21) hC dX7_listOffs_63 (by decide) ?_
              exact A_to (hL21 x5 D6) (And.intro rfl (And.intro rfl (And.intro rfl (And.intro rfl (And.intro rfl (And.intro rfl (trivial)))))))
        exact A_to (hj21 (0 : Int32) D2) (And.intro rfl (And.intro rfl (And.intro rfl (And.intro rfl (And.intro rfl (And.intro rfl (trivial)))))))
  exact A_to (hj3 a1 D) (And.intro rfl (And.intro rfl (And.intro rfl (And.intro rfl (And.intro rfl (trivial))))))
def lX7_listPeaks_10 (j64 : ADD → Option (Unit × ADD)) (L10 : Int32 → ADD → Option (Unit × ADD)) (x2 : Int32) (D3 : ADD) : Option (Unit × ADD) := (if (D3.1 50 1) < x2 then j64 D3 else aBind (fX7_isPeak x2 D3) (fun x3 D4 => aLet (fun (D5 : ADD) => aLet (x2 + (1 : Int32)) (fun x4 => L10 x4 D5)) (fun (j58 : ADD → Option (Unit × ADD)) => (if x3 = 0 then j58 D4 else (if (Int32.ofNat 301) ≤ (D4.1 50 5) then j58 D4 else aIn (D4.1 50 5) 301 (aLet (aSI D4 53 (D4.1 50 5).toNatClampNeg x2) (fun D6 => aLet (aSI D6 50 5 ((D6.1 50 5) + (1 : Int32))) (fun D7 => j58 D7))))))))
def fX7_listPeaks (D : ADD) : Option (Unit × ADD) := aLet (aSI D 50 5 (0 : Int32)) (fun D1 => aLet (D1.1 50 0) (fun x1 => aLet (fun (D2 : ADD) => some ((), D2)) (fun (j64 : ADD → Option (Unit × ADD)) => aLet (aFix aFuel (lX7_listPeaks_10 j64) (fun _ _ => none)) (fun j10 => j10 x1 D1))))
set_option maxHeartbeats 4000000 in
set_option maxRecDepth 100000 in
theorem mX7_listPeaks (l : Launch) (g : AGl) (hL : aLX g) (D : ADD) : AM aVv l yX7_listPeaks cX7_listPeaks 2 none 3 g [.ref (g.1 + 50)] D (fX7_listPeaks D) := by
  refine AM_of (lv0 := [some (.ref (g.1 + 50)), none]) (own := RX7) (by decide +kernel) rfl (Nat.le_of_ble_eq_true rfl) rfl (fun b hC => ?_)
  unfold fX7_listPeaks
  refine A_aload_n hC dX7_listPeaks_0 rfl ?_
  refine A_iconst (v := 0) hC dX7_listPeaks_1 (by decide) ?_
  refine A_puti (kf := 5) hC kX7 (lX_50 hL) rfl (by decide) (by decide) rfl rfl rfl w_277 dX7_listPeaks_2 (fun D1 => ?_)
  refine A_aload_n hC dX7_listPeaks_5 rfl ?_
  refine A_geti (kf := 0) hC kX7 (lX_50 hL) rfl (by decide) (by decide) rfl w_272 dX7_listPeaks_6 ?_
  refine A_topi (fun x1 => ?_)
  refine A_istore_n (lv2 := [some (.ref (g.1 + 50)), some (.int x1)]) hC dX7_listPeaks_9 (Nat.le_of_ble_eq_true rfl) rfl rfl ?_
  refine A_join (fun (J : ADD → Option (Unit × ADD)) => ∀ (D2 : ADD), AT aVv g b 64 [none, none] [] D2 (J D2)) (fun D2 => ?_) (fun j64 hj64 => ?_)
  · exact A_vret hC dX7_listPeaks_64
  refine A_join (fun (J : Int32 → ADD → Option (Unit × ADD)) => ∀ (x2 : Int32) (D3 : ADD), AT aVv g b 10 [some (.ref (g.1 + 50)), some (.int x2)] [] D3 (J x2 D3)) (aFix_all (fun (J : Int32 → ADD → Option (Unit × ADD)) => ∀ (x2 : Int32) (D3 : ADD), AT aVv g b 10 [some (.ref (g.1 + 50)), some (.int x2)] [] D3 (J x2 D3)) (fun _ _ => A_none) (fun L10 hL10 x2 D3 => ?_) _) (fun j10 hj10 => ?_)
  · unfold lX7_listPeaks_10
    refine A_iload_n hC dX7_listPeaks_10 rfl ?_
    refine A_aload_n hC dX7_listPeaks_11 rfl ?_
    refine A_geti (kf := 1) hC kX7 (lX_50 hL) rfl (by decide) (by decide) rfl w_273 dX7_listPeaks_12 ?_
    refine A_icmp_gt (tgt := 64) hC dX7_listPeaks_15 (by decide) ?_ ?_
    · exact A_to (hj64 D3) (trivial)
    · refine A_aload_n hC dX7_listPeaks_18 rfl ?_
      refine A_iload_n hC dX7_listPeaks_19 rfl ?_
      refine A_callVi (As := [.int x2]) (st := []) hC (fun l => mX7_isPeak l g hL x2 D3) (lX_50 hL) rfl (Nat.le_of_ble_eq_true rfl) yc_X7_55 rfl rfl ⟨by decide, by decide⟩ (Nat.le_of_ble_eq_true rfl) rfl dX7_listPeaks_20 (fun x3 D4 => ?_)
      refine A_join (fun (J : ADD → Option (Unit × ADD)) => ∀ (D5 : ADD), AT aVv g b 58 [some (.ref (g.1 + 50)), some (.int x2)] [] D5 (J D5)) (fun D5 => ?_) (fun j58 hj58 => ?_)
      · refine A_iincL (z := (1 : Int32)) (lv2 := fun x4 => [some (.ref (g.1 + 50)), some (.int x4)]) hC dX7_listPeaks_58 rfl (by decide) (Nat.le_of_ble_eq_true rfl) rfl (fun _ => rfl) (fun x4 => ?_)
        refine A_goto (tgt := 10) hC dX7_listPeaks_61 (by decide) ?_
        exact A_to (hL10 x4 D5) (And.intro rfl (And.intro rfl (trivial)))
      refine A_if_eq (tgt := 58) hC dX7_listPeaks_23 (by decide) ?_ ?_
      · exact A_to (hj58 D4) (And.intro rfl (And.intro rfl (trivial)))
      · refine A_aload_n hC dX7_listPeaks_26 rfl ?_
        refine A_geti (kf := 5) hC kX7 (lX_50 hL) rfl (by decide) (by decide) rfl w_277 dX7_listPeaks_27 ?_
        refine A_aload_n hC dX7_listPeaks_30 rfl ?_
        refine A_getr (kf := 4) hC kX7 (lX_50 hL) rfl (by decide) (by decide) rfl rfl w_276 dX7_listPeaks_31 ?_
        refine A_aleni hC (lX_53 hL) dX7_listPeaks_34 ?_
        refine A_icmp_ge (tgt := 58) hC dX7_listPeaks_35 (by decide) ?_ ?_
        · exact A_to (hj58 D4) (And.intro rfl (And.intro rfl (trivial)))
        · refine A_aload_n hC dX7_listPeaks_38 rfl ?_
          refine A_getr (kf := 4) hC kX7 (lX_50 hL) rfl (by decide) (by decide) rfl rfl w_276 dX7_listPeaks_39 ?_
          refine A_aload_n hC dX7_listPeaks_42 rfl ?_
          refine A_geti (kf := 5) hC kX7 (lX_50 hL) rfl (by decide) (by decide) rfl w_277 dX7_listPeaks_43 ?_
          refine A_iload_n hC dX7_listPeaks_46 rfl ?_
          refine A_iast hC (lX_53 hL) dX7_listPeaks_47 (fun D6 => ?_)
          refine A_aload_n hC dX7_listPeaks_48 rfl ?_
          refine A_dup hC dX7_listPeaks_49 rfl ?_
          refine A_geti (kf := 5) hC kX7 (lX_50 hL) rfl (by decide) (by decide) rfl w_277 dX7_listPeaks_50 ?_
          refine A_iconst (v := 1) hC dX7_listPeaks_53 (by decide) ?_
          refine A_iadd hC dX7_listPeaks_54 ?_
          refine A_puti (kf := 5) hC kX7 (lX_50 hL) rfl (by decide) (by decide) rfl rfl rfl w_277 dX7_listPeaks_55 (fun D7 => ?_)
          exact A_to (hj58 D7) (And.intro rfl (And.intro rfl (trivial)))
  exact A_to (hj10 x1 D1) (And.intro rfl (And.intro rfl (trivial)))
