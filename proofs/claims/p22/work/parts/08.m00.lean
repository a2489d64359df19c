def fJ13_compare_74951 (a1 : Int64) (a2 : Int64) (D : ADD) : Option (Int32 × ADD) := aLet (fun (x1 : Int32) (D1 : ADD) => some (x1, D1)) (fun (j21 : Int32 → ADD → Option (Int32 × ADD)) => (if 0 ≤ (aCmp a1 a2) then (if (aCmp a1 a2) = 0 then j21 (0 : Int32) D else j21 (1 : Int32) D) else j21 (-1 : Int32) D))
set_option maxHeartbeats 4000000 in
set_option maxRecDepth 100000 in
theorem mJ13_compare_74951 (l : Launch) (g : AGl) (a1 : Int64) (a2 : Int64) (D : ADD) : AM aVi l yJ13_compare_74951 cJ13_compare_74951 4 (some .int) 0 g [.long a1, .long a2] D (fJ13_compare_74951 a1 a2 D) := by
  refine AM_of (lv0 := [some (.long a1), none, some (.long a2), none]) (own := RJ13) (by decide +kernel) rfl (Nat.le_of_ble_eq_true rfl) rfl (fun b hC => ?_)
  unfold fJ13_compare_74951
  refine A_lload_n hC dJ13_compare_74951_0 rfl ?_
  refine A_lload_n hC dJ13_compare_74951_1 rfl ?_
  refine A_lcmp hC dJ13_compare_74951_2 ?_
  refine A_join (fun (J : Int32 → ADD → Option (Int32 × ADD)) => ∀ (x1 : Int32) (D1 : ADD), AT aVi g b 21 [none, none, none, none] [.int x1] D1 (J x1 D1)) (fun x1 D1 => ?_) (fun j21 hj21 => ?_)
  · exact A_iret hC dJ13_compare_74951_21
  refine A_if_ge (tgt := 10) hC dJ13_compare_74951_3 (by decide) ?_ ?_
  · refine A_lload_n hC dJ13_compare_74951_10 rfl ?_
    refine A_lload_n hC dJ13_compare_74951_11 rfl ?_
    refine A_lcmp hC dJ13_compare_74951_12 ?_
    refine A_if_ne (tgt := 20) hC dJ13_compare_74951_13 (by decide) ?_ ?_
    · refine A_iconst (v := 1) hC dJ13_compare_74951_20 (by decide) ?_
      exact A_to (hj21 (1 : Int32) D) (trivial)
    · refine A_iconst (v := 0) hC dJ13_compare_74951_16 (by decide) ?_
      refine A_goto (tgt := 21) hC dJ13_compare_74951_17 (by decide) ?_
      exact A_to (hj21 (0 : Int32) D) (trivial)
  · refine A_iconst (v := -1) hC dJ13_compare_74951_6 (by decide) ?_
    refine A_goto (tgt := 21) hC dJ13_compare_74951_7 (by decide) ?_
    exact A_to (hj21 (-1 : Int32) D) (trivial)
def fJ6_bitCount_0f7a4 (a1 : Int32) (D : ADD) : Option (Int32 × ADD) := aLet (a1 - (((a1.toUInt32 >>> ((1 : Int32).toUInt32 &&& Int32.toUInt32 31)).toInt32) &&& (1431655765 : Int32))) (fun x1 => aLet ((x1 &&& (858993459 : Int32)) + (((x1.toUInt32 >>> ((2 : Int32).toUInt32 &&& Int32.toUInt32 31)).toInt32) &&& (858993459 : Int32))) (fun x2 => aLet ((x2 + ((x2.toUInt32 >>> ((4 : Int32).toUInt32 &&& Int32.toUInt32 31)).toInt32)) &&& (252645135 : Int32)) (fun x3 => aLet (x3 + ((x3.toUInt32 >>> ((8 : Int32).toUInt32 &&& Int32.toUInt32 31)).toInt32)) (fun x4 => aLet (x4 + ((x4.toUInt32 >>> ((16 : Int32).toUInt32 &&& Int32.toUInt32 31)).toInt32)) (fun x5 => some ((x5 &&& (63 : Int32)), D))))))
set_option maxHeartbeats 4000000 in
set_option maxRecDepth 100000 in
theorem mJ6_bitCount_0f7a4 (l : Launch) (g : AGl) (a1 : Int32) (D : ADD) : AM aVi l yJ6_bitCount_0f7a4 cJ6_bitCount_0f7a4 1 (some .int) 0 g [.int a1] D (fJ6_bitCount_0f7a4 a1 D) := by
  refine AM_of (lv0 := [some (.int a1)]) (own := RJ6) (by decide +kernel) rfl (Nat.le_of_ble_eq_true rfl) rfl (fun b hC => ?_)
  unfold fJ6_bitCount_0f7a4
  refine A_iload_n hC dJ6_bitCount_0f7a4_0 rfl ?_
  refine A_iload_n hC dJ6_bitCount_0f7a4_1 rfl ?_
  refine A_iconst (v := 1) hC dJ6_bitCount_0f7a4_2 (by decide) ?_
  refine A_iushr hC dJ6_bitCount_0f7a4_3 ?_
  refine A_ldcw hC dJ6_bitCount_0f7a4_4 w_846 ?_
  refine A_iand hC dJ6_bitCount_0f7a4_7 ?_
  refine A_isub hC dJ6_bitCount_0f7a4_8 ?_
  refine A_topi (fun x1 => ?_)
  refine A_istore_n (lv2 := [some (.int x1)]) hC dJ6_bitCount_0f7a4_9 (Nat.le_of_ble_eq_true rfl) rfl rfl ?_
  refine A_iload_n hC dJ6_bitCount_0f7a4_10 rfl ?_
  refine A_ldcw hC dJ6_bitCount_0f7a4_11 w_847 ?_
  refine A_iand hC dJ6_bitCount_0f7a4_14 ?_
  refine A_iload_n hC dJ6_bitCount_0f7a4_15 rfl ?_
  refine A_iconst (v := 2) hC dJ6_bitCount_0f7a4_16 (by decide) ?_
  refine A_iushr hC dJ6_bitCount_0f7a4_17 ?_
  refine A_ldcw hC dJ6_bitCount_0f7a4_18 w_847 ?_
  refine A_iand hC dJ6_bitCount_0f7a4_21 ?_
  refine A_iadd hC dJ6_bitCount_0f7a4_22 ?_
  refine A_topi (fun x2 => ?_)
  refine A_istore_n (lv2 := [some (.int x2)]) hC dJ6_bitCount_0f7a4_23 (Nat.le_of_ble_eq_true rfl) rfl rfl ?_
  refine A_iload_n hC dJ6_bitCount_0f7a4_24 rfl ?_
  refine A_iload_n hC dJ6_bitCount_0f7a4_25 rfl ?_
  refine A_iconst (v := 4) hC dJ6_bitCount_0f7a4_26 (by decide) ?_
  refine A_iushr hC dJ6_bitCount_0f7a4_27 ?_
  refine A_iadd hC dJ6_bitCount_0f7a4_28 ?_
  refine A_ldcw hC dJ6_bitCount_0f7a4_29 w_848 ?_
  refine A_iand hC dJ6_bitCount_0f7a4_32 ?_
  refine A_topi (fun x3 => ?_)
  refine A_istore_n (lv2 := [some (.int x3)]) hC dJ6_bitCount_0f7a4_33 (Nat.le_of_ble_eq_true rfl) rfl rfl ?_
  refine A_iload_n hC dJ6_bitCount_0f7a4_34 rfl ?_
  refine A_iload_n hC dJ6_bitCount_0f7a4_35 rfl ?_
  refine A_bipush (v := 8) hC dJ6_bitCount_0f7a4_36 (by decide) ?_
  refine A_iushr hC dJ6_bitCount_0f7a4_38 ?_
  refine A_iadd hC dJ6_bitCount_0f7a4_39 ?_
  refine A_topi (fun x4 => ?_)
  refine A_istore_n (lv2 := [some (.int x4)]) hC dJ6_bitCount_0f7a4_40 (Nat.le_of_ble_eq_true rfl) rfl rfl ?_
  refine A_iload_n hC dJ6_bitCount_0f7a4_41 rfl ?_
  refine A_iload_n hC dJ6_bitCount_0f7a4_42 rfl ?_
  refine A_bipush (v := 16) hC dJ6_bitCount_0f7a4_43 (by decide) ?_
  refine A_iushr hC dJ6_bitCount_0f7a4_45 ?_
  refine A_iadd hC dJ6_bitCount_0f7a4_46 ?_
  refine A_topi (fun x5 => ?_)
  refine A_istore_n (lv2 := [some (.int x5)]) hC dJ6_bitCount_0f7a4_47 (Nat.le_of_ble_eq_true rfl) rfl rfl ?_
  refine A_iload_n hC dJ6_bitCount_0f7a4_48 rfl ?_
  refine A_bipush (v := 63) hC dJ6_bitCount_0f7a4_49 (by decide) ?_
  refine A_iand hC dJ6_bitCount_0f7a4_51 ?_
  exact A_iret hC dJ6_bitCount_0f7a4_52
def fX0_agrees (a1 : Int32) (a2 : Int32) (a3 : Int32) (D : ADD) : Option (Int32 × ADD) := aLet (a1 * (11 : Int32)) (fun x1 => aLet (fun (D1 : ADD) => some ((1 : Int32), D1)) (fun (j125 : ADD → Option (Int32 × ADD)) => aTab a2 0 [aIn (x1 + (3 : Int32)) 352 (aLet (fun (x2 : Int32) (D2 : ADD) => aZ x2 (some (x2, D2))) (fun (j66 : Int32 → ADD → Option (Int32 × ADD)) => (if a3 ≤ (D.1 3 (x1 + (3 : Int32)).toNatClampNeg) then j66 (0 : Int32) D else j66 (1 : Int32) D))), j125 D, j125 D, aIn (x1 + (0 : Int32)) 352 (aLet (fun (x3 : Int32) (D3 : ADD) => aZ x3 (some (x3, D3))) (fun (j85 : Int32 → ADD → Option (Int32 × ADD)) => (if (D.1 3 (x1 + (0 : Int32)).toNatClampNeg) ≤ a3 then j85 (0 : Int32) D else j85 (1 : Int32) D))), j125 D, aIn (x1 + (6 : Int32)) 352 (aLet (fun (x4 : Int32) (D4 : ADD) => aZ x4 (some (x4, D4))) (fun (j105 : Int32 → ADD → Option (Int32 × ADD)) => (if (D.1 3 (x1 + (6 : Int32)).toNatClampNeg) < a3 then j105 (0 : Int32) D else j105 (1 : Int32) D))), aIn (x1 + (5 : Int32)) 352 (aLet (fun (x5 : Int32) (D5 : ADD) => aZ x5 (some (x5, D5))) (fun (j124 : Int32 → ADD → Option (Int32 × ADD)) => (if a3 < (D.1 3 (x1 + (5 : Int32)).toNatClampNeg) then j124 (0 : Int32) D else j124 (1 : Int32) D)))] (j125 D)))
set_option maxHeartbeats 4000000 in
set_option maxRecDepth 100000 in
theorem mX0_agrees (l : Launch) (g : AGl) (hL : aLX g) (a1 : Int32) (a2 : Int32) (a3 : Int32) (D : ADD) : AM aVi l yX0_agrees cX0_agrees 5 (some .boolean) 0 g [.ref (g.1 + 2), .int a1, .int a2, .int a3] D (fX0_agrees a1 a2 a3 D) := by
  refine AM_of (lv0 := [some (.ref (g.1 + 2)), some (.int a1), some (.int a2), some (.int a3), none]) (own := RX0) (by decide +kernel) rfl (Nat.le_of_ble_eq_true rfl) rfl (fun b hC => ?_)
  unfold fX0_agrees
  refine A_iload_n hC dX0_agrees_0 rfl ?_
  refine A_bipush (v := 11) hC dX0_agrees_1 (by decide) ?_
  refine A_imul hC dX0_agrees_3 ?_
  refine A_topi (fun x1 => ?_)
  refine A_istore (lv2 := [some (.ref (g.1 + 2)), some (.int a1), some (.int a2), some (.int a3), some (.int x1)]) hC dX0_agrees_4 (Nat.le_of_ble_eq_true rfl) rfl rfl ?_
  refine A_iload_n hC dX0_agrees_6 rfl ?_
  refine A_join (fun (J : ADD → Option (Int32 × ADD)) => ∀ (D1 : ADD), AT aVi g b 125 [none, none, none, none, none] [] D1 (J D1)) (fun D1 => ?_) (fun j125 hj125 => ?_)
  · refine A_iconst (v := 1) hC dX0_agrees_125 (by decide) ?_
    exact A_zret hC dX0_agrees_126 (Or.inr rfl)
  refine A_tab (td := 125) hC dX0_agrees_7 rfl (by decide) ?_ (And.intro (Exists.intro 48 (And.intro (by decide) ?_)) (And.intro (Exists.intro 125 (And.intro (by decide) ?_)) (And.intro (Exists.intro 125 (And.intro (by decide) ?_)) (And.intro (Exists.intro 67 (And.intro (by decide) ?_)) (And.intro (Exists.intro 125 (And.intro (by decide) ?_)) (And.intro (Exists.intro 86 (And.intro (by decide) ?_)) (And.intro (Exists.intro 106 (And.intro (by decide) ?_)) trivial)))))))
  · exact A_to (hj125 D) (trivial)
  · refine A_aload_n hC dX0_agrees_48 rfl ?_
    refine A_getr (kf := 0) hC kX0 (lX_2 hL) rfl (by decide) (by decide) rfl rfl w_41 dX0_agrees_49 ?_
    refine A_iload hC dX0_agrees_52 rfl ?_
    refine A_iconst (v := 3) hC dX0_agrees_54 (by decide) ?_
    refine A_iadd hC dX0_agrees_55 ?_
    refine A_iald hC (lX_3 hL) dX0_agrees_56 ?_
    refine A_iload_n hC dX0_agrees_57 rfl ?_
    refine A_join (fun (J : Int32 → ADD → Option (Int32 × ADD)) => ∀ (x2 : Int32) (D2 : ADD), AT aVi g b 66 [none, none, none, none, none] [.int x2] D2 (J x2 D2)) (fun x2 D2 => ?_) (fun j66 hj66 => ?_)
    · exact A_zretc hC dX0_agrees_66
    refine A_icmp_ge (tgt := 65) hC dX0_agrees_58 (by decide) ?_ ?_
    · refine A_iconst (v := 0) hC dX0_agrees_65 (by decide) ?_
      exact A_to (hj66 (0 : Int32) D) (trivial)
    · refine A_iconst (v := 1) hC dX0_agrees_61 (by decide) ?_
      refine A_goto (tgt := 66) hC dX0_agrees_62 (by decide) ?_
      exact A_to (hj66 (1 : Int32) D) (trivial)
  · exact A_to (hj125 D) (trivial)
  · exact A_to (hj125 D) (trivial)
  · refine A_iload_n hC dX0_agrees_67 rfl ?_
    refine A_aload_n hC dX0_agrees_68 rfl ?_
    refine A_getr (kf := 0) hC kX0 (lX_2 hL) rfl (by decide) (by decide) rfl rfl w_41 dX0_agrees_69 ?_
    refine A_iload hC dX0_agrees_72 rfl ?_
    refine A_iconst (v := 0) hC dX0_agrees_74 (by decide) ?_
    refine A_iadd hC dX0_agrees_75 ?_
    refine A_iald hC (lX_3 hL) dX0_agrees_76 ?_
    refine A_join (fun (J : Int32 → ADD → Option (Int32 × ADD)) => ∀ (x3 : Int32) (D3 : ADD), AT aVi g b 85 [none, none, none, none, none] [.int x3] D3 (J x3 D3)) (fun x3 D3 => ?_) (fun j85 hj85 => ?_)
    · exact A_zretc hC dX0_agrees_85
    refine A_icmp_ge (tgt := 84) hC dX0_agrees_77 (by decide) ?_ ?_
    · refine A_iconst (v := 0) hC dX0_agrees_84 (by decide) ?_
      exact A_to (hj85 (0 : Int32) D) (trivial)
    · refine A_iconst (v := 1) hC dX0_agrees_80 (by decide) ?_
      refine A_goto (tgt := 85) hC dX0_agrees_81 (by decide) ?_
      exact A_to (hj85 (1 : Int32) D) (trivial)
  · exact A_to (hj125 D) (trivial)
  · refine A_iload_n hC dX0_agrees_86 rfl ?_
    refine A_aload_n hC dX0_agrees_87 rfl ?_
    refine A_getr (kf := 0) hC kX0 (lX_2 hL) rfl (by decide) (by decide) rfl rfl w_41 dX0_agrees_88 ?_
    refine A_iload hC dX0_agrees_91 rfl ?_
    refine A_bipush (v := 6) hC dX0_agrees_93 (by decide) ?_
    refine A_iadd hC dX0_agrees_95 ?_
    refine A_iald hC (lX_3 hL) dX0_agrees_96 ?_
    refine A_join (fun (J : Int32 → ADD → Option (Int32 × ADD)) => ∀ (x4 : Int32) (D4 : ADD), AT aVi g b 105 [none, none, none, none, none] [.int x4] D4 (J x4 D4)) (fun x4 D4 => ?_) (fun j105 hj105 => ?_)
    · exact A_zretc hC dX0_agrees_105
    refine A_icmp_gt (tgt := 104) hC dX0_agrees_97 (by decide) ?_ ?_
    · refine A_iconst (v := 0) hC dX0_agrees_104 (by decide) ?_
      exact A_to (hj105 (0 : Int32) D) (trivial)
    · refine A_iconst (v := 1) hC dX0_agrees_100 (by decide) ?_
      refine A_goto (tgt := 105) hC dX0_agrees_101 (by decide) ?_
      exact A_to (hj105 (1 : Int32) D) (trivial)
  · refine A_aload_n hC dX0_agrees_106 rfl ?_
    refine A_getr (kf := 0) hC kX0 (lX_2 hL) rfl (by decide) (by decide) rfl rfl w_41 dX0_agrees_107 ?_
    refine A_iload hC dX0_agrees_110 rfl ?_
    refine A_iconst (v := 5) hC dX0_agrees_112 (by decide) ?_
    refine A_iadd hC dX0_agrees_113 ?_
    refine A_iald hC (lX_3 hL) dX0_agrees_114 ?_
    refine A_iload_n hC dX0_agrees_115 rfl ?_
    refine A_join (fun (J : Int32 → ADD → Option (Int32 × ADD)) => ∀ (x5 : Int32) (D5 : ADD), AT aVi g b 124 [none, none, none, none, none] [.int x5] D5 (J x5 D5)) (fun x5 D5 => ?_) (fun j124 hj124 => ?_)
    · exact A_zretc hC dX0_agrees_124
    refine A_icmp_gt (tgt := 123) hC dX0_agrees_116 (by decide) ?_ ?_
    · refine A_iconst (v := 0) hC dX0_agrees_123 (by decide) ?_
      exact A_to (hj124 (0 : Int32) D) (trivial)
    · refine A_iconst (v := 1) hC dX0_agrees_119 (by decide) ?_
      refine A_goto (tgt := 124) hC dX0_agrees_120 (by decide) ?_
      exact A_to (hj124 (1 : Int32) D) (trivial)
def lX0_apply_50 (r : Nat) (x3 : Int32) (j71 : ADD → Option (Unit × ADD)) (L50 : Int32 → ADD → Option (Unit × ADD)) (x4 : Int32) (D9 : ADD) : Option (Unit × ADD) := (if (11 : Int32) ≤ x4 then j71 D9 else aIn (x3 + x4) 352 (aLet (aSI D9 r (x3 + x4).toNatClampNeg (0 : Int32)) (fun D10 => aLet (x4 + (1 : Int32)) (fun x5 => L50 x5 D10))))
def fX0_apply (r : Nat) (a1 : Int32) (D : ADD) : Option (Unit × ADD) := aIn a1 400 (aLet (D.1 8 a1.toNatClampNeg) (fun x1 => aIn a1 400 (aLet (D.1 9 a1.toNatClampNeg) (fun x2 => aLet (x1 * (11 : Int32)) (fun x3 => aLet (fun (D1 : ADD) => aLet (fun (D2 : ADD) => aIn a1 400 (aIn (x3 + (0 : Int32)) 352 (aLet (aSI D2 r (x3 + (0 : Int32)).toNatClampNeg (D2.1 10 a1.toNatClampNeg)) (fun D3 => aIn x1 32 (aIn (x3 + (1 : Int32)) 352 (aLet (aSI D3 r (x3 + (1 : Int32)).toNatClampNeg (D3.1 5 x1.toNatClampNeg)) (fun D4 => aIn x1 32 (aIn (x3 + (4 : Int32)) 352 (aLet (aSI D4 r (x3 + (4 : Int32)).toNatClampNeg (D4.1 6 x1.toNatClampNeg)) (fun D5 => aIn (x3 + (5 : Int32)) 352 (aLet (aSI D5 r (x3 + (5 : Int32)).toNatClampNeg (-3000 : Int32)) (fun D6 => aIn (x3 + (6 : Int32)) 352 (aLet (aSI D6 r (x3 + (6 : Int32)).toNatClampNeg (1900 : Int32)) (fun D7 => aIn (x3 + (9 : Int32)) 352 (aLet (aSI D7 r (x3 + (9 : Int32)).toNatClampNeg (1 : Int32)) (fun D8 => some ((), D8))))))))))))))))) (fun (j71 : ADD → Option (Unit × ADD)) => aLet (aFix aFuel (lX0_apply_50 r x3 j71) (fun _ _ => none)) (fun j50 => j50 (0 : Int32) D1))) (fun (j47 : ADD → Option (Unit × ADD)) => (if x2 < 0 then j47 D else (if (11 : Int32) ≤ x2 then j47 D else aIn a1 400 (aIn (x3 + x2) 352 (aLet (aSI D r (x3 + x2).toNatClampNeg (D.1 10 a1.toNatClampNeg)) (fun D11 => some ((), D11))))))))))))
set_option maxHeartbeats 4000000 in
set_option maxRecDepth 100000 in
theorem mX0_apply (l : Launch) (g : AGl) (hL : aLX g) (r : Nat) (hr : aAt g r (11, 352, fun _ => none)) (a1 : Int32) (D : ADD) : AM aVv l yX0_apply cX0_apply 7 none 0 g [.ref (g.1 + 2), .ref (g.1 + r), .int a1] D (fX0_apply r a1 D) := by
  refine AM_of (lv0 := [some (.ref (g.1 + 2)), some (.ref (g.1 + r)), some (.int a1), none, none, none, none]) (own := RX0) (by decide +kernel) rfl (Nat.le_of_ble_eq_true rfl) rfl (fun b hC => ?_)
  unfold fX0_apply
  refine A_aload_n hC dX0_apply_0 rfl ?_
  refine A_getr (kf := 5) hC kX0 (lX_2 hL) rfl (by decide) (by decide) rfl rfl w_46 dX0_apply_1 ?_
  refine A_iload_n hC dX0_apply_4 rfl ?_
  refine A_iald hC (lX_8 hL) dX0_apply_5 ?_
  refine A_topi (fun x1 => ?_)
  refine A_istore_n (lv2 := [some (.ref (g.1 + 2)), some (.ref (g.1 + r)), some (.int a1), some (.int x1), none, none, none]) hC dX0_apply_6 (Nat.le_of_ble_eq_true rfl) rfl rfl ?_
  refine A_aload_n hC dX0_apply_7 rfl ?_
  refine A_getr (kf := 6) hC kX0 (lX_2 hL) rfl (by decide) (by decide) rfl rfl w_47 dX0_apply_8 ?_
  refine A_iload_n hC dX0_apply_11 rfl ?_
  refine A_iald hC (lX_9 hL) dX0_apply_12 ?_
  refine A_topi (fun x2 => ?_)
  refine A_istore (lv2 := [some (.ref (g.1 + 2)), some (.ref (g.1 + r)), some (.int a1), some (.int x1), some (.int x2), none, none]) hC dX0_apply_13 (Nat.le_of_ble_eq_true rfl) rfl rfl ?_
  refine A_iload_n hC dX0_apply_15 rfl ?_
  refine A_bipush (v := 11) hC dX0_apply_16 (by decide) ?_
  refine A_imul hC dX0_apply_18 ?_
  refine A_topi (fun x3 => ?_)
  refine A_istore (lv2 := [some (.ref (g.1 + 2)), some (.ref (g.1 + r)), some (.int a1), some (.int x1), some (.int x2), some (.int x3), none]) hC dX0_apply_19 (Nat.le_of_ble_eq_true rfl) rfl rfl ?_
  refine A_iload hC dX0_apply_21 rfl ?_
  refine A_join (fun (J : ADD → Option (Unit × ADD)) => ∀ (D1 : ADD), AT aVv g b 47 [some (.ref (g.1 + 2)), some (.ref (g.1 + r)), some (.int a1), some (.int x1), none, some (.int x3), none] [] D1 (J D1)) (fun D1 => ?_) (fun j47 hj47 => ?_)
  · refine A_iconst (v := 0) hC dX0_apply_47 (by decide) ?_
    refine A_istore (lv2 := [some (.ref (g.1 + 2)), some (.ref (g.1 + r)), some (.int a1), some (.int x1), none, some (.int x3), some (.int (0 : Int32))]) hC dX0_apply_48 (Nat.le_of_ble_eq_true rfl) rfl rfl ?_
    refine A_join (fun (J : ADD → Option (Unit × ADD)) => ∀ (D2 : ADD), AT aVv g b 71 [some (.ref (g.1 + 2)), some (.ref (g.1 + r)), some (.int a1), some (.int x1), none, some (.int x3), none] [] D2 (J D2)) (fun D2 => ?_) (fun j71 hj71 => ?_)
    · refine A_aload_n hC dX0_apply_71 rfl ?_
      refine A_iload hC dX0_apply_72 rfl ?_
      refine A_iconst (v := 0) hC dX0_apply_74 (by decide) ?_
      refine A_iadd hC dX0_apply_75 ?_
      refine A_aload_n hC dX0_apply_76 rfl ?_
      refine A_getr (kf := 7) hC kX0 (lX_2 hL) rfl (by decide) (by decide) rfl rfl w_48 dX0_apply_77 ?_
      refine A_iload_n hC dX0_apply_80 rfl ?_
      refine A_iald hC (lX_10 hL) dX0_apply_81 ?_
      refine A_iast hC hr dX0_apply_82 (fun D3 => ?_)
      refine A_aload_n hC dX0_apply_83 rfl ?_
      refine A_iload hC dX0_apply_84 rfl ?_
      refine A_iconst (v := 1) hC dX0_apply_86 (by decide) ?_
      refine A_iadd hC dX0_apply_87 ?_
      refine A_aload_n hC dX0_apply_88 rfl ?_
      refine A_getr (kf := 2) hC kX0 (lX_2 hL) rfl (by decide) (by decide) rfl rfl w_43 dX0_apply_89 ?_
      refine A_iload_n hC dX0_apply_92 rfl ?_
      refine A_iald hC (lX_5 hL) dX0_apply_93 ?_
      refine A_iast hC hr dX0_apply_94 (fun D4 => ?_)
      refine A_aload_n hC dX0_apply_95 rfl ?_
      refine A_iload hC dX0_apply_96 rfl ?_
      refine A_iconst (v := 4) hC dX0_apply_98 (by decide) ?_
      refine A_iadd hC dX0_apply_99 ?_
      refine A_aload_n hC dX0_apply_100 rfl ?_
      refine A_getr (kf := 3) hC kX0 (lX_2 hL) rfl (by decide) (by decide) rfl rfl w_44 dX0_apply_101 ?_
      refine A_iload_n hC dX0_apply_104 rfl ?_
      refine A_iald hC (lX_6 hL) dX0_apply_105 ?_
      refine A_iast hC hr dX0_apply_106 (fun D5 => ?_)
      refine A_aload_n hC dX0_apply_107 rfl ?_
      refine A_iload hC dX0_apply_108 rfl ?_
      refine A_iconst (v := 5) hC dX0_apply_110 (by decide) ?_
      refine A_iadd hC dX0_apply_111 ?_
      refine A_sipush (v := -3000) hC dX0_apply_112 (by decide) ?_
      refine A_iast hC hr dX0_apply_115 (fun D6 => ?_)
      refine A_aload_n hC dX0_apply_116 rfl ?_
      refine A_iload hC dX0_apply_117 rfl ?_
      refine A_bipush (v := 6) hC dX0_apply_119 (by decide) ?_
      refine A_iadd hC dX0_apply_121 ?_
      refine A_sipush (v := 1900) hC dX0_apply_122 (by decide) ?_
      refine A_iast hC hr dX0_apply_125 (fun D7 => ?_)
      refine A_aload_n hC dX0_apply_126 rfl ?_
      refine A_iload hC dX0_apply_127 rfl ?_
      refine A_bipush (v := 9) hC dX0_apply_129 (by decide) ?_
      refine A_iadd hC dX0_apply_131 ?_
      refine A_iconst (v := 1) hC dX0_apply_132 (by decide) ?_
      refine A_iast hC hr dX0_apply_133 (fun D8 => ?_)
      exact A_vret hC dX0_apply_134
    refine A_join (fun (J : Int32 → ADD → Option (Unit × ADD)) => ∀ (x4 : Int32) (D9 : ADD), AT aVv g b 50 [some (.ref (g.1 + 2)), some (.ref (g.1 + r)), some (.int a1), some (.int x1), none, some (.int x3), some (.int x4)] [] D9 (J x4 D9)) (aFix_all (fun (J : Int32 → ADD → Option (Unit × ADD)) => ∀ (x4 : Int32) (D9 : ADD), AT aVv g b 50 [some (.ref (g.1 + 2)), some (.ref (g.1 + r)), some (.int a1), some (.int x1), none, some (.int x3), some (.int x4)] [] D9 (J x4 D9)) (fun _ _ => A_none) (fun L50 hL50 x4 D9 => ?_) _) (fun j50 hj50 => ?_)
    · unfold lX0_apply_50
      refine A_iload hC dX0_apply_50 rfl ?_
      refine A_bipush (v := 11) hC dX0_apply_52 (by decide) ?_
      refine A_icmp_ge (tgt := 71) hC dX0_apply_54 (by decide) ?_ ?_
      · exact A_to (hj71 D9) (And.intro rfl (And.intro rfl (And.intro rfl (And.intro rfl (And.intro rfl (trivial))))))
      · refine A_aload_n hC dX0_apply_57 rfl ?_
        refine A_iload hC dX0_apply_58 rfl ?_
        refine A_iload hC dX0_apply_60 rfl ?_
        refine A_iadd hC dX0_apply_62 ?_
        refine A_iconst (v := 0) hC dX0_apply_63 (by decide) ?_
        refine A_iast hC hr dX0_apply_64 (fun D10 => ?_)
        refine A_iincL (z := (1 : Int32)) (lv2 := fun x5 => [some (.ref (g.1 + 2)), some (.ref (g.1 + r)), some (.int a1), some (.int x1), none, some (.int x3), some (.int x5)]) hC dX0_apply_65 rfl (by decide) (Nat.le_of_ble_eq_true rfl) rfl (fun _ => rfl) (fun x5 => ?_)
        refine A_goto (tgt := 50) hC dX0_apply_68 (by decide) ?_
        exact A_to (hL50 x5 D10) (And.intro rfl (And.intro rfl (And.intro rfl (And.intro rfl (And.intro rfl (And.intro rfl (trivial)))))))
    exact A_to (hj50 (0 : Int32) D1) (And.intro rfl (And.intro rfl (And.intro rfl (And.intro rfl (And.intro rfl (And.intro rfl (trivial)))))))
  refine A_if_lt (tgt := 47) hC dX0_apply_23 (by decide) ?_ ?_
  · exact A_to (hj47 D) (And.intro rfl (And.intro rfl (And.intro rfl (And.intro rfl (And.intro rfl (trivial))))))
  · refine A_iload hC dX0_apply_26 rfl ?_
    refine A_bipush (v := 11) hC dX0_apply_28 (by decide) ?_
    refine A_icmp_ge (tgt := 47) hC dX0_apply_30 (by decide) ?_ ?_
    · exact A_to (hj47 D) (And.intro rfl (And.intro rfl (And.intro rfl (And.intro rfl (And.intro rfl (trivial))))))
    · refine A_aload_n hC dX0_apply_33 rfl ?_
      refine A_iload hC dX0_apply_34 rfl ?_
      refine A_iload hC dX0_apply_36 rfl ?_
      refine A_iadd hC dX0_apply_38 ?_
      refine A_aload_n hC dX0_apply_39 rfl ?_
      refine A_getr (kf := 7) hC kX0 (lX_2 hL) rfl (by decide) (by decide) rfl rfl w_48 dX0_apply_40 ?_
      refine A_iload_n hC dX0_apply_43 rfl ?_
      refine A_iald hC (lX_10 hL) dX0_apply_44 ?_
      refine A_iast hC hr dX0_apply_45 (fun D11 => ?_)
      exact A_vret hC dX0_apply_46
def fX0_inRange (a1 : Int32) (a2 : Int32) (D : ADD) : Option (Int32 × ADD) := aLet (fun (x1 : Int32) (D1 : ADD) => aZ x1 (some (x1, D1))) (fun (j33 : Int32 → ADD → Option (Int32 × ADD)) => aLet (fun (D2 : ADD) => j33 (0 : Int32) D2) (fun (j32 : ADD → Option (Int32 × ADD)) => (if a1 < 0 then j32 D else (if (11 : Int32) ≤ a1 then j32 D else aIn a1 11 ((if a2 < (aLeast.getD a1.toNatClampNeg 0) then j32 D else aIn a1 11 ((if (aMost.getD a1.toNatClampNeg 0) < a2 then j32 D else j33 (1 : Int32) D))))))))
set_option maxHeartbeats 4000000 in
set_option maxRecDepth 100000 in
theorem mX0_inRange (l : Launch) (g : AGl) (a1 : Int32) (a2 : Int32) (D : ADD) : AM aVi l yX0_inRange cX0_inRange 2 (some .boolean) 0 g [.int a1, .int a2] D (fX0_inRange a1 a2 D) := by
  refine AM_of (lv0 := [some (.int a1), some (.int a2)]) (own := RX0) (by decide +kernel) rfl (Nat.le_of_ble_eq_true rfl) rfl (fun b hC => ?_)
  unfold fX0_inRange
  refine A_iload_n hC dX0_inRange_0 rfl ?_
  refine A_join (fun (J : Int32 → ADD → Option (Int32 × ADD)) => ∀ (x1 : Int32) (D1 : ADD), AT aVi g b 33 [none, none] [.int x1] D1 (J x1 D1)) (fun x1 D1 => ?_) (fun j33 hj33 => ?_)
  · exact A_zretc hC dX0_inRange_33
  refine A_join (fun (J : ADD → Option (Int32 × ADD)) => ∀ (D2 : ADD), AT aVi g b 32 [none, none] [] D2 (J D2)) (fun D2 => ?_) (fun j32 hj32 => ?_)
  · refine A_iconst (v := 0) hC dX0_inRange_32 (by decide) ?_
    exact A_to (hj33 (0 : Int32) D2) (trivial)
  refine A_if_lt (tgt := 32) hC dX0_inRange_1 (by decide) ?_ ?_
  · exact A_to (hj32 D) (trivial)
  · refine A_iload_n hC dX0_inRange_4 rfl ?_
    refine A_bipush (v := 11) hC dX0_inRange_5 (by decide) ?_
    refine A_icmp_ge (tgt := 32) hC dX0_inRange_7 (by decide) ?_ ?_
    · exact A_to (hj32 D) (trivial)
    · refine A_iload_n hC dX0_inRange_10 rfl ?_
      refine A_sleast hC (by decide) dX0_inRange_11 ?_
      refine A_iload_n hC dX0_inRange_14 rfl ?_
      refine A_tleast hC dX0_inRange_15 ?_
      refine A_icmp_lt (tgt := 32) hC dX0_inRange_16 (by decide) ?_ ?_
      · exact A_to (hj32 D) (trivial)
      · refine A_iload_n hC dX0_inRange_19 rfl ?_
        refine A_smost hC (by decide) dX0_inRange_20 ?_
        refine A_iload_n hC dX0_inRange_23 rfl ?_
        refine A_tmost hC dX0_inRange_24 ?_
        refine A_icmp_gt (tgt := 32) hC dX0_inRange_25 (by decide) ?_ ?_
        · exact A_to (hj32 D) (trivial)
        · refine A_iconst (v := 1) hC dX0_inRange_28 (by decide) ?_
          refine A_goto (tgt := 33) hC dX0_inRange_29 (by decide) ?_
          exact A_to (hj33 (1 : Int32) D) (trivial)
def fX0_isSeen (a1 : Int32) (D : ADD) : Option (Int32 × ADD) := aLet (fun (x1 : Int32) (D1 : ADD) => aZ x1 (some (x1, D1))) (fun (j21 : Int32 → ADD → Option (Int32 × ADD)) => aLet (fun (D2 : ADD) => j21 (1 : Int32) D2) (fun (j16 : ADD → Option (Int32 × ADD)) => (if (D.1 2 12) = (-1 : Int32) then j16 D else (if (D.1 2 12) < a1 then j21 (0 : Int32) D else j16 D))))
set_option maxHeartbeats 4000000 in
set_option maxRecDepth 100000 in
theorem mX0_isSeen (l : Launch) (g : AGl) (hL : aLX g) (a1 : Int32) (D : ADD) : AM aVi l yX0_isSeen cX0_isSeen 2 (some .boolean) 0 g [.ref (g.1 + 2), .int a1] D (fX0_isSeen a1 D) := by
  refine AM_of (lv0 := [some (.ref (g.1 + 2)), some (.int a1)]) (own := RX0) (by decide +kernel) rfl (Nat.le_of_ble_eq_true rfl) rfl (fun b hC => ?_)
  unfold fX0_isSeen
  refine A_aload_n hC dX0_isSeen_0 rfl ?_
  refine A_geti (kf := 12) hC kX0 (lX_2 hL) rfl (by decide) (by decide) rfl w_57 dX0_isSeen_1 ?_
  refine A_iconst (v := -1) hC dX0_isSeen_4 (by decide) ?_
  refine A_join (fun (J : Int32 → ADD → Option (Int32 × ADD)) => ∀ (x1 : Int32) (D1 : ADD), AT aVi g b 21 [none, none] [.int x1] D1 (J x1 D1)) (fun x1 D1 => ?_) (fun j21 hj21 => ?_)
  · exact A_zretc hC dX0_isSeen_21
  refine A_join (fun (J : ADD → Option (Int32 × ADD)) => ∀ (D2 : ADD), AT aVi g b 16 [none, none] [] D2 (J D2)) (fun D2 => ?_) (fun j16 hj16 => ?_)
  · refine A_iconst (v := 1) hC dX0_isSeen_16 (by decide) ?_
    refine A_goto (tgt := 21) hC dX0_isSeen_17 (by decide) ?_
    exact A_to (hj21 (1 : Int32) D2) (trivial)
  refine A_icmp_eq (tgt := 16) hC dX0_isSeen_5 (by decide) ?_ ?_
  · exact A_to (hj16 D) (trivial)
  · refine A_iload_n hC dX0_isSeen_8 rfl ?_
    refine A_aload_n hC dX0_isSeen_9 rfl ?_
    refine A_geti (kf := 12) hC kX0 (lX_2 hL) rfl (by decide) (by decide) rfl w_57 dX0_isSeen_10 ?_
    refine A_icmp_gt (tgt := 20) hC dX0_isSeen_13 (by decide) ?_ ?_
    · refine A_iconst (v := 0) hC dX0_isSeen_20 (by decide) ?_
      exact A_to (hj21 (0 : Int32) D) (trivial)
    · exact A_to (hj16 D) (trivial)
def fX0_known (a1 : Int32) (a2 : Int32) (D : ADD) : Option (Int32 × ADD) := aLet (fun (D1 : ADD) => some ((-100000 : Int32), D1)) (fun (j28 : ADD → Option (Int32 × ADD)) => (if a1 < 0 then j28 D else (if (D.1 2 9) ≤ a1 then j28 D else (if (32 : Int32) ≤ a1 then j28 D else (if a2 < 0 then j28 D else (if a2 < (11 : Int32) then aIn ((a1 * (11 : Int32)) + a2) 352 (some ((D.1 4 ((a1 * (11 : Int32)) + a2).toNatClampNeg), D)) else j28 D))))))
set_option maxHeartbeats 4000000 in
set_option maxRecDepth 100000 in
theorem mX0_known (l : Launch) (g : AGl) (hL : aLX g) (a1 : Int32) (a2 : Int32) (D : ADD) : AM aVi l yX0_known cX0_known 3 (some .int) 0 g [.ref (g.1 + 2), .int a1, .int a2] D (fX0_known a1 a2 D) := by
  refine AM_of (lv0 := [some (.ref (g.1 + 2)), some (.int a1), some (.int a2)]) (own := RX0) (by decide +kernel) rfl (Nat.le_of_ble_eq_true rfl) rfl (fun b hC => ?_)
  unfold fX0_known
  refine A_iload_n hC dX0_known_0 rfl ?_
  refine A_join (fun (J : ADD → Option (Int32 × ADD)) => ∀ (D1 : ADD), AT aVi g b 28 [none, none, none] [] D1 (J D1)) (fun D1 => ?_) (fun j28 hj28 => ?_)
  · refine A_ldc hC dX0_known_28 w_394 ?_
    exact A_iret hC dX0_known_30
  refine A_if_lt (tgt := 28) hC dX0_known_1 (by decide) ?_ ?_
  · exact A_to (hj28 D) (trivial)
  · refine A_iload_n hC dX0_known_4 rfl ?_
    refine A_aload_n hC dX0_known_5 rfl ?_
    refine A_geti (kf := 9) hC kX0 (lX_2 hL) rfl (by decide) (by decide) rfl w_50 dX0_known_6 ?_
    refine A_icmp_ge (tgt := 28) hC dX0_known_9 (by decide) ?_ ?_
    · exact A_to (hj28 D) (trivial)
    · refine A_iload_n hC dX0_known_12 rfl ?_
      refine A_bipush (v := 32) hC dX0_known_13 (by decide) ?_
      refine A_icmp_ge (tgt := 28) hC dX0_known_15 (by decide) ?_ ?_
      · exact A_to (hj28 D) (trivial)
      · refine A_iload_n hC dX0_known_18 rfl ?_
        refine A_if_lt (tgt := 28) hC dX0_known_19 (by decide) ?_ ?_
        · exact A_to (hj28 D) (trivial)
        · refine A_iload_n hC dX0_known_22 rfl ?_
          refine A_bipush (v := 11) hC dX0_known_23 (by decide) ?_
          refine A_icmp_lt (tgt := 31) hC dX0_known_25 (by decide) ?_ ?_
          · refine A_aload_n hC dX0_known_31 rfl ?_
            refine A_getr (kf := 1) hC kX0 (lX_2 hL) rfl (by decide) (by decide) rfl rfl w_42 dX0_known_32 ?_
            refine A_iload_n hC dX0_known_35 rfl ?_
            refine A_bipush (v := 11) hC dX0_known_36 (by decide) ?_
            refine A_imul hC dX0_known_38 ?_
            refine A_iload_n hC dX0_known_39 rfl ?_
            refine A_iadd hC dX0_known_40 ?_
            refine A_iald hC (lX_4 hL) dX0_known_41 ?_
            exact A_iret hC dX0_known_42
          · exact A_to (hj28 D) (trivial)
def fX0_turnTo (a1 : Int32) (D : ADD) : Option (Int32 × ADD) := aLet (fun (D1 : ADD) => some ((0 : Int32), D1)) (fun (j15 : ADD → Option (Int32 × ADD)) => (if a1 < (D.1 2 11) then j15 D else (if a1 ≤ (9999 : Int32) then aLet (aSI D 2 11 a1) (fun D2 => some ((1 : Int32), D2)) else j15 D)))
set_option maxHeartbeats 4000000 in
set_option maxRecDepth 100000 in
theorem mX0_turnTo (l : Launch) (g : AGl) (hL : aLX g) (a1 : Int32) (D : ADD) : AM aVi l yX0_turnTo cX0_turnTo 2 (some .boolean) 0 g [.ref (g.1 + 2), .int a1] D (fX0_turnTo a1 D) := by
  refine AM_of (lv0 := [some (.ref (g.1 + 2)), some (.int a1)]) (own := RX0) (by decide +kernel) rfl (Nat.le_of_ble_eq_true rfl) rfl (fun b hC => ?_)
  unfold fX0_turnTo
  refine A_iload_n hC dX0_turnTo_0 rfl ?_
  refine A_aload_n hC dX0_turnTo_1 rfl ?_
  refine A_geti (kf := 11) hC kX0 (lX_2 hL) rfl (by decide) (by decide) rfl w_55 dX0_turnTo_2 ?_
  refine A_join (fun (J : ADD → Option (Int32 × ADD)) => ∀ (D1 : ADD), AT aVi g b 15 [none, none] [] D1 (J D1)) (fun D1 => ?_) (fun j15 hj15 => ?_)
  · refine A_iconst (v := 0) hC dX0_turnTo_15 (by decide) ?_
    exact A_zret hC dX0_turnTo_16 (Or.inl rfl)
  refine A_icmp_lt (tgt := 15) hC dX0_turnTo_5 (by decide) ?_ ?_
  · exact A_to (hj15 D) (trivial)
  · refine A_iload_n hC dX0_turnTo_8 rfl ?_
    refine A_sipush (v := 9999) hC dX0_turnTo_9 (by decide) ?_
    refine A_icmp_le (tgt := 17) hC dX0_turnTo_12 (by decide) ?_ ?_
    · refine A_aload_n hC dX0_turnTo_17 rfl ?_
      refine A_iload_n hC dX0_turnTo_18 rfl ?_
      refine A_puti (kf := 11) hC kX0 (lX_2 hL) rfl (by decide) (by decide) rfl rfl rfl w_55 dX0_turnTo_19 (fun D2 => ?_)
      refine A_iconst (v := 1) hC dX0_turnTo_22 (by decide) ?_
      exact A_zret hC dX0_turnTo_23 (Or.inr rfl)
    · exact A_to (hj15 D) (trivial)
def fX0_written (a1 : Int32) (a2 : Int32) (D : ADD) : Option (Int32 × ADD) := aLet (fun (D1 : ADD) => some ((-100000 : Int32), D1)) (fun (j19 : ADD → Option (Int32 × ADD)) => (if a1 < 0 then j19 D else (if (D.1 2 10) ≤ a1 then j19 D else (if a1 < (400 : Int32) then aTab a2 0 [aIn a1 400 (some ((D.1 7 a1.toNatClampNeg), D)), aIn a1 400 (some ((D.1 8 a1.toNatClampNeg), D)), aIn a1 400 (some ((D.1 9 a1.toNatClampNeg), D)), aIn a1 400 (some ((D.1 10 a1.toNatClampNeg), D))] (some ((-100000 : Int32), D)) else j19 D))))
set_option maxHeartbeats 4000000 in
set_option maxRecDepth 100000 in
theorem mX0_written (l : Launch) (g : AGl) (hL : aLX g) (a1 : Int32) (a2 : Int32) (D : ADD) : AM aVi l yX0_written cX0_written 3 (some .int) 0 g [.ref (g.1 + 2), .int a1, .int a2] D (fX0_written a1 a2 D) := by
  refine AM_of (lv0 := [some (.ref (g.1 + 2)), some (.int a1), some (.int a2)]) (own := RX0) (by decide +kernel) rfl (Nat.le_of_ble_eq_true rfl) rfl (fun b hC => ?_)
  unfold fX0_written
  refine A_iload_n hC dX0_written_0 rfl ?_
  refine A_join (fun (J : ADD → Option (Int32 × ADD)) => ∀ (D1 : ADD), AT aVi g b 19 [none, none, none] [] D1 (J D1)) (fun D1 => ?_) (fun j19 hj19 => ?_)
  · refine A_ldc hC dX0_written_19 w_394 ?_
    exact A_iret hC dX0_written_21
  refine A_if_lt (tgt := 19) hC dX0_written_1 (by decide) ?_ ?_
  · exact A_to (hj19 D) (trivial)
  · refine A_iload_n hC dX0_written_4 rfl ?_
    refine A_aload_n hC dX0_written_5 rfl ?_
    refine A_geti (kf := 10) hC kX0 (lX_2 hL) rfl (by decide) (by decide) rfl w_53 dX0_written_6 ?_
    refine A_icmp_ge (tgt := 19) hC dX0_written_9 (by decide) ?_ ?_
    · exact A_to (hj19 D) (trivial)
    · refine A_iload_n hC dX0_written_12 rfl ?_
      refine A_sipush (v := 400) hC dX0_written_13 (by decide) ?_
      refine A_icmp_lt (tgt := 22) hC dX0_written_16 (by decide) ?_ ?_
      · refine A_iload_n hC dX0_written_22 rfl ?_
        refine A_tab (td := 80) hC dX0_written_23 rfl (by decide) ?_ (And.intro (Exists.intro 52 (And.intro (by decide) ?_)) (And.intro (Exists.intro 59 (And.intro (by decide) ?_)) (And.intro (Exists.intro 66 (And.intro (by decide) ?_)) (And.intro (Exists.intro 73 (And.intro (by decide) ?_)) trivial))))
        · refine A_ldc hC dX0_written_80 w_394 ?_
          exact A_iret hC dX0_written_82
        · refine A_aload_n hC dX0_written_52 rfl ?_
          refine A_getr (kf := 4) hC kX0 (lX_2 hL) rfl (by decide) (by decide) rfl rfl w_45 dX0_written_53 ?_
          refine A_iload_n hC dX0_written_56 rfl ?_
          refine A_iald hC (lX_7 hL) dX0_written_57 ?_
          exact A_iret hC dX0_written_58
        · refine A_aload_n hC dX0_written_59 rfl ?_
          refine A_getr (kf := 5) hC kX0 (lX_2 hL) rfl (by decide) (by decide) rfl rfl w_46 dX0_written_60 ?_
          refine A_iload_n hC dX0_written_63 rfl ?_
          refine A_iald hC (lX_8 hL) dX0_written_64 ?_
          exact A_iret hC dX0_written_65
        · refine A_aload_n hC dX0_written_66 rfl ?_
          refine A_getr (kf := 6) hC kX0 (lX_2 hL) rfl (by decide) (by decide) rfl rfl w_47 dX0_written_67 ?_
          refine A_iload_n hC dX0_written_70 rfl ?_
          refine A_iald hC (lX_9 hL) dX0_written_71 ?_
          exact A_iret hC dX0_written_72
        · refine A_aload_n hC dX0_written_73 rfl ?_
          refine A_getr (kf := 7) hC kX0 (lX_2 hL) rfl (by decide) (by decide) rfl rfl w_48 dX0_written_74 ?_
          refine A_iload_n hC dX0_written_77 rfl ?_
          refine A_iald hC (lX_10 hL) dX0_written_78 ?_
          exact A_iret hC dX0_written_79
      · exact A_to (hj19 D) (trivial)
def fX10_fault (a1 : Int32) (D : ADD) : Option (Int32 × ADD) := (if a1 = (0 : Int32) then some ((D.1 1 5), D) else if a1 = (1 : Int32) then some ((D.1 1 6), D) else some ((-1 : Int32), D))
set_option maxHeartbeats 4000000 in
set_option maxRecDepth 100000 in
theorem mX10_fault (l : Launch) (g : AGl) (hL : aLX g) (a1 : Int32) (D : ADD) : AM aVi l yX10_fault cX10_fault 2 (some .int) 0 g [.ref (g.1 + 0), .int a1] D (fX10_fault a1 D) := by
  refine AM_of (lv0 := [some (.ref (g.1 + 0)), some (.int a1)]) (own := RX10) (by decide +kernel) rfl (Nat.le_of_ble_eq_true rfl) rfl (fun b hC => ?_)
  unfold fX10_fault
  refine A_iload_n hC dX10_fault_0 rfl ?_
  refine A_look2 (t0 := 28) (t1 := 36) (td := 44) (z0 := 0) (z1 := 1) hC dX10_fault_1 (by decide) (by decide) (by decide) (by decide) (by decide) (by decide) ?_ ?_ ?_
  · refine A_aload_n hC dX10_fault_28 rfl ?_
    refine A_getr (kf := 0) hC kX10 (lX_0 hL) rfl (by decide) (by decide) rfl rfl w_305 dX10_fault_29 ?_
    refine A_geti (kf := 5) hC kX8 (lX_1 hL) rfl (by decide) (by decide) rfl w_176 dX10_fault_32 ?_
    exact A_iret hC dX10_fault_35
  · refine A_aload_n hC dX10_fault_36 rfl ?_
    refine A_getr (kf := 0) hC kX10 (lX_0 hL) rfl (by decide) (by decide) rfl rfl w_305 dX10_fault_37 ?_
    refine A_geti (kf := 6) hC kX8 (lX_1 hL) rfl (by decide) (by decide) rfl w_178 dX10_fault_40 ?_
    exact A_iret hC dX10_fault_43
  · refine A_iconst (v := -1) hC dX10_fault_44 (by decide) ?_
    exact A_iret hC dX10_fault_45
def fX10_isTown (a1 : Int32) (D : ADD) : Option (Int32 × ADD) := aLet (fun (x1 : Int32) (D1 : ADD) => aZ x1 (some (x1, D1))) (fun (j15 : Int32 → ADD → Option (Int32 × ADD)) => aLet (fun (D2 : ADD) => j15 (0 : Int32) D2) (fun (j14 : ADD → Option (Int32 × ADD)) => (if a1 < 0 then j14 D else (if (6 : Int32) ≤ a1 then j14 D else j15 (1 : Int32) D))))
set_option maxHeartbeats 4000000 in
set_option maxRecDepth 100000 in
theorem mX10_isTown (l : Launch) (g : AGl) (a1 : Int32) (D : ADD) : AM aVi l yX10_isTown cX10_isTown 1 (some .boolean) 0 g [.int a1] D (fX10_isTown a1 D) := by
  refine AM_of (lv0 := [some (.int a1)]) (own := RX10) (by decide +kernel) rfl (Nat.le_of_ble_eq_true rfl) rfl (fun b hC => ?_)
  unfold fX10_isTown
  refine A_iload_n hC dX10_isTown_0 rfl ?_
  refine A_join (fun (J : Int32 → ADD → Option (Int32 × ADD)) => ∀ (x1 : Int32) (D1 : ADD), AT aVi g b 15 [none] [.int x1] D1 (J x1 D1)) (fun x1 D1 => ?_) (fun j15 hj15 => ?_)
  · exact A_zretc hC dX10_isTown_15
  refine A_join (fun (J : ADD → Option (Int32 × ADD)) => ∀ (D2 : ADD), AT aVi g b 14 [none] [] D2 (J D2)) (fun D2 => ?_) (fun j14 hj14 => ?_)
  · refine A_iconst (v := 0) hC dX10_isTown_14 (by decide) ?_
    exact A_to (hj15 (0 : Int32) D2) (trivial)
  refine A_if_lt (tgt := 14) hC dX10_isTown_1 (by decide) ?_ ?_
  · exact A_to (hj14 D) (trivial)
  · refine A_iload_n hC dX10_isTown_4 rfl ?_
    refine A_bipush (v := 6) hC dX10_isTown_5 (by decide) ?_
    refine A_icmp_ge (tgt := 14) hC dX10_isTown_7 (by decide) ?_ ?_
    · exact A_to (hj14 D) (trivial)
    · refine A_iconst (v := 1) hC dX10_isTown_10 (by decide) ?_
      refine A_goto (tgt := 15) hC dX10_isTown_11 (by decide) ?_
      exact A_to (hj15 (1 : Int32) D) (trivial)
def fX10_isUnit (a1 : Int32) (D : ADD) : Option (Int32 × ADD) := aLet (fun (x1 : Int32) (D1 : ADD) => aZ x1 (some (x1, D1))) (fun (j18 : Int32 → ADD → Option (Int32 × ADD)) => aLet (fun (D2 : ADD) => j18 (0 : Int32) D2) (fun (j17 : ADD → Option (Int32 × ADD)) => (if a1 < (10 : Int32) then j17 D else (if (2000 : Int32) < a1 then j17 D else j18 (1 : Int32) D))))
set_option maxHeartbeats 4000000 in
set_option maxRecDepth 100000 in
theorem mX10_isUnit (l : Launch) (g : AGl) (a1 : Int32) (D : ADD) : AM aVi l yX10_isUnit cX10_isUnit 1 (some .boolean) 0 g [.int a1] D (fX10_isUnit a1 D) := by
  refine AM_of (lv0 := [some (.int a1)]) (own := RX10) (by decide +kernel) rfl (Nat.le_of_ble_eq_true rfl) rfl (fun b hC => ?_)
  unfold fX10_isUnit
  refine A_iload_n hC dX10_isUnit_0 rfl ?_
  refine A_bipush (v := 10) hC dX10_isUnit_1 (by decide) ?_
  refine A_join (fun (J : Int32 → ADD → Option (Int32 × ADD)) => ∀ (x1 : Int32) (D1 : ADD), AT aVi g b 18 [none] [.int x1] D1 (J x1 D1)) (fun x1 D1 => ?_) (fun j18 hj18 => ?_)
  · exact A_zretc hC dX10_isUnit_18
  refine A_join (fun (J : ADD → Option (Int32 × ADD)) => ∀ (D2 : ADD), AT aVi g b 17 [none] [] D2 (J D2)) (fun D2 => ?_) (fun j17 hj17 => ?_)
  · refine A_iconst (v := 0) hC dX10_isUnit_17 (by decide) ?_
    exact A_to (hj18 (0 : Int32) D2) (trivial)
  refine A_icmp_lt (tgt := 17) hC dX10_isUnit_3 (by decide) ?_ ?_
  · exact A_to (hj17 D) (trivial)
  · refine A_iload_n hC dX10_isUnit_6 rfl ?_
    refine A_sipush (v := 2000) hC dX10_isUnit_7 (by decide) ?_
    refine A_icmp_gt (tgt := 17) hC dX10_isUnit_10 (by decide) ?_ ?_
    · exact A_to (hj17 D) (trivial)
    · refine A_iconst (v := 1) hC dX10_isUnit_13 (by decide) ?_
      refine A_goto (tgt := 18) hC dX10_isUnit_14 (by decide) ?_
      exact A_to (hj18 (1 : Int32) D) (trivial)
def fX11_against (a1 : Int32) (a2 : Int32) (a3 : Int32) (D : ADD) : Option (Int64 × ADD) := aIn (a2 - a1) 301 (aIn (a3 - a1) 301 (some ((((D.1 36 (a2 - a1).toNatClampNeg).toInt64 * a3.toInt64) - ((D.1 36 (a3 - a1).toNatClampNeg).toInt64 * a2.toInt64)), D)))
set_option maxHeartbeats 4000000 in
set_option maxRecDepth 100000 in
theorem mX11_against (l : Launch) (g : AGl) (hL : aLM g) (a1 : Int32) (a2 : Int32) (a3 : Int32) (D : ADD) : AM aVl l yX11_against cX11_against 4 (some .long) 0 g [.ref (g.1 + 0), .int a1, .int a2, .int a3] D (fX11_against a1 a2 a3 D) := by
  refine AM_of (lv0 := [some (.ref (g.1 + 0)), some (.int a1), some (.int a2), some (.int a3)]) (own := RX11) (by decide +kernel) rfl (Nat.le_of_ble_eq_true rfl) rfl (fun b hC => ?_)
  unfold fX11_against
  refine A_aload_n hC dX11_against_0 rfl ?_
  refine A_getr (kf := 47) hC kX11 (lM_0 hL) rfl (by decide) (by decide) rfl rfl w_1050 dX11_against_1 ?_
  refine A_iload_n hC dX11_against_4 rfl ?_
  refine A_iload_n hC dX11_against_5 rfl ?_
  refine A_isub hC dX11_against_6 ?_
  refine A_iald hC (lM_36 hL) dX11_against_7 ?_
  refine A_i2l hC dX11_against_8 ?_
  refine A_iload_n hC dX11_against_9 rfl ?_
  refine A_i2l hC dX11_against_10 ?_
  refine A_lmul hC dX11_against_11 ?_
  refine A_aload_n hC dX11_against_12 rfl ?_
  refine A_getr (kf := 47) hC kX11 (lM_0 hL) rfl (by decide) (by decide) rfl rfl w_1050 dX11_against_13 ?_
  refine A_iload_n hC dX11_against_16 rfl ?_
  refine A_iload_n hC dX11_against_17 rfl ?_
  refine A_isub hC dX11_against_18 ?_
  refine A_iald hC (lM_36 hL) dX11_against_19 ?_
  refine A_i2l hC dX11_against_20 ?_
  refine A_iload_n hC dX11_against_21 rfl ?_
  refine A_i2l hC dX11_against_22 ?_
  refine A_lmul hC dX11_against_23 ?_
  refine A_lsub hC dX11_against_24 ?_
  exact A_lret hC dX11_against_25
def lX11_beginChances_2 (j31 : ADD → Option (Unit × ADD)) (L2 : Int32 → ADD → Option (Unit × ADD)) (x1 : Int32) (D2 : ADD) : Option (Unit × ADD) := (if (32 : Int32) < x1 then j31 D2 else aLet (fun (x2 : Int64) (D3 : ADD) => aIn x1 33 (aLet (aSL D3 37 x1.toNatClampNeg x2) (fun D4 => aLet (x1 + (1 : Int32)) (fun x3 => L2 x3 D4)))) (fun (j24 : Int64 → ADD → Option (Unit × ADD)) => (if x1 = 0 then j24 (1000000000 : Int64) D2 else j24 (0 : Int64) D2)))
def fX11_beginChances (D : ADD) : Option (Unit × ADD) := aLet (fun (D1 : ADD) => some ((), D1)) (fun (j31 : ADD → Option (Unit × ADD)) => aLet (aFix aFuel (lX11_beginChances_2 j31) (fun _ _ => none)) (fun j2 => j2 (0 : Int32) D))
set_option maxHeartbeats 4000000 in
set_option maxRecDepth 100000 in
theorem mX11_beginChances (l : Launch) (g : AGl) (hL : aLM g) (D : ADD) : AM aVv l yX11_beginChances cX11_beginChances 2 none 0 g [.ref (g.1 + 0)] D (fX11_beginChances D) := by
  refine AM_of (lv0 := [some (.ref (g.1 + 0)), none]) (own := RX11) (by decide +kernel) rfl (Nat.le_of_ble_eq_true rfl) rfl (fun b hC => ?_)
  unfold fX11_beginChances
  refine A_iconst (v := 0) hC dX11_beginChances_0 (by decide) ?_
  refine A_istore_n (lv2 := [some (.ref (g.1 + 0)), some (.int (0 : Int32))]) hC dX11_beginChances_1 (Nat.le_of_ble_eq_true rfl) rfl rfl ?_
  refine A_join (fun (J : ADD → Option (Unit × ADD)) => ∀ (D1 : ADD), AT aVv g b 31 [none, none] [] D1 (J D1)) (fun D1 => ?_) (fun j31 hj31 => ?_)
  · exact A_vret hC dX11_beginChances_31
  refine A_join (fun (J : Int32 → ADD → Option (Unit × ADD)) => ∀ (x1 : Int32) (D2 : ADD), AT aVv g b 2 [some (.ref (g.1 + 0)), some (.int x1)] [] D2 (J x1 D2)) (aFix_all (fun (J : Int32 → ADD → Option (Unit × ADD)) => ∀ (x1 : Int32) (D2 : ADD), AT aVv g b 2 [some (.ref (g.1 + 0)), some (.int x1)] [] D2 (J x1 D2)) (fun _ _ => A_none) (fun L2 hL2 x1 D2 => ?_) _) (fun j2 hj2 => ?_)
  · unfold lX11_beginChances_2
    refine A_iload_n hC dX11_beginChances_2 rfl ?_
    refine A_bipush (v := 32) hC dX11_beginChances_3 (by decide) ?_
    refine A_icmp_gt (tgt := 31) hC dX11_beginChances_5 (by decide) ?_ ?_
    · exact A_to (hj31 D2) (trivial)
    · refine A_aload_n hC dX11_beginChances_8 rfl ?_
      refine A_getr (kf := 48) hC kX11 (lM_0 hL) rfl (by decide) (by decide) rfl rfl w_1051 dX11_beginChances_9 ?_
      refine A_iload_n hC dX11_beginChances_12 rfl ?_
      refine A_iload_n hC dX11_beginChances_13 rfl ?_
      refine A_join (fun (J : Int64 → ADD → Option (Unit × ADD)) => ∀ (x2 : Int64) (D3 : ADD), AT aVv g b 24 [some (.ref (g.1 + 0)), some (.int x1)] [.long x2, .int x1, .ref (g.1 + 37)] D3 (J x2 D3)) (fun x2 D3 => ?_) (fun j24 hj24 => ?_)
      · refine A_last hC (lM_37 hL) dX11_beginChances_24 (fun D4 => ?_)
        refine A_iincL (z := (1 : Int32)) (lv2 := fun x3 => [some (.ref (g.1 + 0)), some (.int x3)]) hC dX11_beginChances_25 rfl (by decide) (Nat.le_of_ble_eq_true rfl) rfl (fun _ => rfl) (fun x3 => ?_)
        refine A_goto (tgt := 2) hC dX11_beginChances_28 (by decide) ?_
        exact A_to (hL2 x3 D4) (And.intro rfl (And.intro rfl (trivial)))
      refine A_if_ne (tgt := 23) hC dX11_beginChances_14 (by decide) ?_ ?_
      · refine A_lconst (v := 0) hC dX11_beginChances_23 (by decide) ?_
        exact A_to (hj24 (0 : Int64) D2) (And.intro rfl (And.intro rfl (trivial)))
      · refine A_ldc2 hC dX11_beginChances_17 w_1421 ?_
        refine A_goto (tgt := 24) hC dX11_beginChances_20 (by decide) ?_
        exact A_to (hj24 (1000000000 : Int64) D2) (And.intro rfl (And.intro rfl (trivial)))
  exact A_to (hj2 (0 : Int32) D) (And.intro rfl (And.intro rfl (trivial)))
