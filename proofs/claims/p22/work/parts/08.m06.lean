def fX11_shortOf (a1 : Int32) (a2 : Int32) (D : ADD) : Option (Int32 × ADD) := aIn a1 32 (aLet (D.1 34 a1.toNatClampNeg) (fun x1 => aBind (fX11_f a1 (7 : Int32) D) (fun x2 D1 => aLet (fun (x3 : Int32) (D2 : ADD) => aLet (fun (x4 : Int32) (D3 : ADD) => some (x4, D3)) (fun (j69 : Int32 → ADD → Option (Int32 × ADD)) => (if (x3 * a2) ≤ x1 then j69 (0 : Int32) D2 else j69 ((x3 * a2) - x1) D2))) (fun (j51 : Int32 → ADD → Option (Int32 × ADD)) => (if x2 = 0 then aNZ a2 (aLet (x1 / a2) (fun x5 => aLet (fun (x6 : Int32) (D4 : ADD) => j51 x6 D4) (fun (j49 : Int32 → ADD → Option (Int32 × ADD)) => aLet (fun (D5 : ADD) => j49 (x5 + (1 : Int32)) D5) (fun (j40 : ADD → Option (Int32 × ADD)) => (if x5 = 0 then j40 D1 else aNZ a2 ((if ((2 : Int32) * (x1 - x1 / a2 * a2)) < a2 then j49 x5 D1 else j40 D1))))))) else j51 x2 D1)))))
set_option maxHeartbeats 4000000 in
set_option maxRecDepth 100000 in
theorem mX11_shortOf (l : Launch) (g : AGl) (hL : aLM g) (a1 : Int32) (a2 : Int32) (D : ADD) : AM aVi l yX11_shortOf cX11_shortOf 5 (some .int) 1 g [.ref (g.1 + 0), .int a1, .int a2] D (fX11_shortOf a1 a2 D) := by
  refine AM_of (lv0 := [some (.ref (g.1 + 0)), some (.int a1), some (.int a2), none, none]) (own := RX11) (by decide +kernel) rfl (Nat.le_of_ble_eq_true rfl) rfl (fun b hC => ?_)
  unfold fX11_shortOf
  refine A_aload_n hC dX11_shortOf_0 rfl ?_
  refine A_getr (kf := 45) hC kX11 (lM_0 hL) rfl (by decide) (by decide) rfl rfl w_1048 dX11_shortOf_1 ?_
  refine A_iload_n hC dX11_shortOf_4 rfl ?_
  refine A_iald hC (lM_34 hL) dX11_shortOf_5 ?_
  refine A_topi (fun x1 => ?_)
  refine A_istore_n (lv2 := [some (.ref (g.1 + 0)), some (.int a1), some (.int a2), some (.int x1), none]) hC dX11_shortOf_6 (Nat.le_of_ble_eq_true rfl) rfl rfl ?_
  refine A_aload_n hC dX11_shortOf_7 rfl ?_
  refine A_iload_n hC dX11_shortOf_8 rfl ?_
  refine A_bipush (v := 7) hC dX11_shortOf_9 (by decide) ?_
  refine A_callVi (As := [.int a1, .int (7 : Int32)]) (st := []) hC (fun l => mX11_f l g hL a1 (7 : Int32) D) (lM_0 hL) rfl (Nat.le_of_ble_eq_true rfl) yc_X11_291 rfl rfl ⟨by decide, by decide⟩ (Nat.le_of_ble_eq_true rfl) rfl dX11_shortOf_11 (fun x2 D1 => ?_)
  refine A_istore (lv2 := [some (.ref (g.1 + 0)), some (.int a1), some (.int a2), some (.int x1), some (.int x2)]) hC dX11_shortOf_14 (Nat.le_of_ble_eq_true rfl) rfl rfl ?_
  refine A_iload hC dX11_shortOf_16 rfl ?_
  refine A_join (fun (J : Int32 → ADD → Option (Int32 × ADD)) => ∀ (x3 : Int32) (D2 : ADD), AT aVi g b 51 [none, none, some (.int a2), some (.int x1), some (.int x3)] [] D2 (J x3 D2)) (fun x3 D2 => ?_) (fun j51 hj51 => ?_)
  · refine A_iload hC dX11_shortOf_51 rfl ?_
    refine A_iload_n hC dX11_shortOf_53 rfl ?_
    refine A_imul hC dX11_shortOf_54 ?_
    refine A_iload_n hC dX11_shortOf_55 rfl ?_
    refine A_join (fun (J : Int32 → ADD → Option (Int32 × ADD)) => ∀ (x4 : Int32) (D3 : ADD), AT aVi g b 69 [none, none, none, none, none] [.int x4] D3 (J x4 D3)) (fun x4 D3 => ?_) (fun j69 hj69 => ?_)
    · exact A_iret hC dX11_shortOf_69
    refine A_icmp_le (tgt := 68) hC dX11_shortOf_56 (by decide) ?_ ?_
    · refine A_iconst (v := 0) hC dX11_shortOf_68 (by decide) ?_
      exact A_to (hj69 (0 : Int32) D2) (trivial)
    · refine A_iload hC dX11_shortOf_59 rfl ?_
      refine A_iload_n hC dX11_shortOf_61 rfl ?_
      refine A_imul hC dX11_shortOf_62 ?_
      refine A_iload_n hC dX11_shortOf_63 rfl ?_
      refine A_isub hC dX11_shortOf_64 ?_
      refine A_goto (tgt := 69) hC dX11_shortOf_65 (by decide) ?_
      exact A_to (hj69 ((x3 * a2) - x1) D2) (trivial)
  refine A_if_ne (tgt := 51) hC dX11_shortOf_18 (by decide) ?_ ?_
  · exact A_to (hj51 x2 D1) (And.intro rfl (And.intro rfl (And.intro rfl (trivial))))
  · refine A_iload_n hC dX11_shortOf_21 rfl ?_
    refine A_iload_n hC dX11_shortOf_22 rfl ?_
    refine A_idiv hC dX11_shortOf_23 ?_
    refine A_topi (fun x5 => ?_)
    refine A_istore (lv2 := [some (.ref (g.1 + 0)), some (.int a1), some (.int a2), some (.int x1), some (.int x5)]) hC dX11_shortOf_24 (Nat.le_of_ble_eq_true rfl) rfl rfl ?_
    refine A_iload hC dX11_shortOf_26 rfl ?_
    refine A_join (fun (J : Int32 → ADD → Option (Int32 × ADD)) => ∀ (x6 : Int32) (D4 : ADD), AT aVi g b 49 [none, none, some (.int a2), some (.int x1), none] [.int x6] D4 (J x6 D4)) (fun x6 D4 => ?_) (fun j49 hj49 => ?_)
    · refine A_istore (lv2 := [none, none, some (.int a2), some (.int x1), some (.int x6)]) hC dX11_shortOf_49 (Nat.le_of_ble_eq_true rfl) rfl rfl ?_
      exact A_to (hj51 x6 D4) (And.intro rfl (And.intro rfl (And.intro rfl (trivial))))
    refine A_join (fun (J : ADD → Option (Int32 × ADD)) => ∀ (D5 : ADD), AT aVi g b 40 [none, none, some (.int a2), some (.int x1), some (.int x5)] [] D5 (J D5)) (fun D5 => ?_) (fun j40 hj40 => ?_)
    · refine A_iload hC dX11_shortOf_40 rfl ?_
      refine A_iconst (v := 1) hC dX11_shortOf_42 (by decide) ?_
      refine A_iadd hC dX11_shortOf_43 ?_
      refine A_goto (tgt := 49) hC dX11_shortOf_44 (by decide) ?_
      exact A_to (hj49 (x5 + (1 : Int32)) D5) (And.intro rfl (And.intro rfl (trivial)))
    refine A_if_eq (tgt := 40) hC dX11_shortOf_28 (by decide) ?_ ?_
    · exact A_to (hj40 D1) (And.intro rfl (And.intro rfl (And.intro rfl (trivial))))
    · refine A_iconst (v := 2) hC dX11_shortOf_31 (by decide) ?_
      refine A_iload_n hC dX11_shortOf_32 rfl ?_
      refine A_iload_n hC dX11_shortOf_33 rfl ?_
      refine A_irem hC dX11_shortOf_34 ?_
      refine A_imul hC dX11_shortOf_35 ?_
      refine A_iload_n hC dX11_shortOf_36 rfl ?_
      refine A_icmp_lt (tgt := 47) hC dX11_shortOf_37 (by decide) ?_ ?_
      · refine A_iload hC dX11_shortOf_47 rfl ?_
        exact A_to (hj49 x5 D1) (And.intro rfl (And.intro rfl (trivial)))
      · exact A_to (hj40 D1) (And.intro rfl (And.intro rfl (And.intro rfl (trivial))))
def fX11_stone (a1 : Int32) (a2 : Int32) (a3 : Int32) (D : ADD) : Option (Int32 × ADD) := aLet (aSI D 0 0 (0 : Int32)) (fun D1 => aIn (0 : Int32) 4 (aLet (fun (D2 : ADD) => some ((-1 : Int32), D2)) (fun (j57 : ADD → Option (Int32 × ADD)) => (if (D1.1 5 (0 : Int32).toNatClampNeg) = (32 : Int32) then j57 D1 else aIn (0 : Int32) 4 ((if (D1.1 8 (0 : Int32).toNatClampNeg) = (400 : Int32) then j57 D1 else aBind (fX11_is a1 (1 : Int32) (30000 : Int32) D1) (fun x1 D3 => (if x1 = 0 then j57 D3 else aBind (fX11_is a2 (0 : Int32) (4 : Int32) D3) (fun x2 D4 => (if x2 = 0 then j57 D4 else aBind (fX11_is a3 (0 : Int32) (5 : Int32) D4) (fun x3 D5 => (if x3 = 0 then j57 D5 else aIn (0 : Int32) 4 (aLet (D5.1 5 (0 : Int32).toNatClampNeg) (fun x4 => aIn (0 : Int32) 4 (aIn ((3 : Int32) * x4) 384 (aLet (aSI D5 10 ((3 : Int32) * x4).toNatClampNeg (D5.1 6 (0 : Int32).toNatClampNeg)) (fun D6 => aIn (((3 : Int32) * x4) + (1 : Int32)) 384 (aLet (aSI D6 10 (((3 : Int32) * x4) + (1 : Int32)).toNatClampNeg a2) (fun D7 => aIn (((3 : Int32) * x4) + (2 : Int32)) 384 (aLet (aSI D7 10 (((3 : Int32) * x4) + (2 : Int32)).toNatClampNeg a3) (fun D8 => aIn (0 : Int32) 4 (aIn (0 : Int32) 4 (aLet (aSI D8 5 (0 : Int32).toNatClampNeg ((D8.1 5 (0 : Int32).toNatClampNeg) + (1 : Int32))) (fun D9 => aBind (fX11_enter x4 (-1 : Int32) a1 D9) (fun _ D10 => some (x4, D10))))))))))))))))))))))))))
set_option maxHeartbeats 4000000 in
set_option maxRecDepth 100000 in
theorem mX11_stone (l : Launch) (g : AGl) (hL : aLM g) (a1 : Int32) (a2 : Int32) (a3 : Int32) (D : ADD) : AM aVi l yX11_stone cX11_stone 5 (some .int) 1 g [.ref (g.1 + 0), .int a1, .int a2, .int a3] D (fX11_stone a1 a2 a3 D) := by
  refine AM_of (lv0 := [some (.ref (g.1 + 0)), some (.int a1), some (.int a2), some (.int a3), none]) (own := RX11) (by decide +kernel) rfl (Nat.le_of_ble_eq_true rfl) rfl (fun b hC => ?_)
  unfold fX11_stone
  refine A_aload_n hC dX11_stone_0 rfl ?_
  refine A_iconst (v := 0) hC dX11_stone_1 (by decide) ?_
  refine A_puti (kf := 0) hC kX11 (lM_0 hL) rfl (by decide) (by decide) rfl rfl rfl w_1003 dX11_stone_2 (fun D1 => ?_)
  refine A_aload_n hC dX11_stone_5 rfl ?_
  refine A_getr (kf := 5) hC kX11 (lM_0 hL) rfl (by decide) (by decide) rfl rfl w_1008 dX11_stone_6 ?_
  refine A_iconst (v := 0) hC dX11_stone_9 (by decide) ?_
  refine A_iald hC (lM_5 hL) dX11_stone_10 ?_
  refine A_bipush (v := 32) hC dX11_stone_11 (by decide) ?_
  refine A_join (fun (J : ADD → Option (Int32 × ADD)) => ∀ (D2 : ADD), AT aVi g b 57 [none, none, none, none, none] [] D2 (J D2)) (fun D2 => ?_) (fun j57 hj57 => ?_)
  · refine A_iconst (v := -1) hC dX11_stone_57 (by decide) ?_
    exact A_iret hC dX11_stone_58
  refine A_icmp_eq (tgt := 57) hC dX11_stone_13 (by decide) ?_ ?_
  · exact A_to (hj57 D1) (trivial)
  · refine A_aload_n hC dX11_stone_16 rfl ?_
    refine A_getr (kf := 8) hC kX11 (lM_0 hL) rfl (by decide) (by decide) rfl rfl w_1011 dX11_stone_17 ?_
    refine A_iconst (v := 0) hC dX11_stone_20 (by decide) ?_
    refine A_iald hC (lM_8 hL) dX11_stone_21 ?_
    refine A_sipush (v := 400) hC dX11_stone_22 (by decide) ?_
    refine A_icmp_eq (tgt := 57) hC dX11_stone_25 (by decide) ?_ ?_
    · exact A_to (hj57 D1) (trivial)
    · refine A_iload_n hC dX11_stone_28 rfl ?_
      refine A_iconst (v := 1) hC dX11_stone_29 (by decide) ?_
      refine A_sipush (v := 30000) hC dX11_stone_30 (by decide) ?_
      refine A_callSi (As := [.int a1, .int (1 : Int32), .int (30000 : Int32)]) (st := []) hC (fun l => mX11_is l g a1 (1 : Int32) (30000 : Int32) D1) yc_X11_138 rfl rfl ⟨by decide, by decide⟩ (Nat.le_of_ble_eq_true rfl) rfl dX11_stone_33 (fun x1 D3 => ?_)
      refine A_if_eq (tgt := 57) hC dX11_stone_36 (by decide) ?_ ?_
      · exact A_to (hj57 D3) (trivial)
      · refine A_iload_n hC dX11_stone_39 rfl ?_
        refine A_iconst (v := 0) hC dX11_stone_40 (by decide) ?_
        refine A_iconst (v := 4) hC dX11_stone_41 (by decide) ?_
        refine A_callSi (As := [.int a2, .int (0 : Int32), .int (4 : Int32)]) (st := []) hC (fun l => mX11_is l g a2 (0 : Int32) (4 : Int32) D3) yc_X11_138 rfl rfl ⟨by decide, by decide⟩ (Nat.le_of_ble_eq_true rfl) rfl dX11_stone_42 (fun x2 D4 => ?_)
        refine A_if_eq (tgt := 57) hC dX11_stone_45 (by decide) ?_ ?_
        · exact A_to (hj57 D4) (trivial)
        · refine A_iload_n hC dX11_stone_48 rfl ?_
          refine A_iconst (v := 0) hC dX11_stone_49 (by decide) ?_
          refine A_iconst (v := 5) hC dX11_stone_50 (by decide) ?_
          refine A_callSi (As := [.int a3, .int (0 : Int32), .int (5 : Int32)]) (st := []) hC (fun l => mX11_is l g a3 (0 : Int32) (5 : Int32) D4) yc_X11_138 rfl rfl ⟨by decide, by decide⟩ (Nat.le_of_ble_eq_true rfl) rfl dX11_stone_51 (fun x3 D5 => ?_)
          refine A_if_ne (tgt := 59) hC dX11_stone_54 (by decide) ?_ ?_
          · refine A_aload_n hC dX11_stone_59 rfl ?_
            refine A_getr (kf := 5) hC kX11 (lM_0 hL) rfl (by decide) (by decide) rfl rfl w_1008 dX11_stone_60 ?_
            refine A_iconst (v := 0) hC dX11_stone_63 (by decide) ?_
            refine A_iald hC (lM_5 hL) dX11_stone_64 ?_
            refine A_topi (fun x4 => ?_)
            refine A_istore (lv2 := [some (.ref (g.1 + 0)), some (.int a1), some (.int a2), some (.int a3), some (.int x4)]) hC dX11_stone_65 (Nat.le_of_ble_eq_true rfl) rfl rfl ?_
            refine A_aload_n hC dX11_stone_67 rfl ?_
            refine A_getr (kf := 10) hC kX11 (lM_0 hL) rfl (by decide) (by decide) rfl rfl w_1013 dX11_stone_68 ?_
            refine A_iconst (v := 3) hC dX11_stone_71 (by decide) ?_
            refine A_iload hC dX11_stone_72 rfl ?_
            refine A_imul hC dX11_stone_74 ?_
            refine A_aload_n hC dX11_stone_75 rfl ?_
            refine A_getr (kf := 6) hC kX11 (lM_0 hL) rfl (by decide) (by decide) rfl rfl w_1009 dX11_stone_76 ?_
            refine A_iconst (v := 0) hC dX11_stone_79 (by decide) ?_
            refine A_iald hC (lM_6 hL) dX11_stone_80 ?_
            refine A_iast hC (lM_10 hL) dX11_stone_81 (fun D6 => ?_)
            refine A_aload_n hC dX11_stone_82 rfl ?_
            refine A_getr (kf := 10) hC kX11 (lM_0 hL) rfl (by decide) (by decide) rfl rfl w_1013 dX11_stone_83 ?_
            refine A_iconst (v := 3) hC dX11_stone_86 (by decide) ?_
            refine A_iload hC dX11_stone_87 rfl ?_
            refine A_imul hC dX11_stone_89 ?_
            refine A_iconst (v := 1) hC dX11_stone_90 (by decide) ?_
            refine A_iadd hC dX11_stone_91 ?_
            refine A_iload_n hC dX11_stone_92 rfl ?_
            refine A_iast hC (lM_10 hL) dX11_stone_93 (fun D7 => ?_)
            refine A_aload_n hC dX11_stone_94 rfl ?_
            refine A_getr (kf := 10) hC kX11 (lM_0 hL) rfl (by decide) (by decide) rfl rfl w_1013 dX11_stone_95 ?_
            refine A_iconst (v := 3) hC dX11_stone_98 (by decide) ?_
            refine A_iload hC dX11_stone_99 rfl ?_
            refine A_imul hC dX11_stone_101 ?_
            refine A_iconst (v := 2) hC dX11_stone_102 (by decide) ?_
            refine A_iadd hC dX11_stone_103 ?_
            refine A_iload_n hC dX11_stone_104 rfl ?_
            refine A_iast hC (lM_10 hL) dX11_stone_105 (fun D8 => ?_)
            refine A_aload_n hC dX11_stone_106 rfl ?_
            refine A_getr (kf := 5) hC kX11 (lM_0 hL) rfl (by decide) (by decide) rfl rfl w_1008 dX11_stone_107 ?_
            refine A_iconst (v := 0) hC dX11_stone_110 (by decide) ?_
            refine A_dup2 hC dX11_stone_111 rfl rfl ?_
            refine A_iald hC (lM_5 hL) dX11_stone_112 ?_
            refine A_iconst (v := 1) hC dX11_stone_113 (by decide) ?_
            refine A_iadd hC dX11_stone_114 ?_
            refine A_iast hC (lM_5 hL) dX11_stone_115 (fun D9 => ?_)
            refine A_aload_n hC dX11_stone_116 rfl ?_
            refine A_iload hC dX11_stone_117 rfl ?_
            refine A_iconst (v := -1) hC dX11_stone_119 (by decide) ?_
            refine A_iload_n hC dX11_stone_120 rfl ?_
            refine A_callVv (As := [.int x4, .int (-1 : Int32), .int a1]) (st := []) hC (fun l => mX11_enter l g hL x4 (-1 : Int32) a1 D9) (lM_0 hL) rfl (Nat.le_of_ble_eq_true rfl) yc_X11_146 rfl rfl ⟨by decide, by decide⟩ (Nat.le_of_ble_eq_true rfl) rfl dX11_stone_121 (fun _ D10 => ?_)
            refine A_iload hC dX11_stone_124 rfl ?_
            exact A_iret hC dX11_stone_126
          · exact A_to (hj57 D5) (trivial)
def fX11_testWord (a1 : Int32) (D : ADD) : Option (Int32 × ADD) := (if a1 = 0 then aBind (fX11_isWord (495875090022 : Int64) D) (fun x1 D1 => aLet (fun (x2 : Int32) (D2 : ADD) => some (x2, D2)) (fun (j220 : Int32 → ADD → Option (Int32 × ADD)) => (if x1 = 0 then aBind (fX11_isWord (426953502835 : Int64) D1) (fun x3 D3 => (if x3 = 0 then aBind (fX11_isWord (1818583396 : Int64) D3) (fun x4 D4 => (if x4 = 0 then aBind (fX11_isWord (1953462126 : Int64) D4) (fun x5 D5 => (if x5 = 0 then aBind (fX11_isWord (1835102827 : Int64) D5) (fun x6 D6 => (if x6 = 0 then aBind (fX11_isWord (478745093490 : Int64) D6) (fun x7 D7 => (if x7 = 0 then aBind (fX11_isWord (6383461 : Int64) D7) (fun x8 D8 => (if x8 = 0 then j220 (-1 : Int32) D8 else j220 (6 : Int32) D8)) else j220 (5 : Int32) D7)) else j220 (4 : Int32) D6)) else j220 (3 : Int32) D5)) else j220 (2 : Int32) D4)) else j220 (1 : Int32) D3)) else j220 (0 : Int32) D1))) else aBind (fX11_isWord (1835101817 : Int64) D) (fun x9 D9 => aLet (fun (x10 : Int32) (D10 : ADD) => some (x10, D10)) (fun (j119 : Int32 → ADD → Option (Int32 × ADD)) => (if x9 = 0 then aBind (fX11_isWord (1852137842 : Int64) D9) (fun x11 D11 => (if x11 = 0 then aBind (fX11_isWord (1835360622 : Int64) D11) (fun x12 D12 => (if x12 = 0 then aBind (fX11_isWord (109299962372965 : Int64) D12) (fun x13 D13 => (if x13 = 0 then aBind (fX11_isWord (500135716196 : Int64) D13) (fun x14 D14 => (if x14 = 0 then aBind (fX11_isWord (482854658917 : Int64) D14) (fun x15 D15 => (if x15 = 0 then aBind (fX11_isWord (500086304371 : Int64) D15) (fun x16 D16 => (if x16 = 0 then aBind (fX11_isWord (469786323827 : Int64) D16) (fun x17 D17 => (if x17 = 0 then j119 (-1 : Int32) D17 else j119 (7 : Int32) D17)) else j119 (6 : Int32) D16)) else j119 (5 : Int32) D15)) else j119 (4 : Int32) D14)) else j119 (3 : Int32) D13)) else j119 (2 : Int32) D12)) else j119 (1 : Int32) D11)) else j119 (0 : Int32) D9))))
set_option maxHeartbeats 4000000 in
set_option maxRecDepth 100000 in
theorem mX11_testWord (l : Launch) (g : AGl) (hL : aLM g) (a1 : Int32) (D : ADD) : AM aVi l yX11_testWord cX11_testWord 2 (some .int) 1 g [.ref (g.1 + 0), .int a1] D (fX11_testWord a1 D) := by
  refine AM_of (lv0 := [some (.ref (g.1 + 0)), some (.int a1)]) (own := RX11) (by decide +kernel) rfl (Nat.le_of_ble_eq_true rfl) rfl (fun b hC => ?_)
  unfold fX11_testWord
  refine A_iload_n hC dX11_testWord_0 rfl ?_
  refine A_if_eq (tgt := 120) hC dX11_testWord_1 (by decide) ?_ ?_
  · refine A_aload_n hC dX11_testWord_120 rfl ?_
    refine A_ldc2 hC dX11_testWord_121 w_1259 ?_
    refine A_callVi (As := [.long (495875090022 : Int64)]) (st := []) hC (fun l => mX11_isWord l g hL (495875090022 : Int64) D) (lM_0 hL) rfl (Nat.le_of_ble_eq_true rfl) yc_X11_209 rfl rfl ⟨by decide, by decide⟩ (Nat.le_of_ble_eq_true rfl) rfl dX11_testWord_124 (fun x1 D1 => ?_)
    refine A_join (fun (J : Int32 → ADD → Option (Int32 × ADD)) => ∀ (x2 : Int32) (D2 : ADD), AT aVi g b 220 [none, none] [.int x2] D2 (J x2 D2)) (fun x2 D2 => ?_) (fun j220 hj220 => ?_)
    · exact A_iret hC dX11_testWord_220
    refine A_if_eq (tgt := 134) hC dX11_testWord_127 (by decide) ?_ ?_
    · refine A_aload_n hC dX11_testWord_134 rfl ?_
      refine A_ldc2 hC dX11_testWord_135 w_1260 ?_
      refine A_callVi (As := [.long (426953502835 : Int64)]) (st := []) hC (fun l => mX11_isWord l g hL (426953502835 : Int64) D1) (lM_0 hL) rfl (Nat.le_of_ble_eq_true rfl) yc_X11_209 rfl rfl ⟨by decide, by decide⟩ (Nat.le_of_ble_eq_true rfl) rfl dX11_testWord_138 (fun x3 D3 => ?_)
      refine A_if_eq (tgt := 148) hC dX11_testWord_141 (by decide) ?_ ?_
      · refine A_aload_n hC dX11_testWord_148 rfl ?_
        refine A_ldc2 hC dX11_testWord_149 w_1261 ?_
        refine A_callVi (As := [.long (1818583396 : Int64)]) (st := []) hC (fun l => mX11_isWord l g hL (1818583396 : Int64) D3) (lM_0 hL) rfl (Nat.le_of_ble_eq_true rfl) yc_X11_209 rfl rfl ⟨by decide, by decide⟩ (Nat.le_of_ble_eq_true rfl) rfl dX11_testWord_152 (fun x4 D4 => ?_)
        refine A_if_eq (tgt := 162) hC dX11_testWord_155 (by decide) ?_ ?_
        · refine A_aload_n hC dX11_testWord_162 rfl ?_
          refine A_ldc2 hC dX11_testWord_163 w_1262 ?_
          refine A_callVi (As := [.long (1953462126 : Int64)]) (st := []) hC (fun l => mX11_isWord l g hL (1953462126 : Int64) D4) (lM_0 hL) rfl (Nat.le_of_ble_eq_true rfl) yc_X11_209 rfl rfl ⟨by decide, by decide⟩ (Nat.le_of_ble_eq_true rfl) rfl dX11_testWord_166 (fun x5 D5 => ?_)
          refine A_if_eq (tgt := 176) hC dX11_testWord_169 (by decide) ?_ ?_
          · refine A_aload_n hC dX11_testWord_176 rfl ?_
            refine A_ldc2 hC dX11_testWord_177 w_1263 ?_
            refine A_callVi (As := [.long (1835102827 : Int64)]) (st := []) hC (fun l => mX11_isWord l g hL (1835102827 : Int64) D5) (lM_0 hL) rfl (Nat.le_of_ble_eq_true rfl) yc_X11_209 rfl rfl ⟨by decide, by decide⟩ (Nat.le_of_ble_eq_true rfl) rfl dX11_testWord_180 (fun x6 D6 => ?_)
            refine A_if_eq (tgt := 190) hC dX11_testWord_183 (by decide) ?_ ?_
            · refine A_aload_n hC dX11_testWord_190 rfl ?_
              refine A_ldc2 hC dX11_testWord_191 w_1264 ?_
              refine A_callVi (As := [.long (478745093490 : Int64)]) (st := []) hC (fun l => mX11_isWord l g hL (478745093490 : Int64) D6) (lM_0 hL) rfl (Nat.le_of_ble_eq_true rfl) yc_X11_209 rfl rfl ⟨by decide, by decide⟩ (Nat.le_of_ble_eq_true rfl) rfl dX11_testWord_194 (fun x7 D7 => ?_)
              refine A_if_eq (tgt := 204) hC dX11_testWord_197 (by decide) ?_ ?_
              · refine A_aload_n hC dX11_testWord_204 rfl ?_
                refine A_ldc2 hC dX11_testWord_205 w_1265 ?_
                refine A_callVi (As := [.long (6383461 : Int64)]) (st := []) hC (fun l => mX11_isWord l g hL (6383461 : Int64) D7) (lM_0 hL) rfl (Nat.le_of_ble_eq_true rfl) yc_X11_209 rfl rfl ⟨by decide, by decide⟩ (Nat.le_of_ble_eq_true rfl) rfl dX11_testWord_208 (fun x8 D8 => ?_)
                refine A_if_eq (tgt := 219) hC dX11_testWord_211 (by decide) ?_ ?_
                · refine A_iconst (v := -1) hC dX11_testWord_219 (by decide) ?_
                  exact A_to (hj220 (-1 : Int32) D8) (trivial)
                · refine A_bipush (v := 6) hC dX11_testWord_214 (by decide) ?_
                  refine A_goto (tgt := 220) hC dX11_testWord_216 (by decide) ?_
                  exact A_to (hj220 (6 : Int32) D8) (trivial)
              · refine A_iconst (v := 5) hC dX11_testWord_200 (by decide) ?_
                refine A_goto (tgt := 220) hC dX11_testWord_201 (by decide) ?_
                exact A_to (hj220 (5 : Int32) D7) (trivial)
            · refine A_iconst (v := 4) hC dX11_testWord_186 (by decide) ?_
              refine A_goto (tgt := 220) hC dX11_testWord_187 (by decide) ?_
              exact A_to (hj220 (4 : Int32) D6) (trivial)
          · refine A_iconst (v := 3) hC dX11_testWord_172 (by decide) ?_
            refine A_goto (tgt := 220) hC dX11_testWord_173 (by decide) ?_
            exact A_to (hj220 (3 : Int32) D5) (trivial)
        · refine A_iconst (v := 2) hC dX11_testWord_158 (by decide) ?_
          refine A_goto (tgt := 220) hC dX11_testWord_159 (by decide) ?_
          exact A_to (hj220 (2 : Int32) D4) (trivial)
      · refine A_iconst (v := 1) hC dX11_testWord_144 (by decide) ?_
        refine A_goto (tgt := 220) hC dX11_testWord_145 (by decide) ?_
        exact A_to (hj220 (1 : Int32) D3) (trivial)
    · refine A_iconst (v := 0) hC dX11_testWord_130 (by decide) ?_
      refine A_goto (tgt := 220) hC dX11_testWord_131 (by decide) ?_
      exact A_to (hj220 (0 : Int32) D1) (trivial)
  · refine A_aload_n hC dX11_testWord_4 rfl ?_
    refine A_ldc2 hC dX11_testWord_5 w_1251 ?_
    refine A_callVi (As := [.long (1835101817 : Int64)]) (st := []) hC (fun l => mX11_isWord l g hL (1835101817 : Int64) D) (lM_0 hL) rfl (Nat.le_of_ble_eq_true rfl) yc_X11_209 rfl rfl ⟨by decide, by decide⟩ (Nat.le_of_ble_eq_true rfl) rfl dX11_testWord_8 (fun x9 D9 => ?_)
    refine A_join (fun (J : Int32 → ADD → Option (Int32 × ADD)) => ∀ (x10 : Int32) (D10 : ADD), AT aVi g b 119 [none, none] [.int x10] D10 (J x10 D10)) (fun x10 D10 => ?_) (fun j119 hj119 => ?_)
    · exact A_iret hC dX11_testWord_119
    refine A_if_eq (tgt := 18) hC dX11_testWord_11 (by decide) ?_ ?_
    · refine A_aload_n hC dX11_testWord_18 rfl ?_
      refine A_ldc2 hC dX11_testWord_19 w_1252 ?_
      refine A_callVi (As := [.long (1852137842 : Int64)]) (st := []) hC (fun l => mX11_isWord l g hL (1852137842 : Int64) D9) (lM_0 hL) rfl (Nat.le_of_ble_eq_true rfl) yc_X11_209 rfl rfl ⟨by decide, by decide⟩ (Nat.le_of_ble_eq_true rfl) rfl dX11_testWord_22 (fun x11 D11 => ?_)
      refine A_if_eq (tgt := 32) hC dX11_testWord_25 (by decide) ?_ ?_
      · refine A_aload_n hC dX11_testWord_32 rfl ?_
        refine A_ldc2 hC dX11_testWord_33 w_1253 ?_
        refine A_callVi (As := [.long (1835360622 : Int64)]) (st := []) hC (fun l => mX11_isWord l g hL (1835360622 : Int64) D11) (lM_0 hL) rfl (Nat.le_of_ble_eq_true rfl) yc_X11_209 rfl rfl ⟨by decide, by decide⟩ (Nat.le_of_ble_eq_true rfl) rfl dX11_testWord_36 (fun x12 D12 => ?_)
        refine A_if_eq (tgt := 46) hC dX11_testWord_39 (by decide) ?_ ?_
        · refine A_aload_n hC dX11_testWord_46 rfl ?_
          refine A_ldc2 hC dX11_testWord_47 w_1254 ?_
          refine A_callVi (As := [.long (109299962372965 : Int64)]) (st := []) hC (fun l => mX11_isWord l g hL (109299962372965 : Int64) D12) (lM_0 hL) rfl (Nat.le_of_ble_eq_true rfl) yc_X11_209 rfl rfl ⟨by decide, by decide⟩ (Nat.le_of_ble_eq_true rfl) rfl dX11_testWord_50 (fun x13 D13 => ?_)
          refine A_if_eq (tgt := 60) hC dX11_testWord_53 (by decide) ?_ ?_
          · refine A_aload_n hC dX11_testWord_60 rfl ?_
            refine A_ldc2 hC dX11_testWord_61 w_1255 ?_
            refine A_callVi (As := [.long (500135716196 : Int64)]) (st := []) hC (fun l => mX11_isWord l g hL (500135716196 : Int64) D13) (lM_0 hL) rfl (Nat.le_of_ble_eq_true rfl) yc_X11_209 rfl rfl ⟨by decide, by decide⟩ (Nat.le_of_ble_eq_true rfl) rfl dX11_testWord_64 (fun x14 D14 => ?_)
            refine A_if_eq (tgt := 74) hC dX11_testWord_67 (by decide) ?_ ?_
            · refine A_aload_n hC dX11_testWord_74 rfl ?_
              refine A_ldc2 hC dX11_testWord_75 w_1256 ?_
              refine A_callVi (As := [.long (482854658917 : Int64)]) (st := []) hC (fun l => mX11_isWord l g hL (482854658917 : Int64) D14) (lM_0 hL) rfl (Nat.le_of_ble_eq_true rfl) yc_X11_209 rfl rfl ⟨by decide, by decide⟩ (Nat.le_of_ble_eq_true rfl) rfl dX11_testWord_78 (fun x15 D15 => ?_)
              refine A_if_eq (tgt := 88) hC dX11_testWord_81 (by decide) ?_ ?_
              · refine A_aload_n hC dX11_testWord_88 rfl ?_
                refine A_ldc2 hC dX11_testWord_89 w_1257 ?_
                refine A_callVi (As := [.long (500086304371 : Int64)]) (st := []) hC (fun l => mX11_isWord l g hL (500086304371 : Int64) D15) (lM_0 hL) rfl (Nat.le_of_ble_eq_true rfl) yc_X11_209 rfl rfl ⟨by decide, by decide⟩ (Nat.le_of_ble_eq_true rfl) rfl dX11_testWord_92 (fun x16 D16 => ?_)
                refine A_if_eq (tgt := 103) hC dX11_testWord_95 (by decide) ?_ ?_
                · refine A_aload_n hC dX11_testWord_103 rfl ?_
                  refine A_ldc2 hC dX11_testWord_104 w_1258 ?_
                  refine A_callVi (As := [.long (469786323827 : Int64)]) (st := []) hC (fun l => mX11_isWord l g hL (469786323827 : Int64) D16) (lM_0 hL) rfl (Nat.le_of_ble_eq_true rfl) yc_X11_209 rfl rfl ⟨by decide, by decide⟩ (Nat.le_of_ble_eq_true rfl) rfl dX11_testWord_107 (fun x17 D17 => ?_)
                  refine A_if_eq (tgt := 118) hC dX11_testWord_110 (by decide) ?_ ?_
                  · refine A_iconst (v := -1) hC dX11_testWord_118 (by decide) ?_
                    exact A_to (hj119 (-1 : Int32) D17) (trivial)
                  · refine A_bipush (v := 7) hC dX11_testWord_113 (by decide) ?_
                    refine A_goto (tgt := 119) hC dX11_testWord_115 (by decide) ?_
                    exact A_to (hj119 (7 : Int32) D17) (trivial)
                · refine A_bipush (v := 6) hC dX11_testWord_98 (by decide) ?_
                  refine A_goto (tgt := 119) hC dX11_testWord_100 (by decide) ?_
                  exact A_to (hj119 (6 : Int32) D16) (trivial)
              · refine A_iconst (v := 5) hC dX11_testWord_84 (by decide) ?_
                refine A_goto (tgt := 119) hC dX11_testWord_85 (by decide) ?_
                exact A_to (hj119 (5 : Int32) D15) (trivial)
            · refine A_iconst (v := 4) hC dX11_testWord_70 (by decide) ?_
              refine A_goto (tgt := 119) hC dX11_testWord_71 (by decide) ?_
              exact A_to (hj119 (4 : Int32) D14) (trivial)
          · refine A_iconst (v := 3) hC dX11_testWord_56 (by decide) ?_
            refine A_goto (tgt := 119) hC dX11_testWord_57 (by decide) ?_
            exact A_to (hj119 (3 : Int32) D13) (trivial)
        · refine A_iconst (v := 2) hC dX11_testWord_42 (by decide) ?_
          refine A_goto (tgt := 119) hC dX11_testWord_43 (by decide) ?_
          exact A_to (hj119 (2 : Int32) D12) (trivial)
      · refine A_iconst (v := 1) hC dX11_testWord_28 (by decide) ?_
        refine A_goto (tgt := 119) hC dX11_testWord_29 (by decide) ?_
        exact A_to (hj119 (1 : Int32) D11) (trivial)
    · refine A_iconst (v := 0) hC dX11_testWord_14 (by decide) ?_
      refine A_goto (tgt := 119) hC dX11_testWord_15 (by decide) ?_
      exact A_to (hj119 (0 : Int32) D9) (trivial)
def fX11_timesOf (a1 : Int32) (a2 : Int32) (D : ADD) : Option (Int32 × ADD) := aBind (fX11_f a1 (7 : Int32) D) (fun x1 D1 => (if x1 ≤ 0 then aIn a1 32 (aNZ a2 (aLet ((D1.1 33 a1.toNatClampNeg) / a2) (fun x2 => aLet (fun (x3 : Int32) (D2 : ADD) => aIn a1 32 (aIn a1 32 (aBind (fX11_far (D2.1 33 a1.toNatClampNeg) (D2.1 34 a1.toNatClampNeg) ((x3 + (1 : Int32)) * a2) D2) (fun x4 D3 => aIn a1 32 (aIn a1 32 (aBind (fX11_far (D3.1 33 a1.toNatClampNeg) (D3.1 34 a1.toNatClampNeg) (x3 * a2) D3) (fun x5 D4 => aLet (fun (x6 : Int32) (D5 : ADD) => some (x6, D5)) (fun (j91 : Int32 → ADD → Option (Int32 × ADD)) => (if x5 ≤ x4 then j91 x3 D4 else j91 (x3 + (1 : Int32)) D4))))))))) (fun (j37 : Int32 → ADD → Option (Int32 × ADD)) => (if (1 : Int32) ≤ x2 then j37 x2 D1 else j37 (1 : Int32) D1))))) else aBind (fX11_f a1 (7 : Int32) D1) (fun x7 D6 => some (x7, D6))))
set_option maxHeartbeats 4000000 in
set_option maxRecDepth 100000 in
theorem mX11_timesOf (l : Launch) (g : AGl) (hL : aLM g) (a1 : Int32) (a2 : Int32) (D : ADD) : AM aVi l yX11_timesOf cX11_timesOf 5 (some .int) 1 g [.ref (g.1 + 0), .int a1, .int a2] D (fX11_timesOf a1 a2 D) := by
  refine AM_of (lv0 := [some (.ref (g.1 + 0)), some (.int a1), some (.int a2), none, none]) (own := RX11) (by decide +kernel) rfl (Nat.le_of_ble_eq_true rfl) rfl (fun b hC => ?_)
  unfold fX11_timesOf
  refine A_aload_n hC dX11_timesOf_0 rfl ?_
  refine A_iload_n hC dX11_timesOf_1 rfl ?_
  refine A_bipush (v := 7) hC dX11_timesOf_2 (by decide) ?_
  refine A_callVi (As := [.int a1, .int (7 : Int32)]) (st := []) hC (fun l => mX11_f l g hL a1 (7 : Int32) D) (lM_0 hL) rfl (Nat.le_of_ble_eq_true rfl) yc_X11_291 rfl rfl ⟨by decide, by decide⟩ (Nat.le_of_ble_eq_true rfl) rfl dX11_timesOf_4 (fun x1 D1 => ?_)
  refine A_if_le (tgt := 18) hC dX11_timesOf_7 (by decide) ?_ ?_
  · refine A_aload_n hC dX11_timesOf_18 rfl ?_
    refine A_getr (kf := 44) hC kX11 (lM_0 hL) rfl (by decide) (by decide) rfl rfl w_1047 dX11_timesOf_19 ?_
    refine A_iload_n hC dX11_timesOf_22 rfl ?_
    refine A_iald hC (lM_33 hL) dX11_timesOf_23 ?_
    refine A_iload_n hC dX11_timesOf_24 rfl ?_
    refine A_idiv hC dX11_timesOf_25 ?_
    refine A_topi (fun x2 => ?_)
    refine A_istore_n (lv2 := [some (.ref (g.1 + 0)), some (.int a1), some (.int a2), some (.int x2), none]) hC dX11_timesOf_26 (Nat.le_of_ble_eq_true rfl) rfl rfl ?_
    refine A_iload_n hC dX11_timesOf_27 rfl ?_
    refine A_iconst (v := 1) hC dX11_timesOf_28 (by decide) ?_
    refine A_join (fun (J : Int32 → ADD → Option (Int32 × ADD)) => ∀ (x3 : Int32) (D2 : ADD), AT aVi g b 37 [some (.ref (g.1 + 0)), some (.int a1), some (.int a2), none, none] [.int x3] D2 (J x3 D2)) (fun x3 D2 => ?_) (fun j37 hj37 => ?_)
    · refine A_istore (lv2 := [some (.ref (g.1 + 0)), some (.int a1), some (.int a2), none, some (.int x3)]) hC dX11_timesOf_37 (Nat.le_of_ble_eq_true rfl) rfl rfl ?_
      refine A_aload_n hC dX11_timesOf_39 rfl ?_
      refine A_getr (kf := 44) hC kX11 (lM_0 hL) rfl (by decide) (by decide) rfl rfl w_1047 dX11_timesOf_40 ?_
      refine A_iload_n hC dX11_timesOf_43 rfl ?_
      refine A_iald hC (lM_33 hL) dX11_timesOf_44 ?_
      refine A_aload_n hC dX11_timesOf_45 rfl ?_
      refine A_getr (kf := 45) hC kX11 (lM_0 hL) rfl (by decide) (by decide) rfl rfl w_1048 dX11_timesOf_46 ?_
      refine A_iload_n hC dX11_timesOf_49 rfl ?_
      refine A_iald hC (lM_34 hL) dX11_timesOf_50 ?_
      refine A_iload hC dX11_timesOf_51 rfl ?_
      refine A_iconst (v := 1) hC dX11_timesOf_53 (by decide) ?_
      refine A_iadd hC dX11_timesOf_54 ?_
      refine A_iload_n hC dX11_timesOf_55 rfl ?_
      refine A_imul hC dX11_timesOf_56 ?_
      refine A_callSi (As := [.int (D2.1 33 a1.toNatClampNeg), .int (D2.1 34 a1.toNatClampNeg), .int ((x3 + (1 : Int32)) * a2)]) (st := []) hC (fun l => mX11_far l g (D2.1 33 a1.toNatClampNeg) (D2.1 34 a1.toNatClampNeg) ((x3 + (1 : Int32)) * a2) D2) yc_X11_317 rfl rfl ⟨by decide, by decide⟩ (Nat.le_of_ble_eq_true rfl) rfl dX11_timesOf_57 (fun x4 D3 => ?_)
      refine A_aload_n hC dX11_timesOf_60 rfl ?_
      refine A_getr (kf := 44) hC kX11 (lM_0 hL) rfl (by decide) (by decide) rfl rfl w_1047 dX11_timesOf_61 ?_
      refine A_iload_n hC dX11_timesOf_64 rfl ?_
      refine A_iald hC (lM_33 hL) dX11_timesOf_65 ?_
      refine A_aload_n hC dX11_timesOf_66 rfl ?_
      refine A_getr (kf := 45) hC kX11 (lM_0 hL) rfl (by decide) (by decide) rfl rfl w_1048 dX11_timesOf_67 ?_
      refine A_iload_n hC dX11_timesOf_70 rfl ?_
      refine A_iald hC (lM_34 hL) dX11_timesOf_71 ?_
      refine A_iload hC dX11_timesOf_72 rfl ?_
      refine A_iload_n hC dX11_timesOf_74 rfl ?_
      refine A_imul hC dX11_timesOf_75 ?_
      refine A_callSi (As := [.int (D3.1 33 a1.toNatClampNeg), .int (D3.1 34 a1.toNatClampNeg), .int (x3 * a2)]) (st := [.int x4]) hC (fun l => mX11_far l g (D3.1 33 a1.toNatClampNeg) (D3.1 34 a1.toNatClampNeg) (x3 * a2) D3) yc_X11_317 rfl rfl ⟨by decide, by decide⟩ (Nat.le_of_ble_eq_true rfl) rfl dX11_timesOf_76 (fun x5 D4 => ?_)
      refine A_join (fun (J : Int32 → ADD → Option (Int32 × ADD)) => ∀ (x6 : Int32) (D5 : ADD), AT aVi g b 91 [none, none, none, none, none] [.int x6] D5 (J x6 D5)) (fun x6 D5 => ?_) (fun j91 hj91 => ?_)
      · exact A_iret hC dX11_timesOf_91
      refine A_icmp_ge (tgt := 89) hC dX11_timesOf_79 (by decide) ?_ ?_
      · refine A_iload hC dX11_timesOf_89 rfl ?_
        exact A_to (hj91 x3 D4) (trivial)
      · refine A_iload hC dX11_timesOf_82 rfl ?_
        refine A_iconst (v := 1) hC dX11_timesOf_84 (by decide) ?_
        refine A_iadd hC dX11_timesOf_85 ?_
        refine A_goto (tgt := 91) hC dX11_timesOf_86 (by decide) ?_
        exact A_to (hj91 (x3 + (1 : Int32)) D4) (trivial)
    refine A_icmp_ge (tgt := 36) hC dX11_timesOf_29 (by decide) ?_ ?_
    · refine A_iload_n hC dX11_timesOf_36 rfl ?_
      exact A_to (hj37 x2 D1) (And.intro rfl (And.intro rfl (And.intro rfl (trivial))))
    · refine A_iconst (v := 1) hC dX11_timesOf_32 (by decide) ?_
      refine A_goto (tgt := 37) hC dX11_timesOf_33 (by decide) ?_
      exact A_to (hj37 (1 : Int32) D1) (And.intro rfl (And.intro rfl (And.intro rfl (trivial))))
  · refine A_aload_n hC dX11_timesOf_10 rfl ?_
    refine A_iload_n hC dX11_timesOf_11 rfl ?_
    refine A_bipush (v := 7) hC dX11_timesOf_12 (by decide) ?_
    refine A_callVi (As := [.int a1, .int (7 : Int32)]) (st := []) hC (fun l => mX11_f l g hL a1 (7 : Int32) D1) (lM_0 hL) rfl (Nat.le_of_ble_eq_true rfl) yc_X11_291 rfl rfl ⟨by decide, by decide⟩ (Nat.le_of_ble_eq_true rfl) rfl dX11_timesOf_14 (fun x7 D6 => ?_)
    exact A_iret hC dX11_timesOf_17
def fX11_view (a1 : Int32) (D : ADD) : Option (Int32 × ADD) := aLet (aSI D 0 0 (0 : Int32)) (fun D1 => aIn (0 : Int32) 4 (aBind (fX11_is a1 (-1 : Int32) (D1.1 6 (0 : Int32).toNatClampNeg) D1) (fun x1 D2 => (if x1 = 0 then some ((0 : Int32), D2) else aIn (0 : Int32) 4 (aLet (aSI D2 7 (0 : Int32).toNatClampNeg a1) (fun D3 => some ((1 : Int32), D3)))))))
set_option maxHeartbeats 4000000 in
set_option maxRecDepth 100000 in
theorem mX11_view (l : Launch) (g : AGl) (hL : aLM g) (a1 : Int32) (D : ADD) : AM aVi l yX11_view cX11_view 2 (some .boolean) 1 g [.ref (g.1 + 0), .int a1] D (fX11_view a1 D) := by
  refine AM_of (lv0 := [some (.ref (g.1 + 0)), some (.int a1)]) (own := RX11) (by decide +kernel) rfl (Nat.le_of_ble_eq_true rfl) rfl (fun b hC => ?_)
  unfold fX11_view
  refine A_aload_n hC dX11_view_0 rfl ?_
  refine A_iconst (v := 0) hC dX11_view_1 (by decide) ?_
  refine A_puti (kf := 0) hC kX11 (lM_0 hL) rfl (by decide) (by decide) rfl rfl rfl w_1003 dX11_view_2 (fun D1 => ?_)
  refine A_iload_n hC dX11_view_5 rfl ?_
  refine A_iconst (v := -1) hC dX11_view_6 (by decide) ?_
  refine A_aload_n hC dX11_view_7 rfl ?_
  refine A_getr (kf := 6) hC kX11 (lM_0 hL) rfl (by decide) (by decide) rfl rfl w_1009 dX11_view_8 ?_
  refine A_iconst (v := 0) hC dX11_view_11 (by decide) ?_
  refine A_iald hC (lM_6 hL) dX11_view_12 ?_
  refine A_callSi (As := [.int a1, .int (-1 : Int32), .int (D1.1 6 (0 : Int32).toNatClampNeg)]) (st := []) hC (fun l => mX11_is l g a1 (-1 : Int32) (D1.1 6 (0 : Int32).toNatClampNeg) D1) yc_X11_138 rfl rfl ⟨by decide, by decide⟩ (Nat.le_of_ble_eq_true rfl) rfl dX11_view_13 (fun x1 D2 => ?_)
  refine A_if_ne (tgt := 21) hC dX11_view_16 (by decide) ?_ ?_
  · refine A_aload_n hC dX11_view_21 rfl ?_
    refine A_getr (kf := 7) hC kX11 (lM_0 hL) rfl (by decide) (by decide) rfl rfl w_1010 dX11_view_22 ?_
    refine A_iconst (v := 0) hC dX11_view_25 (by decide) ?_
    refine A_iload_n hC dX11_view_26 rfl ?_
    refine A_iast hC (lM_7 hL) dX11_view_27 (fun D3 => ?_)
    refine A_iconst (v := 1) hC dX11_view_28 (by decide) ?_
    exact A_zret hC dX11_view_29 (Or.inr rfl)
  · refine A_iconst (v := 0) hC dX11_view_19 (by decide) ?_
    exact A_zret hC dX11_view_20 (Or.inl rfl)
def fX1_takes (a1 : Int32) (D : ADD) : Option (Int32 × ADD) := aBind (fX0_known a1 (9 : Int32) D) (fun x1 D1 => aLet (fun (x2 : Int32) (D2 : ADD) => aZ x2 (some (x2, D2))) (fun (j91 : Int32 → ADD → Option (Int32 × ADD)) => aLet (fun (D3 : ADD) => j91 (0 : Int32) D3) (fun (j90 : ADD → Option (Int32 × ADD)) => (if x1 = (1 : Int32) then aBind (fX0_known a1 (4 : Int32) D1) (fun x3 D4 => (if (((D1.1 31 0) >>> (x3 &&& 31)) &&& (1 : Int32)) = (1 : Int32) then aBind (fX0_known a1 (1 : Int32) D4) (fun x4 D5 => (if (((D4.1 31 1) >>> (x4 &&& 31)) &&& (1 : Int32)) = (1 : Int32) then aBind (fX0_known a1 (5 : Int32) D5) (fun x5 D6 => (if (D6.1 31 3) < x5 then j90 D6 else aBind (fX0_known a1 (6 : Int32) D6) (fun x6 D7 => (if x6 < (D7.1 31 2) then j90 D7 else aBind (fX0_known a1 (7 : Int32) D7) (fun x7 D8 => aBind (fX1_takesMark x7 D8) (fun x8 D9 => (if x8 = 0 then j90 D9 else j91 (1 : Int32) D9))))))) else j90 D5)) else j90 D4)) else j90 D1))))
set_option maxHeartbeats 4000000 in
set_option maxRecDepth 100000 in
theorem mX1_takes (l : Launch) (g : AGl) (hL : aLX g) (a1 : Int32) (D : ADD) : AM aVi l yX1_takes cX1_takes 3 (some .boolean) 1 g [.ref (g.1 + 31), .ref (g.1 + 2), .int a1] D (fX1_takes a1 D) := by
  refine AM_of (lv0 := [some (.ref (g.1 + 31)), some (.ref (g.1 + 2)), some (.int a1)]) (own := RX1) (by decide +kernel) rfl (Nat.le_of_ble_eq_true rfl) rfl (fun b hC => ?_)
  unfold fX1_takes
  refine A_aload_n hC dX1_takes_0 rfl ?_
  refine A_iload_n hC dX1_takes_1 rfl ?_
  refine A_bipush (v := 9) hC dX1_takes_2 (by decide) ?_
  refine A_callVi (As := [.int a1, .int (9 : Int32)]) (st := []) hC (fun l => mX0_known l g hL a1 (9 : Int32) D) (lX_2 hL) rfl (Nat.le_of_ble_eq_true rfl) yc_X1_27 rfl rfl ⟨by decide, by decide⟩ (Nat.le_of_ble_eq_true rfl) rfl dX1_takes_4 (fun x1 D1 => ?_)
  refine A_iconst (v := 1) hC dX1_takes_7 (by decide) ?_
  refine A_join (fun (J : Int32 → ADD → Option (Int32 × ADD)) => ∀ (x2 : Int32) (D2 : ADD), AT aVi g b 91 [none, none, none] [.int x2] D2 (J x2 D2)) (fun x2 D2 => ?_) (fun j91 hj91 => ?_)
  · exact A_zretc hC dX1_takes_91
  refine A_join (fun (J : ADD → Option (Int32 × ADD)) => ∀ (D3 : ADD), AT aVi g b 90 [none, none, none] [] D3 (J D3)) (fun D3 => ?_) (fun j90 hj90 => ?_)
  · refine A_iconst (v := 0) hC dX1_takes_90 (by decide) ?_
    exact A_to (hj91 (0 : Int32) D3) (trivial)
  refine A_icmp_ne (tgt := 90) hC dX1_takes_8 (by decide) ?_ ?_
  · exact A_to (hj90 D1) (trivial)
  · refine A_aload_n hC dX1_takes_11 rfl ?_
    refine A_geti (kf := 0) hC kX1 (lX_31 hL) rfl (by decide) (by decide) rfl w_146 dX1_takes_12 ?_
    refine A_aload_n hC dX1_takes_15 rfl ?_
    refine A_iload_n hC dX1_takes_16 rfl ?_
    refine A_iconst (v := 4) hC dX1_takes_17 (by decide) ?_
    refine A_callVi (As := [.int a1, .int (4 : Int32)]) (st := [.int (D1.1 31 0)]) hC (fun l => mX0_known l g hL a1 (4 : Int32) D1) (lX_2 hL) rfl (Nat.le_of_ble_eq_true rfl) yc_X1_27 rfl rfl ⟨by decide, by decide⟩ (Nat.le_of_ble_eq_true rfl) rfl dX1_takes_18 (fun x3 D4 => ?_)
    refine A_ishr hC dX1_takes_21 ?_
    refine A_iconst (v := 1) hC dX1_takes_22 (by decide) ?_
    refine A_iand hC dX1_takes_23 ?_
    refine A_iconst (v := 1) hC dX1_takes_24 (by decide) ?_
    refine A_icmp_ne (tgt := 90) hC dX1_takes_25 (by decide) ?_ ?_
    · exact A_to (hj90 D4) (trivial)
    · refine A_aload_n hC dX1_takes_28 rfl ?_
      refine A_geti (kf := 1) hC kX1 (lX_31 hL) rfl (by decide) (by decide) rfl w_147 dX1_takes_29 ?_
      refine A_aload_n hC dX1_takes_32 rfl ?_
      refine A_iload_n hC dX1_takes_33 rfl ?_
      refine A_iconst (v := 1) hC dX1_takes_34 (by decide) ?_
      refine A_callVi (As := [.int a1, .int (1 : Int32)]) (st := [.int (D4.1 31 1)]) hC (fun l => mX0_known l g hL a1 (1 : Int32) D4) (lX_2 hL) rfl (Nat.le_of_ble_eq_true rfl) yc_X1_27 rfl rfl ⟨by decide, by decide⟩ (Nat.le_of_ble_eq_true rfl) rfl dX1_takes_35 (fun x4 D5 => ?_)
      refine A_ishr hC dX1_takes_38 ?_
      refine A_iconst (v := 1) hC dX1_takes_39 (by decide) ?_
      refine A_iand hC dX1_takes_40 ?_
      refine A_iconst (v := 1) hC dX1_takes_41 (by decide) ?_
      refine A_icmp_ne (tgt := 90) hC dX1_takes_42 (by decide) ?_ ?_
      · exact A_to (hj90 D5) (trivial)
      · refine A_aload_n hC dX1_takes_45 rfl ?_
        refine A_iload_n hC dX1_takes_46 rfl ?_
        refine A_iconst (v := 5) hC dX1_takes_47 (by decide) ?_
        refine A_callVi (As := [.int a1, .int (5 : Int32)]) (st := []) hC (fun l => mX0_known l g hL a1 (5 : Int32) D5) (lX_2 hL) rfl (Nat.le_of_ble_eq_true rfl) yc_X1_27 rfl rfl ⟨by decide, by decide⟩ (Nat.le_of_ble_eq_true rfl) rfl dX1_takes_48 (fun x5 D6 => ?_)
        refine A_aload_n hC dX1_takes_51 rfl ?_
        refine A_geti (kf := 3) hC kX1 (lX_31 hL) rfl (by decide) (by decide) rfl w_149 dX1_takes_52 ?_
        refine A_icmp_gt (tgt := 90) hC dX1_takes_55 (by decide) ?_ ?_
        · exact A_to (hj90 D6) (trivial)
        · refine A_aload_n hC dX1_takes_58 rfl ?_
          refine A_iload_n hC dX1_takes_59 rfl ?_
          refine A_bipush (v := 6) hC dX1_takes_60 (by decide) ?_
          refine A_callVi (As := [.int a1, .int (6 : Int32)]) (st := []) hC (fun l => mX0_known l g hL a1 (6 : Int32) D6) (lX_2 hL) rfl (Nat.le_of_ble_eq_true rfl) yc_X1_27 rfl rfl ⟨by decide, by decide⟩ (Nat.le_of_ble_eq_true rfl) rfl dX1_takes_62 (fun x6 D7 => ?_)
          refine A_aload_n hC dX1_takes_65 rfl ?_
          refine A_geti (kf := 2) hC kX1 (lX_31 hL) rfl (by decide) (by decide) rfl w_148 dX1_takes_66 ?_
          refine A_icmp_lt (tgt := 90) hC dX1_takes_69 (by decide) ?_ ?_
          · exact A_to (hj90 D7) (trivial)
          · refine A_aload_n hC dX1_takes_72 rfl ?_
            refine A_aload_n hC dX1_takes_73 rfl ?_
            refine A_iload_n hC dX1_takes_74 rfl ?_
            refine A_bipush (v := 7) hC dX1_takes_75 (by decide) ?_
            refine A_callVi (As := [.int a1, .int (7 : Int32)]) (st := [.ref (g.1 + 31)]) hC (fun l => mX0_known l g hL a1 (7 : Int32) D7) (lX_2 hL) rfl (Nat.le_of_ble_eq_true rfl) yc_X1_27 rfl rfl ⟨by decide, by decide⟩ (Nat.le_of_ble_eq_true rfl) rfl dX1_takes_77 (fun x7 D8 => ?_)
            refine A_callVi (As := [.int x7]) (st := []) hC (fun l => mX1_takesMark l g hL x7 D8) (lX_31 hL) rfl (Nat.le_of_ble_eq_true rfl) yc_X1_33 rfl rfl ⟨by decide, by decide⟩ (Nat.le_of_ble_eq_true rfl) rfl dX1_takes_80 (fun x8 D9 => ?_)
            refine A_if_eq (tgt := 90) hC dX1_takes_83 (by decide) ?_ ?_
            · exact A_to (hj90 D9) (trivial)
            · refine A_iconst (v := 1) hC dX1_takes_86 (by decide) ?_
              refine A_goto (tgt := 91) hC dX1_takes_87 (by decide) ?_
              exact A_to (hj91 (1 : Int32) D9) (trivial)
def fX2_luckyPlaces (a1 : Int32) (a2 : Int32) (D : ADD) : Option (Int32 × ADD) := aNZ (8 : Int32) (some ((aMin a2 ((((2 : Int32) * (a2 / (8 : Int32))) + (1 : Int32)) + a1)), D))
set_option maxHeartbeats 4000000 in
set_option maxRecDepth 100000 in
theorem mX2_luckyPlaces (l : Launch) (g : AGl) (a1 : Int32) (a2 : Int32) (D : ADD) : AM aVi l yX2_luckyPlaces cX2_luckyPlaces 2 (some .int) 1 g [.int a1, .int a2] D (fX2_luckyPlaces a1 a2 D) := by
  refine AM_of (lv0 := [some (.int a1), some (.int a2)]) (own := RX2) (by decide +kernel) rfl (Nat.le_of_ble_eq_true rfl) rfl (fun b hC => ?_)
  unfold fX2_luckyPlaces
  refine A_iload_n hC dX2_luckyPlaces_0 rfl ?_
  refine A_iconst (v := 2) hC dX2_luckyPlaces_1 (by decide) ?_
  refine A_iload_n hC dX2_luckyPlaces_2 rfl ?_
  refine A_bipush (v := 8) hC dX2_luckyPlaces_3 (by decide) ?_
  refine A_idiv hC dX2_luckyPlaces_5 ?_
  refine A_imul hC dX2_luckyPlaces_6 ?_
  refine A_iconst (v := 1) hC dX2_luckyPlaces_7 (by decide) ?_
  refine A_iadd hC dX2_luckyPlaces_8 ?_
  refine A_iload_n hC dX2_luckyPlaces_9 rfl ?_
  refine A_iadd hC dX2_luckyPlaces_10 ?_
  refine A_mmin hC w_632 w_567 w_16 w_568 rfl (by decide) (Nat.le_of_ble_eq_true rfl) dX2_luckyPlaces_11 ?_
  exact A_iret hC dX2_luckyPlaces_14
def fX2_off (a1 : Int32) (a2 : Int32) (a3 : Int32) (a4 : Int32) (D : ADD) : Option (Int32 × ADD) := aBind (fX2_times a1 a2 a3 a4 D) (fun x1 D1 => aLet (x1 * a4) (fun x2 => aLet (fun (x3 : Int32) (D2 : ADD) => some ((aMin a4 x3), D2)) (fun (j32 : Int32 → ADD → Option (Int32 × ADD)) => (if a1 ≤ x2 then j32 (aMax (0 : Int32) (x2 - a2)) D1 else j32 (a1 - x2) D1))))
set_option maxHeartbeats 4000000 in
set_option maxRecDepth 100000 in
theorem mX2_off (l : Launch) (g : AGl) (a1 : Int32) (a2 : Int32) (a3 : Int32) (a4 : Int32) (D : ADD) : AM aVi l yX2_off cX2_off 6 (some .int) 1 g [.int a1, .int a2, .int a3, .int a4] D (fX2_off a1 a2 a3 a4 D) := by
  refine AM_of (lv0 := [some (.int a1), some (.int a2), some (.int a3), some (.int a4), none, none]) (own := RX2) (by decide +kernel) rfl (Nat.le_of_ble_eq_true rfl) rfl (fun b hC => ?_)
  unfold fX2_off
  refine A_iload_n hC dX2_off_0 rfl ?_
  refine A_iload_n hC dX2_off_1 rfl ?_
  refine A_iload_n hC dX2_off_2 rfl ?_
  refine A_iload_n hC dX2_off_3 rfl ?_
  refine A_callSi (As := [.int a1, .int a2, .int a3, .int a4]) (st := []) hC (fun l => mX2_times l g a1 a2 a3 a4 D) yc_X2_18 rfl rfl ⟨by decide, by decide⟩ (Nat.le_of_ble_eq_true rfl) rfl dX2_off_4 (fun x1 D1 => ?_)
  refine A_iload_n hC dX2_off_7 rfl ?_
  refine A_imul hC dX2_off_8 ?_
  refine A_topi (fun x2 => ?_)
  refine A_istore (lv2 := [some (.int a1), some (.int a2), some (.int a3), some (.int a4), some (.int x2), none]) hC dX2_off_9 (Nat.le_of_ble_eq_true rfl) rfl rfl ?_
  refine A_iload hC dX2_off_11 rfl ?_
  refine A_iload_n hC dX2_off_13 rfl ?_
  refine A_join (fun (J : Int32 → ADD → Option (Int32 × ADD)) => ∀ (x3 : Int32) (D2 : ADD), AT aVi g b 32 [none, none, none, some (.int a4), none, none] [.int x3] D2 (J x3 D2)) (fun x3 D2 => ?_) (fun j32 hj32 => ?_)
  · refine A_istore (lv2 := [none, none, none, some (.int a4), none, some (.int x3)]) hC dX2_off_32 (Nat.le_of_ble_eq_true rfl) rfl rfl ?_
    refine A_iload_n hC dX2_off_34 rfl ?_
    refine A_iload hC dX2_off_35 rfl ?_
    refine A_mmin hC w_632 w_567 w_16 w_568 rfl (by decide) (Nat.le_of_ble_eq_true rfl) dX2_off_37 ?_
    exact A_iret hC dX2_off_40
  refine A_icmp_ge (tgt := 24) hC dX2_off_14 (by decide) ?_ ?_
  · refine A_iconst (v := 0) hC dX2_off_24 (by decide) ?_
    refine A_iload hC dX2_off_25 rfl ?_
    refine A_iload_n hC dX2_off_27 rfl ?_
    refine A_isub hC dX2_off_28 ?_
    refine A_mmax hC w_633 w_634 w_16 w_635 rfl (by decide) (Nat.le_of_ble_eq_true rfl) dX2_off_29 ?_
    exact A_to (hj32 (aMax (0 : Int32) (x2 - a2)) D1) (And.intro rfl (trivial))
  · refine A_iload_n hC dX2_off_17 rfl ?_
    refine A_iload hC dX2_off_18 rfl ?_
    refine A_isub hC dX2_off_20 ?_
    refine A_goto (tgt := 32) hC dX2_off_21 (by decide) ?_
    exact A_to (hj32 (a1 - x2) D1) (And.intro rfl (trivial))
def fX2_shortage (a1 : Int32) (a2 : Int32) (a3 : Int32) (D : ADD) : Option (Int32 × ADD) := aLet (fun (x1 : Int32) (D1 : ADD) => aLet (fun (x2 : Int32) (D2 : ADD) => some ((aMax (0 : Int32) ((x2 * a3) - a1)), D2)) (fun (j31 : Int32 → ADD → Option (Int32 × ADD)) => (if a2 ≤ 0 then j31 (aMax (1 : Int32) x1) D1 else j31 a2 D1))) (fun (j17 : Int32 → ADD → Option (Int32 × ADD)) => (if a3 ≤ 0 then j17 (0 : Int32) D else aNZ ((2 : Int32) * a3) (j17 ((((2 : Int32) * a1) + a3) / ((2 : Int32) * a3)) D)))
set_option maxHeartbeats 4000000 in
set_option maxRecDepth 100000 in
theorem mX2_shortage (l : Launch) (g : AGl) (a1 : Int32) (a2 : Int32) (a3 : Int32) (D : ADD) : AM aVi l yX2_shortage cX2_shortage 5 (some .int) 1 g [.int a1, .int a2, .int a3] D (fX2_shortage a1 a2 a3 D) := by
  refine AM_of (lv0 := [some (.int a1), some (.int a2), some (.int a3), none, none]) (own := RX2) (by decide +kernel) rfl (Nat.le_of_ble_eq_true rfl) rfl (fun b hC => ?_)
  unfold fX2_shortage
  refine A_iload_n hC dX2_shortage_0 rfl ?_
  refine A_join (fun (J : Int32 → ADD → Option (Int32 × ADD)) => ∀ (x1 : Int32) (D1 : ADD), AT aVi g b 17 [some (.int a1), some (.int a2), some (.int a3), none, none] [.int x1] D1 (J x1 D1)) (fun x1 D1 => ?_) (fun j17 hj17 => ?_)
  · refine A_istore_n (lv2 := [some (.int a1), some (.int a2), some (.int a3), some (.int x1), none]) hC dX2_shortage_17 (Nat.le_of_ble_eq_true rfl) rfl rfl ?_
    refine A_iload_n hC dX2_shortage_18 rfl ?_
    refine A_join (fun (J : Int32 → ADD → Option (Int32 × ADD)) => ∀ (x2 : Int32) (D2 : ADD), AT aVi g b 31 [some (.int a1), none, some (.int a3), none, none] [.int x2] D2 (J x2 D2)) (fun x2 D2 => ?_) (fun j31 hj31 => ?_)
    · refine A_istore (lv2 := [some (.int a1), none, some (.int a3), none, some (.int x2)]) hC dX2_shortage_31 (Nat.le_of_ble_eq_true rfl) rfl rfl ?_
      refine A_iconst (v := 0) hC dX2_shortage_33 (by decide) ?_
      refine A_iload hC dX2_shortage_34 rfl ?_
      refine A_iload_n hC dX2_shortage_36 rfl ?_
      refine A_imul hC dX2_shortage_37 ?_
      refine A_iload_n hC dX2_shortage_38 rfl ?_
      refine A_isub hC dX2_shortage_39 ?_
      refine A_mmax hC w_633 w_634 w_16 w_635 rfl (by decide) (Nat.le_of_ble_eq_true rfl) dX2_shortage_40 ?_
      exact A_iret hC dX2_shortage_43
    refine A_if_le (tgt := 26) hC dX2_shortage_19 (by decide) ?_ ?_
    · refine A_iconst (v := 1) hC dX2_shortage_26 (by decide) ?_
      refine A_iload_n hC dX2_shortage_27 rfl ?_
      refine A_mmax hC w_633 w_634 w_16 w_635 rfl (by decide) (Nat.le_of_ble_eq_true rfl) dX2_shortage_28 ?_
      exact A_to (hj31 (aMax (1 : Int32) x1) D1) (And.intro rfl (And.intro rfl (trivial)))
    · refine A_iload_n hC dX2_shortage_22 rfl ?_
      refine A_goto (tgt := 31) hC dX2_shortage_23 (by decide) ?_
      exact A_to (hj31 a2 D1) (And.intro rfl (And.intro rfl (trivial)))
  refine A_if_le (tgt := 16) hC dX2_shortage_1 (by decide) ?_ ?_
  · refine A_iconst (v := 0) hC dX2_shortage_16 (by decide) ?_
    exact A_to (hj17 (0 : Int32) D) (And.intro rfl (And.intro rfl (And.intro rfl (trivial))))
  · refine A_iconst (v := 2) hC dX2_shortage_4 (by decide) ?_
    refine A_iload_n hC dX2_shortage_5 rfl ?_
    refine A_imul hC dX2_shortage_6 ?_
    refine A_iload_n hC dX2_shortage_7 rfl ?_
    refine A_iadd hC dX2_shortage_8 ?_
    refine A_iconst (v := 2) hC dX2_shortage_9 (by decide) ?_
    refine A_iload_n hC dX2_shortage_10 rfl ?_
    refine A_imul hC dX2_shortage_11 ?_
    refine A_idiv hC dX2_shortage_12 ?_
    refine A_goto (tgt := 17) hC dX2_shortage_13 (by decide) ?_
    exact A_to (hj17 ((((2 : Int32) * a1) + a3) / ((2 : Int32) * a3)) D) (And.intro rfl (And.intro rfl (And.intro rfl (trivial))))
def fX2_whenNew (a1 : Int32) (a2 : Int32) (D : ADD) : Option (Int32 × ADD) := aLet (aMax (-500 : Int32) (aMin (1000 : Int32) a2)) (fun x1 => aNZ (1000 : Int32) (some ((aMax (1 : Int32) (a1 + ((a1 * x1) / (1000 : Int32)))), D)))
set_option maxHeartbeats 4000000 in
set_option maxRecDepth 100000 in
theorem mX2_whenNew (l : Launch) (g : AGl) (a1 : Int32) (a2 : Int32) (D : ADD) : AM aVi l yX2_whenNew cX2_whenNew 3 (some .int) 1 g [.int a1, .int a2] D (fX2_whenNew a1 a2 D) := by
  refine AM_of (lv0 := [some (.int a1), some (.int a2), none]) (own := RX2) (by decide +kernel) rfl (Nat.le_of_ble_eq_true rfl) rfl (fun b hC => ?_)
  unfold fX2_whenNew
  refine A_sipush (v := -500) hC dX2_whenNew_0 (by decide) ?_
  refine A_sipush (v := 1000) hC dX2_whenNew_3 (by decide) ?_
  refine A_iload_n hC dX2_whenNew_6 rfl ?_
  refine A_mmin hC w_632 w_567 w_16 w_568 rfl (by decide) (Nat.le_of_ble_eq_true rfl) dX2_whenNew_7 ?_
  refine A_mmax hC w_633 w_634 w_16 w_635 rfl (by decide) (Nat.le_of_ble_eq_true rfl) dX2_whenNew_10 ?_
  refine A_topi (fun x1 => ?_)
  refine A_istore_n (lv2 := [some (.int a1), some (.int a2), some (.int x1)]) hC dX2_whenNew_13 (Nat.le_of_ble_eq_true rfl) rfl rfl ?_
  refine A_iconst (v := 1) hC dX2_whenNew_14 (by decide) ?_
  refine A_iload_n hC dX2_whenNew_15 rfl ?_
  refine A_iload_n hC dX2_whenNew_16 rfl ?_
  refine A_iload_n hC dX2_whenNew_17 rfl ?_
  refine A_imul hC dX2_whenNew_18 ?_
  refine A_sipush (v := 1000) hC dX2_whenNew_19 (by decide) ?_
  refine A_idiv hC dX2_whenNew_22 ?_
  refine A_iadd hC dX2_whenNew_23 ?_
  refine A_mmax hC w_633 w_634 w_16 w_635 rfl (by decide) (Nat.le_of_ble_eq_true rfl) dX2_whenNew_24 ?_
  exact A_iret hC dX2_whenNew_27
def lX3_from_9 (j32 : Int64 → ADD → Option (Int32 × ADD)) (L9 : Int64 → Int32 → ADD → Option (Int32 × ADD)) (x3 : Int64) (x4 : Int32) (D2 : ADD) : Option (Int32 × ADD) := (if (32 : Int32) < x4 then j32 x3 D2 else aIn x4 33 (aLet (x3 + (D2.2 56 x4.toNatClampNeg)) (fun x5 => aLet (x4 + (1 : Int32)) (fun x6 => L9 x5 x6 D2))))
def fX3_from (a1 : Int32) (D : ADD) : Option (Int32 × ADD) := aLet (aMax (0 : Int32) a1) (fun x1 => aLet (fun (x2 : Int64) (D1 : ADD) => some (x2.toInt32, D1)) (fun (j32 : Int64 → ADD → Option (Int32 × ADD)) => aLet (aFix aFuel (lX3_from_9 j32) (fun _ _ _ => none)) (fun j9 => j9 (0 : Int64) x1 D)))
set_option maxHeartbeats 4000000 in
set_option maxRecDepth 100000 in
theorem mX3_from (l : Launch) (g : AGl) (hL : aLX g) (a1 : Int32) (D : ADD) : AM aVi l yX3_from cX3_from 5 (some .int) 1 g [.ref (g.1 + 55), .int a1] D (fX3_from a1 D) := by
  refine AM_of (lv0 := [some (.ref (g.1 + 55)), some (.int a1), none, none, none]) (own := RX3) (by decide +kernel) rfl (Nat.le_of_ble_eq_true rfl) rfl (fun b hC => ?_)
  unfold fX3_from
  refine A_lconst (v := 0) hC dX3_from_0 (by decide) ?_
  refine A_lstore_n (lv2 := [some (.ref (g.1 + 55)), some (.int a1), some (.long (0 : Int64)), none, none]) hC dX3_from_1 (Nat.le_of_ble_eq_true rfl) rfl rfl ?_
  refine A_iconst (v := 0) hC dX3_from_2 (by decide) ?_
  refine A_iload_n hC dX3_from_3 rfl ?_
  refine A_mmax hC w_816 w_634 w_16 w_635 rfl (by decide) (Nat.le_of_ble_eq_true rfl) dX3_from_4 ?_
  refine A_topi (fun x1 => ?_)
  refine A_istore (lv2 := [some (.ref (g.1 + 55)), some (.int a1), some (.long (0 : Int64)), none, some (.int x1)]) hC dX3_from_7 (Nat.le_of_ble_eq_true rfl) rfl rfl ?_
  refine A_join (fun (J : Int64 → ADD → Option (Int32 × ADD)) => ∀ (x2 : Int64) (D1 : ADD), AT aVi g b 32 [none, none, some (.long x2), none, none] [] D1 (J x2 D1)) (fun x2 D1 => ?_) (fun j32 hj32 => ?_)
  · refine A_lload_n hC dX3_from_32 rfl ?_
    refine A_l2i hC dX3_from_33 ?_
    exact A_iret hC dX3_from_34
  refine A_join (fun (J : Int64 → Int32 → ADD → Option (Int32 × ADD)) => ∀ (x3 : Int64) (x4 : Int32) (D2 : ADD), AT aVi g b 9 [some (.ref (g.1 + 55)), none, some (.long x3), none, some (.int x4)] [] D2 (J x3 x4 D2)) (aFix_all (fun (J : Int64 → Int32 → ADD → Option (Int32 × ADD)) => ∀ (x3 : Int64) (x4 : Int32) (D2 : ADD), AT aVi g b 9 [some (.ref (g.1 + 55)), none, some (.long x3), none, some (.int x4)] [] D2 (J x3 x4 D2)) (fun _ _ _ => A_none) (fun L9 hL9 x3 x4 D2 => ?_) _) (fun j9 hj9 => ?_)
  · unfold lX3_from_9
    refine A_iload hC dX3_from_9 rfl ?_
    refine A_bipush (v := 32) hC dX3_from_11 (by decide) ?_
    refine A_icmp_gt (tgt := 32) hC dX3_from_13 (by decide) ?_ ?_
    · exact A_to (hj32 x3 D2) (And.intro rfl (trivial))
    · refine A_lload_n hC dX3_from_16 rfl ?_
      refine A_aload_n hC dX3_from_17 rfl ?_
      refine A_getr (kf := 0) hC kX3 (lX_55 hL) rfl (by decide) (by decide) rfl rfl w_300 dX3_from_18 ?_
      refine A_iload hC dX3_from_21 rfl ?_
      refine A_lald hC (lX_56 hL) dX3_from_23 ?_
      refine A_ladd hC dX3_from_24 ?_
      refine A_topl (fun x5 => ?_)
      refine A_lstore_n (lv2 := [some (.ref (g.1 + 55)), none, some (.long x5), none, some (.int x4)]) hC dX3_from_25 (Nat.le_of_ble_eq_true rfl) rfl rfl ?_
      refine A_iincL (z := (1 : Int32)) (lv2 := fun x6 => [some (.ref (g.1 + 55)), none, some (.long x5), none, some (.int x6)]) hC dX3_from_26 rfl (by decide) (Nat.le_of_ble_eq_true rfl) rfl (fun _ => rfl) (fun x6 => ?_)
      refine A_goto (tgt := 9) hC dX3_from_29 (by decide) ?_
      exact A_to (hL9 x5 x6 D2) (And.intro rfl (And.intro rfl (And.intro rfl (trivial))))
  exact A_to (hj9 (0 : Int64) x1 D) (And.intro rfl (And.intro rfl (And.intro rfl (trivial))))
def fX4_listTraits (a1 : Int32) (D : ADD) : Option (Unit × ADD) := aBind (fX0_known a1 (1 : Int32) D) (fun x1 D1 => aIn (0 : Int32) 8 (aLet (aSI D1 49 (0 : Int32).toNatClampNeg x1) (fun D2 => aBind (fX0_known a1 (2 : Int32) D2) (fun x2 D3 => aIn (1 : Int32) 8 (aLet (aSI D3 49 (1 : Int32).toNatClampNeg x2) (fun D4 => aBind (fX0_known a1 (3 : Int32) D4) (fun x3 D5 => aIn (2 : Int32) 8 (aLet (aSI D5 49 (2 : Int32).toNatClampNeg x3) (fun D6 => aBind (fX0_known a1 (4 : Int32) D6) (fun x4 D7 => aIn (3 : Int32) 8 (aLet (aSI D7 49 (3 : Int32).toNatClampNeg x4) (fun D8 => aBind (fX0_known a1 (7 : Int32) D8) (fun x5 D9 => aIn (4 : Int32) 8 (aLet (aSI D9 49 (4 : Int32).toNatClampNeg x5) (fun D10 => aBind (fX0_known a1 (8 : Int32) D10) (fun x6 D11 => aIn (5 : Int32) 8 (aLet (aSI D11 49 (5 : Int32).toNatClampNeg x6) (fun D12 => aBind (fX0_known a1 (6 : Int32) D12) (fun x7 D13 => aIn (6 : Int32) 8 (aLet (aSI D13 49 (6 : Int32).toNatClampNeg ((2000 : Int32) - x7)) (fun D14 => some ((), D14))))))))))))))))))))))
set_option maxHeartbeats 4000000 in
set_option maxRecDepth 100000 in
theorem mX4_listTraits (l : Launch) (g : AGl) (hL : aLX g) (a1 : Int32) (D : ADD) : AM aVv l yX4_listTraits cX4_listTraits 3 none 1 g [.ref (g.1 + 43), .ref (g.1 + 2), .int a1] D (fX4_listTraits a1 D) := by
  refine AM_of (lv0 := [some (.ref (g.1 + 43)), some (.ref (g.1 + 2)), some (.int a1)]) (own := RX4) (by decide +kernel) rfl (Nat.le_of_ble_eq_true rfl) rfl (fun b hC => ?_)
  unfold fX4_listTraits
  refine A_aload_n hC dX4_listTraits_0 rfl ?_
  refine A_getr (kf := 6) hC kX4 (lX_43 hL) rfl (by decide) (by decide) rfl rfl w_250 dX4_listTraits_1 ?_
  refine A_iconst (v := 0) hC dX4_listTraits_4 (by decide) ?_
  refine A_aload_n hC dX4_listTraits_5 rfl ?_
  refine A_iload_n hC dX4_listTraits_6 rfl ?_
  refine A_iconst (v := 1) hC dX4_listTraits_7 (by decide) ?_
  refine A_callVi (As := [.int a1, .int (1 : Int32)]) (st := [.int (0 : Int32), .ref (g.1 + 49)]) hC (fun l => mX0_known l g hL a1 (1 : Int32) D) (lX_2 hL) rfl (Nat.le_of_ble_eq_true rfl) yc_X4_123 rfl rfl ⟨by decide, by decide⟩ (Nat.le_of_ble_eq_true rfl) rfl dX4_listTraits_8 (fun x1 D1 => ?_)
  refine A_iast hC (lX_49 hL) dX4_listTraits_11 (fun D2 => ?_)
  refine A_aload_n hC dX4_listTraits_12 rfl ?_
  refine A_getr (kf := 6) hC kX4 (lX_43 hL) rfl (by decide) (by decide) rfl rfl w_250 dX4_listTraits_13 ?_
  refine A_iconst (v := 1) hC dX4_listTraits_16 (by decide) ?_
  refine A_aload_n hC dX4_listTraits_17 rfl ?_
  refine A_iload_n hC dX4_listTraits_18 rfl ?_
  refine A_iconst (v := 2) hC dX4_listTraits_19 (by decide) ?_
  refine A_callVi (As := [.int a1, .int (2 : Int32)]) (st := [.int (1 : Int32), .ref (g.1 + 49)]) hC (fun l => mX0_known l g hL a1 (2 : Int32) D2) (lX_2 hL) rfl (Nat.le_of_ble_eq_true rfl) yc_X4_123 rfl rfl ⟨by decide, by decide⟩ (Nat.le_of_ble_eq_true rfl) rfl dX4_listTraits_20 (fun x2 D3 => ?_)
  refine A_iast hC (lX_49 hL) dX4_listTraits_23 (fun D4 => ?_)
  refine A_aload_n hC dX4_listTraits_24 rfl ?_
  refine A_getr (kf := 6) hC kX4 (lX_43 hL) rfl (by decide) (by decide) rfl rfl w_250 dX4_listTraits_25 ?_
  refine A_iconst (v := 2) hC dX4_listTraits_28 (by decide) ?_
  refine A_aload_n hC dX4_listTraits_29 rfl ?_
  refine A_iload_n hC dX4_listTraits_30 rfl ?_
  refine A_iconst (v := 3) hC dX4_listTraits_31 (by decide) ?_
  refine A_callVi (As := [.int a1, .int (3 : Int32)]) (st := [.int (2 : Int32), .ref (g.1 + 49)]) hC (fun l => mX0_known l g hL a1 (3 : Int32) D4) (lX_2 hL) rfl (Nat.le_of_ble_eq_true rfl) yc_X4_123 rfl rfl ⟨by decide, by decide⟩ (Nat.le_of_ble_eq_true rfl) rfl dX4_listTraits_32 (fun x3 D5 => ?_)
  refine A_iast hC (lX_49 hL) dX4_listTraits_35 (fun D6 => ?_)
  refine A_aload_n hC dX4_listTraits_36 rfl ?_
  refine A_getr (kf := 6) hC kX4 (lX_43 hL) rfl (by decide) (by decide) rfl rfl w_250 dX4_listTraits_37 ?_
  refine A_iconst (v := 3) hC dX4_listTraits_40 (by decide) ?_
  refine A_aload_n hC dX4_listTraits_41 rfl ?_
  refine A_iload_n hC dX4_listTraits_42 rfl ?_
  refine A_iconst (v := 4) hC dX4_listTraits_43 (by decide) ?_
  refine A_callVi (As := [.int a1, .int (4 : Int32)]) (st := [.int (3 : Int32), .ref (g.1 + 49)]) hC (fun l => mX0_known l g hL a1 (4 : Int32) D6) (lX_2 hL) rfl (Nat.le_of_ble_eq_true rfl) yc_X4_123 rfl rfl ⟨by decide, by decide⟩ (Nat.le_of_ble_eq_true rfl) rfl dX4_listTraits_44 (fun x4 D7 => ?_)
  refine A_iast hC (lX_49 hL) dX4_listTraits_47 (fun D8 => ?_)
  refine A_aload_n hC dX4_listTraits_48 rfl ?_
  refine A_getr (kf := 6) hC kX4 (lX_43 hL) rfl (by decide) (by decide) rfl rfl w_250 dX4_listTraits_49 ?_
  refine A_iconst (v := 4) hC dX4_listTraits_52 (by decide) ?_
  refine A_aload_n hC dX4_listTraits_53 rfl ?_
  refine A_iload_n hC dX4_listTraits_54 rfl ?_
  refine A_bipush (v := 7) hC dX4_listTraits_55 (by decide) ?_
  refine A_callVi (As := [.int a1, .int (7 : Int32)]) (st := [.int (4 : Int32), .ref (g.1 + 49)]) hC (fun l => mX0_known l g hL a1 (7 : Int32) D8) (lX_2 hL) rfl (Nat.le_of_ble_eq_true rfl) yc_X4_123 rfl rfl ⟨by decide, by decide⟩ (Nat.le_of_ble_eq_true rfl) rfl dX4_listTraits_57 (fun x5 D9 => ?_)
  refine A_iast hC (lX_49 hL) dX4_listTraits_60 (fun D10 => ?_)
  refine A_aload_n hC dX4_listTraits_61 rfl ?_
  refine A_getr (kf := 6) hC kX4 (lX_43 hL) rfl (by decide) (by decide) rfl rfl w_250 dX4_listTraits_62 ?_
  refine A_iconst (v := 5) hC dX4_listTraits_65 (by decide) ?_
  refine A_aload_n hC dX4_listTraits_66 rfl ?_
  refine A_iload_n hC dX4_listTraits_67 rfl ?_
  refine A_bipush (v := 8) hC dX4_listTraits_68 (by decide) ?_
  refine A_callVi (As := [.int a1, .int (8 : Int32)]) (st := [.int (5 : Int32), .ref (g.1 + 49)]) hC (fun l => mX0_known l g hL a1 (8 : Int32) D10) (lX_2 hL) rfl (Nat.le_of_ble_eq_true rfl) yc_X4_123 rfl rfl ⟨by decide, by decide⟩ (Nat.le_of_ble_eq_true rfl) rfl dX4_listTraits_70 (fun x6 D11 => ?_)
  refine A_iast hC (lX_49 hL) dX4_listTraits_73 (fun D12 => ?_)
  refine A_aload_n hC dX4_listTraits_74 rfl ?_
  refine A_getr (kf := 6) hC kX4 (lX_43 hL) rfl (by decide) (by decide) rfl rfl w_250 dX4_listTraits_75 ?_
  refine A_bipush (v := 6) hC dX4_listTraits_78 (by decide) ?_
  refine A_sipush (v := 2000) hC dX4_listTraits_80 (by decide) ?_
  refine A_aload_n hC dX4_listTraits_83 rfl ?_
  refine A_iload_n hC dX4_listTraits_84 rfl ?_
  refine A_bipush (v := 6) hC dX4_listTraits_85 (by decide) ?_
  refine A_callVi (As := [.int a1, .int (6 : Int32)]) (st := [.int (2000 : Int32), .int (6 : Int32), .ref (g.1 + 49)]) hC (fun l => mX0_known l g hL a1 (6 : Int32) D12) (lX_2 hL) rfl (Nat.le_of_ble_eq_true rfl) yc_X4_123 rfl rfl ⟨by decide, by decide⟩ (Nat.le_of_ble_eq_true rfl) rfl dX4_listTraits_87 (fun x7 D13 => ?_)
  refine A_isub hC dX4_listTraits_90 ?_
  refine A_iast hC (lX_49 hL) dX4_listTraits_91 (fun D14 => ?_)
  exact A_vret hC dX4_listTraits_92
def fX4_markOf (a1 : Int32) (D : ADD) : Option (Int32 × ADD) := aBind (fX4_has a1 D) (fun x1 D1 => aLet (fun (x2 : Int32) (D2 : ADD) => some (x2, D2)) (fun (j18 : Int32 → ADD → Option (Int32 × ADD)) => (if x1 = 0 then j18 (0 : Int32) D1 else aIn a1 32 (j18 (D1.1 47 a1.toNatClampNeg) D1))))
set_option maxHeartbeats 4000000 in
set_option maxRecDepth 100000 in
theorem mX4_markOf (l : Launch) (g : AGl) (hL : aLX g) (a1 : Int32) (D : ADD) : AM aVi l yX4_markOf cX4_markOf 2 (some .int) 1 g [.ref (g.1 + 43), .int a1] D (fX4_markOf a1 D) := by
  refine AM_of (lv0 := [some (.ref (g.1 + 43)), some (.int a1)]) (own := RX4) (by decide +kernel) rfl (Nat.le_of_ble_eq_true rfl) rfl (fun b hC => ?_)
  unfold fX4_markOf
  refine A_aload_n hC dX4_markOf_0 rfl ?_
  refine A_iload_n hC dX4_markOf_1 rfl ?_
  refine A_callVi (As := [.int a1]) (st := []) hC (fun l => mX4_has l g hL a1 D) (lX_43 hL) rfl (Nat.le_of_ble_eq_true rfl) yc_X4_53 rfl rfl ⟨by decide, by decide⟩ (Nat.le_of_ble_eq_true rfl) rfl dX4_markOf_2 (fun x1 D1 => ?_)
  refine A_join (fun (J : Int32 → ADD → Option (Int32 × ADD)) => ∀ (x2 : Int32) (D2 : ADD), AT aVi g b 18 [none, none] [.int x2] D2 (J x2 D2)) (fun x2 D2 => ?_) (fun j18 hj18 => ?_)
  · exact A_iret hC dX4_markOf_18
  refine A_if_eq (tgt := 17) hC dX4_markOf_5 (by decide) ?_ ?_
  · refine A_iconst (v := 0) hC dX4_markOf_17 (by decide) ?_
    exact A_to (hj18 (0 : Int32) D1) (trivial)
  · refine A_aload_n hC dX4_markOf_8 rfl ?_
    refine A_getr (kf := 4) hC kX4 (lX_43 hL) rfl (by decide) (by decide) rfl rfl w_248 dX4_markOf_9 ?_
    refine A_iload_n hC dX4_markOf_12 rfl ?_
    refine A_iald hC (lX_47 hL) dX4_markOf_13 ?_
    refine A_goto (tgt := 18) hC dX4_markOf_14 (by decide) ?_
    exact A_to (hj18 (D1.1 47 a1.toNatClampNeg) D1) (trivial)
def fX4_numberOf (a1 : Int32) (D : ADD) : Option (Int32 × ADD) := aBind (fX4_has a1 D) (fun x1 D1 => aLet (fun (x2 : Int32) (D2 : ADD) => some (x2, D2)) (fun (j18 : Int32 → ADD → Option (Int32 × ADD)) => (if x1 = 0 then j18 (-1 : Int32) D1 else aIn a1 32 (j18 (D1.1 46 a1.toNatClampNeg) D1))))
set_option maxHeartbeats 4000000 in
set_option maxRecDepth 100000 in
theorem mX4_numberOf (l : Launch) (g : AGl) (hL : aLX g) (a1 : Int32) (D : ADD) : AM aVi l yX4_numberOf cX4_numberOf 2 (some .int) 1 g [.ref (g.1 + 43), .int a1] D (fX4_numberOf a1 D) := by
  refine AM_of (lv0 := [some (.ref (g.1 + 43)), some (.int a1)]) (own := RX4) (by decide +kernel) rfl (Nat.le_of_ble_eq_true rfl) rfl (fun b hC => ?_)
  unfold fX4_numberOf
  refine A_aload_n hC dX4_numberOf_0 rfl ?_
  refine A_iload_n hC dX4_numberOf_1 rfl ?_
  refine A_callVi (As := [.int a1]) (st := []) hC (fun l => mX4_has l g hL a1 D) (lX_43 hL) rfl (Nat.le_of_ble_eq_true rfl) yc_X4_53 rfl rfl ⟨by decide, by decide⟩ (Nat.le_of_ble_eq_true rfl) rfl dX4_numberOf_2 (fun x1 D1 => ?_)
  refine A_join (fun (J : Int32 → ADD → Option (Int32 × ADD)) => ∀ (x2 : Int32) (D2 : ADD), AT aVi g b 18 [none, none] [.int x2] D2 (J x2 D2)) (fun x2 D2 => ?_) (fun j18 hj18 => ?_)
  · exact A_iret hC dX4_numberOf_18
  refine A_if_eq (tgt := 17) hC dX4_numberOf_5 (by decide) ?_ ?_
  · refine A_iconst (v := -1) hC dX4_numberOf_17 (by decide) ?_
    exact A_to (hj18 (-1 : Int32) D1) (trivial)
  · refine A_aload_n hC dX4_numberOf_8 rfl ?_
    refine A_getr (kf := 3) hC kX4 (lX_43 hL) rfl (by decide) (by decide) rfl rfl w_247 dX4_numberOf_9 ?_
    refine A_iload_n hC dX4_numberOf_12 rfl ?_
    refine A_iald hC (lX_46 hL) dX4_numberOf_13 ?_
    refine A_goto (tgt := 18) hC dX4_numberOf_14 (by decide) ?_
    exact A_to (hj18 (D1.1 46 a1.toNatClampNeg) D1) (trivial)
