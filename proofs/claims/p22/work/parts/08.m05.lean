def fX11_choose (a1 : Int32) (a2 : Int32) (a3 : Int32) (a4 : Int32) (a5 : Int32) (D : ADD) : Option (Int32 × ADD) := aLet (aSI D 0 0 (0 : Int32)) (fun D1 => aBind (fX11_is a3 (-3000 : Int32) (1900 : Int32) D1) (fun x1 D2 => aLet (fun (D3 : ADD) => some ((0 : Int32), D3)) (fun (j40 : ADD → Option (Int32 × ADD)) => (if x1 = 0 then j40 D2 else aBind (fX11_is a4 a3 (1900 : Int32) D2) (fun x2 D4 => (if x2 = 0 then j40 D4 else aBind (fX11_is a5 (0 : Int32) (2 : Int32) D4) (fun x3 D5 => (if x3 = 0 then j40 D5 else aIn (0 : Int32) 4 (aLet (aSI D5 11 (0 : Int32).toNatClampNeg a1) (fun D6 => aIn (0 : Int32) 4 (aLet (aSI D6 12 (0 : Int32).toNatClampNeg a2) (fun D7 => aIn (0 : Int32) 8 (aLet (aSI D7 13 (0 : Int32).toNatClampNeg a3) (fun D8 => aIn (1 : Int32) 8 (aLet (aSI D8 13 (1 : Int32).toNatClampNeg a4) (fun D9 => aIn (0 : Int32) 4 (aLet (aSI D9 14 (0 : Int32).toNatClampNeg a5) (fun D10 => some ((1 : Int32), D10)))))))))))))))))))
set_option maxHeartbeats 4000000 in
set_option maxRecDepth 100000 in
theorem mX11_choose (l : Launch) (g : AGl) (hL : aLM g) (a1 : Int32) (a2 : Int32) (a3 : Int32) (a4 : Int32) (a5 : Int32) (D : ADD) : AM aVi l yX11_choose cX11_choose 6 (some .boolean) 1 g [.ref (g.1 + 0), .int a1, .int a2, .int a3, .int a4, .int a5] D (fX11_choose a1 a2 a3 a4 a5 D) := by
  refine AM_of (lv0 := [some (.ref (g.1 + 0)), some (.int a1), some (.int a2), some (.int a3), some (.int a4), some (.int a5)]) (own := RX11) (by decide +kernel) rfl (Nat.le_of_ble_eq_true rfl) rfl (fun b hC => ?_)
  unfold fX11_choose
  refine A_aload_n hC dX11_choose_0 rfl ?_
  refine A_iconst (v := 0) hC dX11_choose_1 (by decide) ?_
  refine A_puti (kf := 0) hC kX11 (lM_0 hL) rfl (by decide) (by decide) rfl rfl rfl w_1003 dX11_choose_2 (fun D1 => ?_)
  refine A_iload_n hC dX11_choose_5 rfl ?_
  refine A_sipush (v := -3000) hC dX11_choose_6 (by decide) ?_
  refine A_sipush (v := 1900) hC dX11_choose_9 (by decide) ?_
  refine A_callSi (As := [.int a3, .int (-3000 : Int32), .int (1900 : Int32)]) (st := []) hC (fun l => mX11_is l g a3 (-3000 : Int32) (1900 : Int32) D1) yc_X11_138 rfl rfl ⟨by decide, by decide⟩ (Nat.le_of_ble_eq_true rfl) rfl dX11_choose_12 (fun x1 D2 => ?_)
  refine A_join (fun (J : ADD → Option (Int32 × ADD)) => ∀ (D3 : ADD), AT aVi g b 40 [none, none, none, none, none, none] [] D3 (J D3)) (fun D3 => ?_) (fun j40 hj40 => ?_)
  · refine A_iconst (v := 0) hC dX11_choose_40 (by decide) ?_
    exact A_zret hC dX11_choose_41 (Or.inl rfl)
  refine A_if_eq (tgt := 40) hC dX11_choose_15 (by decide) ?_ ?_
  · exact A_to (hj40 D2) (trivial)
  · refine A_iload hC dX11_choose_18 rfl ?_
    refine A_iload_n hC dX11_choose_20 rfl ?_
    refine A_sipush (v := 1900) hC dX11_choose_21 (by decide) ?_
    refine A_callSi (As := [.int a4, .int a3, .int (1900 : Int32)]) (st := []) hC (fun l => mX11_is l g a4 a3 (1900 : Int32) D2) yc_X11_138 rfl rfl ⟨by decide, by decide⟩ (Nat.le_of_ble_eq_true rfl) rfl dX11_choose_24 (fun x2 D4 => ?_)
    refine A_if_eq (tgt := 40) hC dX11_choose_27 (by decide) ?_ ?_
    · exact A_to (hj40 D4) (trivial)
    · refine A_iload hC dX11_choose_30 rfl ?_
      refine A_iconst (v := 0) hC dX11_choose_32 (by decide) ?_
      refine A_iconst (v := 2) hC dX11_choose_33 (by decide) ?_
      refine A_callSi (As := [.int a5, .int (0 : Int32), .int (2 : Int32)]) (st := []) hC (fun l => mX11_is l g a5 (0 : Int32) (2 : Int32) D4) yc_X11_138 rfl rfl ⟨by decide, by decide⟩ (Nat.le_of_ble_eq_true rfl) rfl dX11_choose_34 (fun x3 D5 => ?_)
      refine A_if_ne (tgt := 42) hC dX11_choose_37 (by decide) ?_ ?_
      · refine A_aload_n hC dX11_choose_42 rfl ?_
        refine A_getr (kf := 11) hC kX11 (lM_0 hL) rfl (by decide) (by decide) rfl rfl w_1014 dX11_choose_43 ?_
        refine A_iconst (v := 0) hC dX11_choose_46 (by decide) ?_
        refine A_iload_n hC dX11_choose_47 rfl ?_
        refine A_iast hC (lM_11 hL) dX11_choose_48 (fun D6 => ?_)
        refine A_aload_n hC dX11_choose_49 rfl ?_
        refine A_getr (kf := 12) hC kX11 (lM_0 hL) rfl (by decide) (by decide) rfl rfl w_1015 dX11_choose_50 ?_
        refine A_iconst (v := 0) hC dX11_choose_53 (by decide) ?_
        refine A_iload_n hC dX11_choose_54 rfl ?_
        refine A_iast hC (lM_12 hL) dX11_choose_55 (fun D7 => ?_)
        refine A_aload_n hC dX11_choose_56 rfl ?_
        refine A_getr (kf := 13) hC kX11 (lM_0 hL) rfl (by decide) (by decide) rfl rfl w_1016 dX11_choose_57 ?_
        refine A_iconst (v := 0) hC dX11_choose_60 (by decide) ?_
        refine A_iload_n hC dX11_choose_61 rfl ?_
        refine A_iast hC (lM_13 hL) dX11_choose_62 (fun D8 => ?_)
        refine A_aload_n hC dX11_choose_63 rfl ?_
        refine A_getr (kf := 13) hC kX11 (lM_0 hL) rfl (by decide) (by decide) rfl rfl w_1016 dX11_choose_64 ?_
        refine A_iconst (v := 1) hC dX11_choose_67 (by decide) ?_
        refine A_iload hC dX11_choose_68 rfl ?_
        refine A_iast hC (lM_13 hL) dX11_choose_70 (fun D9 => ?_)
        refine A_aload_n hC dX11_choose_71 rfl ?_
        refine A_getr (kf := 14) hC kX11 (lM_0 hL) rfl (by decide) (by decide) rfl rfl w_1017 dX11_choose_72 ?_
        refine A_iconst (v := 0) hC dX11_choose_75 (by decide) ?_
        refine A_iload hC dX11_choose_76 rfl ?_
        refine A_iast hC (lM_14 hL) dX11_choose_78 (fun D10 => ?_)
        refine A_iconst (v := 1) hC dX11_choose_79 (by decide) ?_
        exact A_zret hC dX11_choose_80 (Or.inr rfl)
      · exact A_to (hj40 D5) (trivial)
def lX11_copy_2 (a1 : Int32) (a2 : Int32) (j39 : ADD → Option (Unit × ADD)) (L2 : Int32 → ADD → Option (Unit × ADD)) (x1 : Int32) (D23 : ADD) : Option (Unit × ADD) := (if (500 : Int32) ≤ x1 then j39 D23 else aIn (((500 : Int32) * a1) + x1) 2000 (aIn (((500 : Int32) * a2) + x1) 2000 (aLet (aSI D23 1 (((500 : Int32) * a2) + x1).toNatClampNeg (aB (D23.1 1 (((500 : Int32) * a1) + x1).toNatClampNeg))) (fun D24 => aLet (x1 + (1 : Int32)) (fun x2 => L2 x2 D24)))))
def fX11_copy (a1 : Int32) (a2 : Int32) (D : ADD) : Option (Unit × ADD) := aLet (fun (D1 : ADD) => aBind (fX11_move 2 4 (1 : Int32) a1 a2 D1) (fun _ D2 => aBind (fX11_move 3 4 (1 : Int32) a1 a2 D2) (fun _ D3 => aBind (fX11_move 4 4 (1 : Int32) a1 a2 D3) (fun _ D4 => aBind (fX11_move 5 4 (1 : Int32) a1 a2 D4) (fun _ D5 => aBind (fX11_move 6 4 (1 : Int32) a1 a2 D5) (fun _ D6 => aBind (fX11_move 7 4 (1 : Int32) a1 a2 D6) (fun _ D7 => aBind (fX11_move 8 4 (1 : Int32) a1 a2 D7) (fun _ D8 => aBind (fX11_move 9 6400 (1600 : Int32) a1 a2 D8) (fun _ D9 => aBind (fX11_move 10 384 (96 : Int32) a1 a2 D9) (fun _ D10 => aBind (fX11_move 11 4 (1 : Int32) a1 a2 D10) (fun _ D11 => aBind (fX11_move 12 4 (1 : Int32) a1 a2 D11) (fun _ D12 => aBind (fX11_move 13 8 (2 : Int32) a1 a2 D12) (fun _ D13 => aBind (fX11_move 14 4 (1 : Int32) a1 a2 D13) (fun _ D14 => aBind (fX11_move 15 8 (2 : Int32) a1 a2 D14) (fun _ D15 => aBind (fX11_move 16 128 (32 : Int32) a1 a2 D15) (fun _ D16 => aBind (fX11_move 17 512 (128 : Int32) a1 a2 D16) (fun _ D17 => aBind (fX11_move 18 512 (128 : Int32) a1 a2 D17) (fun _ D18 => aBind (fX11_move 19 512 (128 : Int32) a1 a2 D18) (fun _ D19 => aBind (fX11_move 20 128 (32 : Int32) a1 a2 D19) (fun _ D20 => aBind (fX11_move 21 128 (32 : Int32) a1 a2 D20) (fun _ D21 => aBind (fX11_move 22 128 (32 : Int32) a1 a2 D21) (fun _ D22 => some ((), D22))))))))))))))))))))))) (fun (j39 : ADD → Option (Unit × ADD)) => aLet (aFix aFuel (lX11_copy_2 a1 a2 j39) (fun _ _ => none)) (fun j2 => j2 (0 : Int32) D))
set_option maxHeartbeats 4000000 in
set_option maxRecDepth 100000 in
theorem mX11_copy (l : Launch) (g : AGl) (hL : aLM g) (a1 : Int32) (a2 : Int32) (D : ADD) : AM aVv l yX11_copy cX11_copy 4 none 1 g [.ref (g.1 + 0), .int a1, .int a2] D (fX11_copy a1 a2 D) := by
  refine AM_of (lv0 := [some (.ref (g.1 + 0)), some (.int a1), some (.int a2), none]) (own := RX11) (by decide +kernel) rfl (Nat.le_of_ble_eq_true rfl) rfl (fun b hC => ?_)
  unfold fX11_copy
  refine A_iconst (v := 0) hC dX11_copy_0 (by decide) ?_
  refine A_istore_n (lv2 := [some (.ref (g.1 + 0)), some (.int a1), some (.int a2), some (.int (0 : Int32))]) hC dX11_copy_1 (Nat.le_of_ble_eq_true rfl) rfl rfl ?_
  refine A_join (fun (J : ADD → Option (Unit × ADD)) => ∀ (D1 : ADD), AT aVv g b 39 [some (.ref (g.1 + 0)), some (.int a1), some (.int a2), none] [] D1 (J D1)) (fun D1 => ?_) (fun j39 hj39 => ?_)
  · refine A_aload_n hC dX11_copy_39 rfl ?_
    refine A_getr (kf := 2) hC kX11 (lM_0 hL) rfl (by decide) (by decide) rfl rfl w_1005 dX11_copy_40 ?_
    refine A_iconst (v := 1) hC dX11_copy_43 (by decide) ?_
    refine A_iload_n hC dX11_copy_44 rfl ?_
    refine A_iload_n hC dX11_copy_45 rfl ?_
    refine A_callSv (As := [.ref (g.1 + 2), .int (1 : Int32), .int a1, .int a2]) (st := []) hC (fun l => mX11_move l g 2 4 (lM_2 hL) (1 : Int32) a1 a2 D1) yc_X11_134 rfl rfl ⟨by decide, by decide⟩ (Nat.le_of_ble_eq_true rfl) rfl dX11_copy_46 (fun _ D2 => ?_)
    refine A_aload_n hC dX11_copy_49 rfl ?_
    refine A_getr (kf := 3) hC kX11 (lM_0 hL) rfl (by decide) (by decide) rfl rfl w_1006 dX11_copy_50 ?_
    refine A_iconst (v := 1) hC dX11_copy_53 (by decide) ?_
    refine A_iload_n hC dX11_copy_54 rfl ?_
    refine A_iload_n hC dX11_copy_55 rfl ?_
    refine A_callSv (As := [.ref (g.1 + 3), .int (1 : Int32), .int a1, .int a2]) (st := []) hC (fun l => mX11_move l g 3 4 (lM_3 hL) (1 : Int32) a1 a2 D2) yc_X11_134 rfl rfl ⟨by decide, by decide⟩ (Nat.le_of_ble_eq_true rfl) rfl dX11_copy_56 (fun _ D3 => ?_)
    refine A_aload_n hC dX11_copy_59 rfl ?_
    refine A_getr (kf := 4) hC kX11 (lM_0 hL) rfl (by decide) (by decide) rfl rfl w_1007 dX11_copy_60 ?_
    refine A_iconst (v := 1) hC dX11_copy_63 (by decide) ?_
    refine A_iload_n hC dX11_copy_64 rfl ?_
    refine A_iload_n hC dX11_copy_65 rfl ?_
    refine A_callSv (As := [.ref (g.1 + 4), .int (1 : Int32), .int a1, .int a2]) (st := []) hC (fun l => mX11_move l g 4 4 (lM_4 hL) (1 : Int32) a1 a2 D3) yc_X11_134 rfl rfl ⟨by decide, by decide⟩ (Nat.le_of_ble_eq_true rfl) rfl dX11_copy_66 (fun _ D4 => ?_)
    refine A_aload_n hC dX11_copy_69 rfl ?_
    refine A_getr (kf := 5) hC kX11 (lM_0 hL) rfl (by decide) (by decide) rfl rfl w_1008 dX11_copy_70 ?_
    refine A_iconst (v := 1) hC dX11_copy_73 (by decide) ?_
    refine A_iload_n hC dX11_copy_74 rfl ?_
    refine A_iload_n hC dX11_copy_75 rfl ?_
    refine A_callSv (As := [.ref (g.1 + 5), .int (1 : Int32), .int a1, .int a2]) (st := []) hC (fun l => mX11_move l g 5 4 (lM_5 hL) (1 : Int32) a1 a2 D4) yc_X11_134 rfl rfl ⟨by decide, by decide⟩ (Nat.le_of_ble_eq_true rfl) rfl dX11_copy_76 (fun _ D5 => ?_)
    refine A_aload_n hC dX11_copy_79 rfl ?_
    refine A_getr (kf := 6) hC kX11 (lM_0 hL) rfl (by decide) (by decide) rfl rfl w_1009 dX11_copy_80 ?_
    refine A_iconst (v := 1) hC dX11_copy_83 (by decide) ?_
    refine A_iload_n hC dX11_copy_84 rfl ?_
    refine A_iload_n hC dX11_copy_85 rfl ?_
    refine A_callSv (As := [.ref (g.1 + 6), .int (1 : Int32), .int a1, .int a2]) (st := []) hC (fun l => mX11_move l g 6 4 (lM_6 hL) (1 : Int32) a1 a2 D5) yc_X11_134 rfl rfl ⟨by decide, by decide⟩ (Nat.le_of_ble_eq_true rfl) rfl dX11_copy_86 (fun _ D6 => ?_)
    refine A_aload_n hC dX11_copy_89 rfl ?_
    refine A_getr (kf := 7) hC kX11 (lM_0 hL) rfl (by decide) (by decide) rfl rfl w_1010 dX11_copy_90 ?_
    refine A_iconst (v := 1) hC dX11_copy_93 (by decide) ?_
    refine A_iload_n hC dX11_copy_94 rfl ?_
    refine A_iload_n hC dX11_copy_95 rfl ?_
    refine A_callSv (As := [.ref (g.1 + 7), .int (1 : Int32), .int a1, .int a2]) (st := []) hC (fun l => mX11_move l g 7 4 (lM_7 hL) (1 : Int32) a1 a2 D6) yc_X11_134 rfl rfl ⟨by decide, by decide⟩ (Nat.le_of_ble_eq_true rfl) rfl dX11_copy_96 (fun _ D7 => ?_)
    refine A_aload_n hC dX11_copy_99 rfl ?_
    refine A_getr (kf := 8) hC kX11 (lM_0 hL) rfl (by decide) (by decide) rfl rfl w_1011 dX11_copy_100 ?_
    refine A_iconst (v := 1) hC dX11_copy_103 (by decide) ?_
    refine A_iload_n hC dX11_copy_104 rfl ?_
    refine A_iload_n hC dX11_copy_105 rfl ?_
    refine A_callSv (As := [.ref (g.1 + 8), .int (1 : Int32), .int a1, .int a2]) (st := []) hC (fun l => mX11_move l g 8 4 (lM_8 hL) (1 : Int32) a1 a2 D7) yc_X11_134 rfl rfl ⟨by decide, by decide⟩ (Nat.le_of_ble_eq_true rfl) rfl dX11_copy_106 (fun _ D8 => ?_)
    refine A_aload_n hC dX11_copy_109 rfl ?_
    refine A_getr (kf := 9) hC kX11 (lM_0 hL) rfl (by decide) (by decide) rfl rfl w_1012 dX11_copy_110 ?_
    refine A_sipush (v := 1600) hC dX11_copy_113 (by decide) ?_
    refine A_iload_n hC dX11_copy_116 rfl ?_
    refine A_iload_n hC dX11_copy_117 rfl ?_
    refine A_callSv (As := [.ref (g.1 + 9), .int (1600 : Int32), .int a1, .int a2]) (st := []) hC (fun l => mX11_move l g 9 6400 (lM_9 hL) (1600 : Int32) a1 a2 D8) yc_X11_134 rfl rfl ⟨by decide, by decide⟩ (Nat.le_of_ble_eq_true rfl) rfl dX11_copy_118 (fun _ D9 => ?_)
    refine A_aload_n hC dX11_copy_121 rfl ?_
    refine A_getr (kf := 10) hC kX11 (lM_0 hL) rfl (by decide) (by decide) rfl rfl w_1013 dX11_copy_122 ?_
    refine A_bipush (v := 96) hC dX11_copy_125 (by decide) ?_
    refine A_iload_n hC dX11_copy_127 rfl ?_
    refine A_iload_n hC dX11_copy_128 rfl ?_
    refine A_callSv (As := [.ref (g.1 + 10), .int (96 : Int32), .int a1, .int a2]) (st := []) hC (fun l => mX11_move l g 10 384 (lM_10 hL) (96 : Int32) a1 a2 D9) yc_X11_134 rfl rfl ⟨by decide, by decide⟩ (Nat.le_of_ble_eq_true rfl) rfl dX11_copy_129 (fun _ D10 => ?_)
    refine A_aload_n hC dX11_copy_132 rfl ?_
    refine A_getr (kf := 11) hC kX11 (lM_0 hL) rfl (by decide) (by decide) rfl rfl w_1014 dX11_copy_133 ?_
    refine A_iconst (v := 1) hC dX11_copy_136 (by decide) ?_
    refine A_iload_n hC dX11_copy_137 rfl ?_
    refine A_iload_n hC dX11_copy_138 rfl ?_
    refine A_callSv (As := [.ref (g.1 + 11), .int (1 : Int32), .int a1, .int a2]) (st := []) hC (fun l => mX11_move l g 11 4 (lM_11 hL) (1 : Int32) a1 a2 D10) yc_X11_134 rfl rfl ⟨by decide, by decide⟩ (Nat.le_of_ble_eq_true rfl) rfl dX11_copy_139 (fun _ D11 => ?_)
    refine A_aload_n hC dX11_copy_142 rfl ?_
    refine A_getr (kf := 12) hC kX11 (lM_0 hL) rfl (by decide) (by decide) rfl rfl w_1015 dX11_copy_143 ?_
    refine A_iconst (v := 1) hC dX11_copy_146 (by decide) ?_
    refine A_iload_n hC dX11_copy_147 rfl ?_
    refine A_iload_n hC dX11_copy_148 rfl ?_
    refine A_callSv (As := [.ref (g.1 + 12), .int (1 : Int32), .int a1, .int a2]) (st := []) hC (fun l => mX11_move l g 12 4 (lM_12 hL) (1 : Int32) a1 a2 D11) yc_X11_134 rfl rfl ⟨by decide, by decide⟩ (Nat.le_of_ble_eq_true rfl) rfl dX11_copy_149 (fun _ D12 => ?_)
    refine A_aload_n hC dX11_copy_152 rfl ?_
    refine A_getr (kf := 13) hC kX11 (lM_0 hL) rfl (by decide) (by decide) rfl rfl w_1016 dX11_copy_153 ?_
    refine A_iconst (v := 2) hC dX11_copy_156 (by decide) ?_
    refine A_iload_n hC dX11_copy_157 rfl ?_
    refine A_iload_n hC dX11_copy_158 rfl ?_
    refine A_callSv (As := [.ref (g.1 + 13), .int (2 : Int32), .int a1, .int a2]) (st := []) hC (fun l => mX11_move l g 13 8 (lM_13 hL) (2 : Int32) a1 a2 D12) yc_X11_134 rfl rfl ⟨by decide, by decide⟩ (Nat.le_of_ble_eq_true rfl) rfl dX11_copy_159 (fun _ D13 => ?_)
    refine A_aload_n hC dX11_copy_162 rfl ?_
    refine A_getr (kf := 14) hC kX11 (lM_0 hL) rfl (by decide) (by decide) rfl rfl w_1017 dX11_copy_163 ?_
    refine A_iconst (v := 1) hC dX11_copy_166 (by decide) ?_
    refine A_iload_n hC dX11_copy_167 rfl ?_
    refine A_iload_n hC dX11_copy_168 rfl ?_
    refine A_callSv (As := [.ref (g.1 + 14), .int (1 : Int32), .int a1, .int a2]) (st := []) hC (fun l => mX11_move l g 14 4 (lM_14 hL) (1 : Int32) a1 a2 D13) yc_X11_134 rfl rfl ⟨by decide, by decide⟩ (Nat.le_of_ble_eq_true rfl) rfl dX11_copy_169 (fun _ D14 => ?_)
    refine A_aload_n hC dX11_copy_172 rfl ?_
    refine A_getr (kf := 15) hC kX11 (lM_0 hL) rfl (by decide) (by decide) rfl rfl w_1018 dX11_copy_173 ?_
    refine A_iconst (v := 2) hC dX11_copy_176 (by decide) ?_
    refine A_iload_n hC dX11_copy_177 rfl ?_
    refine A_iload_n hC dX11_copy_178 rfl ?_
    refine A_callSv (As := [.ref (g.1 + 15), .int (2 : Int32), .int a1, .int a2]) (st := []) hC (fun l => mX11_move l g 15 8 (lM_15 hL) (2 : Int32) a1 a2 D14) yc_X11_134 rfl rfl ⟨by decide, by decide⟩ (Nat.le_of_ble_eq_true rfl) rfl dX11_copy_179 (fun _ D15 => ?_)
    refine A_aload_n hC dX11_copy_182 rfl ?_
    refine A_getr (kf := 16) hC kX11 (lM_0 hL) rfl (by decide) (by decide) rfl rfl w_1019 dX11_copy_183 ?_
    refine A_bipush (v := 32) hC dX11_copy_186 (by decide) ?_
    refine A_iload_n hC dX11_copy_188 rfl ?_
    refine A_iload_n hC dX11_copy_189 rfl ?_
    refine A_callSv (As := [.ref (g.1 + 16), .int (32 : Int32), .int a1, .int a2]) (st := []) hC (fun l => mX11_move l g 16 128 (lM_16 hL) (32 : Int32) a1 a2 D15) yc_X11_134 rfl rfl ⟨by decide, by decide⟩ (Nat.le_of_ble_eq_true rfl) rfl dX11_copy_190 (fun _ D16 => ?_)
    refine A_aload_n hC dX11_copy_193 rfl ?_
    refine A_getr (kf := 17) hC kX11 (lM_0 hL) rfl (by decide) (by decide) rfl rfl w_1020 dX11_copy_194 ?_
    refine A_sipush (v := 128) hC dX11_copy_197 (by decide) ?_
    refine A_iload_n hC dX11_copy_200 rfl ?_
    refine A_iload_n hC dX11_copy_201 rfl ?_
    refine A_callSv (As := [.ref (g.1 + 17), .int (128 : Int32), .int a1, .int a2]) (st := []) hC (fun l => mX11_move l g 17 512 (lM_17 hL) (128 : Int32) a1 a2 D16) yc_X11_134 rfl rfl ⟨by decide, by decide⟩ (Nat.le_of_ble_eq_true rfl) rfl dX11_copy_202 (fun _ D17 => ?_)
    refine A_aload_n hC dX11_copy_205 rfl ?_
    refine A_getr (kf := 18) hC kX11 (lM_0 hL) rfl (by decide) (by decide) rfl rfl w_1021 dX11_copy_206 ?_
    refine A_sipush (v := 128) hC dX11_copy_209 (by decide) ?_
    refine A_iload_n hC dX11_copy_212 rfl ?_
    refine A_iload_n hC dX11_copy_213 rfl ?_
    refine A_callSv (As := [.ref (g.1 + 18), .int (128 : Int32), .int a1, .int a2]) (st := []) hC (fun l => mX11_move l g 18 512 (lM_18 hL) (128 : Int32) a1 a2 D17) yc_X11_134 rfl rfl ⟨by decide, by decide⟩ (Nat.le_of_ble_eq_true rfl) rfl dX11_copy_214 (fun _ D18 => ?_)
    refine A_aload_n hC dX11_copy_217 rfl ?_
    refine A_getr (kf := 19) hC kX11 (lM_0 hL) rfl (by decide) (by decide) rfl rfl w_1022 dX11_copy_218 ?_
    refine A_sipush (v := 128) hC dX11_copy_221 (by decide) ?_
    refine A_iload_n hC dX11_copy_224 rfl ?_
    refine A_iload_n hC dX11_copy_225 rfl ?_
    refine A_callSv (As := [.ref (g.1 + 19), .int (128 : Int32), .int a1, .int a2]) (st := []) hC (fun l => mX11_move l g 19 512 (lM_19 hL) (128 : Int32) a1 a2 D18) yc_X11_134 rfl rfl ⟨by decide, by decide⟩ (Nat.le_of_ble_eq_true rfl) rfl dX11_copy_226 (fun _ D19 => ?_)
    refine A_aload_n hC dX11_copy_229 rfl ?_
    refine A_getr (kf := 20) hC kX11 (lM_0 hL) rfl (by decide) (by decide) rfl rfl w_1023 dX11_copy_230 ?_
    refine A_bipush (v := 32) hC dX11_copy_233 (by decide) ?_
    refine A_iload_n hC dX11_copy_235 rfl ?_
    refine A_iload_n hC dX11_copy_236 rfl ?_
    refine A_callSv (As := [.ref (g.1 + 20), .int (32 : Int32), .int a1, .int a2]) (st := []) hC (fun l => mX11_move l g 20 128 (lM_20 hL) (32 : Int32) a1 a2 D19) yc_X11_134 rfl rfl ⟨by decide, by decide⟩ (Nat.le_of_ble_eq_true rfl) rfl dX11_copy_237 (fun _ D20 => ?_)
    refine A_aload_n hC dX11_copy_240 rfl ?_
    refine A_getr (kf := 21) hC kX11 (lM_0 hL) rfl (by decide) (by decide) rfl rfl w_1024 dX11_copy_241 ?_
    refine A_bipush (v := 32) hC dX11_copy_244 (by decide) ?_
    refine A_iload_n hC dX11_copy_246 rfl ?_
    refine A_iload_n hC dX11_copy_247 rfl ?_
    refine A_callSv (As := [.ref (g.1 + 21), .int (32 : Int32), .int a1, .int a2]) (st := []) hC (fun l => mX11_move l g 21 128 (lM_21 hL) (32 : Int32) a1 a2 D20) yc_X11_134 rfl rfl ⟨by decide, by decide⟩ (Nat.le_of_ble_eq_true rfl) rfl dX11_copy_248 (fun _ D21 => ?_)
    refine A_aload_n hC dX11_copy_251 rfl ?_
    refine A_getr (kf := 22) hC kX11 (lM_0 hL) rfl (by decide) (by decide) rfl rfl w_1025 dX11_copy_252 ?_
    refine A_bipush (v := 32) hC dX11_copy_255 (by decide) ?_
    refine A_iload_n hC dX11_copy_257 rfl ?_
    refine A_iload_n hC dX11_copy_258 rfl ?_
    refine A_callSv (As := [.ref (g.1 + 22), .int (32 : Int32), .int a1, .int a2]) (st := []) hC (fun l => mX11_move l g 22 128 (lM_22 hL) (32 : Int32) a1 a2 D21) yc_X11_134 rfl rfl ⟨by decide, by decide⟩ (Nat.le_of_ble_eq_true rfl) rfl dX11_copy_259 (fun _ D22 => ?_)
    exact A_vret hC dX11_copy_262
  refine A_join (fun (J : Int32 → ADD → Option (Unit × ADD)) => ∀ (x1 : Int32) (D23 : ADD), AT aVv g b 2 [some (.ref (g.1 + 0)), some (.int a1), some (.int a2), some (.int x1)] [] D23 (J x1 D23)) (aFix_all (fun (J : Int32 → ADD → Option (Unit × ADD)) => ∀ (x1 : Int32) (D23 : ADD), AT aVv g b 2 [some (.ref (g.1 + 0)), some (.int a1), some (.int a2), some (.int x1)] [] D23 (J x1 D23)) (fun _ _ => A_none) (fun L2 hL2 x1 D23 => ?_) _) (fun j2 hj2 => ?_)
  · unfold lX11_copy_2
    refine A_iload_n hC dX11_copy_2 rfl ?_
    refine A_sipush (v := 500) hC dX11_copy_3 (by decide) ?_
    refine A_icmp_ge (tgt := 39) hC dX11_copy_6 (by decide) ?_ ?_
    · exact A_to (hj39 D23) (And.intro rfl (And.intro rfl (And.intro rfl (trivial))))
    · refine A_aload_n hC dX11_copy_9 rfl ?_
      refine A_getr (kf := 1) hC kX11 (lM_0 hL) rfl (by decide) (by decide) rfl rfl w_1004 dX11_copy_10 ?_
      refine A_sipush (v := 500) hC dX11_copy_13 (by decide) ?_
      refine A_iload_n hC dX11_copy_16 rfl ?_
      refine A_imul hC dX11_copy_17 ?_
      refine A_iload_n hC dX11_copy_18 rfl ?_
      refine A_iadd hC dX11_copy_19 ?_
      refine A_aload_n hC dX11_copy_20 rfl ?_
      refine A_getr (kf := 1) hC kX11 (lM_0 hL) rfl (by decide) (by decide) rfl rfl w_1004 dX11_copy_21 ?_
      refine A_sipush (v := 500) hC dX11_copy_24 (by decide) ?_
      refine A_iload_n hC dX11_copy_27 rfl ?_
      refine A_imul hC dX11_copy_28 ?_
      refine A_iload_n hC dX11_copy_29 rfl ?_
      refine A_iadd hC dX11_copy_30 ?_
      refine A_bald hC (lM_1 hL) dX11_copy_31 ?_
      refine A_bast hC (lM_1 hL) dX11_copy_32 (fun D24 => ?_)
      refine A_iincL (z := (1 : Int32)) (lv2 := fun x2 => [some (.ref (g.1 + 0)), some (.int a1), some (.int a2), some (.int x2)]) hC dX11_copy_33 rfl (by decide) (Nat.le_of_ble_eq_true rfl) rfl (fun _ => rfl) (fun x2 => ?_)
      refine A_goto (tgt := 2) hC dX11_copy_36 (by decide) ?_
      exact A_to (hL2 x2 D24) (And.intro rfl (And.intro rfl (And.intro rfl (And.intro rfl (trivial)))))
  exact A_to (hj2 (0 : Int32) D) (And.intro rfl (And.intro rfl (And.intro rfl (And.intro rfl (trivial)))))
def fX11_day (a1 : Int32) (D : ADD) : Option (Int32 × ADD) := aLet (aSI D 0 0 (0 : Int32)) (fun D1 => aIn (0 : Int32) 4 (aBind (fX11_is a1 (D1.1 6 (0 : Int32).toNatClampNeg) (9999 : Int32) D1) (fun x1 D2 => (if x1 = 0 then some ((0 : Int32), D2) else aIn (0 : Int32) 4 (aLet (aSI D2 6 (0 : Int32).toNatClampNeg a1) (fun D3 => some ((1 : Int32), D3)))))))
set_option maxHeartbeats 4000000 in
set_option maxRecDepth 100000 in
theorem mX11_day (l : Launch) (g : AGl) (hL : aLM g) (a1 : Int32) (D : ADD) : AM aVi l yX11_day cX11_day 2 (some .boolean) 1 g [.ref (g.1 + 0), .int a1] D (fX11_day a1 D) := by
  refine AM_of (lv0 := [some (.ref (g.1 + 0)), some (.int a1)]) (own := RX11) (by decide +kernel) rfl (Nat.le_of_ble_eq_true rfl) rfl (fun b hC => ?_)
  unfold fX11_day
  refine A_aload_n hC dX11_day_0 rfl ?_
  refine A_iconst (v := 0) hC dX11_day_1 (by decide) ?_
  refine A_puti (kf := 0) hC kX11 (lM_0 hL) rfl (by decide) (by decide) rfl rfl rfl w_1003 dX11_day_2 (fun D1 => ?_)
  refine A_iload_n hC dX11_day_5 rfl ?_
  refine A_aload_n hC dX11_day_6 rfl ?_
  refine A_getr (kf := 6) hC kX11 (lM_0 hL) rfl (by decide) (by decide) rfl rfl w_1009 dX11_day_7 ?_
  refine A_iconst (v := 0) hC dX11_day_10 (by decide) ?_
  refine A_iald hC (lM_6 hL) dX11_day_11 ?_
  refine A_sipush (v := 9999) hC dX11_day_12 (by decide) ?_
  refine A_callSi (As := [.int a1, .int (D1.1 6 (0 : Int32).toNatClampNeg), .int (9999 : Int32)]) (st := []) hC (fun l => mX11_is l g a1 (D1.1 6 (0 : Int32).toNatClampNeg) (9999 : Int32) D1) yc_X11_138 rfl rfl ⟨by decide, by decide⟩ (Nat.le_of_ble_eq_true rfl) rfl dX11_day_15 (fun x1 D2 => ?_)
  refine A_if_ne (tgt := 23) hC dX11_day_18 (by decide) ?_ ?_
  · refine A_aload_n hC dX11_day_23 rfl ?_
    refine A_getr (kf := 6) hC kX11 (lM_0 hL) rfl (by decide) (by decide) rfl rfl w_1009 dX11_day_24 ?_
    refine A_iconst (v := 0) hC dX11_day_27 (by decide) ?_
    refine A_iload_n hC dX11_day_28 rfl ?_
    refine A_iast hC (lM_6 hL) dX11_day_29 (fun D3 => ?_)
    refine A_iconst (v := 1) hC dX11_day_30 (by decide) ?_
    exact A_zret hC dX11_day_31 (Or.inr rfl)
  · refine A_iconst (v := 0) hC dX11_day_21 (by decide) ?_
    exact A_zret hC dX11_day_22 (Or.inl rfl)
def fX11_end (a1 : Int32) (D : ADD) : Option (Int32 × ADD) := aLet (aSI D 0 0 (0 : Int32)) (fun D1 => aIn (0 : Int32) 4 (aBind (fX11_is a1 (0 : Int32) (D1.1 2 (0 : Int32).toNatClampNeg) D1) (fun x1 D2 => (if x1 = 0 then some ((-1 : Int32), D2) else aIn (0 : Int32) 4 (aLet (aSI D2 2 (0 : Int32).toNatClampNeg a1) (fun D3 => some (a1, D3)))))))
set_option maxHeartbeats 4000000 in
set_option maxRecDepth 100000 in
theorem mX11_end (l : Launch) (g : AGl) (hL : aLM g) (a1 : Int32) (D : ADD) : AM aVi l yX11_end cX11_end 2 (some .int) 1 g [.ref (g.1 + 0), .int a1] D (fX11_end a1 D) := by
  refine AM_of (lv0 := [some (.ref (g.1 + 0)), some (.int a1)]) (own := RX11) (by decide +kernel) rfl (Nat.le_of_ble_eq_true rfl) rfl (fun b hC => ?_)
  unfold fX11_end
  refine A_aload_n hC dX11_end_0 rfl ?_
  refine A_iconst (v := 0) hC dX11_end_1 (by decide) ?_
  refine A_puti (kf := 0) hC kX11 (lM_0 hL) rfl (by decide) (by decide) rfl rfl rfl w_1003 dX11_end_2 (fun D1 => ?_)
  refine A_iload_n hC dX11_end_5 rfl ?_
  refine A_iconst (v := 0) hC dX11_end_6 (by decide) ?_
  refine A_aload_n hC dX11_end_7 rfl ?_
  refine A_getr (kf := 2) hC kX11 (lM_0 hL) rfl (by decide) (by decide) rfl rfl w_1005 dX11_end_8 ?_
  refine A_iconst (v := 0) hC dX11_end_11 (by decide) ?_
  refine A_iald hC (lM_2 hL) dX11_end_12 ?_
  refine A_callSi (As := [.int a1, .int (0 : Int32), .int (D1.1 2 (0 : Int32).toNatClampNeg)]) (st := []) hC (fun l => mX11_is l g a1 (0 : Int32) (D1.1 2 (0 : Int32).toNatClampNeg) D1) yc_X11_138 rfl rfl ⟨by decide, by decide⟩ (Nat.le_of_ble_eq_true rfl) rfl dX11_end_13 (fun x1 D2 => ?_)
  refine A_if_ne (tgt := 21) hC dX11_end_16 (by decide) ?_ ?_
  · refine A_aload_n hC dX11_end_21 rfl ?_
    refine A_getr (kf := 2) hC kX11 (lM_0 hL) rfl (by decide) (by decide) rfl rfl w_1005 dX11_end_22 ?_
    refine A_iconst (v := 0) hC dX11_end_25 (by decide) ?_
    refine A_iload_n hC dX11_end_26 rfl ?_
    refine A_iast hC (lM_2 hL) dX11_end_27 (fun D3 => ?_)
    refine A_iload_n hC dX11_end_28 rfl ?_
    exact A_iret hC dX11_end_29
  · refine A_iconst (v := -1) hC dX11_end_19 (by decide) ?_
    exact A_iret hC dX11_end_20
def fX11_entry (a1 : Int32) (a2 : Int32) (D : ADD) : Option (Int32 × ADD) := aLet (aSI D 0 0 (0 : Int32)) (fun D1 => aIn (0 : Int32) 4 (aBind (fX11_is a1 (0 : Int32) ((D1.1 8 (0 : Int32).toNatClampNeg) - (1 : Int32)) D1) (fun x1 D2 => aLet (fun (x2 : Int32) (D3 : ADD) => some (x2, D3)) (fun (j45 : Int32 → ADD → Option (Int32 × ADD)) => aLet (fun (D4 : ADD) => j45 (-100000 : Int32) D4) (fun (j43 : ADD → Option (Int32 × ADD)) => (if x1 = 0 then j43 D2 else aBind (fX11_is a2 (0 : Int32) (3 : Int32) D2) (fun x3 D5 => (if x3 = 0 then j43 D5 else aIn (((4 : Int32) * a1) + a2) 6400 (j45 (D5.1 9 (((4 : Int32) * a1) + a2).toNatClampNeg) D5)))))))))
set_option maxHeartbeats 4000000 in
set_option maxRecDepth 100000 in
theorem mX11_entry (l : Launch) (g : AGl) (hL : aLM g) (a1 : Int32) (a2 : Int32) (D : ADD) : AM aVi l yX11_entry cX11_entry 3 (some .int) 1 g [.ref (g.1 + 0), .int a1, .int a2] D (fX11_entry a1 a2 D) := by
  refine AM_of (lv0 := [some (.ref (g.1 + 0)), some (.int a1), some (.int a2)]) (own := RX11) (by decide +kernel) rfl (Nat.le_of_ble_eq_true rfl) rfl (fun b hC => ?_)
  unfold fX11_entry
  refine A_aload_n hC dX11_entry_0 rfl ?_
  refine A_iconst (v := 0) hC dX11_entry_1 (by decide) ?_
  refine A_puti (kf := 0) hC kX11 (lM_0 hL) rfl (by decide) (by decide) rfl rfl rfl w_1003 dX11_entry_2 (fun D1 => ?_)
  refine A_iload_n hC dX11_entry_5 rfl ?_
  refine A_iconst (v := 0) hC dX11_entry_6 (by decide) ?_
  refine A_aload_n hC dX11_entry_7 rfl ?_
  refine A_getr (kf := 8) hC kX11 (lM_0 hL) rfl (by decide) (by decide) rfl rfl w_1011 dX11_entry_8 ?_
  refine A_iconst (v := 0) hC dX11_entry_11 (by decide) ?_
  refine A_iald hC (lM_8 hL) dX11_entry_12 ?_
  refine A_iconst (v := 1) hC dX11_entry_13 (by decide) ?_
  refine A_isub hC dX11_entry_14 ?_
  refine A_callSi (As := [.int a1, .int (0 : Int32), .int ((D1.1 8 (0 : Int32).toNatClampNeg) - (1 : Int32))]) (st := []) hC (fun l => mX11_is l g a1 (0 : Int32) ((D1.1 8 (0 : Int32).toNatClampNeg) - (1 : Int32)) D1) yc_X11_138 rfl rfl ⟨by decide, by decide⟩ (Nat.le_of_ble_eq_true rfl) rfl dX11_entry_15 (fun x1 D2 => ?_)
  refine A_join (fun (J : Int32 → ADD → Option (Int32 × ADD)) => ∀ (x2 : Int32) (D3 : ADD), AT aVi g b 45 [none, none, none] [.int x2] D3 (J x2 D3)) (fun x2 D3 => ?_) (fun j45 hj45 => ?_)
  · exact A_iret hC dX11_entry_45
  refine A_join (fun (J : ADD → Option (Int32 × ADD)) => ∀ (D4 : ADD), AT aVi g b 43 [none, none, none] [] D4 (J D4)) (fun D4 => ?_) (fun j43 hj43 => ?_)
  · refine A_ldc hC dX11_entry_43 w_1200 ?_
    exact A_to (hj45 (-100000 : Int32) D4) (trivial)
  refine A_if_eq (tgt := 43) hC dX11_entry_18 (by decide) ?_ ?_
  · exact A_to (hj43 D2) (trivial)
  · refine A_iload_n hC dX11_entry_21 rfl ?_
    refine A_iconst (v := 0) hC dX11_entry_22 (by decide) ?_
    refine A_iconst (v := 3) hC dX11_entry_23 (by decide) ?_
    refine A_callSi (As := [.int a2, .int (0 : Int32), .int (3 : Int32)]) (st := []) hC (fun l => mX11_is l g a2 (0 : Int32) (3 : Int32) D2) yc_X11_138 rfl rfl ⟨by decide, by decide⟩ (Nat.le_of_ble_eq_true rfl) rfl dX11_entry_24 (fun x3 D5 => ?_)
    refine A_if_eq (tgt := 43) hC dX11_entry_27 (by decide) ?_ ?_
    · exact A_to (hj43 D5) (trivial)
    · refine A_aload_n hC dX11_entry_30 rfl ?_
      refine A_getr (kf := 9) hC kX11 (lM_0 hL) rfl (by decide) (by decide) rfl rfl w_1012 dX11_entry_31 ?_
      refine A_iconst (v := 4) hC dX11_entry_34 (by decide) ?_
      refine A_iload_n hC dX11_entry_35 rfl ?_
      refine A_imul hC dX11_entry_36 ?_
      refine A_iload_n hC dX11_entry_37 rfl ?_
      refine A_iadd hC dX11_entry_38 ?_
      refine A_iald hC (lM_9 hL) dX11_entry_39 ?_
      refine A_goto (tgt := 45) hC dX11_entry_40 (by decide) ?_
      exact A_to (hj45 (D5.1 9 (((4 : Int32) * a1) + a2).toNatClampNeg) D5) (trivial)
def fX11_feed (a1 : Int32) (a2 : Int32) (a3 : Int32) (a4 : Int32) (a5 : Int32) (D : ADD) : Option (Int32 × ADD) := aLet (aSI D 0 0 (0 : Int32)) (fun D1 => aIn (0 : Int32) 4 ((if ((D1.1 2 (0 : Int32).toNatClampNeg) + (20 : Int32)) ≤ (500 : Int32) then aBind (fX11_four a1 D1) (fun _ D2 => aBind (fX11_four a2 D2) (fun _ D3 => aBind (fX11_four a3 D3) (fun _ D4 => aBind (fX11_four a4 D4) (fun _ D5 => aBind (fX11_four a5 D5) (fun _ D6 => aIn (0 : Int32) 4 (some ((D6.1 2 (0 : Int32).toNatClampNeg), D6))))))) else some ((-1 : Int32), D1))))
set_option maxHeartbeats 4000000 in
set_option maxRecDepth 100000 in
theorem mX11_feed (l : Launch) (g : AGl) (hL : aLM g) (a1 : Int32) (a2 : Int32) (a3 : Int32) (a4 : Int32) (a5 : Int32) (D : ADD) : AM aVi l yX11_feed cX11_feed 6 (some .int) 1 g [.ref (g.1 + 0), .int a1, .int a2, .int a3, .int a4, .int a5] D (fX11_feed a1 a2 a3 a4 a5 D) := by
  refine AM_of (lv0 := [some (.ref (g.1 + 0)), some (.int a1), some (.int a2), some (.int a3), some (.int a4), some (.int a5)]) (own := RX11) (by decide +kernel) rfl (Nat.le_of_ble_eq_true rfl) rfl (fun b hC => ?_)
  unfold fX11_feed
  refine A_aload_n hC dX11_feed_0 rfl ?_
  refine A_iconst (v := 0) hC dX11_feed_1 (by decide) ?_
  refine A_puti (kf := 0) hC kX11 (lM_0 hL) rfl (by decide) (by decide) rfl rfl rfl w_1003 dX11_feed_2 (fun D1 => ?_)
  refine A_aload_n hC dX11_feed_5 rfl ?_
  refine A_getr (kf := 2) hC kX11 (lM_0 hL) rfl (by decide) (by decide) rfl rfl w_1005 dX11_feed_6 ?_
  refine A_iconst (v := 0) hC dX11_feed_9 (by decide) ?_
  refine A_iald hC (lM_2 hL) dX11_feed_10 ?_
  refine A_bipush (v := 20) hC dX11_feed_11 (by decide) ?_
  refine A_iadd hC dX11_feed_13 ?_
  refine A_sipush (v := 500) hC dX11_feed_14 (by decide) ?_
  refine A_icmp_le (tgt := 22) hC dX11_feed_17 (by decide) ?_ ?_
  · refine A_aload_n hC dX11_feed_22 rfl ?_
    refine A_iload_n hC dX11_feed_23 rfl ?_
    refine A_callVv (As := [.int a1]) (st := []) hC (fun l => mX11_four l g hL a1 D1) (lM_0 hL) rfl (Nat.le_of_ble_eq_true rfl) yc_X11_162 rfl rfl ⟨by decide, by decide⟩ (Nat.le_of_ble_eq_true rfl) rfl dX11_feed_24 (fun _ D2 => ?_)
    refine A_aload_n hC dX11_feed_27 rfl ?_
    refine A_iload_n hC dX11_feed_28 rfl ?_
    refine A_callVv (As := [.int a2]) (st := []) hC (fun l => mX11_four l g hL a2 D2) (lM_0 hL) rfl (Nat.le_of_ble_eq_true rfl) yc_X11_162 rfl rfl ⟨by decide, by decide⟩ (Nat.le_of_ble_eq_true rfl) rfl dX11_feed_29 (fun _ D3 => ?_)
    refine A_aload_n hC dX11_feed_32 rfl ?_
    refine A_iload_n hC dX11_feed_33 rfl ?_
    refine A_callVv (As := [.int a3]) (st := []) hC (fun l => mX11_four l g hL a3 D3) (lM_0 hL) rfl (Nat.le_of_ble_eq_true rfl) yc_X11_162 rfl rfl ⟨by decide, by decide⟩ (Nat.le_of_ble_eq_true rfl) rfl dX11_feed_34 (fun _ D4 => ?_)
    refine A_aload_n hC dX11_feed_37 rfl ?_
    refine A_iload hC dX11_feed_38 rfl ?_
    refine A_callVv (As := [.int a4]) (st := []) hC (fun l => mX11_four l g hL a4 D4) (lM_0 hL) rfl (Nat.le_of_ble_eq_true rfl) yc_X11_162 rfl rfl ⟨by decide, by decide⟩ (Nat.le_of_ble_eq_true rfl) rfl dX11_feed_40 (fun _ D5 => ?_)
    refine A_aload_n hC dX11_feed_43 rfl ?_
    refine A_iload hC dX11_feed_44 rfl ?_
    refine A_callVv (As := [.int a5]) (st := []) hC (fun l => mX11_four l g hL a5 D5) (lM_0 hL) rfl (Nat.le_of_ble_eq_true rfl) yc_X11_162 rfl rfl ⟨by decide, by decide⟩ (Nat.le_of_ble_eq_true rfl) rfl dX11_feed_46 (fun _ D6 => ?_)
    refine A_aload_n hC dX11_feed_49 rfl ?_
    refine A_getr (kf := 2) hC kX11 (lM_0 hL) rfl (by decide) (by decide) rfl rfl w_1005 dX11_feed_50 ?_
    refine A_iconst (v := 0) hC dX11_feed_53 (by decide) ?_
    refine A_iald hC (lM_2 hL) dX11_feed_54 ?_
    exact A_iret hC dX11_feed_55
  · refine A_iconst (v := -1) hC dX11_feed_20 (by decide) ?_
    exact A_iret hC dX11_feed_21
def lX11_findSpan_102 (j218 : Int32 → Int32 → ADD → Option (Unit × ADD)) (L102 : Int32 → Int32 → Int32 → Int32 → ADD → Option (Unit × ADD)) (x19 : Int32) (x20 : Int32) (x21 : Int32) (x22 : Int32) (D24 : ADD) : Option (Unit × ADD) := aIn (0 : Int32) 8 ((if (D24.1 15 (0 : Int32).toNatClampNeg) ≤ x22 then j218 x19 x20 D24 else (if x21 = 0 then j218 x19 x20 D24 else aBind (fX11_holds x22 D24) (fun x23 D25 => aLet (fun (x24 : Int32) (x25 : Int32) (x26 : Int32) (D26 : ADD) => aLet (x22 + (1 : Int32)) (fun x27 => L102 x24 x25 x26 x27 D26)) (fun (j212 : Int32 → Int32 → Int32 → ADD → Option (Unit × ADD)) => (if x23 = 0 then j212 x19 x20 x21 D25 else aIn x22 128 (aLet (fun (x28 : Int32) (D27 : ADD) => (if x28 = 0 then j212 x19 x20 x28 D27 else aIn x22 128 (aLet (fun (x29 : Int32) (D28 : ADD) => aLet (x19 + x29) (fun x30 => aIn x22 128 (aLet (fun (x31 : Int32) (D29 : ADD) => aLet (x20 + x31) (fun x32 => j212 x30 x32 x28 D29)) (fun (j210 : Int32 → ADD → Option (Unit × ADD)) => (if (D28.1 20 x22.toNatClampNeg) = 0 then aIn x22 128 (j210 (D28.1 22 x22.toNatClampNeg) D28) else aIn x22 128 (j210 (-(D28.1 21 x22.toNatClampNeg)) D28)))))) (fun (j179 : Int32 → ADD → Option (Unit × ADD)) => (if (D27.1 20 x22.toNatClampNeg) = 0 then aIn x22 128 (j179 (D27.1 21 x22.toNatClampNeg) D27) else aIn x22 128 (j179 (-(D27.1 22 x22.toNatClampNeg)) D27)))))) (fun (j143 : Int32 → ADD → Option (Unit × ADD)) => (if (2 : Int32) ≤ (D25.1 20 x22.toNatClampNeg) then j143 (0 : Int32) D25 else j143 (1 : Int32) D25)))))))))
def fX11_findSpan (a1 : Int32) (D : ADD) : Option (Unit × ADD) := aBind (fX11_f a1 (1 : Int32) D) (fun x1 D1 => aIn (0 : Int32) 8 (aLet (aSI D1 30 (0 : Int32).toNatClampNeg x1) (fun D2 => aBind (fX11_f a1 (2 : Int32) D2) (fun x2 D3 => aIn (1 : Int32) 8 (aLet (aSI D3 30 (1 : Int32).toNatClampNeg x2) (fun D4 => aBind (fX11_f a1 (3 : Int32) D4) (fun x3 D5 => aIn (2 : Int32) 8 (aLet (aSI D5 30 (2 : Int32).toNatClampNeg x3) (fun D6 => aBind (fX11_f a1 (4 : Int32) D6) (fun x4 D7 => aIn (3 : Int32) 8 (aLet (aSI D7 30 (3 : Int32).toNatClampNeg x4) (fun D8 => aBind (fX11_f a1 (7 : Int32) D8) (fun x5 D9 => aIn (4 : Int32) 8 (aLet (aSI D9 30 (4 : Int32).toNatClampNeg x5) (fun D10 => aBind (fX11_f a1 (8 : Int32) D10) (fun x6 D11 => aIn (5 : Int32) 8 (aLet (aSI D11 30 (5 : Int32).toNatClampNeg x6) (fun D12 => aBind (fX11_f a1 (6 : Int32) D12) (fun x7 D13 => aIn (6 : Int32) 8 (aLet (aSI D13 30 (6 : Int32).toNatClampNeg ((2000 : Int32) - x7)) (fun D14 => aLet (fun (x8 : Int32) (x9 : Int32) (D15 : ADD) => aBind (fX11_f a1 (0 : Int32) D15) (fun x10 D16 => aBind (fX11_f a1 (3 : Int32) D16) (fun x11 D17 => aLet (x10 - x11) (fun x12 => aBind (fX11_held x8 D17) (fun x13 D18 => aNZ (1000 : Int32) (aLet (x12 + ((x12 * x13) / (1000 : Int32))) (fun x14 => aBind (fX11_held x9 D18) (fun x15 D19 => aNZ (1000 : Int32) (aLet (x12 + ((x12 * x15) / (1000 : Int32))) (fun x16 => aLet (fun (x17 : Int32) (D20 : ADD) => aIn a1 32 (aLet (aSI D20 33 a1.toNatClampNeg x17) (fun D21 => aLet (fun (x18 : Int32) (D22 : ADD) => aIn a1 32 (aLet (aSI D22 34 a1.toNatClampNeg x18) (fun D23 => some ((), D23)))) (fun (j300 : Int32 → ADD → Option (Unit × ADD)) => (if (1 : Int32) ≤ x16 then j300 x16 D21 else j300 (1 : Int32) D21))))) (fun (j282 : Int32 → ADD → Option (Unit × ADD)) => (if (1 : Int32) ≤ x14 then j282 x14 D19 else j282 (1 : Int32) D19)))))))))))) (fun (j218 : Int32 → Int32 → ADD → Option (Unit × ADD)) => aLet (aFix aFuel (lX11_findSpan_102 j218) (fun _ _ _ _ _ => none)) (fun j102 => j102 (0 : Int32) (0 : Int32) (1 : Int32) (0 : Int32) D14)))))))))))))))))))))))
set_option maxHeartbeats 4000000 in
set_option maxRecDepth 100000 in
theorem mX11_findSpan (l : Launch) (g : AGl) (hL : aLM g) (a1 : Int32) (D : ADD) : AM aVv l yX11_findSpan cX11_findSpan 8 none 1 g [.ref (g.1 + 0), .int a1] D (fX11_findSpan a1 D) := by
  refine AM_of (lv0 := [some (.ref (g.1 + 0)), some (.int a1), none, none, none, none, none, none]) (own := RX11) (by decide +kernel) rfl (Nat.le_of_ble_eq_true rfl) rfl (fun b hC => ?_)
  unfold fX11_findSpan
  refine A_aload_n hC dX11_findSpan_0 rfl ?_
  refine A_getr (kf := 40) hC kX11 (lM_0 hL) rfl (by decide) (by decide) rfl rfl w_1043 dX11_findSpan_1 ?_
  refine A_iconst (v := 0) hC dX11_findSpan_4 (by decide) ?_
  refine A_aload_n hC dX11_findSpan_5 rfl ?_
  refine A_iload_n hC dX11_findSpan_6 rfl ?_
  refine A_iconst (v := 1) hC dX11_findSpan_7 (by decide) ?_
  refine A_callVi (As := [.int a1, .int (1 : Int32)]) (st := [.int (0 : Int32), .ref (g.1 + 30)]) hC (fun l => mX11_f l g hL a1 (1 : Int32) D) (lM_0 hL) rfl (Nat.le_of_ble_eq_true rfl) yc_X11_291 rfl rfl ⟨by decide, by decide⟩ (Nat.le_of_ble_eq_true rfl) rfl dX11_findSpan_8 (fun x1 D1 => ?_)
  refine A_iast hC (lM_30 hL) dX11_findSpan_11 (fun D2 => ?_)
  refine A_aload_n hC dX11_findSpan_12 rfl ?_
  refine A_getr (kf := 40) hC kX11 (lM_0 hL) rfl (by decide) (by decide) rfl rfl w_1043 dX11_findSpan_13 ?_
  refine A_iconst (v := 1) hC dX11_findSpan_16 (by decide) ?_
  refine A_aload_n hC dX11_findSpan_17 rfl ?_
  refine A_iload_n hC dX11_findSpan_18 rfl ?_
  refine A_iconst (v := 2) hC dX11_findSpan_19 (by decide) ?_
  refine A_callVi (As := [.int a1, .int (2 : Int32)]) (st := [.int (1 : Int32), .ref (g.1 + 30)]) hC (fun l => mX11_f l g hL a1 (2 : Int32) D2) (lM_0 hL) rfl (Nat.le_of_ble_eq_true rfl) yc_X11_291 rfl rfl ⟨by decide, by decide⟩ (Nat.le_of_ble_eq_true rfl) rfl dX11_findSpan_20 (fun x2 D3 => ?_)
  refine A_iast hC (lM_30 hL) dX11_findSpan_23 (fun D4 => ?_)
  refine A_aload_n hC dX11_findSpan_24 rfl ?_
  refine A_getr (kf := 40) hC kX11 (lM_0 hL) rfl (by decide) (by decide) rfl rfl w_1043 dX11_findSpan_25 ?_
  refine A_iconst (v := 2) hC dX11_findSpan_28 (by decide) ?_
  refine A_aload_n hC dX11_findSpan_29 rfl ?_
  refine A_iload_n hC dX11_findSpan_30 rfl ?_
  refine A_iconst (v := 3) hC dX11_findSpan_31 (by decide) ?_
  refine A_callVi (As := [.int a1, .int (3 : Int32)]) (st := [.int (2 : Int32), .ref (g.1 + 30)]) hC (fun l => mX11_f l g hL a1 (3 : Int32) D4) (lM_0 hL) rfl (Nat.le_of_ble_eq_true rfl) yc_X11_291 rfl rfl ⟨by decide, by decide⟩ (Nat.le_of_ble_eq_true rfl) rfl dX11_findSpan_32 (fun x3 D5 => ?_)
  refine A_iast hC (lM_30 hL) dX11_findSpan_35 (fun D6 => ?_)
  refine A_aload_n hC dX11_findSpan_36 rfl ?_
  refine A_getr (kf := 40) hC kX11 (lM_0 hL) rfl (by decide) (by decide) rfl rfl w_1043 dX11_findSpan_37 ?_
  refine A_iconst (v := 3) hC dX11_findSpan_40 (by decide) ?_
  refine A_aload_n hC dX11_findSpan_41 rfl ?_
  refine A_iload_n hC dX11_findSpan_42 rfl ?_
  refine A_iconst (v := 4) hC dX11_findSpan_43 (by decide) ?_
  refine A_callVi (As := [.int a1, .int (4 : Int32)]) (st := [.int (3 : Int32), .ref (g.1 + 30)]) hC (fun l => mX11_f l g hL a1 (4 : Int32) D6) (lM_0 hL) rfl (Nat.le_of_ble_eq_true rfl) yc_X11_291 rfl rfl ⟨by decide, by decide⟩ (Nat.le_of_ble_eq_true rfl) rfl dX11_findSpan_44 (fun x4 D7 => ?_)
  refine A_iast hC (lM_30 hL) dX11_findSpan_47 (fun D8 => ?_)
  refine A_aload_n hC dX11_findSpan_48 rfl ?_
  refine A_getr (kf := 40) hC kX11 (lM_0 hL) rfl (by decide) (by decide) rfl rfl w_1043 dX11_findSpan_49 ?_
  refine A_iconst (v := 4) hC dX11_findSpan_52 (by decide) ?_
  refine A_aload_n hC dX11_findSpan_53 rfl ?_
  refine A_iload_n hC dX11_findSpan_54 rfl ?_
  refine A_bipush (v := 7) hC dX11_findSpan_55 (by decide) ?_
  refine A_callVi (As := [.int a1, .int (7 : Int32)]) (st := [.int (4 : Int32), .ref (g.1 + 30)]) hC (fun l => mX11_f l g hL a1 (7 : Int32) D8) (lM_0 hL) rfl (Nat.le_of_ble_eq_true rfl) yc_X11_291 rfl rfl ⟨by decide, by decide⟩ (Nat.le_of_ble_eq_true rfl) rfl dX11_findSpan_57 (fun x5 D9 => ?_)
  refine A_iast hC (lM_30 hL) dX11_findSpan_60 (fun D10 => ?_)
  refine A_aload_n hC dX11_findSpan_61 rfl ?_
  refine A_getr (kf := 40) hC kX11 (lM_0 hL) rfl (by decide) (by decide) rfl rfl w_1043 dX11_findSpan_62 ?_
  refine A_iconst (v := 5) hC dX11_findSpan_65 (by decide) ?_
  refine A_aload_n hC dX11_findSpan_66 rfl ?_
  refine A_iload_n hC dX11_findSpan_67 rfl ?_
  refine A_bipush (v := 8) hC dX11_findSpan_68 (by decide) ?_
  refine A_callVi (As := [.int a1, .int (8 : Int32)]) (st := [.int (5 : Int32), .ref (g.1 + 30)]) hC (fun l => mX11_f l g hL a1 (8 : Int32) D10) (lM_0 hL) rfl (Nat.le_of_ble_eq_true rfl) yc_X11_291 rfl rfl ⟨by decide, by decide⟩ (Nat.le_of_ble_eq_true rfl) rfl dX11_findSpan_70 (fun x6 D11 => ?_)
  refine A_iast hC (lM_30 hL) dX11_findSpan_73 (fun D12 => ?_)
  refine A_aload_n hC dX11_findSpan_74 rfl ?_
  refine A_getr (kf := 40) hC kX11 (lM_0 hL) rfl (by decide) (by decide) rfl rfl w_1043 dX11_findSpan_75 ?_
  refine A_bipush (v := 6) hC dX11_findSpan_78 (by decide) ?_
  refine A_sipush (v := 2000) hC dX11_findSpan_80 (by decide) ?_
  refine A_aload_n hC dX11_findSpan_83 rfl ?_
  refine A_iload_n hC dX11_findSpan_84 rfl ?_
  refine A_bipush (v := 6) hC dX11_findSpan_85 (by decide) ?_
  refine A_callVi (As := [.int a1, .int (6 : Int32)]) (st := [.int (2000 : Int32), .int (6 : Int32), .ref (g.1 + 30)]) hC (fun l => mX11_f l g hL a1 (6 : Int32) D12) (lM_0 hL) rfl (Nat.le_of_ble_eq_true rfl) yc_X11_291 rfl rfl ⟨by decide, by decide⟩ (Nat.le_of_ble_eq_true rfl) rfl dX11_findSpan_87 (fun x7 D13 => ?_)
  refine A_isub hC dX11_findSpan_90 ?_
  refine A_iast hC (lM_30 hL) dX11_findSpan_91 (fun D14 => ?_)
  refine A_iconst (v := 0) hC dX11_findSpan_92 (by decide) ?_
  refine A_istore_n (lv2 := [some (.ref (g.1 + 0)), some (.int a1), some (.int (0 : Int32)), none, none, none, none, none]) hC dX11_findSpan_93 (Nat.le_of_ble_eq_true rfl) rfl rfl ?_
  refine A_iconst (v := 0) hC dX11_findSpan_94 (by decide) ?_
  refine A_istore_n (lv2 := [some (.ref (g.1 + 0)), some (.int a1), some (.int (0 : Int32)), some (.int (0 : Int32)), none, none, none, none]) hC dX11_findSpan_95 (Nat.le_of_ble_eq_true rfl) rfl rfl ?_
  refine A_iconst (v := 1) hC dX11_findSpan_96 (by decide) ?_
  refine A_istore (lv2 := [some (.ref (g.1 + 0)), some (.int a1), some (.int (0 : Int32)), some (.int (0 : Int32)), some (.int (1 : Int32)), none, none, none]) hC dX11_findSpan_97 (Nat.le_of_ble_eq_true rfl) rfl rfl ?_
  refine A_iconst (v := 0) hC dX11_findSpan_99 (by decide) ?_
  refine A_istore (lv2 := [some (.ref (g.1 + 0)), some (.int a1), some (.int (0 : Int32)), some (.int (0 : Int32)), some (.int (1 : Int32)), some (.int (0 : Int32)), none, none]) hC dX11_findSpan_100 (Nat.le_of_ble_eq_true rfl) rfl rfl ?_
  refine A_join (fun (J : Int32 → Int32 → ADD → Option (Unit × ADD)) => ∀ (x8 : Int32) (x9 : Int32) (D15 : ADD), AT aVv g b 218 [some (.ref (g.1 + 0)), some (.int a1), some (.int x8), some (.int x9), none, none, none, none] [] D15 (J x8 x9 D15)) (fun x8 x9 D15 => ?_) (fun j218 hj218 => ?_)
  · refine A_aload_n hC dX11_findSpan_218 rfl ?_
    refine A_iload_n hC dX11_findSpan_219 rfl ?_
    refine A_iconst (v := 0) hC dX11_findSpan_220 (by decide) ?_
    refine A_callVi (As := [.int a1, .int (0 : Int32)]) (st := []) hC (fun l => mX11_f l g hL a1 (0 : Int32) D15) (lM_0 hL) rfl (Nat.le_of_ble_eq_true rfl) yc_X11_291 rfl rfl ⟨by decide, by decide⟩ (Nat.le_of_ble_eq_true rfl) rfl dX11_findSpan_221 (fun x10 D16 => ?_)
    refine A_aload_n hC dX11_findSpan_224 rfl ?_
    refine A_iload_n hC dX11_findSpan_225 rfl ?_
    refine A_iconst (v := 3) hC dX11_findSpan_226 (by decide) ?_
    refine A_callVi (As := [.int a1, .int (3 : Int32)]) (st := [.int x10]) hC (fun l => mX11_f l g hL a1 (3 : Int32) D16) (lM_0 hL) rfl (Nat.le_of_ble_eq_true rfl) yc_X11_291 rfl rfl ⟨by decide, by decide⟩ (Nat.le_of_ble_eq_true rfl) rfl dX11_findSpan_227 (fun x11 D17 => ?_)
    refine A_isub hC dX11_findSpan_230 ?_
    refine A_topi (fun x12 => ?_)
    refine A_istore (lv2 := [some (.ref (g.1 + 0)), some (.int a1), some (.int x8), some (.int x9), none, some (.int x12), none, none]) hC dX11_findSpan_231 (Nat.le_of_ble_eq_true rfl) rfl rfl ?_
    refine A_iload hC dX11_findSpan_233 rfl ?_
    refine A_iload hC dX11_findSpan_235 rfl ?_
    refine A_iload_n hC dX11_findSpan_237 rfl ?_
    refine A_callSi (As := [.int x8]) (st := [.int x12, .int x12]) hC (fun l => mX11_held l g x8 D17) yc_X11_298 rfl rfl ⟨by decide, by decide⟩ (Nat.le_of_ble_eq_true rfl) rfl dX11_findSpan_238 (fun x13 D18 => ?_)
    refine A_imul hC dX11_findSpan_241 ?_
    refine A_sipush (v := 1000) hC dX11_findSpan_242 (by decide) ?_
    refine A_idiv hC dX11_findSpan_245 ?_
    refine A_iadd hC dX11_findSpan_246 ?_
    refine A_topi (fun x14 => ?_)
    refine A_istore (lv2 := [some (.ref (g.1 + 0)), some (.int a1), some (.int x8), some (.int x9), none, some (.int x12), some (.int x14), none]) hC dX11_findSpan_247 (Nat.le_of_ble_eq_true rfl) rfl rfl ?_
    refine A_iload hC dX11_findSpan_249 rfl ?_
    refine A_iload hC dX11_findSpan_251 rfl ?_
    refine A_iload_n hC dX11_findSpan_253 rfl ?_
    refine A_callSi (As := [.int x9]) (st := [.int x12, .int x12]) hC (fun l => mX11_held l g x9 D18) yc_X11_298 rfl rfl ⟨by decide, by decide⟩ (Nat.le_of_ble_eq_true rfl) rfl dX11_findSpan_254 (fun x15 D19 => ?_)
    refine A_imul hC dX11_findSpan_257 ?_
    refine A_sipush (v := 1000) hC dX11_findSpan_258 (by decide) ?_
    refine A_idiv hC dX11_findSpan_261 ?_
    refine A_iadd hC dX11_findSpan_262 ?_
    refine A_topi (fun x16 => ?_)
    refine A_istore (lv2 := [some (.ref (g.1 + 0)), some (.int a1), some (.int x8), some (.int x9), none, some (.int x12), some (.int x14), some (.int x16)]) hC dX11_findSpan_263 (Nat.le_of_ble_eq_true rfl) rfl rfl ?_
    refine A_aload_n hC dX11_findSpan_265 rfl ?_
    refine A_getr (kf := 44) hC kX11 (lM_0 hL) rfl (by decide) (by decide) rfl rfl w_1047 dX11_findSpan_266 ?_
    refine A_iload_n hC dX11_findSpan_269 rfl ?_
    refine A_iload hC dX11_findSpan_270 rfl ?_
    refine A_iconst (v := 1) hC dX11_findSpan_272 (by decide) ?_
    refine A_join (fun (J : Int32 → ADD → Option (Unit × ADD)) => ∀ (x17 : Int32) (D20 : ADD), AT aVv g b 282 [some (.ref (g.1 + 0)), some (.int a1), none, none, none, none, none, some (.int x16)] [.int x17, .int a1, .ref (g.1 + 33)] D20 (J x17 D20)) (fun x17 D20 => ?_) (fun j282 hj282 => ?_)
    · refine A_iast hC (lM_33 hL) dX11_findSpan_282 (fun D21 => ?_)
      refine A_aload_n hC dX11_findSpan_283 rfl ?_
      refine A_getr (kf := 45) hC kX11 (lM_0 hL) rfl (by decide) (by decide) rfl rfl w_1048 dX11_findSpan_284 ?_
      refine A_iload_n hC dX11_findSpan_287 rfl ?_
      refine A_iload hC dX11_findSpan_288 rfl ?_
      refine A_iconst (v := 1) hC dX11_findSpan_290 (by decide) ?_
      refine A_join (fun (J : Int32 → ADD → Option (Unit × ADD)) => ∀ (x18 : Int32) (D22 : ADD), AT aVv g b 300 [none, none, none, none, none, none, none, none] [.int x18, .int a1, .ref (g.1 + 34)] D22 (J x18 D22)) (fun x18 D22 => ?_) (fun j300 hj300 => ?_)
      · refine A_iast hC (lM_34 hL) dX11_findSpan_300 (fun D23 => ?_)
        exact A_vret hC dX11_findSpan_301
      refine A_icmp_ge (tgt := 298) hC dX11_findSpan_291 (by decide) ?_ ?_
      · refine A_iload hC dX11_findSpan_298 rfl ?_
        exact A_to (hj300 x16 D21) (trivial)
      · refine A_iconst (v := 1) hC dX11_findSpan_294 (by decide) ?_
        refine A_goto (tgt := 300) hC dX11_findSpan_295 (by decide) ?_
        exact A_to (hj300 (1 : Int32) D21) (trivial)
    refine A_icmp_ge (tgt := 280) hC dX11_findSpan_273 (by decide) ?_ ?_
    · refine A_iload hC dX11_findSpan_280 rfl ?_
      exact A_to (hj282 x14 D19) (And.intro rfl (And.intro rfl (And.intro rfl (trivial))))
    · refine A_iconst (v := 1) hC dX11_findSpan_276 (by decide) ?_
      refine A_goto (tgt := 282) hC dX11_findSpan_277 (by decide) ?_
      exact A_to (hj282 (1 : Int32) D19) (And.intro rfl (And.intro rfl (And.intro rfl (trivial))))
  refine A_join (fun (J : Int32 → Int32 → Int32 → Int32 → ADD → Option (Unit × ADD)) => ∀ (x19 : Int32) (x20 : Int32) (x21 : Int32) (x22 : Int32) (D24 : ADD), AT aVv g b 102 [some (.ref (g.1 + 0)), some (.int a1), some (.int x19), some (.int x20), some (.int x21), some (.int x22), none, none] [] D24 (J x19 x20 x21 x22 D24)) (aFix_all (fun (J : Int32 → Int32 → Int32 → Int32 → ADD → Option (Unit × ADD)) => ∀ (x19 : Int32) (x20 : Int32) (x21 : Int32) (x22 : Int32) (D24 : ADD), AT aVv g b 102 [some (.ref (g.1 + 0)), some (.int a1), some (.int x19), some (.int x20), some (.int x21), some (.int x22), none, none] [] D24 (J x19 x20 x21 x22 D24)) (fun _ _ _ _ _ => A_none) (fun L102 hL102 x19 x20 x21 x22 D24 => ?_) _) (fun j102 hj102 => ?_)
  · unfold lX11_findSpan_102
    refine A_iload hC dX11_findSpan_102 rfl ?_
    refine A_aload_n hC dX11_findSpan_104 rfl ?_
    refine A_getr (kf := 15) hC kX11 (lM_0 hL) rfl (by decide) (by decide) rfl rfl w_1018 dX11_findSpan_105 ?_
    refine A_iconst (v := 0) hC dX11_findSpan_108 (by decide) ?_
    refine A_iald hC (lM_15 hL) dX11_findSpan_109 ?_
    refine A_icmp_ge (tgt := 218) hC dX11_findSpan_110 (by decide) ?_ ?_
    · exact A_to (hj218 x19 x20 D24) (And.intro rfl (And.intro rfl (And.intro rfl (And.intro rfl (trivial)))))
    · refine A_iload hC dX11_findSpan_113 rfl ?_
      refine A_if_eq (tgt := 218) hC dX11_findSpan_115 (by decide) ?_ ?_
      · exact A_to (hj218 x19 x20 D24) (And.intro rfl (And.intro rfl (And.intro rfl (And.intro rfl (trivial)))))
      · refine A_aload_n hC dX11_findSpan_118 rfl ?_
        refine A_iload hC dX11_findSpan_119 rfl ?_
        refine A_callVi (As := [.int x22]) (st := []) hC (fun l => mX11_holds l g hL x22 D24) (lM_0 hL) rfl (Nat.le_of_ble_eq_true rfl) yc_X11_295 rfl rfl ⟨by decide, by decide⟩ (Nat.le_of_ble_eq_true rfl) rfl dX11_findSpan_121 (fun x23 D25 => ?_)
        refine A_join (fun (J : Int32 → Int32 → Int32 → ADD → Option (Unit × ADD)) => ∀ (x24 : Int32) (x25 : Int32) (x26 : Int32) (D26 : ADD), AT aVv g b 212 [some (.ref (g.1 + 0)), some (.int a1), some (.int x24), some (.int x25), some (.int x26), some (.int x22), none, none] [] D26 (J x24 x25 x26 D26)) (fun x24 x25 x26 D26 => ?_) (fun j212 hj212 => ?_)
        · refine A_iincL (z := (1 : Int32)) (lv2 := fun x27 => [some (.ref (g.1 + 0)), some (.int a1), some (.int x24), some (.int x25), some (.int x26), some (.int x27), none, none]) hC dX11_findSpan_212 rfl (by decide) (Nat.le_of_ble_eq_true rfl) rfl (fun _ => rfl) (fun x27 => ?_)
          refine A_goto (tgt := 102) hC dX11_findSpan_215 (by decide) ?_
          exact A_to (hL102 x24 x25 x26 x27 D26) (And.intro rfl (And.intro rfl (And.intro rfl (And.intro rfl (And.intro rfl (And.intro rfl (trivial)))))))
        refine A_if_eq (tgt := 212) hC dX11_findSpan_124 (by decide) ?_ ?_
        · exact A_to (hj212 x19 x20 x21 D25) (And.intro rfl (And.intro rfl (And.intro rfl (And.intro rfl (And.intro rfl (And.intro rfl (trivial)))))))
        · refine A_aload_n hC dX11_findSpan_127 rfl ?_
          refine A_getr (kf := 20) hC kX11 (lM_0 hL) rfl (by decide) (by decide) rfl rfl w_1023 dX11_findSpan_128 ?_
          refine A_iload hC dX11_findSpan_131 rfl ?_
          refine A_iald hC (lM_20 hL) dX11_findSpan_133 ?_
          refine A_iconst (v := 2) hC dX11_findSpan_134 (by decide) ?_
          refine A_join (fun (J : Int32 → ADD → Option (Unit × ADD)) => ∀ (x28 : Int32) (D27 : ADD), AT aVv g b 143 [some (.ref (g.1 + 0)), some (.int a1), some (.int x19), some (.int x20), none, some (.int x22), none, none] [.int x28] D27 (J x28 D27)) (fun x28 D27 => ?_) (fun j143 hj143 => ?_)
          · refine A_istore (lv2 := [some (.ref (g.1 + 0)), some (.int a1), some (.int x19), some (.int x20), some (.int x28), some (.int x22), none, none]) hC dX11_findSpan_143 (Nat.le_of_ble_eq_true rfl) rfl rfl ?_
            refine A_iload hC dX11_findSpan_145 rfl ?_
            refine A_if_eq (tgt := 212) hC dX11_findSpan_147 (by decide) ?_ ?_
            · exact A_to (hj212 x19 x20 x28 D27) (And.intro rfl (And.intro rfl (And.intro rfl (And.intro rfl (And.intro rfl (And.intro rfl (trivial)))))))
            · refine A_iload_n hC dX11_findSpan_150 rfl ?_
              refine A_aload_n hC dX11_findSpan_151 rfl ?_
              refine A_getr (kf := 20) hC kX11 (lM_0 hL) rfl (by decide) (by decide) rfl rfl w_1023 dX11_findSpan_152 ?_
              refine A_iload hC dX11_findSpan_155 rfl ?_
              refine A_iald hC (lM_20 hL) dX11_findSpan_157 ?_
              refine A_join (fun (J : Int32 → ADD → Option (Unit × ADD)) => ∀ (x29 : Int32) (D28 : ADD), AT aVv g b 179 [some (.ref (g.1 + 0)), some (.int a1), none, some (.int x20), some (.int x28), some (.int x22), none, none] [.int x29, .int x19] D28 (J x29 D28)) (fun x29 D28 => ?_) (fun j179 hj179 => ?_)
              · refine A_iadd hC dX11_findSpan_179 ?_
                refine A_topi (fun x30 => ?_)
                refine A_istore_n (lv2 := [some (.ref (g.1 + 0)), some (.int a1), some (.int x30), some (.int x20), some (.int x28), some (.int x22), none, none]) hC dX11_findSpan_180 (Nat.le_of_ble_eq_true rfl) rfl rfl ?_
                refine A_iload_n hC dX11_findSpan_181 rfl ?_
                refine A_aload_n hC dX11_findSpan_182 rfl ?_
                refine A_getr (kf := 20) hC kX11 (lM_0 hL) rfl (by decide) (by decide) rfl rfl w_1023 dX11_findSpan_183 ?_
                refine A_iload hC dX11_findSpan_186 rfl ?_
                refine A_iald hC (lM_20 hL) dX11_findSpan_188 ?_
                refine A_join (fun (J : Int32 → ADD → Option (Unit × ADD)) => ∀ (x31 : Int32) (D29 : ADD), AT aVv g b 210 [some (.ref (g.1 + 0)), some (.int a1), some (.int x30), none, some (.int x28), some (.int x22), none, none] [.int x31, .int x20] D29 (J x31 D29)) (fun x31 D29 => ?_) (fun j210 hj210 => ?_)
                · refine A_iadd hC dX11_findSpan_210 ?_
                  refine A_topi (fun x32 => ?_)
                  refine A_istore_n (lv2 := [some (.ref (g.1 + 0)), some (.int a1), some (.int x30), some (.int x32), some (.int x28), some (.int x22), none, none]) hC dX11_findSpan_211 (Nat.le_of_ble_eq_true rfl) rfl rfl ?_
                  exact A_to (hj212 x30 x32 x28 D29) (And.intro rfl (And.intro rfl (And.intro rfl (And.intro rfl (And.intro rfl (And.intro rfl (trivial)))))))
                refine A_if_ne (tgt := 202) hC dX11_findSpan_189 (by decide) ?_ ?_
                · refine A_aload_n hC dX11_findSpan_202 rfl ?_
                  refine A_getr (kf := 21) hC kX11 (lM_0 hL) rfl (by decide) (by decide) rfl rfl w_1024 dX11_findSpan_203 ?_
                  refine A_iload hC dX11_findSpan_206 rfl ?_
                  refine A_iald hC (lM_21 hL) dX11_findSpan_208 ?_
                  refine A_ineg hC dX11_findSpan_209 ?_
                  exact A_to (hj210 (-(D28.1 21 x22.toNatClampNeg)) D28) (And.intro rfl (And.intro rfl (And.intro rfl (And.intro rfl (And.intro rfl (trivial))))))
                · refine A_aload_n hC dX11_findSpan_192 rfl ?_
                  refine A_getr (kf := 22) hC kX11 (lM_0 hL) rfl (by decide) (by decide) rfl rfl w_1025 dX11_findSpan_193 ?_
                  refine A_iload hC dX11_findSpan_196 rfl ?_
                  refine A_iald hC (lM_22 hL) dX11_findSpan_198 ?_
                  refine A_goto (tgt := 210) hC dX11_findSpan_199 (by decide) ?_
                  exact A_to (hj210 (D28.1 22 x22.toNatClampNeg) D28) (And.intro rfl (And.intro rfl (And.intro rfl (And.intro rfl (And.intro rfl (trivial))))))
              refine A_if_ne (tgt := 171) hC dX11_findSpan_158 (by decide) ?_ ?_
              · refine A_aload_n hC dX11_findSpan_171 rfl ?_
                refine A_getr (kf := 22) hC kX11 (lM_0 hL) rfl (by decide) (by decide) rfl rfl w_1025 dX11_findSpan_172 ?_
                refine A_iload hC dX11_findSpan_175 rfl ?_
                refine A_iald hC (lM_22 hL) dX11_findSpan_177 ?_
                refine A_ineg hC dX11_findSpan_178 ?_
                exact A_to (hj179 (-(D27.1 22 x22.toNatClampNeg)) D27) (And.intro rfl (And.intro rfl (And.intro rfl (And.intro rfl (And.intro rfl (trivial))))))
              · refine A_aload_n hC dX11_findSpan_161 rfl ?_
                refine A_getr (kf := 21) hC kX11 (lM_0 hL) rfl (by decide) (by decide) rfl rfl w_1024 dX11_findSpan_162 ?_
                refine A_iload hC dX11_findSpan_165 rfl ?_
                refine A_iald hC (lM_21 hL) dX11_findSpan_167 ?_
                refine A_goto (tgt := 179) hC dX11_findSpan_168 (by decide) ?_
                exact A_to (hj179 (D27.1 21 x22.toNatClampNeg) D27) (And.intro rfl (And.intro rfl (And.intro rfl (And.intro rfl (And.intro rfl (trivial))))))
          refine A_icmp_ge (tgt := 142) hC dX11_findSpan_135 (by decide) ?_ ?_
          · refine A_iconst (v := 0) hC dX11_findSpan_142 (by decide) ?_
            exact A_to (hj143 (0 : Int32) D25) (And.intro rfl (And.intro rfl (And.intro rfl (And.intro rfl (And.intro rfl (trivial))))))
          · refine A_iconst (v := 1) hC dX11_findSpan_138 (by decide) ?_
            refine A_goto (tgt := 143) hC dX11_findSpan_139 (by decide) ?_
            exact A_to (hj143 (1 : Int32) D25) (And.intro rfl (And.intro rfl (And.intro rfl (And.intro rfl (And.intro rfl (trivial))))))
  exact A_to (hj102 (0 : Int32) (0 : Int32) (1 : Int32) (0 : Int32) D14) (And.intro rfl (And.intro rfl (And.intro rfl (And.intro rfl (And.intro rfl (And.intro rfl (trivial)))))))
def fX11_isChosen (a1 : Int32) (D : ADD) : Option (Int32 × ADD) := aBind (fX11_f a1 (5 : Int32) D) (fun x1 D1 => aIn (1 : Int32) 8 (aLet (fun (x2 : Int32) (D2 : ADD) => aIn (0 : Int32) 4 (aLet (fun (x3 : Int32) (D3 : ADD) => aBind (fX11_f a1 (9 : Int32) D3) (fun x4 D4 => aLet (fun (x5 : Int32) (D5 : ADD) => aZ x5 (some (x5, D5))) (fun (j145 : Int32 → ADD → Option (Int32 × ADD)) => aLet (fun (D6 : ADD) => j145 (0 : Int32) D6) (fun (j144 : ADD → Option (Int32 × ADD)) => (if x4 = (1 : Int32) then aIn (0 : Int32) 4 (aBind (fX11_f a1 (4 : Int32) D4) (fun x6 D7 => (if (((D4.1 11 (0 : Int32).toNatClampNeg) >>> (x6 &&& 31)) &&& (1 : Int32)) = 0 then j144 D7 else aIn (0 : Int32) 4 (aBind (fX11_f a1 (1 : Int32) D7) (fun x7 D8 => (if (((D7.1 12 (0 : Int32).toNatClampNeg) >>> (x7 &&& 31)) &&& (1 : Int32)) = 0 then j144 D8 else (if x2 = 0 then j144 D8 else (if x3 = 0 then j144 D8 else j145 (1 : Int32) D8)))))))) else j144 D4))))) (fun (j84 : Int32 → ADD → Option (Int32 × ADD)) => aLet (fun (D9 : ADD) => j84 (1 : Int32) D9) (fun (j79 : ADD → Option (Int32 × ADD)) => (if (D2.1 14 (0 : Int32).toNatClampNeg) = 0 then j79 D2 else aIn (0 : Int32) 4 (aLet (fun (x8 : Int32) (D10 : ADD) => aBind (fX11_f a1 (7 : Int32) D10) (fun x9 D11 => aLet (fun (x10 : Int32) (D12 : ADD) => (if x8 = x10 then j79 D12 else j84 (0 : Int32) D12)) (fun (j76 : Int32 → ADD → Option (Int32 × ADD)) => (if x9 ≤ 0 then j76 (0 : Int32) D11 else j76 (1 : Int32) D11)))) (fun (j61 : Int32 → ADD → Option (Int32 × ADD)) => (if (D2.1 14 (0 : Int32).toNatClampNeg) = (1 : Int32) then j61 (1 : Int32) D2 else j61 (0 : Int32) D2)))))))) (fun (j36 : Int32 → ADD → Option (Int32 × ADD)) => aLet (fun (D13 : ADD) => j36 (0 : Int32) D13) (fun (j35 : ADD → Option (Int32 × ADD)) => (if (D1.1 13 (1 : Int32).toNatClampNeg) < x1 then j35 D1 else aBind (fX11_f a1 (6 : Int32) D1) (fun x11 D14 => aIn (0 : Int32) 8 ((if x11 < (D14.1 13 (0 : Int32).toNatClampNeg) then j35 D14 else j36 (1 : Int32) D14))))))))
set_option maxHeartbeats 4000000 in
set_option maxRecDepth 100000 in
theorem mX11_isChosen (l : Launch) (g : AGl) (hL : aLM g) (a1 : Int32) (D : ADD) : AM aVi l yX11_isChosen cX11_isChosen 4 (some .boolean) 1 g [.ref (g.1 + 0), .int a1] D (fX11_isChosen a1 D) := by
  refine AM_of (lv0 := [some (.ref (g.1 + 0)), some (.int a1), none, none]) (own := RX11) (by decide +kernel) rfl (Nat.le_of_ble_eq_true rfl) rfl (fun b hC => ?_)
  unfold fX11_isChosen
  refine A_aload_n hC dX11_isChosen_0 rfl ?_
  refine A_iload_n hC dX11_isChosen_1 rfl ?_
  refine A_iconst (v := 5) hC dX11_isChosen_2 (by decide) ?_
  refine A_callVi (As := [.int a1, .int (5 : Int32)]) (st := []) hC (fun l => mX11_f l g hL a1 (5 : Int32) D) (lM_0 hL) rfl (Nat.le_of_ble_eq_true rfl) yc_X11_291 rfl rfl ⟨by decide, by decide⟩ (Nat.le_of_ble_eq_true rfl) rfl dX11_isChosen_3 (fun x1 D1 => ?_)
  refine A_aload_n hC dX11_isChosen_6 rfl ?_
  refine A_getr (kf := 13) hC kX11 (lM_0 hL) rfl (by decide) (by decide) rfl rfl w_1016 dX11_isChosen_7 ?_
  refine A_iconst (v := 1) hC dX11_isChosen_10 (by decide) ?_
  refine A_iald hC (lM_13 hL) dX11_isChosen_11 ?_
  refine A_join (fun (J : Int32 → ADD → Option (Int32 × ADD)) => ∀ (x2 : Int32) (D2 : ADD), AT aVi g b 36 [some (.ref (g.1 + 0)), some (.int a1), none, none] [.int x2] D2 (J x2 D2)) (fun x2 D2 => ?_) (fun j36 hj36 => ?_)
  · refine A_istore_n (lv2 := [some (.ref (g.1 + 0)), some (.int a1), some (.int x2), none]) hC dX11_isChosen_36 (Nat.le_of_ble_eq_true rfl) rfl rfl ?_
    refine A_aload_n hC dX11_isChosen_37 rfl ?_
    refine A_getr (kf := 14) hC kX11 (lM_0 hL) rfl (by decide) (by decide) rfl rfl w_1017 dX11_isChosen_38 ?_
    refine A_iconst (v := 0) hC dX11_isChosen_41 (by decide) ?_
    refine A_iald hC (lM_14 hL) dX11_isChosen_42 ?_
    refine A_join (fun (J : Int32 → ADD → Option (Int32 × ADD)) => ∀ (x3 : Int32) (D3 : ADD), AT aVi g b 84 [some (.ref (g.1 + 0)), some (.int a1), some (.int x2), none] [.int x3] D3 (J x3 D3)) (fun x3 D3 => ?_) (fun j84 hj84 => ?_)
    · refine A_istore_n (lv2 := [some (.ref (g.1 + 0)), some (.int a1), some (.int x2), some (.int x3)]) hC dX11_isChosen_84 (Nat.le_of_ble_eq_true rfl) rfl rfl ?_
      refine A_aload_n hC dX11_isChosen_85 rfl ?_
      refine A_iload_n hC dX11_isChosen_86 rfl ?_
      refine A_bipush (v := 9) hC dX11_isChosen_87 (by decide) ?_
      refine A_callVi (As := [.int a1, .int (9 : Int32)]) (st := []) hC (fun l => mX11_f l g hL a1 (9 : Int32) D3) (lM_0 hL) rfl (Nat.le_of_ble_eq_true rfl) yc_X11_291 rfl rfl ⟨by decide, by decide⟩ (Nat.le_of_ble_eq_true rfl) rfl dX11_isChosen_89 (fun x4 D4 => ?_)
      refine A_iconst (v := 1) hC dX11_isChosen_92 (by decide) ?_
      refine A_join (fun (J : Int32 → ADD → Option (Int32 × ADD)) => ∀ (x5 : Int32) (D5 : ADD), AT aVi g b 145 [none, none, none, none] [.int x5] D5 (J x5 D5)) (fun x5 D5 => ?_) (fun j145 hj145 => ?_)
      · exact A_zretc hC dX11_isChosen_145
      refine A_join (fun (J : ADD → Option (Int32 × ADD)) => ∀ (D6 : ADD), AT aVi g b 144 [none, none, none, none] [] D6 (J D6)) (fun D6 => ?_) (fun j144 hj144 => ?_)
      · refine A_iconst (v := 0) hC dX11_isChosen_144 (by decide) ?_
        exact A_to (hj145 (0 : Int32) D6) (trivial)
      refine A_icmp_ne (tgt := 144) hC dX11_isChosen_93 (by decide) ?_ ?_
      · exact A_to (hj144 D4) (trivial)
      · refine A_aload_n hC dX11_isChosen_96 rfl ?_
        refine A_getr (kf := 11) hC kX11 (lM_0 hL) rfl (by decide) (by decide) rfl rfl w_1014 dX11_isChosen_97 ?_
        refine A_iconst (v := 0) hC dX11_isChosen_100 (by decide) ?_
        refine A_iald hC (lM_11 hL) dX11_isChosen_101 ?_
        refine A_aload_n hC dX11_isChosen_102 rfl ?_
        refine A_iload_n hC dX11_isChosen_103 rfl ?_
        refine A_iconst (v := 4) hC dX11_isChosen_104 (by decide) ?_
        refine A_callVi (As := [.int a1, .int (4 : Int32)]) (st := [.int (D4.1 11 (0 : Int32).toNatClampNeg)]) hC (fun l => mX11_f l g hL a1 (4 : Int32) D4) (lM_0 hL) rfl (Nat.le_of_ble_eq_true rfl) yc_X11_291 rfl rfl ⟨by decide, by decide⟩ (Nat.le_of_ble_eq_true rfl) rfl dX11_isChosen_105 (fun x6 D7 => ?_)
        refine A_ishr hC dX11_isChosen_108 ?_
        refine A_iconst (v := 1) hC dX11_isChosen_109 (by decide) ?_
        refine A_iand hC dX11_isChosen_110 ?_
        refine A_if_eq (tgt := 144) hC dX11_isChosen_111 (by decide) ?_ ?_
        · exact A_to (hj144 D7) (trivial)
        · refine A_aload_n hC dX11_isChosen_114 rfl ?_
          refine A_getr (kf := 12) hC kX11 (lM_0 hL) rfl (by decide) (by decide) rfl rfl w_1015 dX11_isChosen_115 ?_
          refine A_iconst (v := 0) hC dX11_isChosen_118 (by decide) ?_
          refine A_iald hC (lM_12 hL) dX11_isChosen_119 ?_
          refine A_aload_n hC dX11_isChosen_120 rfl ?_
          refine A_iload_n hC dX11_isChosen_121 rfl ?_
          refine A_iconst (v := 1) hC dX11_isChosen_122 (by decide) ?_
          refine A_callVi (As := [.int a1, .int (1 : Int32)]) (st := [.int (D7.1 12 (0 : Int32).toNatClampNeg)]) hC (fun l => mX11_f l g hL a1 (1 : Int32) D7) (lM_0 hL) rfl (Nat.le_of_ble_eq_true rfl) yc_X11_291 rfl rfl ⟨by decide, by decide⟩ (Nat.le_of_ble_eq_true rfl) rfl dX11_isChosen_123 (fun x7 D8 => ?_)
          refine A_ishr hC dX11_isChosen_126 ?_
          refine A_iconst (v := 1) hC dX11_isChosen_127 (by decide) ?_
          refine A_iand hC dX11_isChosen_128 ?_
          refine A_if_eq (tgt := 144) hC dX11_isChosen_129 (by decide) ?_ ?_
          · exact A_to (hj144 D8) (trivial)
          · refine A_iload_n hC dX11_isChosen_132 rfl ?_
            refine A_if_eq (tgt := 144) hC dX11_isChosen_133 (by decide) ?_ ?_
            · exact A_to (hj144 D8) (trivial)
            · refine A_iload_n hC dX11_isChosen_136 rfl ?_
              refine A_if_eq (tgt := 144) hC dX11_isChosen_137 (by decide) ?_ ?_
              · exact A_to (hj144 D8) (trivial)
              · refine A_iconst (v := 1) hC dX11_isChosen_140 (by decide) ?_
                refine A_goto (tgt := 145) hC dX11_isChosen_141 (by decide) ?_
                exact A_to (hj145 (1 : Int32) D8) (trivial)
    refine A_join (fun (J : ADD → Option (Int32 × ADD)) => ∀ (D9 : ADD), AT aVi g b 79 [some (.ref (g.1 + 0)), some (.int a1), some (.int x2), none] [] D9 (J D9)) (fun D9 => ?_) (fun j79 hj79 => ?_)
    · refine A_iconst (v := 1) hC dX11_isChosen_79 (by decide) ?_
      refine A_goto (tgt := 84) hC dX11_isChosen_80 (by decide) ?_
      exact A_to (hj84 (1 : Int32) D9) (And.intro rfl (And.intro rfl (And.intro rfl (trivial))))
    refine A_if_eq (tgt := 79) hC dX11_isChosen_43 (by decide) ?_ ?_
    · exact A_to (hj79 D2) (And.intro rfl (And.intro rfl (And.intro rfl (trivial))))
    · refine A_aload_n hC dX11_isChosen_46 rfl ?_
      refine A_getr (kf := 14) hC kX11 (lM_0 hL) rfl (by decide) (by decide) rfl rfl w_1017 dX11_isChosen_47 ?_
      refine A_iconst (v := 0) hC dX11_isChosen_50 (by decide) ?_
      refine A_iald hC (lM_14 hL) dX11_isChosen_51 ?_
      refine A_iconst (v := 1) hC dX11_isChosen_52 (by decide) ?_
      refine A_join (fun (J : Int32 → ADD → Option (Int32 × ADD)) => ∀ (x8 : Int32) (D10 : ADD), AT aVi g b 61 [some (.ref (g.1 + 0)), some (.int a1), some (.int x2), none] [.int x8] D10 (J x8 D10)) (fun x8 D10 => ?_) (fun j61 hj61 => ?_)
      · refine A_aload_n hC dX11_isChosen_61 rfl ?_
        refine A_iload_n hC dX11_isChosen_62 rfl ?_
        refine A_bipush (v := 7) hC dX11_isChosen_63 (by decide) ?_
        refine A_callVi (As := [.int a1, .int (7 : Int32)]) (st := [.int x8]) hC (fun l => mX11_f l g hL a1 (7 : Int32) D10) (lM_0 hL) rfl (Nat.le_of_ble_eq_true rfl) yc_X11_291 rfl rfl ⟨by decide, by decide⟩ (Nat.le_of_ble_eq_true rfl) rfl dX11_isChosen_65 (fun x9 D11 => ?_)
        refine A_join (fun (J : Int32 → ADD → Option (Int32 × ADD)) => ∀ (x10 : Int32) (D12 : ADD), AT aVi g b 76 [some (.ref (g.1 + 0)), some (.int a1), some (.int x2), none] [.int x10, .int x8] D12 (J x10 D12)) (fun x10 D12 => ?_) (fun j76 hj76 => ?_)
        · refine A_icmp_ne (tgt := 83) hC dX11_isChosen_76 (by decide) ?_ ?_
          · refine A_iconst (v := 0) hC dX11_isChosen_83 (by decide) ?_
            exact A_to (hj84 (0 : Int32) D12) (And.intro rfl (And.intro rfl (And.intro rfl (trivial))))
          · exact A_to (hj79 D12) (And.intro rfl (And.intro rfl (And.intro rfl (trivial))))
        refine A_if_le (tgt := 75) hC dX11_isChosen_68 (by decide) ?_ ?_
        · refine A_iconst (v := 0) hC dX11_isChosen_75 (by decide) ?_
          exact A_to (hj76 (0 : Int32) D11) (And.intro rfl (And.intro rfl (And.intro rfl (trivial))))
        · refine A_iconst (v := 1) hC dX11_isChosen_71 (by decide) ?_
          refine A_goto (tgt := 76) hC dX11_isChosen_72 (by decide) ?_
          exact A_to (hj76 (1 : Int32) D11) (And.intro rfl (And.intro rfl (And.intro rfl (trivial))))
      refine A_icmp_ne (tgt := 60) hC dX11_isChosen_53 (by decide) ?_ ?_
      · refine A_iconst (v := 0) hC dX11_isChosen_60 (by decide) ?_
        exact A_to (hj61 (0 : Int32) D2) (And.intro rfl (And.intro rfl (And.intro rfl (trivial))))
      · refine A_iconst (v := 1) hC dX11_isChosen_56 (by decide) ?_
        refine A_goto (tgt := 61) hC dX11_isChosen_57 (by decide) ?_
        exact A_to (hj61 (1 : Int32) D2) (And.intro rfl (And.intro rfl (And.intro rfl (trivial))))
  refine A_join (fun (J : ADD → Option (Int32 × ADD)) => ∀ (D13 : ADD), AT aVi g b 35 [some (.ref (g.1 + 0)), some (.int a1), none, none] [] D13 (J D13)) (fun D13 => ?_) (fun j35 hj35 => ?_)
  · refine A_iconst (v := 0) hC dX11_isChosen_35 (by decide) ?_
    exact A_to (hj36 (0 : Int32) D13) (And.intro rfl (And.intro rfl (trivial)))
  refine A_icmp_gt (tgt := 35) hC dX11_isChosen_12 (by decide) ?_ ?_
  · exact A_to (hj35 D1) (And.intro rfl (And.intro rfl (trivial)))
  · refine A_aload_n hC dX11_isChosen_15 rfl ?_
    refine A_iload_n hC dX11_isChosen_16 rfl ?_
    refine A_bipush (v := 6) hC dX11_isChosen_17 (by decide) ?_
    refine A_callVi (As := [.int a1, .int (6 : Int32)]) (st := []) hC (fun l => mX11_f l g hL a1 (6 : Int32) D1) (lM_0 hL) rfl (Nat.le_of_ble_eq_true rfl) yc_X11_291 rfl rfl ⟨by decide, by decide⟩ (Nat.le_of_ble_eq_true rfl) rfl dX11_isChosen_19 (fun x11 D14 => ?_)
    refine A_aload_n hC dX11_isChosen_22 rfl ?_
    refine A_getr (kf := 13) hC kX11 (lM_0 hL) rfl (by decide) (by decide) rfl rfl w_1016 dX11_isChosen_23 ?_
    refine A_iconst (v := 0) hC dX11_isChosen_26 (by decide) ?_
    refine A_iald hC (lM_13 hL) dX11_isChosen_27 ?_
    refine A_icmp_lt (tgt := 35) hC dX11_isChosen_28 (by decide) ?_ ?_
    · exact A_to (hj35 D14) (And.intro rfl (And.intro rfl (trivial)))
    · refine A_iconst (v := 1) hC dX11_isChosen_31 (by decide) ?_
      refine A_goto (tgt := 36) hC dX11_isChosen_32 (by decide) ?_
      exact A_to (hj36 (1 : Int32) D14) (And.intro rfl (And.intro rfl (trivial)))
def fX11_isOfSet (a1 : Int32) (a2 : Int32) (D : ADD) : Option (Int32 × ADD) := aIn a1 32 (aLet (fun (x1 : Int32) (D1 : ADD) => aZ x1 (some (x1, D1))) (fun (j36 : Int32 → ADD → Option (Int32 × ADD)) => aLet (fun (D2 : ADD) => j36 (0 : Int32) D2) (fun (j35 : ADD → Option (Int32 × ADD)) => (if (aBz (D.1 31 a1.toNatClampNeg)) = 0 then j35 D else aBind (fX11_f a1 (9 : Int32) D) (fun x2 D3 => (if x2 = (1 : Int32) then aBind (fX11_f a1 (10 : Int32) D3) (fun x3 D4 => (if x3 = a2 then j36 (1 : Int32) D4 else j35 D4)) else j35 D3))))))
set_option maxHeartbeats 4000000 in
set_option maxRecDepth 100000 in
theorem mX11_isOfSet (l : Launch) (g : AGl) (hL : aLM g) (a1 : Int32) (a2 : Int32) (D : ADD) : AM aVi l yX11_isOfSet cX11_isOfSet 3 (some .boolean) 1 g [.ref (g.1 + 0), .int a1, .int a2] D (fX11_isOfSet a1 a2 D) := by
  refine AM_of (lv0 := [some (.ref (g.1 + 0)), some (.int a1), some (.int a2)]) (own := RX11) (by decide +kernel) rfl (Nat.le_of_ble_eq_true rfl) rfl (fun b hC => ?_)
  unfold fX11_isOfSet
  refine A_aload_n hC dX11_isOfSet_0 rfl ?_
  refine A_getr (kf := 42) hC kX11 (lM_0 hL) rfl (by decide) (by decide) rfl rfl w_1045 dX11_isOfSet_1 ?_
  refine A_iload_n hC dX11_isOfSet_4 rfl ?_
  refine A_zald hC (lM_31 hL) dX11_isOfSet_5 ?_
  refine A_join (fun (J : Int32 → ADD → Option (Int32 × ADD)) => ∀ (x1 : Int32) (D1 : ADD), AT aVi g b 36 [none, none, none] [.int x1] D1 (J x1 D1)) (fun x1 D1 => ?_) (fun j36 hj36 => ?_)
  · exact A_zretc hC dX11_isOfSet_36
  refine A_join (fun (J : ADD → Option (Int32 × ADD)) => ∀ (D2 : ADD), AT aVi g b 35 [none, none, none] [] D2 (J D2)) (fun D2 => ?_) (fun j35 hj35 => ?_)
  · refine A_iconst (v := 0) hC dX11_isOfSet_35 (by decide) ?_
    exact A_to (hj36 (0 : Int32) D2) (trivial)
  refine A_if_eq (tgt := 35) hC dX11_isOfSet_6 (by decide) ?_ ?_
  · exact A_to (hj35 D) (trivial)
  · refine A_aload_n hC dX11_isOfSet_9 rfl ?_
    refine A_iload_n hC dX11_isOfSet_10 rfl ?_
    refine A_bipush (v := 9) hC dX11_isOfSet_11 (by decide) ?_
    refine A_callVi (As := [.int a1, .int (9 : Int32)]) (st := []) hC (fun l => mX11_f l g hL a1 (9 : Int32) D) (lM_0 hL) rfl (Nat.le_of_ble_eq_true rfl) yc_X11_291 rfl rfl ⟨by decide, by decide⟩ (Nat.le_of_ble_eq_true rfl) rfl dX11_isOfSet_13 (fun x2 D3 => ?_)
    refine A_iconst (v := 1) hC dX11_isOfSet_16 (by decide) ?_
    refine A_icmp_ne (tgt := 35) hC dX11_isOfSet_17 (by decide) ?_ ?_
    · exact A_to (hj35 D3) (trivial)
    · refine A_aload_n hC dX11_isOfSet_20 rfl ?_
      refine A_iload_n hC dX11_isOfSet_21 rfl ?_
      refine A_bipush (v := 10) hC dX11_isOfSet_22 (by decide) ?_
      refine A_callVi (As := [.int a1, .int (10 : Int32)]) (st := []) hC (fun l => mX11_f l g hL a1 (10 : Int32) D3) (lM_0 hL) rfl (Nat.le_of_ble_eq_true rfl) yc_X11_291 rfl rfl ⟨by decide, by decide⟩ (Nat.le_of_ble_eq_true rfl) rfl dX11_isOfSet_24 (fun x3 D4 => ?_)
      refine A_iload_n hC dX11_isOfSet_27 rfl ?_
      refine A_icmp_ne (tgt := 35) hC dX11_isOfSet_28 (by decide) ?_ ?_
      · exact A_to (hj35 D4) (trivial)
      · refine A_iconst (v := 1) hC dX11_isOfSet_31 (by decide) ?_
        refine A_goto (tgt := 36) hC dX11_isOfSet_32 (by decide) ?_
        exact A_to (hj36 (1 : Int32) D4) (trivial)
def fX11_isPeak (a1 : Int32) (a2 : Int32) (a3 : Int32) (D : ADD) : Option (Int32 × ADD) := aLet (fun (x1 : Int32) (D1 : ADD) => aZ x1 (some (x1, D1))) (fun (j43 : Int32 → ADD → Option (Int32 × ADD)) => aLet (fun (D2 : ADD) => j43 (0 : Int32) D2) (fun (j42 : ADD → Option (Int32 × ADD)) => aLet (fun (D3 : ADD) => aLet (fun (D4 : ADD) => j43 (1 : Int32) D4) (fun (j38 : ADD → Option (Int32 × ADD)) => (if a3 = a2 then j38 D3 else aBind (fX11_against a1 a3 (a3 + (1 : Int32)) D3) (fun x2 D5 => (if (aCmp x2 (0 : Int64)) < 0 then j42 D5 else j38 D5))))) (fun (j19 : ADD → Option (Int32 × ADD)) => (if a3 = a1 then j19 D else aBind (fX11_against a1 a3 (a3 - (1 : Int32)) D) (fun x3 D6 => (if (aCmp x3 (0 : Int64)) ≤ 0 then j42 D6 else j19 D6))))))
set_option maxHeartbeats 4000000 in
set_option maxRecDepth 100000 in
theorem mX11_isPeak (l : Launch) (g : AGl) (hL : aLM g) (a1 : Int32) (a2 : Int32) (a3 : Int32) (D : ADD) : AM aVi l yX11_isPeak cX11_isPeak 4 (some .boolean) 1 g [.ref (g.1 + 0), .int a1, .int a2, .int a3] D (fX11_isPeak a1 a2 a3 D) := by
  refine AM_of (lv0 := [some (.ref (g.1 + 0)), some (.int a1), some (.int a2), some (.int a3)]) (own := RX11) (by decide +kernel) rfl (Nat.le_of_ble_eq_true rfl) rfl (fun b hC => ?_)
  unfold fX11_isPeak
  refine A_iload_n hC dX11_isPeak_0 rfl ?_
  refine A_iload_n hC dX11_isPeak_1 rfl ?_
  refine A_join (fun (J : Int32 → ADD → Option (Int32 × ADD)) => ∀ (x1 : Int32) (D1 : ADD), AT aVi g b 43 [none, none, none, none] [.int x1] D1 (J x1 D1)) (fun x1 D1 => ?_) (fun j43 hj43 => ?_)
  · exact A_zretc hC dX11_isPeak_43
  refine A_join (fun (J : ADD → Option (Int32 × ADD)) => ∀ (D2 : ADD), AT aVi g b 42 [none, none, none, none] [] D2 (J D2)) (fun D2 => ?_) (fun j42 hj42 => ?_)
  · refine A_iconst (v := 0) hC dX11_isPeak_42 (by decide) ?_
    exact A_to (hj43 (0 : Int32) D2) (trivial)
  refine A_join (fun (J : ADD → Option (Int32 × ADD)) => ∀ (D3 : ADD), AT aVi g b 19 [some (.ref (g.1 + 0)), some (.int a1), some (.int a2), some (.int a3)] [] D3 (J D3)) (fun D3 => ?_) (fun j19 hj19 => ?_)
  · refine A_iload_n hC dX11_isPeak_19 rfl ?_
    refine A_iload_n hC dX11_isPeak_20 rfl ?_
    refine A_join (fun (J : ADD → Option (Int32 × ADD)) => ∀ (D4 : ADD), AT aVi g b 38 [none, none, none, none] [] D4 (J D4)) (fun D4 => ?_) (fun j38 hj38 => ?_)
    · refine A_iconst (v := 1) hC dX11_isPeak_38 (by decide) ?_
      refine A_goto (tgt := 43) hC dX11_isPeak_39 (by decide) ?_
      exact A_to (hj43 (1 : Int32) D4) (trivial)
    refine A_icmp_eq (tgt := 38) hC dX11_isPeak_21 (by decide) ?_ ?_
    · exact A_to (hj38 D3) (trivial)
    · refine A_aload_n hC dX11_isPeak_24 rfl ?_
      refine A_iload_n hC dX11_isPeak_25 rfl ?_
      refine A_iload_n hC dX11_isPeak_26 rfl ?_
      refine A_iload_n hC dX11_isPeak_27 rfl ?_
      refine A_iconst (v := 1) hC dX11_isPeak_28 (by decide) ?_
      refine A_iadd hC dX11_isPeak_29 ?_
      refine A_callVl (As := [.int a1, .int a3, .int (a3 + (1 : Int32))]) (st := []) hC (fun l => mX11_against l g hL a1 a3 (a3 + (1 : Int32)) D3) (lM_0 hL) rfl (Nat.le_of_ble_eq_true rfl) yc_X11_336 rfl rfl ⟨by decide, by decide⟩ (Nat.le_of_ble_eq_true rfl) rfl dX11_isPeak_30 (fun x2 D5 => ?_)
      refine A_lconst (v := 0) hC dX11_isPeak_33 (by decide) ?_
      refine A_lcmp hC dX11_isPeak_34 ?_
      refine A_if_lt (tgt := 42) hC dX11_isPeak_35 (by decide) ?_ ?_
      · exact A_to (hj42 D5) (trivial)
      · exact A_to (hj38 D5) (trivial)
  refine A_icmp_eq (tgt := 19) hC dX11_isPeak_2 (by decide) ?_ ?_
  · exact A_to (hj19 D) (And.intro rfl (And.intro rfl (And.intro rfl (And.intro rfl (trivial)))))
  · refine A_aload_n hC dX11_isPeak_5 rfl ?_
    refine A_iload_n hC dX11_isPeak_6 rfl ?_
    refine A_iload_n hC dX11_isPeak_7 rfl ?_
    refine A_iload_n hC dX11_isPeak_8 rfl ?_
    refine A_iconst (v := 1) hC dX11_isPeak_9 (by decide) ?_
    refine A_isub hC dX11_isPeak_10 ?_
    refine A_callVl (As := [.int a1, .int a3, .int (a3 - (1 : Int32))]) (st := []) hC (fun l => mX11_against l g hL a1 a3 (a3 - (1 : Int32)) D) (lM_0 hL) rfl (Nat.le_of_ble_eq_true rfl) yc_X11_336 rfl rfl ⟨by decide, by decide⟩ (Nat.le_of_ble_eq_true rfl) rfl dX11_isPeak_11 (fun x3 D6 => ?_)
    refine A_lconst (v := 0) hC dX11_isPeak_14 (by decide) ?_
    refine A_lcmp hC dX11_isPeak_15 ?_
    refine A_if_le (tgt := 42) hC dX11_isPeak_16 (by decide) ?_ ?_
    · exact A_to (hj42 D6) (trivial)
    · exact A_to (hj19 D6) (And.intro rfl (And.intro rfl (And.intro rfl (And.intro rfl (trivial)))))
def fX11_isStone (a1 : Int32) (D : ADD) : Option (Int32 × ADD) := aIn (0 : Int32) 4 (aBind (fX11_is a1 (0 : Int32) ((D.1 5 (0 : Int32).toNatClampNeg) - (1 : Int32)) D) (fun x1 D1 => aLet (fun (x2 : Int32) (D2 : ADD) => aZ x2 (some (x2, D2))) (fun (j36 : Int32 → ADD → Option (Int32 × ADD)) => aLet (fun (D3 : ADD) => j36 (0 : Int32) D3) (fun (j35 : ADD → Option (Int32 × ADD)) => (if x1 = 0 then j35 D1 else aIn ((3 : Int32) * a1) 384 (aBind (fX11_dayOfView D1) (fun x3 D4 => (if x3 < (D1.1 10 ((3 : Int32) * a1).toNatClampNeg) then j35 D4 else j36 (1 : Int32) D4))))))))
set_option maxHeartbeats 4000000 in
set_option maxRecDepth 100000 in
theorem mX11_isStone (l : Launch) (g : AGl) (hL : aLM g) (a1 : Int32) (D : ADD) : AM aVi l yX11_isStone cX11_isStone 2 (some .boolean) 1 g [.ref (g.1 + 0), .int a1] D (fX11_isStone a1 D) := by
  refine AM_of (lv0 := [some (.ref (g.1 + 0)), some (.int a1)]) (own := RX11) (by decide +kernel) rfl (Nat.le_of_ble_eq_true rfl) rfl (fun b hC => ?_)
  unfold fX11_isStone
  refine A_iload_n hC dX11_isStone_0 rfl ?_
  refine A_iconst (v := 0) hC dX11_isStone_1 (by decide) ?_
  refine A_aload_n hC dX11_isStone_2 rfl ?_
  refine A_getr (kf := 5) hC kX11 (lM_0 hL) rfl (by decide) (by decide) rfl rfl w_1008 dX11_isStone_3 ?_
  refine A_iconst (v := 0) hC dX11_isStone_6 (by decide) ?_
  refine A_iald hC (lM_5 hL) dX11_isStone_7 ?_
  refine A_iconst (v := 1) hC dX11_isStone_8 (by decide) ?_
  refine A_isub hC dX11_isStone_9 ?_
  refine A_callSi (As := [.int a1, .int (0 : Int32), .int ((D.1 5 (0 : Int32).toNatClampNeg) - (1 : Int32))]) (st := []) hC (fun l => mX11_is l g a1 (0 : Int32) ((D.1 5 (0 : Int32).toNatClampNeg) - (1 : Int32)) D) yc_X11_138 rfl rfl ⟨by decide, by decide⟩ (Nat.le_of_ble_eq_true rfl) rfl dX11_isStone_10 (fun x1 D1 => ?_)
  refine A_join (fun (J : Int32 → ADD → Option (Int32 × ADD)) => ∀ (x2 : Int32) (D2 : ADD), AT aVi g b 36 [none, none] [.int x2] D2 (J x2 D2)) (fun x2 D2 => ?_) (fun j36 hj36 => ?_)
  · exact A_zretc hC dX11_isStone_36
  refine A_join (fun (J : ADD → Option (Int32 × ADD)) => ∀ (D3 : ADD), AT aVi g b 35 [none, none] [] D3 (J D3)) (fun D3 => ?_) (fun j35 hj35 => ?_)
  · refine A_iconst (v := 0) hC dX11_isStone_35 (by decide) ?_
    exact A_to (hj36 (0 : Int32) D3) (trivial)
  refine A_if_eq (tgt := 35) hC dX11_isStone_13 (by decide) ?_ ?_
  · exact A_to (hj35 D1) (trivial)
  · refine A_aload_n hC dX11_isStone_16 rfl ?_
    refine A_getr (kf := 10) hC kX11 (lM_0 hL) rfl (by decide) (by decide) rfl rfl w_1013 dX11_isStone_17 ?_
    refine A_iconst (v := 3) hC dX11_isStone_20 (by decide) ?_
    refine A_iload_n hC dX11_isStone_21 rfl ?_
    refine A_imul hC dX11_isStone_22 ?_
    refine A_iald hC (lM_10 hL) dX11_isStone_23 ?_
    refine A_aload_n hC dX11_isStone_24 rfl ?_
    refine A_callVi (As := []) (st := [.int (D1.1 10 ((3 : Int32) * a1).toNatClampNeg)]) hC (fun l => mX11_dayOfView l g hL D1) (lM_0 hL) rfl (Nat.le_of_ble_eq_true rfl) yc_X11_142 rfl rfl ⟨by decide, by decide⟩ (Nat.le_of_ble_eq_true rfl) rfl dX11_isStone_25 (fun x3 D4 => ?_)
    refine A_icmp_gt (tgt := 35) hC dX11_isStone_28 (by decide) ?_ ?_
    · exact A_to (hj35 D4) (trivial)
    · refine A_iconst (v := 1) hC dX11_isStone_31 (by decide) ?_
      refine A_goto (tgt := 36) hC dX11_isStone_32 (by decide) ?_
      exact A_to (hj36 (1 : Int32) D4) (trivial)
def fX11_isUnit (a1 : Int32) (D : ADD) : Option (Int32 × ADD) := aBind (fX11_is a1 (10 : Int32) (2000 : Int32) D) (fun x1 D1 => aZ x1 (some (x1, D1)))
set_option maxHeartbeats 4000000 in
set_option maxRecDepth 100000 in
theorem mX11_isUnit (l : Launch) (g : AGl) (a1 : Int32) (D : ADD) : AM aVi l yX11_isUnit cX11_isUnit 1 (some .boolean) 1 g [.int a1] D (fX11_isUnit a1 D) := by
  refine AM_of (lv0 := [some (.int a1)]) (own := RX11) (by decide +kernel) rfl (Nat.le_of_ble_eq_true rfl) rfl (fun b hC => ?_)
  unfold fX11_isUnit
  refine A_iload_n hC dX11_isUnit_0 rfl ?_
  refine A_bipush (v := 10) hC dX11_isUnit_1 (by decide) ?_
  refine A_sipush (v := 2000) hC dX11_isUnit_3 (by decide) ?_
  refine A_callSi (As := [.int a1, .int (10 : Int32), .int (2000 : Int32)]) (st := []) hC (fun l => mX11_is l g a1 (10 : Int32) (2000 : Int32) D) yc_X11_138 rfl rfl ⟨by decide, by decide⟩ (Nat.le_of_ble_eq_true rfl) rfl dX11_isUnit_6 (fun x1 D1 => ?_)
  exact A_zretc hC dX11_isUnit_9
def lX11_likely_4 (a1 : Int32) (a2 : Int32) (j64 : Int32 → ADD → Option (Int32 × ADD)) (L4 : Int32 → Int32 → ADD → Option (Int32 × ADD)) (x2 : Int32) (x3 : Int32) (D2 : ADD) : Option (Int32 × ADD) := (if a1 ≤ x3 then j64 x2 D2 else aBind (fX11_far x3 (x3 + a2) (0 : Int32) D2) (fun x4 D3 => aBind (fX11_far x3 (x3 + a2) a1 D3) (fun x5 D4 => aLet (fun (x6 : Int32) (D5 : ADD) => aLet (fun (x7 : Int32) (D6 : ADD) => aLet (x2 + x7) (fun x8 => aLet (x3 + (1 : Int32)) (fun x9 => L4 x8 x9 D6))) (fun (j56 : Int32 → ADD → Option (Int32 × ADD)) => (if a1 < ((8 : Int32) * x6) then j56 (0 : Int32) D5 else j56 (1 : Int32) D5))) (fun (j46 : Int32 → ADD → Option (Int32 × ADD)) => (if x5 ≤ x4 then j46 x5 D4 else j46 x4 D4)))))
def fX11_likely (a1 : Int32) (a2 : Int32) (D : ADD) : Option (Int32 × ADD) := aLet (fun (x1 : Int32) (D1 : ADD) => some (x1, D1)) (fun (j64 : Int32 → ADD → Option (Int32 × ADD)) => aLet (aFix aFuel (lX11_likely_4 a1 a2 j64) (fun _ _ _ => none)) (fun j4 => j4 (0 : Int32) (0 : Int32) D))
set_option maxHeartbeats 4000000 in
set_option maxRecDepth 100000 in
theorem mX11_likely (l : Launch) (g : AGl) (a1 : Int32) (a2 : Int32) (D : ADD) : AM aVi l yX11_likely cX11_likely 6 (some .int) 1 g [.int a1, .int a2] D (fX11_likely a1 a2 D) := by
  refine AM_of (lv0 := [some (.int a1), some (.int a2), none, none, none, none]) (own := RX11) (by decide +kernel) rfl (Nat.le_of_ble_eq_true rfl) rfl (fun b hC => ?_)
  unfold fX11_likely
  refine A_iconst (v := 0) hC dX11_likely_0 (by decide) ?_
  refine A_istore_n (lv2 := [some (.int a1), some (.int a2), some (.int (0 : Int32)), none, none, none]) hC dX11_likely_1 (Nat.le_of_ble_eq_true rfl) rfl rfl ?_
  refine A_iconst (v := 0) hC dX11_likely_2 (by decide) ?_
  refine A_istore_n (lv2 := [some (.int a1), some (.int a2), some (.int (0 : Int32)), some (.int (0 : Int32)), none, none]) hC dX11_likely_3 (Nat.le_of_ble_eq_true rfl) rfl rfl ?_
  refine A_join (fun (J : Int32 → ADD → Option (Int32 × ADD)) => ∀ (x1 : Int32) (D1 : ADD), AT aVi g b 64 [none, none, some (.int x1), none, none, none] [] D1 (J x1 D1)) (fun x1 D1 => ?_) (fun j64 hj64 => ?_)
  · refine A_iload_n hC dX11_likely_64 rfl ?_
    exact A_iret hC dX11_likely_65
  refine A_join (fun (J : Int32 → Int32 → ADD → Option (Int32 × ADD)) => ∀ (x2 : Int32) (x3 : Int32) (D2 : ADD), AT aVi g b 4 [some (.int a1), some (.int a2), some (.int x2), some (.int x3), none, none] [] D2 (J x2 x3 D2)) (aFix_all (fun (J : Int32 → Int32 → ADD → Option (Int32 × ADD)) => ∀ (x2 : Int32) (x3 : Int32) (D2 : ADD), AT aVi g b 4 [some (.int a1), some (.int a2), some (.int x2), some (.int x3), none, none] [] D2 (J x2 x3 D2)) (fun _ _ _ => A_none) (fun L4 hL4 x2 x3 D2 => ?_) _) (fun j4 hj4 => ?_)
  · unfold lX11_likely_4
    refine A_iload_n hC dX11_likely_4 rfl ?_
    refine A_iload_n hC dX11_likely_5 rfl ?_
    refine A_icmp_ge (tgt := 64) hC dX11_likely_6 (by decide) ?_ ?_
    · exact A_to (hj64 x2 D2) (And.intro rfl (trivial))
    · refine A_iload_n hC dX11_likely_9 rfl ?_
      refine A_iload_n hC dX11_likely_10 rfl ?_
      refine A_iload_n hC dX11_likely_11 rfl ?_
      refine A_iadd hC dX11_likely_12 ?_
      refine A_iconst (v := 0) hC dX11_likely_13 (by decide) ?_
      refine A_callSi (As := [.int x3, .int (x3 + a2), .int (0 : Int32)]) (st := []) hC (fun l => mX11_far l g x3 (x3 + a2) (0 : Int32) D2) yc_X11_317 rfl rfl ⟨by decide, by decide⟩ (Nat.le_of_ble_eq_true rfl) rfl dX11_likely_14 (fun x4 D3 => ?_)
      refine A_istore (lv2 := [some (.int a1), some (.int a2), some (.int x2), some (.int x3), some (.int x4), none]) hC dX11_likely_17 (Nat.le_of_ble_eq_true rfl) rfl rfl ?_
      refine A_iload_n hC dX11_likely_19 rfl ?_
      refine A_iload_n hC dX11_likely_20 rfl ?_
      refine A_iload_n hC dX11_likely_21 rfl ?_
      refine A_iadd hC dX11_likely_22 ?_
      refine A_iload_n hC dX11_likely_23 rfl ?_
      refine A_callSi (As := [.int x3, .int (x3 + a2), .int a1]) (st := []) hC (fun l => mX11_far l g x3 (x3 + a2) a1 D3) yc_X11_317 rfl rfl ⟨by decide, by decide⟩ (Nat.le_of_ble_eq_true rfl) rfl dX11_likely_24 (fun x5 D4 => ?_)
      refine A_istore (lv2 := [some (.int a1), some (.int a2), some (.int x2), some (.int x3), some (.int x4), some (.int x5)]) hC dX11_likely_27 (Nat.le_of_ble_eq_true rfl) rfl rfl ?_
      refine A_iload_n hC dX11_likely_29 rfl ?_
      refine A_bipush (v := 8) hC dX11_likely_30 (by decide) ?_
      refine A_iload hC dX11_likely_32 rfl ?_
      refine A_iload hC dX11_likely_34 rfl ?_
      refine A_join (fun (J : Int32 → ADD → Option (Int32 × ADD)) => ∀ (x6 : Int32) (D5 : ADD), AT aVi g b 46 [some (.int a1), some (.int a2), none, some (.int x3), none, none] [.int x6, .int (8 : Int32), .int x2] D5 (J x6 D5)) (fun x6 D5 => ?_) (fun j46 hj46 => ?_)
      · refine A_imul hC dX11_likely_46 ?_
        refine A_iload_n hC dX11_likely_47 rfl ?_
        refine A_join (fun (J : Int32 → ADD → Option (Int32 × ADD)) => ∀ (x7 : Int32) (D6 : ADD), AT aVi g b 56 [some (.int a1), some (.int a2), none, some (.int x3), none, none] [.int x7, .int x2] D6 (J x7 D6)) (fun x7 D6 => ?_) (fun j56 hj56 => ?_)
        · refine A_iadd hC dX11_likely_56 ?_
          refine A_topi (fun x8 => ?_)
          refine A_istore_n (lv2 := [some (.int a1), some (.int a2), some (.int x8), some (.int x3), none, none]) hC dX11_likely_57 (Nat.le_of_ble_eq_true rfl) rfl rfl ?_
          refine A_iincL (z := (1 : Int32)) (lv2 := fun x9 => [some (.int a1), some (.int a2), some (.int x8), some (.int x9), none, none]) hC dX11_likely_58 rfl (by decide) (Nat.le_of_ble_eq_true rfl) rfl (fun _ => rfl) (fun x9 => ?_)
          refine A_goto (tgt := 4) hC dX11_likely_61 (by decide) ?_
          exact A_to (hL4 x8 x9 D6) (And.intro rfl (And.intro rfl (And.intro rfl (And.intro rfl (trivial)))))
        refine A_icmp_gt (tgt := 55) hC dX11_likely_48 (by decide) ?_ ?_
        · refine A_iconst (v := 0) hC dX11_likely_55 (by decide) ?_
          exact A_to (hj56 (0 : Int32) D5) (And.intro rfl (And.intro rfl (And.intro rfl (trivial))))
        · refine A_iconst (v := 1) hC dX11_likely_51 (by decide) ?_
          refine A_goto (tgt := 56) hC dX11_likely_52 (by decide) ?_
          exact A_to (hj56 (1 : Int32) D5) (And.intro rfl (And.intro rfl (And.intro rfl (trivial))))
      refine A_icmp_ge (tgt := 44) hC dX11_likely_36 (by decide) ?_ ?_
      · refine A_iload hC dX11_likely_44 rfl ?_
        exact A_to (hj46 x5 D4) (And.intro rfl (And.intro rfl (And.intro rfl (trivial))))
      · refine A_iload hC dX11_likely_39 rfl ?_
        refine A_goto (tgt := 46) hC dX11_likely_41 (by decide) ?_
        exact A_to (hj46 x4 D4) (And.intro rfl (And.intro rfl (And.intro rfl (trivial))))
  exact A_to (hj4 (0 : Int32) (0 : Int32) D) (And.intro rfl (And.intro rfl (And.intro rfl (And.intro rfl (trivial)))))
def lX11_next_79 (j126 : Int32 → ADD → Option (Unit × ADD)) (L79 : Int32 → ADD → Option (Unit × ADD)) (x7 : Int32) (D16 : ADD) : Option (Unit × ADD) := aBind (fX11_see D16) (fun x8 D17 => aBind (fX11_is x8 (97 : Int32) (122 : Int32) D17) (fun x9 D18 => (if x9 = 0 then j126 x7 D18 else aBind (fX11_see D18) (fun x10 D19 => aLet (aSL D19 0 28 (((D18.2 0 28) <<< ((8 : Int32).toInt64 &&& 63)) ||| x10.toInt64)) (fun D20 => aLet (aSI D20 0 23 ((D20.1 0 23) + (1 : Int32))) (fun D21 => aLet (x7 + (1 : Int32)) (fun x11 => L79 x11 D21)))))))
def lX11_next_168 (j229 : Int32 → ADD → Option (Unit × ADD)) (L168 : Int32 → ADD → Option (Unit × ADD)) (x16 : Int32) (D31 : ADD) : Option (Unit × ADD) := aBind (fX11_see D31) (fun x17 D32 => aBind (fX11_is x17 (48 : Int32) (57 : Int32) D32) (fun x18 D33 => (if x18 = 0 then j229 x16 D33 else aLet (fun (x19 : Int32) (D34 : ADD) => aLet (aSI D34 0 27 x19) (fun D35 => aLet (aSI D35 0 23 ((D35.1 0 23) + (1 : Int32))) (fun D36 => aLet (x16 + (1 : Int32)) (fun x20 => L168 x20 D36)))) (fun (j210 : Int32 → ADD → Option (Unit × ADD)) => (if (4 : Int32) ≤ x16 then j210 (D33.1 0 27) D33 else aBind (fX11_see D33) (fun x21 D37 => j210 ((((10 : Int32) * (D33.1 0 27)) + x21) - (48 : Int32)) D37))))))
def lX11_next_0 (L0 : ADD → Option (Unit × ADD)) (D1 : ADD) : Option (Unit × ADD) := aBind (fX11_see D1) (fun x1 D2 => aLet (fun (D3 : ADD) => aLet (aSI D3 0 23 ((D3.1 0 23) + (1 : Int32))) (fun D4 => L0 D4)) (fun (j18 : ADD → Option (Unit × ADD)) => (if x1 = (10 : Int32) then j18 D2 else aBind (fX11_see D2) (fun x2 D5 => (if x2 = (32 : Int32) then j18 D5 else aLet (aSI D5 0 25 (D5.1 0 23)) (fun D6 => aBind (fX11_see D6) (fun x3 D7 => aLet (aSI D7 0 27 x3) (fun D8 => aLet (aSL D8 0 28 (0 : Int64)) (fun D9 => aLet (fun (D10 : ADD) => some ((), D10)) (fun (j295 : ADD → Option (Unit × ADD)) => (if 0 ≤ x3 then aBind (fX11_is x3 (97 : Int32) (122 : Int32) D9) (fun x4 D11 => aLet (fun (x5 : Int32) (D12 : ADD) => aLet (fun (x6 : Int64) (D13 : ADD) => aLet (aSL D13 0 28 x6) (fun D14 => aLet (aSI D14 0 26 (2 : Int32)) (fun D15 => j295 D15))) (fun (j141 : Int64 → ADD → Option (Unit × ADD)) => (if x5 ≤ (8 : Int32) then j141 (D12.2 0 28) D12 else j141 (0 : Int64) D12))) (fun (j126 : Int32 → ADD → Option (Unit × ADD)) => aLet (aFix aFuel (lX11_next_79 j126) (fun _ _ => none)) (fun j79 => (if x4 = 0 then aBind (fX11_is x3 (48 : Int32) (57 : Int32) D11) (fun x12 D22 => (if x12 = 0 then aLet (aSI D22 0 23 ((D22.1 0 23) + (1 : Int32))) (fun D23 => aLet (fun (x13 : Int32) (D24 : ADD) => aLet (aSI D24 0 26 x13) (fun D25 => j295 D25)) (fun (j292 : Int32 → ADD → Option (Unit × ADD)) => aLet (fun (D26 : ADD) => j292 (4 : Int32) D26) (fun (j287 : ADD → Option (Unit × ADD)) => (if x3 = (58 : Int32) then j287 D23 else (if x3 = (59 : Int32) then j287 D23 else (if x3 = (60 : Int32) then j287 D23 else (if x3 = (62 : Int32) then j287 D23 else (if x3 = (61 : Int32) then j287 D23 else j292 (1 : Int32) D23)))))))) else aLet (aSI D22 0 27 (0 : Int32)) (fun D27 => aLet (fun (x14 : Int32) (D28 : ADD) => aLet (fun (x15 : Int32) (D29 : ADD) => aLet (aSI D29 0 26 x15) (fun D30 => j295 D30)) (fun (j240 : Int32 → ADD → Option (Unit × ADD)) => (if x14 ≤ (4 : Int32) then j240 (3 : Int32) D28 else j240 (1 : Int32) D28))) (fun (j229 : Int32 → ADD → Option (Unit × ADD)) => aLet (aFix aFuel (lX11_next_168 j229) (fun _ _ => none)) (fun j168 => j168 (0 : Int32) D27))))) else j79 (0 : Int32) D11)))) else aLet (aSI D9 0 26 (0 : Int32)) (fun D38 => j295 D38))))))))))))
def fX11_next (D : ADD) : Option (Unit × ADD) := aLet (aFix aFuel lX11_next_0 (fun _ => none)) (fun j0 => j0 D)
set_option maxHeartbeats 4000000 in
set_option maxRecDepth 100000 in
theorem mX11_next (l : Launch) (g : AGl) (hL : aLM g) (D : ADD) : AM aVv l yX11_next cX11_next 3 none 1 g [.ref (g.1 + 0)] D (fX11_next D) := by
  refine AM_of (lv0 := [some (.ref (g.1 + 0)), none, none]) (own := RX11) (by decide +kernel) rfl (Nat.le_of_ble_eq_true rfl) rfl (fun b hC => ?_)
  unfold fX11_next
  refine A_join (fun (J : ADD → Option (Unit × ADD)) => ∀ (D1 : ADD), AT aVv g b 0 [some (.ref (g.1 + 0)), none, none] [] D1 (J D1)) (aFix_all (fun (J : ADD → Option (Unit × ADD)) => ∀ (D1 : ADD), AT aVv g b 0 [some (.ref (g.1 + 0)), none, none] [] D1 (J D1)) (fun _ => A_none) (fun L0 hL0 D1 => ?_) _) (fun j0 hj0 => ?_)
  · unfold lX11_next_0
    refine A_aload_n hC dX11_next_0 rfl ?_
    refine A_callVi (As := []) (st := []) hC (fun l => mX11_see l g hL D1) (lM_0 hL) rfl (Nat.le_of_ble_eq_true rfl) yc_X11_172 rfl rfl ⟨by decide, by decide⟩ (Nat.le_of_ble_eq_true rfl) rfl dX11_next_1 (fun x1 D2 => ?_)
    refine A_bipush (v := 10) hC dX11_next_4 (by decide) ?_
    refine A_join (fun (J : ADD → Option (Unit × ADD)) => ∀ (D3 : ADD), AT aVv g b 18 [some (.ref (g.1 + 0)), none, none] [] D3 (J D3)) (fun D3 => ?_) (fun j18 hj18 => ?_)
    · refine A_aload_n hC dX11_next_18 rfl ?_
      refine A_dup hC dX11_next_19 rfl ?_
      refine A_geti (kf := 23) hC kX11 (lM_0 hL) rfl (by decide) (by decide) rfl w_1026 dX11_next_20 ?_
      refine A_iconst (v := 1) hC dX11_next_23 (by decide) ?_
      refine A_iadd hC dX11_next_24 ?_
      refine A_puti (kf := 23) hC kX11 (lM_0 hL) rfl (by decide) (by decide) rfl rfl rfl w_1026 dX11_next_25 (fun D4 => ?_)
      refine A_goto (tgt := 0) hC dX11_next_28 (by decide) ?_
      exact A_to (hL0 D4) (And.intro rfl (trivial))
    refine A_icmp_eq (tgt := 18) hC dX11_next_6 (by decide) ?_ ?_
    · exact A_to (hj18 D2) (And.intro rfl (trivial))
    · refine A_aload_n hC dX11_next_9 rfl ?_
      refine A_callVi (As := []) (st := []) hC (fun l => mX11_see l g hL D2) (lM_0 hL) rfl (Nat.le_of_ble_eq_true rfl) yc_X11_172 rfl rfl ⟨by decide, by decide⟩ (Nat.le_of_ble_eq_true rfl) rfl dX11_next_10 (fun x2 D5 => ?_)
      refine A_bipush (v := 32) hC dX11_next_13 (by decide) ?_
      refine A_icmp_ne (tgt := 31) hC dX11_next_15 (by decide) ?_ ?_
      · refine A_aload_n hC dX11_next_31 rfl ?_
        refine A_aload_n hC dX11_next_32 rfl ?_
        refine A_geti (kf := 23) hC kX11 (lM_0 hL) rfl (by decide) (by decide) rfl w_1026 dX11_next_33 ?_
        refine A_puti (kf := 25) hC kX11 (lM_0 hL) rfl (by decide) (by decide) rfl rfl rfl w_1028 dX11_next_36 (fun D6 => ?_)
        refine A_aload_n hC dX11_next_39 rfl ?_
        refine A_callVi (As := []) (st := []) hC (fun l => mX11_see l g hL D6) (lM_0 hL) rfl (Nat.le_of_ble_eq_true rfl) yc_X11_172 rfl rfl ⟨by decide, by decide⟩ (Nat.le_of_ble_eq_true rfl) rfl dX11_next_40 (fun x3 D7 => ?_)
        refine A_istore_n (lv2 := [some (.ref (g.1 + 0)), some (.int x3), none]) hC dX11_next_43 (Nat.le_of_ble_eq_true rfl) rfl rfl ?_
        refine A_aload_n hC dX11_next_44 rfl ?_
        refine A_iload_n hC dX11_next_45 rfl ?_
        refine A_puti (kf := 27) hC kX11 (lM_0 hL) rfl (by decide) (by decide) rfl rfl rfl w_1030 dX11_next_46 (fun D8 => ?_)
        refine A_aload_n hC dX11_next_49 rfl ?_
        refine A_lconst (v := 0) hC dX11_next_50 (by decide) ?_
        refine A_putl (kf := 28) hC kX11 (lM_0 hL) rfl (by decide) (by decide) rfl rfl rfl w_1031 dX11_next_51 (fun D9 => ?_)
        refine A_iconst (v := 0) hC dX11_next_54 (by decide) ?_
        refine A_istore_n (lv2 := [some (.ref (g.1 + 0)), some (.int x3), some (.int (0 : Int32))]) hC dX11_next_55 (Nat.le_of_ble_eq_true rfl) rfl rfl ?_
        refine A_iload_n hC dX11_next_56 rfl ?_
        refine A_join (fun (J : ADD → Option (Unit × ADD)) => ∀ (D10 : ADD), AT aVv g b 295 [none, none, none] [] D10 (J D10)) (fun D10 => ?_) (fun j295 hj295 => ?_)
        · exact A_vret hC dX11_next_295
        refine A_if_ge (tgt := 68) hC dX11_next_57 (by decide) ?_ ?_
        · refine A_iload_n hC dX11_next_68 rfl ?_
          refine A_bipush (v := 97) hC dX11_next_69 (by decide) ?_
          refine A_bipush (v := 122) hC dX11_next_71 (by decide) ?_
          refine A_callSi (As := [.int x3, .int (97 : Int32), .int (122 : Int32)]) (st := []) hC (fun l => mX11_is l g x3 (97 : Int32) (122 : Int32) D9) yc_X11_138 rfl rfl ⟨by decide, by decide⟩ (Nat.le_of_ble_eq_true rfl) rfl dX11_next_73 (fun x4 D11 => ?_)
          refine A_join (fun (J : Int32 → ADD → Option (Unit × ADD)) => ∀ (x5 : Int32) (D12 : ADD), AT aVv g b 126 [some (.ref (g.1 + 0)), none, some (.int x5)] [] D12 (J x5 D12)) (fun x5 D12 => ?_) (fun j126 hj126 => ?_)
          · refine A_aload_n hC dX11_next_126 rfl ?_
            refine A_iload_n hC dX11_next_127 rfl ?_
            refine A_bipush (v := 8) hC dX11_next_128 (by decide) ?_
            refine A_join (fun (J : Int64 → ADD → Option (Unit × ADD)) => ∀ (x6 : Int64) (D13 : ADD), AT aVv g b 141 [some (.ref (g.1 + 0)), none, none] [.long x6, .ref (g.1 + 0)] D13 (J x6 D13)) (fun x6 D13 => ?_) (fun j141 hj141 => ?_)
            · refine A_putl (kf := 28) hC kX11 (lM_0 hL) rfl (by decide) (by decide) rfl rfl rfl w_1031 dX11_next_141 (fun D14 => ?_)
              refine A_aload_n hC dX11_next_144 rfl ?_
              refine A_iconst (v := 2) hC dX11_next_145 (by decide) ?_
              refine A_puti (kf := 26) hC kX11 (lM_0 hL) rfl (by decide) (by decide) rfl rfl rfl w_1029 dX11_next_146 (fun D15 => ?_)
              refine A_goto (tgt := 295) hC dX11_next_149 (by decide) ?_
              exact A_to (hj295 D15) (trivial)
            refine A_icmp_le (tgt := 137) hC dX11_next_130 (by decide) ?_ ?_
            · refine A_aload_n hC dX11_next_137 rfl ?_
              refine A_getl (kf := 28) hC kX11 (lM_0 hL) rfl (by decide) (by decide) rfl w_1031 dX11_next_138 ?_
              exact A_to (hj141 (D12.2 0 28) D12) (And.intro rfl (trivial))
            · refine A_lconst (v := 0) hC dX11_next_133 (by decide) ?_
              refine A_goto (tgt := 141) hC dX11_next_134 (by decide) ?_
              exact A_to (hj141 (0 : Int64) D12) (And.intro rfl (trivial))
          refine A_join (fun (J : Int32 → ADD → Option (Unit × ADD)) => ∀ (x7 : Int32) (D16 : ADD), AT aVv g b 79 [some (.ref (g.1 + 0)), none, some (.int x7)] [] D16 (J x7 D16)) (aFix_all (fun (J : Int32 → ADD → Option (Unit × ADD)) => ∀ (x7 : Int32) (D16 : ADD), AT aVv g b 79 [some (.ref (g.1 + 0)), none, some (.int x7)] [] D16 (J x7 D16)) (fun _ _ => A_none) (fun L79 hL79 x7 D16 => ?_) _) (fun j79 hj79 => ?_)
          · unfold lX11_next_79
            refine A_aload_n hC dX11_next_79 rfl ?_
            refine A_callVi (As := []) (st := []) hC (fun l => mX11_see l g hL D16) (lM_0 hL) rfl (Nat.le_of_ble_eq_true rfl) yc_X11_172 rfl rfl ⟨by decide, by decide⟩ (Nat.le_of_ble_eq_true rfl) rfl dX11_next_80 (fun x8 D17 => ?_)
            refine A_bipush (v := 97) hC dX11_next_83 (by decide) ?_
            refine A_bipush (v := 122) hC dX11_next_85 (by decide) ?_
            refine A_callSi (As := [.int x8, .int (97 : Int32), .int (122 : Int32)]) (st := []) hC (fun l => mX11_is l g x8 (97 : Int32) (122 : Int32) D17) yc_X11_138 rfl rfl ⟨by decide, by decide⟩ (Nat.le_of_ble_eq_true rfl) rfl dX11_next_87 (fun x9 D18 => ?_)
            refine A_if_eq (tgt := 126) hC dX11_next_90 (by decide) ?_ ?_
            · exact A_to (hj126 x7 D18) (And.intro rfl (And.intro rfl (trivial)))
            · refine A_aload_n hC dX11_next_93 rfl ?_
              refine A_aload_n hC dX11_next_94 rfl ?_
              refine A_getl (kf := 28) hC kX11 (lM_0 hL) rfl (by decide) (by decide) rfl w_1031 dX11_next_95 ?_
              refine A_bipush (v := 8) hC dX11_next_98 (by decide) ?_
              refine A_lshl hC dX11_next_100 ?_
              refine A_aload_n hC dX11_next_101 rfl ?_
              refine A_callVi (As := []) (st := [.long ((D18.2 0 28) <<< ((8 : Int32).toInt64 &&& 63)), .ref (g.1 + 0)]) hC (fun l => mX11_see l g hL D18) (lM_0 hL) rfl (Nat.le_of_ble_eq_true rfl) yc_X11_172 rfl rfl ⟨by decide, by decide⟩ (Nat.le_of_ble_eq_true rfl) rfl dX11_next_102 (fun x10 D19 => ?_)
              refine A_i2l hC dX11_next_105 ?_
              refine A_lor hC dX11_next_106 ?_
              refine A_putl (kf := 28) hC kX11 (lM_0 hL) rfl (by decide) (by decide) rfl rfl rfl w_1031 dX11_next_107 (fun D20 => ?_)
              refine A_aload_n hC dX11_next_110 rfl ?_
              refine A_dup hC dX11_next_111 rfl ?_
              refine A_geti (kf := 23) hC kX11 (lM_0 hL) rfl (by decide) (by decide) rfl w_1026 dX11_next_112 ?_
              refine A_iconst (v := 1) hC dX11_next_115 (by decide) ?_
              refine A_iadd hC dX11_next_116 ?_
              refine A_puti (kf := 23) hC kX11 (lM_0 hL) rfl (by decide) (by decide) rfl rfl rfl w_1026 dX11_next_117 (fun D21 => ?_)
              refine A_iincL (z := (1 : Int32)) (lv2 := fun x11 => [some (.ref (g.1 + 0)), none, some (.int x11)]) hC dX11_next_120 rfl (by decide) (Nat.le_of_ble_eq_true rfl) rfl (fun _ => rfl) (fun x11 => ?_)
              refine A_goto (tgt := 79) hC dX11_next_123 (by decide) ?_
              exact A_to (hL79 x11 D21) (And.intro rfl (And.intro rfl (trivial)))
          refine A_if_eq (tgt := 152) hC dX11_next_76 (by decide) ?_ ?_
          · refine A_iload_n hC dX11_next_152 rfl ?_
            refine A_bipush (v := 48) hC dX11_next_153 (by decide) ?_
            refine A_bipush (v := 57) hC dX11_next_155 (by decide) ?_
            refine A_callSi (As := [.int x3, .int (48 : Int32), .int (57 : Int32)]) (st := []) hC (fun l => mX11_is l g x3 (48 : Int32) (57 : Int32) D11) yc_X11_138 rfl rfl ⟨by decide, by decide⟩ (Nat.le_of_ble_eq_true rfl) rfl dX11_next_157 (fun x12 D22 => ?_)
            refine A_if_eq (tgt := 246) hC dX11_next_160 (by decide) ?_ ?_
            · refine A_aload_n hC dX11_next_246 rfl ?_
              refine A_dup hC dX11_next_247 rfl ?_
              refine A_geti (kf := 23) hC kX11 (lM_0 hL) rfl (by decide) (by decide) rfl w_1026 dX11_next_248 ?_
              refine A_iconst (v := 1) hC dX11_next_251 (by decide) ?_
              refine A_iadd hC dX11_next_252 ?_
              refine A_puti (kf := 23) hC kX11 (lM_0 hL) rfl (by decide) (by decide) rfl rfl rfl w_1026 dX11_next_253 (fun D23 => ?_)
              refine A_aload_n hC dX11_next_256 rfl ?_
              refine A_iload_n hC dX11_next_257 rfl ?_
              refine A_bipush (v := 58) hC dX11_next_258 (by decide) ?_
              refine A_join (fun (J : Int32 → ADD → Option (Unit × ADD)) => ∀ (x13 : Int32) (D24 : ADD), AT aVv g b 292 [none, none, none] [.int x13, .ref (g.1 + 0)] D24 (J x13 D24)) (fun x13 D24 => ?_) (fun j292 hj292 => ?_)
              · refine A_puti (kf := 26) hC kX11 (lM_0 hL) rfl (by decide) (by decide) rfl rfl rfl w_1029 dX11_next_292 (fun D25 => ?_)
                exact A_to (hj295 D25) (trivial)
              refine A_join (fun (J : ADD → Option (Unit × ADD)) => ∀ (D26 : ADD), AT aVv g b 287 [none, none, none] [.ref (g.1 + 0)] D26 (J D26)) (fun D26 => ?_) (fun j287 hj287 => ?_)
              · refine A_iconst (v := 4) hC dX11_next_287 (by decide) ?_
                refine A_goto (tgt := 292) hC dX11_next_288 (by decide) ?_
                exact A_to (hj292 (4 : Int32) D26) (trivial)
              refine A_icmp_eq (tgt := 287) hC dX11_next_260 (by decide) ?_ ?_
              · exact A_to (hj287 D23) (trivial)
              · refine A_iload_n hC dX11_next_263 rfl ?_
                refine A_bipush (v := 59) hC dX11_next_264 (by decide) ?_
                refine A_icmp_eq (tgt := 287) hC dX11_next_266 (by decide) ?_ ?_
                · exact A_to (hj287 D23) (trivial)
                · refine A_iload_n hC dX11_next_269 rfl ?_
                  refine A_bipush (v := 60) hC dX11_next_270 (by decide) ?_
                  refine A_icmp_eq (tgt := 287) hC dX11_next_272 (by decide) ?_ ?_
                  · exact A_to (hj287 D23) (trivial)
                  · refine A_iload_n hC dX11_next_275 rfl ?_
                    refine A_bipush (v := 62) hC dX11_next_276 (by decide) ?_
                    refine A_icmp_eq (tgt := 287) hC dX11_next_278 (by decide) ?_ ?_
                    · exact A_to (hj287 D23) (trivial)
                    · refine A_iload_n hC dX11_next_281 rfl ?_
                      refine A_bipush (v := 61) hC dX11_next_282 (by decide) ?_
                      refine A_icmp_ne (tgt := 291) hC dX11_next_284 (by decide) ?_ ?_
                      · refine A_iconst (v := 1) hC dX11_next_291 (by decide) ?_
                        exact A_to (hj292 (1 : Int32) D23) (trivial)
                      · exact A_to (hj287 D23) (trivial)
            · refine A_aload_n hC dX11_next_163 rfl ?_
              refine A_iconst (v := 0) hC dX11_next_164 (by decide) ?_
              refine A_puti (kf := 27) hC kX11 (lM_0 hL) rfl (by decide) (by decide) rfl rfl rfl w_1030 dX11_next_165 (fun D27 => ?_)
              refine A_join (fun (J : Int32 → ADD → Option (Unit × ADD)) => ∀ (x14 : Int32) (D28 : ADD), AT aVv g b 229 [some (.ref (g.1 + 0)), none, some (.int x14)] [] D28 (J x14 D28)) (fun x14 D28 => ?_) (fun j229 hj229 => ?_)
              · refine A_aload_n hC dX11_next_229 rfl ?_
                refine A_iload_n hC dX11_next_230 rfl ?_
                refine A_iconst (v := 4) hC dX11_next_231 (by decide) ?_
                refine A_join (fun (J : Int32 → ADD → Option (Unit × ADD)) => ∀ (x15 : Int32) (D29 : ADD), AT aVv g b 240 [none, none, none] [.int x15, .ref (g.1 + 0)] D29 (J x15 D29)) (fun x15 D29 => ?_) (fun j240 hj240 => ?_)
                · refine A_puti (kf := 26) hC kX11 (lM_0 hL) rfl (by decide) (by decide) rfl rfl rfl w_1029 dX11_next_240 (fun D30 => ?_)
                  refine A_goto (tgt := 295) hC dX11_next_243 (by decide) ?_
                  exact A_to (hj295 D30) (trivial)
                refine A_icmp_le (tgt := 239) hC dX11_next_232 (by decide) ?_ ?_
                · refine A_iconst (v := 3) hC dX11_next_239 (by decide) ?_
                  exact A_to (hj240 (3 : Int32) D28) (trivial)
                · refine A_iconst (v := 1) hC dX11_next_235 (by decide) ?_
                  refine A_goto (tgt := 240) hC dX11_next_236 (by decide) ?_
                  exact A_to (hj240 (1 : Int32) D28) (trivial)
              refine A_join (fun (J : Int32 → ADD → Option (Unit × ADD)) => ∀ (x16 : Int32) (D31 : ADD), AT aVv g b 168 [some (.ref (g.1 + 0)), none, some (.int x16)] [] D31 (J x16 D31)) (aFix_all (fun (J : Int32 → ADD → Option (Unit × ADD)) => ∀ (x16 : Int32) (D31 : ADD), AT aVv g b 168 [some (.ref (g.1 + 0)), none, some (.int x16)] [] D31 (J x16 D31)) (fun _ _ => A_none) (fun L168 hL168 x16 D31 => ?_) _) (fun j168 hj168 => ?_)
              · unfold lX11_next_168
                refine A_aload_n hC dX11_next_168 rfl ?_
                refine A_callVi (As := []) (st := []) hC (fun l => mX11_see l g hL D31) (lM_0 hL) rfl (Nat.le_of_ble_eq_true rfl) yc_X11_172 rfl rfl ⟨by decide, by decide⟩ (Nat.le_of_ble_eq_true rfl) rfl dX11_next_169 (fun x17 D32 => ?_)
                refine A_bipush (v := 48) hC dX11_next_172 (by decide) ?_
                refine A_bipush (v := 57) hC dX11_next_174 (by decide) ?_
                refine A_callSi (As := [.int x17, .int (48 : Int32), .int (57 : Int32)]) (st := []) hC (fun l => mX11_is l g x17 (48 : Int32) (57 : Int32) D32) yc_X11_138 rfl rfl ⟨by decide, by decide⟩ (Nat.le_of_ble_eq_true rfl) rfl dX11_next_176 (fun x18 D33 => ?_)
                refine A_if_eq (tgt := 229) hC dX11_next_179 (by decide) ?_ ?_
                · exact A_to (hj229 x16 D33) (And.intro rfl (And.intro rfl (trivial)))
                · refine A_aload_n hC dX11_next_182 rfl ?_
                  refine A_iload_n hC dX11_next_183 rfl ?_
                  refine A_iconst (v := 4) hC dX11_next_184 (by decide) ?_
                  refine A_join (fun (J : Int32 → ADD → Option (Unit × ADD)) => ∀ (x19 : Int32) (D34 : ADD), AT aVv g b 210 [some (.ref (g.1 + 0)), none, some (.int x16)] [.int x19, .ref (g.1 + 0)] D34 (J x19 D34)) (fun x19 D34 => ?_) (fun j210 hj210 => ?_)
                  · refine A_puti (kf := 27) hC kX11 (lM_0 hL) rfl (by decide) (by decide) rfl rfl rfl w_1030 dX11_next_210 (fun D35 => ?_)
                    refine A_aload_n hC dX11_next_213 rfl ?_
                    refine A_dup hC dX11_next_214 rfl ?_
                    refine A_geti (kf := 23) hC kX11 (lM_0 hL) rfl (by decide) (by decide) rfl w_1026 dX11_next_215 ?_
                    refine A_iconst (v := 1) hC dX11_next_218 (by decide) ?_
                    refine A_iadd hC dX11_next_219 ?_
                    refine A_puti (kf := 23) hC kX11 (lM_0 hL) rfl (by decide) (by decide) rfl rfl rfl w_1026 dX11_next_220 (fun D36 => ?_)
                    refine A_iincL (z := (1 : Int32)) (lv2 := fun x20 => [some (.ref (g.1 + 0)), none, some (.int x20)]) hC dX11_next_223 rfl (by decide) (Nat.le_of_ble_eq_true rfl) rfl (fun _ => rfl) (fun x20 => ?_)
                    refine A_goto (tgt := 168) hC dX11_next_226 (by decide) ?_
                    exact A_to (hL168 x20 D36) (And.intro rfl (And.intro rfl (trivial)))
                  refine A_icmp_ge (tgt := 206) hC dX11_next_185 (by decide) ?_ ?_
                  · refine A_aload_n hC dX11_next_206 rfl ?_
                    refine A_geti (kf := 27) hC kX11 (lM_0 hL) rfl (by decide) (by decide) rfl w_1030 dX11_next_207 ?_
                    exact A_to (hj210 (D33.1 0 27) D33) (And.intro rfl (And.intro rfl (trivial)))
                  · refine A_bipush (v := 10) hC dX11_next_188 (by decide) ?_
                    refine A_aload_n hC dX11_next_190 rfl ?_
                    refine A_geti (kf := 27) hC kX11 (lM_0 hL) rfl (by decide) (by decide) rfl w_1030 dX11_next_191 ?_
                    refine A_imul hC dX11_next_194 ?_
                    refine A_aload_n hC dX11_next_195 rfl ?_
                    refine A_callVi (As := []) (st := [.int ((10 : Int32) * (D33.1 0 27)), .ref (g.1 + 0)]) hC (fun l => mX11_see l g hL D33) (lM_0 hL) rfl (Nat.le_of_ble_eq_true rfl) yc_X11_172 rfl rfl ⟨by decide, by decide⟩ (Nat.le_of_ble_eq_true rfl) rfl dX11_next_196 (fun x21 D37 => ?_)
                    refine A_iadd hC dX11_next_199 ?_
                    refine A_bipush (v := 48) hC dX11_next_200 (by decide) ?_
                    refine A_isub hC dX11_next_202 ?_
                    refine A_goto (tgt := 210) hC dX11_next_203 (by decide) ?_
                    exact A_to (hj210 ((((10 : Int32) * (D33.1 0 27)) + x21) - (48 : Int32)) D37) (And.intro rfl (And.intro rfl (trivial)))
              exact A_to (hj168 (0 : Int32) D27) (And.intro rfl (And.intro rfl (trivial)))
          · exact A_to (hj79 (0 : Int32) D11) (And.intro rfl (And.intro rfl (trivial)))
        · refine A_aload_n hC dX11_next_60 rfl ?_
          refine A_iconst (v := 0) hC dX11_next_61 (by decide) ?_
          refine A_puti (kf := 26) hC kX11 (lM_0 hL) rfl (by decide) (by decide) rfl rfl rfl w_1029 dX11_next_62 (fun D38 => ?_)
          refine A_goto (tgt := 295) hC dX11_next_65 (by decide) ?_
          exact A_to (hj295 D38) (trivial)
      · exact A_to (hj18 D5) (And.intro rfl (trivial))
  exact A_to (hj0 D) (And.intro rfl (trivial))
