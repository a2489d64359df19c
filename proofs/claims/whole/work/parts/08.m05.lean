def fX11_feed (a1 : Int32) (a2 : Int32) (a3 : Int32) (a4 : Int32) (a5 : Int32) (D : ADD) : Option (Int32 × ADD) := aLet (aSI D 0 0 (0 : Int32)) (fun D1 => aIn (0 : Int32) 4 ((if ((D1.1 2 (0 : Int32).toNatClampNeg) + (20 : Int32)) ≤ (500 : Int32) then aBind (fX11_four a1 D1) (fun _ D2 => aBind (fX11_four a2 D2) (fun _ D3 => aBind (fX11_four a3 D3) (fun _ D4 => aBind (fX11_four a4 D4) (fun _ D5 => aBind (fX11_four a5 D5) (fun _ D6 => aIn (0 : Int32) 4 (some ((D6.1 2 (0 : Int32).toNatClampNeg), D6))))))) else some ((-1 : Int32), D1))))
set_option maxHeartbeats 4000000 in
set_option maxRecDepth 100000 in
theorem mX11_feed (l : Launch) (g : AGl) (hL : aLM g) (a1 : Int32) (a2 : Int32) (a3 : Int32) (a4 : Int32) (a5 : Int32) (D : ADD) : AM aVi l yX11_feed cX11_feed 6 (some .int) 1 g [.ref (g.1 + 0), .int a1, .int a2, .int a3, .int a4, .int a5] D (fX11_feed a1 a2 a3 a4 a5 D) := by
  refine AM_of (lv0 := [some (.ref (g.1 + 0)), some (.int a1), some (.int a2), some (.int a3), some (.int a4), some (.int a5)]) (own := RX11) (by decide +kernel) rfl (Nat.le_of_ble_eq_true rfl) rfl (fun b hC => ?_)
  unfold fX11_feed
  refine A_aload_n hC dX11_feed_0 rfl ?_
  refine A_iconst (v := 0) hC dX11_feed_1 (by decide) ?_
  refine A_puti (kf := 0) hC kX11 (lM_0 hL) rfl (by decide) (by decide) rfl rfl rfl w_1003 dX11_feed_2 (fun D1 => ?_)
  refine A_aload_n hC dX11_feed_5 rfl ?_
  refine A_getr (kf := 2) hC kX11 (lM_0 hL) rfl (by decide) (by decide) rfl rfl w_1005 dX11_feed_6 ?_
  refine A_iconst (v := 0) hC dX11_feed_9 (by decide) ?_
  refine A_iald hC (lM_2 hL) dX11_feed_10 ?_
  refine A_bipush (v := 20) hC dX11_feed_11 (by decide) ?_
  refine A_iadd hC dX11_feed_13 ?_
  refine A_sipush (v := 500) hC dX11_feed_14 (by decide) ?_
  refine A_icmp_le (tgt := 22) hC dX11_feed_17 (by decide) ?_ ?_
  · refine A_aload_n hC dX11_feed_22 rfl ?_
    refine A_iload_n hC dX11_feed_23 rfl ?_
    refine A_callVv (As := [.int a1]) (st := []) hC (fun l => mX11_four l g hL a1 D1) (lM_0 hL) rfl (Nat.le_of_ble_eq_true rfl) yc_X11_162 rfl rfl ⟨by decide, by decide⟩ (Nat.le_of_ble_eq_true rfl) rfl dX11_feed_24 (fun _ D2 => ?_)
    refine A_aload_n hC dX11_feed_27 rfl ?_
    refine A_iload_n hC dX11_feed_28 rfl ?_
    refine A_callVv (As := [.int a2]) (st := []) hC (fun l => mX11_four l g hL a2 D2) (lM_0 hL) rfl (Nat.le_of_ble_eq_true rfl) yc_X11_162 rfl rfl ⟨by decide, by decide⟩ (Nat.le_of_ble_eq_true rfl) rfl dX11_feed_29 (fun _ D3 => ?_)
    refine A_aload_n hC dX11_feed_32 rfl ?_
    refine A_iload_n hC dX11_feed_33 rfl ?_
    refine A_callVv (As := [.int a3]) (st := []) hC (fun l => mX11_four l g hL a3 D3) (lM_0 hL) rfl (Nat.le_of_ble_eq_true rfl) yc_X11_162 rfl rfl ⟨by decide, by decide⟩ (Nat.le_of_ble_eq_true rfl) rfl dX11_feed_34 (fun _ D4 => ?_)
    refine A_aload_n hC dX11_feed_37 rfl ?_
    refine A_iload hC dX11_feed_38 rfl ?_
    refine A_callVv (As := [.int a4]) (st := []) hC (fun l => mX11_four l g hL a4 D4) (lM_0 hL) rfl (Nat.le_of_ble_eq_true rfl) yc_X11_162 rfl rfl ⟨by decide, by decide⟩ (Nat.le_of_ble_eq_true rfl) rfl dX11_feed_40 (fun _ D5 => ?_)
    refine A_aload_n hC dX11_feed_43 rfl ?_
    refine A_iload hC dX11_feed_44 rfl ?_
    refine A_callVv (As := [.int a5]) (st := []) hC (fun l => mX11_four l g hL a5 D5) (lM_0 hL) rfl (Nat.le_of_ble_eq_true rfl) yc_X11_162 rfl rfl ⟨by decide, by decide⟩ (Nat.le_of_ble_eq_true rfl) rfl dX11_feed_46 (fun _ D6 => ?_)
    refine A_aload_n hC dX11_feed_49 rfl ?_
    refine A_getr (kf := 2) hC kX11 (lM_0 hL) rfl (by decide) (by decide) rfl rfl w_1005 dX11_feed_50 ?_
    refine A_iconst (v := 0) hC dX11_feed_53 (by decide) ?_
    refine A_iald hC (lM_2 hL) dX11_feed_54 ?_
    exact A_iret hC dX11_feed_55
  · refine A_iconst (v := -1) hC dX11_feed_20 (by decide) ?_
    exact A_iret hC dX11_feed_21
def lX11_findSpan_102 (j218 : Int32 → Int32 → ADD → Option (Unit × ADD)) (L102 : Int32 → Int32 → Int32 → Int32 → ADD → Option (Unit × ADD)) (x19 : Int32) (x20 : Int32) (x21 : Int32) (x22 : Int32) (D24 : ADD) : Option (Unit × ADD) := aIn (0 : Int32) 8 ((if (D24.1 15 (0 : Int32).toNatClampNeg) ≤ x22 then j218 x19 x20 D24 else (if x21 = 0 then j218 x19 x20 D24 else aBind (fX11_holds x22 D24) (fun x23 D25 => aLet (fun (x24 : Int32) (x25 : Int32) (x26 : Int32) (D26 : ADD) => aLet (x22 + (1 : Int32)) (fun x27 => L102 x24 x25 x26 x27 D26)) (fun (j212 : Int32 → Int32 → Int32 → ADD → Option (Unit × ADD)) => (if x23 = 0 then j212 x19 x20 x21 D25 else aIn x22 128 (aLet (fun (x28 : Int32) (D27 : ADD) => (if x28 = 0 then j212 x19 x20 x28 D27 else aIn x22 128 (aLet (fun (x29 : Int32) (D28 : ADD) => aLet (x19 + x29) (fun x30 => aIn x22 128 (aLet (fun (x31 : Int32) (D29 : ADD) => aLet (x20 + x31) (fun x32 => j212 x30 x32 x28 D29)) (fun (j210 : Int32 → ADD → Option (Unit × ADD)) => (if (D28.1 20 x22.toNatClampNeg) = 0 then aIn x22 128 (j210 (D28.1 22 x22.toNatClampNeg) D28) else aIn x22 128 (j210 (-(D28.1 21 x22.toNatClampNeg)) D28)))))) (fun (j179 : Int32 → ADD → Option (Unit × ADD)) => (if (D27.1 20 x22.toNatClampNeg) = 0 then aIn x22 128 (j179 (D27.1 21 x22.toNatClampNeg) D27) else aIn x22 128 (j179 (-(D27.1 22 x22.toNatClampNeg)) D27)))))) (fun (j143 : Int32 → ADD → Option (Unit × ADD)) => (if (2 : Int32) ≤ (D25.1 20 x22.toNatClampNeg) then j143 (0 : Int32) D25 else j143 (1 : Int32) D25)))))))))
def fX11_findSpan (a1 : Int32) (D : ADD) : Option (Unit × ADD) := aBind (fX11_f a1 (1 : Int32) D) (fun x1 D1 => aIn (0 : Int32) 8 (aLet (aSI D1 30 (0 : Int32).toNatClampNeg x1) (fun D2 => aBind (fX11_f a1 (2 : Int32) D2) (fun x2 D3 => aIn (1 : Int32) 8 (aLet (aSI D3 30 (1 : Int32).toNatClampNeg x2) (fun D4 => aBind (fX11_f a1 (3 : Int32) D4) (fun x3 D5 => aIn (2 : Int32) 8 (aLet (aSI D5 30 (2 : Int32).toNatClampNeg x3) (fun D6 => aBind (fX11_f a1 (4 : Int32) D6) (fun x4 D7 => aIn (3 : Int32) 8 (aLet (aSI D7 30 (3 : Int32).toNatClampNeg x4) (fun D8 => aBind (fX11_f a1 (7 : Int32) D8) (fun x5 D9 => aIn (4 : Int32) 8 (aLet (aSI D9 30 (4 : Int32).toNatClampNeg x5) (fun D10 => aBind (fX11_f a1 (8 : Int32) D10) (fun x6 D11 => aIn (5 : Int32) 8 (aLet (aSI D11 30 (5 : Int32).toNatClampNeg x6) (fun D12 => aBind (fX11_f a1 (6 : Int32) D12) (fun x7 D13 => aIn (6 : Int32) 8 (aLet (aSI D13 30 (6 : Int32).toNatClampNeg ((2000 : Int32) - x7)) (fun D14 => aLet (fun (x8 : Int32) (x9 : Int32) (D15 : ADD) => aBind (fX11_f a1 (0 : Int32) D15) (fun x10 D16 => aBind (fX11_f a1 (3 : Int32) D16) (fun x11 D17 => aLet (x10 - x11) (fun x12 => aBind (fX11_held x8 D17) (fun x13 D18 => aNZ (1000 : Int32) (aLet (x12 + ((x12 * x13) / (1000 : Int32))) (fun x14 => aBind (fX11_held x9 D18) (fun x15 D19 => aNZ (1000 : Int32) (aLet (x12 + ((x12 * x15) / (1000 : Int32))) (fun x16 => aLet (fun (x17 : Int32) (D20 : ADD) => aIn a1 32 (aLet (aSI D20 33 a1.toNatClampNeg x17) (fun D21 => aLet (fun (x18 : Int32) (D22 : ADD) => aIn a1 32 (aLet (aSI D22 34 a1.toNatClampNeg x18) (fun D23 => some ((), D23)))) (fun (j300 : Int32 → ADD → Option (Unit × ADD)) => (if (1 : Int32) ≤ x16 then j300 x16 D21 else j300 (1 : Int32) D21))))) (fun (j282 : Int32 → ADD → Option (Unit × ADD)) => (if (1 : Int32) ≤ x14 then j282 x14 D19 else j282 (1 : Int32) D19)))))))))))) (fun (j218 : Int32 → Int32 → ADD → Option (Unit × ADD)) => aLet (aFix aFuel (lX11_findSpan_102 j218) (fun _ _ _ _ _ => none)) (fun j102 => j102 (0 : Int32) (0 : Int32) (1 : Int32) (0 : Int32) D14)))))))))))))))))))))))
set_option maxHeartbeats 4000000 in
set_option maxRecDepth 100000 in
theorem mX11_findSpan (l : Launch) (g : AGl) (hL : aLM g) (a1 : Int32) (D : ADD) : AM aVv l yX11_findSpan cX11_findSpan 8 none 1 g [.ref (g.1 + 0), .int a1] D (fX11_findSpan a1 D) := by
  refine AM_of (lv0 := [some (.ref (g.1 + 0)), some (.int a1), none, none, none, none, none, none]) (own := RX11) (by decide +kernel) rfl (Nat.le_of_ble_eq_true rfl) rfl (fun b hC => ?_)
  unfold fX11_findSpan
  refine A_aload_n hC dX11_findSpan_0 rfl ?_
  refine A_getr (kf := 40) hC kX11 (lM_0 hL) rfl (by decide) (by decide) rfl rfl w_1043 dX11_findSpan_1 ?_
  refine A_iconst (v := 0) hC dX11_findSpan_4 (by decide) ?_
  refine A_aload_n hC dX11_findSpan_5 rfl ?_
  refine A_iload_n hC dX11_findSpan_6 rfl ?_
  refine A_iconst (v := 1) hC dX11_findSpan_7 (by decide) ?_
  refine A_callVi (As := [.int a1, .int (1 : Int32)]) (st := [.int (0 : Int32), .ref (g.1 + 30)]) hC (fun l => mX11_f l g hL a1 (1 : Int32) D) (lM_0 hL) rfl (Nat.le_of_ble_eq_true rfl) yc_X11_291 rfl rfl ⟨by decide, by decide⟩ (Nat.le_of_ble_eq_true rfl) rfl dX11_findSpan_8 (fun x1 D1 => ?_)
  refine A_iast hC (lM_30 hL) dX11_findSpan_11 (fun D2 => ?_)
  refine A_aload_n hC dX11_findSpan_12 rfl ?_
  refine A_getr (kf := 40) hC kX11 (lM_0 hL) rfl (by decide) (by decide) rfl rfl w_1043 dX11_findSpan_13 ?_
  refine A_iconst (v := 1) hC dX11_findSpan_16 (by decide) ?_
  refine A_aload_n hC dX11_findSpan_17 rfl ?_
  refine A_iload_n hC dX11_findSpan_18 rfl ?_
  refine A_iconst (v := 2) hC dX11_findSpan_19 (by decide) ?_
  refine A_callVi (As := [.int a1, .int (2 : Int32)]) (st := [.int (1 : Int32), .ref (g.1 + 30)]) hC (fun l => mX11_f l g hL a1 (2 : Int32) D2) (lM_0 hL) rfl (Nat.le_of_ble_eq_true rfl) yc_X11_291 rfl rfl ⟨by decide, by decide⟩ (Nat.le_of_ble_eq_true rfl) rfl dX11_findSpan_20 (fun x2 D3 => ?_)
  refine A_iast hC (lM_30 hL) dX11_findSpan_23 (fun D4 => ?_)
  refine A_aload_n hC dX11_findSpan_24 rfl ?_
  refine A_getr (kf := 40) hC kX11 (lM_0 hL) rfl (by decide) (by decide) rfl rfl w_1043 dX11_findSpan_25 ?_
  refine A_iconst (v := 2) hC dX11_findSpan_28 (by decide) ?_
  refine A_aload_n hC dX11_findSpan_29 rfl ?_
  refine A_iload_n hC dX11_findSpan_30 rfl ?_
  refine A_iconst (v := 3) hC dX11_findSpan_31 (by decide) ?_
  refine A_callVi (As := [.int a1, .int (3 : Int32)]) (st := [.int (2 : Int32), .ref (g.1 + 30)]) hC (fun l => mX11_f l g hL a1 (3 : Int32) D4) (lM_0 hL) rfl (Nat.le_of_ble_eq_true rfl) yc_X11_291 rfl rfl ⟨by decide, by decide⟩ (Nat.le_of_ble_eq_true rfl) rfl dX11_findSpan_32 (fun x3 D5 => ?_)
  refine A_iast hC (lM_30 hL) dX11_findSpan_35 (fun D6 => ?_)
  refine A_aload_n hC dX11_findSpan_36 rfl ?_
  refine A_getr (kf := 40) hC kX11 (lM_0 hL) rfl (by decide) (by decide) rfl rfl w_1043 dX11_findSpan_37 ?_
  refine A_iconst (v := 3) hC dX11_findSpan_40 (by decide) ?_
  refine A_aload_n hC dX11_findSpan_41 rfl ?_
  refine A_iload_n hC dX11_findSpan_42 rfl ?_
  refine A_iconst (v := 4) hC dX11_findSpan_43 (by decide) ?_
  refine A_callVi (As := [.int a1, .int (4 : Int32)]) (st := [.int (3 : Int32), .ref (g.1 + 30)]) hC (fun l => mX11_f l g hL a1 (4 : Int32) D6) (lM_0 hL) rfl (Nat.le_of_ble_eq_true rfl) yc_X11_291 rfl rfl ⟨by decide, by decide⟩ (Nat.le_of_ble_eq_true rfl) rfl dX11_findSpan_44 (fun x4 D7 => ?_)
  refine A_iast hC (lM_30 hL) dX11_findSpan_47 (fun D8 => ?_)
  refine A_aload_n hC dX11_findSpan_48 rfl ?_
  refine A_getr (kf := 40) hC kX11 (lM_0 hL) rfl (by decide) (by decide) rfl rfl w_1043 dX11_findSpan_49 ?_
  refine A_iconst (v := 4) hC dX11_findSpan_52 (by decide) ?_
  refine A_aload_n hC dX11_findSpan_53 rfl ?_
  refine A_iload_n hC dX11_findSpan_54 rfl ?_
  refine A_bipush (v := 7) hC dX11_findSpan_55 (by decide) ?_
  refine A_callVi (As := [.int a1, .int (7 : Int32)]) (st := [.int (4 : Int32), .ref (g.1 + 30)]) hC (fun l => mX11_f l g hL a1 (7 : Int32) D8) (lM_0 hL) rfl (Nat.le_of_ble_eq_true rfl) yc_X11_291 rfl rfl ⟨by decide, by decide⟩ (Nat.le_of_ble_eq_true rfl) rfl dX11_findSpan_57 (fun x5 D9 => ?_)
  refine A_iast hC (lM_30 hL) dX11_findSpan_60 (fun D10 => ?_)
  refine A_aload_n hC dX11_findSpan_61 rfl ?_
  refine A_getr (kf := 40) hC kX11 (lM_0 hL) rfl (by decide) (by decide) rfl rfl w_1043 dX11_findSpan_62 ?_
  refine A_iconst (v := 5) hC dX11_findSpan_65 (by decide) ?_
  refine A_aload_n hC dX11_findSpan_66 rfl ?_
  refine A_iload_n hC dX11_findSpan_67 rfl ?_
  refine A_bipush (v := 8) hC dX11_findSpan_68 (by decide) ?_
  refine A_callVi (As := [.int a1, .int (8 : Int32)]) (st := [.int (5 : Int32), .ref (g.1 + 30)]) hC (fun l => mX11_f l g hL a1 (8 : Int32) D10) (lM_0 hL) rfl (Nat.le_of_ble_eq_true rfl) yc_X11_291 rfl rfl ⟨by decide, by decide⟩ (Nat.le_of_ble_eq_true rfl) rfl dX11_findSpan_70 (fun x6 D11 => ?_)
  refine A_iast hC (lM_30 hL) dX11_findSpan_73 (fun D12 => ?_)
  refine A_aload_n hC dX11_findSpan_74 rfl ?_
  refine A_getr (kf := 40) hC kX11 (lM_0 hL) rfl (by decide) (by decide) rfl rfl w_1043 dX11_findSpan_75 ?_
  refine A_bipush (v := 6) hC dX11_findSpan_78 (by decide) ?_
  refine A_sipush (v := 2000) hC dX11_findSpan_80 (by decide) ?_
  refine A_aload_n hC dX11_findSpan_83 rfl ?_
  refine A_iload_n hC dX11_findSpan_84 rfl ?_
  refine A_bipush (v := 6) hC dX11_findSpan_85 (by decide) ?_
  refine A_callVi (As := [.int a1, .int (6 : Int32)]) (st := [.int (2000 : Int32), .int (6 : Int32), .ref (g.1 + 30)]) hC (fun l => mX11_f l g hL a1 (6 : Int32) D12) (lM_0 hL) rfl (Nat.le_of_ble_eq_true rfl) yc_X11_291 rfl rfl ⟨by decide, by decide⟩ (Nat.le_of_ble_eq_true rfl) rfl dX11_findSpan_87 (fun x7 D13 => ?_)
  refine A_isub hC dX11_findSpan_90 ?_
  refine A_iast hC (lM_30 hL) dX11_findSpan_91 (fun D14 => ?_)
  refine A_iconst (v := 0) hC dX11_findSpan_92 (by decide) ?_
  refine A_istore_n (lv2 := [some (.ref (g.1 + 0)), some (.int a1), some (.int (0 : Int32)), none, none, none, none, none]) hC dX11_findSpan_93 (Nat.le_of_ble_eq_true rfl) rfl rfl ?_
  refine A_iconst (v := 0) hC dX11_findSpan_94 (by decide) ?_
  refine A_istore_n (lv2 := [some (.ref (g.1 + 0)), some (.int a1), some (.int (0 : Int32)), some (.int (0 : Int32)), none, none, none, none]) hC dX11_findSpan_95 (Nat.le_of_ble_eq_true rfl) rfl rfl ?_
  refine A_iconst (v := 1) hC dX11_findSpan_96 (by decide) ?_
  refine A_istore (lv2 := [some (.ref (g.1 + 0)), some (.int a1), some (.int (0 : Int32)), some (.int (0 : Int32)), some (.int (1 : Int32)), none, none, none]) hC dX11_findSpan_97 (Nat.le_of_ble_eq_true rfl) rfl rfl ?_
  refine A_iconst (v := 0) hC dX11_findSpan_99 (by decide) ?_
  refine A_istore (lv2 := [some (.ref (g.1 + 0)), some (.int a1), some (.int (0 : Int32)), some (.int (0 : Int32)), some (.int (1 : Int32)), some (.int (0 : Int32)), none, none]) hC dX11_findSpan_100 (Nat.le_of_ble_eq_true rfl) rfl rfl ?_
  refine A_join (fun (J : Int32 → Int32 → ADD → Option (Unit × ADD)) => ∀ (x8 : Int32) (x9 : Int32) (D15 : ADD), AT aVv g b 218 [some (.ref (g.1 + 0)), some (.int a1), some (.int x8), some (.int x9), none, none, none, none] [] D15 (J x8 x9 D15)) (fun x8 x9 D15 => ?_) (fun j218 hj218 => ?_)
  · refine A_aload_n hC dX11_findSpan_218 rfl ?_
    refine A_iload_n hC dX11_findSpan_219 rfl ?_
    refine A_iconst (v := 0) hC dX11_findSpan_220 (by decide) ?_
    refine A_callVi (As := [.int a1, .int (0 : Int32)]) (st := []) hC (fun l => mX11_f l g hL a1 (0 : Int32) D15) (lM_0 hL) rfl (Nat.le_of_ble_eq_true rfl) yc_X11_291 rfl rfl ⟨by decide, by decide⟩ (Nat.le_of_ble_eq_true rfl) rfl dX11_findSpan_221 (fun x10 D16 => ?_)
    refine A_aload_n hC dX11_findSpan_224 rfl ?_
    refine A_iload_n hC dX11_findSpan_225 rfl ?_
    refine A_iconst (v := 3) hC dX11_findSpan_226 (by decide) ?_
    refine A_callVi (As := [.int a1, .int (3 : Int32)]) (st := [.int x10]) hC (fun l => mX11_f l g hL a1 (3 : Int32) D16) (lM_0 hL) rfl (Nat.le_of_ble_eq_true rfl) yc_X11_291 rfl rfl ⟨by decide, by decide⟩ (Nat.le_of_ble_eq_true rfl) rfl dX11_findSpan_227 (fun x11 D17 => ?_)
    refine A_isub hC dX11_findSpan_230 ?_
    refine A_topi (fun x12 => ?_)
    refine A_istore (lv2 := [some (.ref (g.1 + 0)), some (.int a1), some (.int x8), some (.int x9), none, some (.int x12), none, none]) hC dX11_findSpan_231 (Nat.le_of_ble_eq_true rfl) rfl rfl ?_
    refine A_iload hC dX11_findSpan_233 rfl ?_
    refine A_iload hC dX11_findSpan_235 rfl ?_
    refine A_iload_n hC dX11_findSpan_237 rfl ?_
    refine A_callSi (As := [.int x8]) (st := [.int x12, .int x12]) hC (fun l => mX11_held l g x8 D17) yc_X11_298 rfl rfl ⟨by decide, by decide⟩ (Nat.le_of_ble_eq_true rfl) rfl dX11_findSpan_238 (fun x13 D18 => ?_)
    refine A_imul hC dX11_findSpan_241 ?_
    refine A_sipush (v := 1000) hC dX11_findSpan_242 (by decide) ?_
    refine A_idiv hC dX11_findSpan_245 ?_
    refine A_iadd hC dX11_findSpan_246 ?_
    refine A_topi (fun x14 => ?_)
    refine A_istore (lv2 := [some (.ref (g.1 + 0)), some (.int a1), some (.int x8), some (.int x9), none, some (.int x12), some (.int x14), none]) hC dX11_findSpan_247 (Nat.le_of_ble_eq_true rfl) rfl rfl ?_
    refine A_iload hC dX11_findSpan_249 rfl ?_
    refine A_iload hC dX11_findSpan_251 rfl ?_
    refine A_iload_n hC dX11_findSpan_253 rfl ?_
    refine A_callSi (As := [.int x9]) (st := [.int x12, .int x12]) hC (fun l => mX11_held l g x9 D18) yc_X11_298 rfl rfl ⟨by decide, by decide⟩ (Nat.le_of_ble_eq_true rfl) rfl dX11_findSpan_254 (fun x15 D19 => ?_)
    refine A_imul hC dX11_findSpan_257 ?_
    refine A_sipush (v := 1000) hC dX11_findSpan_258 (by decide) ?_
    refine A_idiv hC dX11_findSpan_261 ?_
    refine A_iadd hC dX11_findSpan_262 ?_
    refine A_topi (fun x16 => ?_)
    refine A_istore (lv2 := [some (.ref (g.1 + 0)), some (.int a1), some (.int x8), some (.int x9), none, some (.int x12), some (.int x14), some (.int x16)]) hC dX11_findSpan_263 (Nat.le_of_ble_eq_true rfl) rfl rfl ?_
    refine A_aload_n hC dX11_findSpan_265 rfl ?_
    refine A_getr (kf := 44) hC kX11 (lM_0 hL) rfl (by decide) (by decide) rfl rfl w_1047 dX11_findSpan_266 ?_
    refine A_iload_n hC dX11_findSpan_269 rfl ?_
    refine A_iload hC dX11_findSpan_270 rfl ?_
    refine A_iconst (v := 1) hC dX11_findSpan_272 (by decide) ?_
    refine A_join (fun (J : Int32 → ADD → Option (Unit × ADD)) => ∀ (x17 : Int32) (D20 : ADD), AT aVv g b 282 [some (.ref (g.1 + 0)), some (.int a1), none, none, none, none, none, some (.int x16)] [.int x17, .int a1, .ref (g.1 + 33)] D20 (J x17 D20)) (fun x17 D20 => ?_) (fun j282 hj282 => ?_)
    · refine A_iast hC (lM_33 hL) dX11_findSpan_282 (fun D21 => ?_)
      refine A_aload_n hC dX11_findSpan_283 rfl ?_
      refine A_getr (kf := 45) hC kX11 (lM_0 hL) rfl (by decide) (by decide) rfl rfl w_1048 dX11_findSpan_284 ?_
      refine A_iload_n hC dX11_findSpan_287 rfl ?_
      refine A_iload hC dX11_findSpan_288 rfl ?_
      refine A_iconst (v := 1) hC dX11_findSpan_290 (by decide) ?_
      refine A_join (fun (J : Int32 → ADD → Option (Unit × ADD)) => ∀ (x18 : Int32) (D22 : ADD), AT aVv g b 300 [none, none, none, none, none, none, none, none] [.int x18, .int a1, .ref (g.1 + 34)] D22 (J x18 D22)) (fun x18 D22 => ?_) (fun j300 hj300 => ?_)
      · refine A_iast hC (lM_34 hL) dX11_findSpan_300 (fun D23 => ?_)
        exact A_vret hC dX11_findSpan_301
      refine A_icmp_ge (tgt := 298) hC dX11_findSpan_291 (by decide) ?_ ?_
      · refine A_iload hC dX11_findSpan_298 rfl ?_
        exact A_to (hj300 x16 D21) (trivial)
      · refine A_iconst (v := 1) hC dX11_findSpan_294 (by decide) ?_
        refine A_goto (tgt := 300) hC dX11_findSpan_295 (by decide) ?_
        exact A_to (hj300 (1 : Int32) D21) (trivial)
    refine A_icmp_ge (tgt := 280) hC dX11_findSpan_273 (by decide) ?_ ?_
    · refine A_iload hC dX11_findSpan_280 rfl ?_
      exact A_to (hj282 x14 D19) (And.intro rfl (And.intro rfl (And.intro rfl (trivial))))
    · refine A_iconst (v := 1) hC dX11_findSpan_276 (by decide) ?_
      refine A_goto (tgt := 282) hC dX11_findSpan_277 (by decide) ?_
      exact A_to (hj282 (1 : Int32) D19) (And.intro rfl (And.intro rfl (And.intro rfl (trivial))))
  refine A_join (fun (J : Int32 → Int32 → Int32 → Int32 → ADD → Option (Unit × ADD)) => ∀ (x19 : Int32) (x20 : Int32) (x21 : Int32) (x22 : Int32) (D24 : ADD), AT aVv g b 102 [some (.ref (g.1 + 0)), some (.int a1), some (.int x19), some (.int x20), some (.int x21), some (.int x22), none, none] [] D24 (J x19 x20 x21 x22 D24)) (aFix_all (fun (J : Int32 → Int32 → Int32 → Int32 → ADD → Option (Unit × ADD)) => ∀ (x19 : Int32) (x20 : Int32) (x21 : Int32) (x22 : Int32) (D24 : ADD), AT aVv g b 102 [some (.ref (g.1 + 0)), some (.int a1), some (.int x19), some (.int x20), some (.int x21), some (.int x22), none, none] [] D24 (J x19 x20 x21 x22 D24)) (fun _ _ _ _ _ => A_none) (fun L102 hL102 x19 x20 x21 x22 D24 => ?_) _) (fun j102 hj102 => ?_)
  · unfold lX11_findSpan_102
    refine A_iload hC dX11_findSpan_102 rfl ?_
    refine A_aload_n hC dX11_findSpan_104 rfl ?_
    refine A_getr (kf := 15) hC kX11 (lM_0 hL) rfl (by decide) (by decide) rfl rfl w_1018 dX11_findSpan_105 ?_
    refine A_iconst (v := 0) hC dX11_findSpan_108 (by decide) ?_
    refine A_iald hC (lM_15 hL) dX11_findSpan_109 ?_
    refine A_icmp_ge (tgt := 218) hC dX11_findSpan_110 (by decide) ?_ ?_
    · exact A_to (hj218 x19 x20 D24) (And.intro rfl (And.intro rfl (And.intro rfl (And.intro rfl (trivial)))))
    · refine A_iload hC dX11_findSpan_113 rfl ?_
      refine A_if_eq (tgt := 218) hC dX11_findSpan_115 (by decide) ?_ ?_
      · exact A_to (hj218 x19 x20 D24) (And.intro rfl (And.intro rfl (And.intro rfl (And.intro rfl (trivial)))))
      · refine A_aload_n hC dX11_findSpan_118 rfl ?_
        refine A_iload hC dX11_findSpan_119 rfl ?_
        refine A_callVi (As := [.int x22]) (st := []) hC (fun l => mX11_holds l g hL x22 D24) (lM_0 hL) rfl (Nat.le_of_ble_eq_true rfl) yc_X11_295 rfl rfl ⟨by decide, by decide⟩ (Nat.le_of_ble_eq_true rfl) rfl dX11_findSpan_121 (fun x23 D25 => ?_)
        refine A_join (fun (J : Int32 → Int32 → Int32 → ADD → Option (Unit × ADD)) => ∀ (x24 : Int32) (x25 : Int32) (x26 : Int32) (D26 : ADD), AT aVv g b 212 [some (.ref (g.1 + 0)), some (.int a1), some (.int x24), some (.int x25), some (.int x26), some (.int x22), none, none] [] D26 (J x24 x25 x26 D26)) (fun x24 x25 x26 D26 => ?_) (fun j212 hj212 => ?_)
        · refine A_iincL (z := (1 : Int32)) (lv2 := fun x27 => [some (.ref (g.1 + 0)), some (.int a1), some (.int x24), some (.int x25), some (.int x26), some (.int x27), none, none]) hC dX11_findSpan_212 rfl (by decide) (Nat.le_of_ble_eq_true rfl) rfl (fun _ => rfl) (fun x27 => ?_)
          refine A_goto (tgt := 102) hC dX11_findSpan_215 (by decide) ?_
          exact A_to (hL102 x24 x25 x26 x27 D26) (And.intro rfl (And.intro rfl (And.intro rfl (And.intro rfl (And.intro rfl (And.intro rfl (trivial)))))))
        refine A_if_eq (tgt := 212) hC dX11_findSpan_124 (by decide) ?_ ?_
        · exact A_to (hj212 x19 x20 x21 D25) (And.intro rfl (And.intro rfl (And.intro rfl (And.intro rfl (And.intro rfl (And.intro rfl (trivial)))))))
        · refine A_aload_n hC dX11_findSpan_127 rfl ?_
          refine A_getr (kf := 20) hC kX11 (lM_0 hL) rfl (by decide) (by decide) rfl rfl w_1023 dX11_findSpan_128 ?_
          refine A_iload hC dX11_findSpan_131 rfl ?_
          refine A_iald hC (lM_20 hL) dX11_findSpan_133 ?_
          refine A_iconst (v := 2) hC dX11_findSpan_134 (by decide) ?_
          refine A_join (fun (J : Int32 → ADD → Option (Unit × ADD)) => ∀ (x28 : Int32) (D27 : ADD), AT aVv g b 143 [some (.ref (g.1 + 0)), some (.int a1), some (.int x19), some (.int x20), none, some (.int x22), none, none] [.int x28] D27 (J x28 D27)) (fun x28 D27 => ?_) (fun j143 hj143 => ?_)
          · refine A_istore (lv2 := [some (.ref (g.1 + 0)), some (.int a1), some (.int x19), some (.int x20), some (.int x28), some (.int x22), none, none]) hC dX11_findSpan_143 (Nat.le_of_ble_eq_true rfl) rfl rfl ?_
            refine A_iload hC dX11_findSpan_145 rfl ?_
            refine A_if_eq (tgt := 212) hC dX11_findSpan_147 (by decide) ?_ ?_
            · exact A_to (hj212 x19 x20 x28 D27) (And.intro rfl (And.intro rfl (And.intro rfl (And.intro rfl (And.intro rfl (And.intro rfl (trivial)))))))
            · refine A_iload_n hC dX11_findSpan_150 rfl ?_
              refine A_aload_n hC dX11_findSpan_151 rfl ?_
              refine A_getr (kf := 20) hC kX11 (lM_0 hL) rfl (by decide) (by decide) rfl rfl w_1023 dX11_findSpan_152 ?_
              refine A_iload hC dX11_findSpan_155 rfl ?_
              refine A_iald hC (lM_20 hL) dX11_findSpan_157 ?_
              refine A_join (fun (J : Int32 → ADD → Option (Unit × ADD)) => ∀ (x29 : Int32) (D28 : ADD), AT aVv g b 179 [some (.ref (g.1 + 0)), some (.int a1), none, some (.int x20), some (.int x28), some (.int x22), none, none] [.int x29, .int x19] D28 (J x29 D28)) (fun x29 D28 => ?_) (fun j179 hj179 => ?_)
              · refine A_iadd hC dX11_findSpan_179 ?_
                refine A_topi (fun x30 => ?_)
                refine A_istore_n (lv2 := [some (.ref (g.1 + 0)), some (.int a1), some (.int x30), some (.int x20), some (.int x28), some (.int x22), none, none]) hC dX11_findSpan_180 (Nat.le_of_ble_eq_true rfl) rfl rfl ?_
                refine A_iload_n hC dX11_findSpan_181 rfl ?_
                refine A_aload_n hC dX11_findSpan_182 rfl ?_
                refine A_getr (kf := 20) hC kX11 (lM_0 hL) rfl (by decide) (by decide) rfl rfl w_1023 dX11_findSpan_183 ?_
                refine A_iload hC dX11_findSpan_186 rfl ?_
                refine A_iald hC (lM_20 hL) dX11_findSpan_188 ?_
                refine A_join (fun (J : Int32 → ADD → Option (Unit × ADD)) => ∀ (x31 : Int32) (D29 : ADD), AT aVv g b 210 [some (.ref (g.1 + 0)), some (.int a1), some (.int x30), none, some (.int x28), some (.int x22), none, none] [.int x31, .int x20] D29 (J x31 D29)) (fun x31 D29 => ?_) (fun j210 hj210 => ?_)
                · refine A_iadd hC dX11_findSpan_210 ?_
                  refine A_topi (fun x32 => ?_)
                  refine A_istore_n (lv2 := [some (.ref (g.1 + 0)), some (.int a1), some (.int x30), some (.int x32), some (.int x28), some (.int x22), none, none]) hC dX11_findSpan_211 (Nat.le_of_ble_eq_true rfl) rfl rfl ?_
                  exact A_to (hj212 x30 x32 x28 D29) (And.intro rfl (And.intro rfl (And.intro rfl (And.intro rfl (And.intro rfl (And.intro rfl (trivial)))))))
                refine A_if_ne (tgt := 202) hC dX11_findSpan_189 (by decide) ?_ ?_
                · refine A_aload_n hC dX11_findSpan_202 rfl ?_
                  refine A_getr (kf := 21) hC kX11 (lM_0 hL) rfl (by decide) (by decide) rfl rfl w_1024 dX11_findSpan_203 ?_
                  refine A_iload hC dX11_findSpan_206 rfl ?_
                  refine A_iald hC (lM_21 hL) dX11_findSpan_208 ?_
                  refine A_ineg hC dX11_findSpan_209 ?_
                  exact A_to (hj210 (-(D28.1 21 x22.toNatClampNeg)) D28) (And.intro rfl (And.intro rfl (And.intro rfl (And.intro rfl (And.intro rfl (trivial))))))
                · refine A_aload_n hC dX11_findSpan_192 rfl ?_
                  refine A_getr (kf := 22) hC kX11 (lM_0 hL) rfl (by decide) (by decide) rfl rfl w_1025 dX11_findSpan_193 ?_
                  refine A_iload hC dX11_findSpan_196 rfl ?_
                  refine A_iald hC (lM_22 hL) dX11_findSpan_198 ?_
                  refine A_goto (tgt := 210) hC dX11_findSpan_199 (by decide) ?_
                  exact A_to (hj210 (D28.1 22 x22.toNatClampNeg) D28) (And.intro rfl (And.intro rfl (And.intro rfl (And.intro rfl (And.intro rfl (trivial))))))
              refine A_if_ne (tgt := 171) hC dX11_findSpan_158 (by decide) ?_ ?_
              · refine A_aload_n hC dX11_findSpan_171 rfl ?_
                refine A_getr (kf := 22) hC kX11 (lM_0 hL) rfl (by decide) (by decide) rfl rfl w_1025 dX11_findSpan_172 ?_
                refine A_iload hC dX11_findSpan_175 rfl ?_
                refine A_iald hC (lM_22 hL) dX11_findSpan_177 ?_
                refine A_ineg hC dX11_findSpan_178 ?_
                exact A_to (hj179 (-(D27.1 22 x22.toNatClampNeg)) D27) (And.intro rfl (And.intro rfl (And.intro rfl (And.intro rfl (And.intro rfl (trivial))))))
              · refine A_aload_n hC dX11_findSpan_161 rfl ?_
                refine A_getr (kf := 21) hC kX11 (lM_0 hL) rfl (by decide) (by decide) rfl rfl w_1024 dX11_findSpan_162 ?_
                refine A_iload hC dX11_findSpan_165 rfl ?_
                refine A_iald hC (lM_21 hL) dX11_findSpan_167 ?_
                refine A_goto (tgt := 179) hC dX11_findSpan_168 (by decide) ?_
                exact A_to (hj179 (D27.1 21 x22.toNatClampNeg) D27) (And.intro rfl (And.intro rfl (And.intro rfl (And.intro rfl (And.intro rfl (trivial))))))
          refine A_icmp_ge (tgt := 142) hC dX11_findSpan_135 (by decide) ?_ ?_
          · refine A_iconst (v := 0) hC dX11_findSpan_142 (by decide) ?_
            exact A_to (hj143 (0 : Int32) D25) (And.intro rfl (And.intro rfl (And.intro rfl (And.intro rfl (And.intro rfl (trivial))))))
          · refine A_iconst (v := 1) hC dX11_findSpan_138 (by decide) ?_
            refine A_goto (tgt := 143) hC dX11_findSpan_139 (by decide) ?_
            exact A_to (hj143 (1 : Int32) D25) (And.intro rfl (And.intro rfl (And.intro rfl (And.intro rfl (And.intro rfl (trivial))))))
  exact A_to (hj102 (0 : Int32) (0 : Int32) (1 : Int32) (0 : Int32) D14) (And.intro rfl (And.intro rfl (And.intro rfl (And.intro rfl (And.intro rfl (And.intro rfl (trivial)))))))
def fX11_isChosen (a1 : Int32) (D : ADD) : Option (Int32 × ADD) := aBind (fX11_f a1 (5 : Int32) D) (fun x1 D1 => aIn (1 : Int32) 8 (aLet (fun (x2 : Int32) (D2 : ADD) => aIn (0 : Int32) 4 (aLet (fun (x3 : Int32) (D3 : ADD) => aBind (fX11_f a1 (9 : Int32) D3) (fun x4 D4 => aLet (fun (x5 : Int32) (D5 : ADD) => aZ x5 (some (x5, D5))) (fun (j145 : Int32 → ADD → Option (Int32 × ADD)) => aLet (fun (D6 : ADD) => j145 (0 : Int32) D6) (fun (j144 : ADD → Option (Int32 × ADD)) => (if x4 = (1 : Int32) then aIn (0 : Int32) 4 (aBind (fX11_f a1 (4 : Int32) D4) (fun x6 D7 => (if (((D4.1 11 (0 : Int32).toNatClampNeg) >>> (x6 &&& 31)) &&& (1 : Int32)) = 0 then j144 D7 else aIn (0 : Int32) 4 (aBind (fX11_f a1 (1 : Int32) D7) (fun x7 D8 => (if (((D7.1 12 (0 : Int32).toNatClampNeg) >>> (x7 &&& 31)) &&& (1 : Int32)) = 0 then j144 D8 else (if x2 = 0 then j144 D8 else (if x3 = 0 then j144 D8 else j145 (1 : Int32) D8)))))))) else j144 D4))))) (fun (j84 : Int32 → ADD → Option (Int32 × ADD)) => aLet (fun (D9 : ADD) => j84 (1 : Int32) D9) (fun (j79 : ADD → Option (Int32 × ADD)) => (if (D2.1 14 (0 : Int32).toNatClampNeg) = 0 then j79 D2 else aIn (0 : Int32) 4 (aLet (fun (x8 : Int32) (D10 : ADD) => aBind (fX11_f a1 (7 : Int32) D10) (fun x9 D11 => aLet (fun (x10 : Int32) (D12 : ADD) => (if x8 = x10 then j79 D12 else j84 (0 : Int32) D12)) (fun (j76 : Int32 → ADD → Option (Int32 × ADD)) => (if x9 ≤ 0 then j76 (0 : Int32) D11 else j76 (1 : Int32) D11)))) (fun (j61 : Int32 → ADD → Option (Int32 × ADD)) => (if (D2.1 14 (0 : Int32).toNatClampNeg) = (1 : Int32) then j61 (1 : Int32) D2 else j61 (0 : Int32) D2)))))))) (fun (j36 : Int32 → ADD → Option (Int32 × ADD)) => aLet (fun (D13 : ADD) => j36 (0 : Int32) D13) (fun (j35 : ADD → Option (Int32 × ADD)) => (if (D1.1 13 (1 : Int32).toNatClampNeg) < x1 then j35 D1 else aBind (fX11_f a1 (6 : Int32) D1) (fun x11 D14 => aIn (0 : Int32) 8 ((if x11 < (D14.1 13 (0 : Int32).toNatClampNeg) then j35 D14 else j36 (1 : Int32) D14))))))))
set_option maxHeartbeats 4000000 in
set_option maxRecDepth 100000 in
theorem mX11_isChosen (l : Launch) (g : AGl) (hL : aLM g) (a1 : Int32) (D : ADD) : AM aVi l yX11_isChosen cX11_isChosen 4 (some .boolean) 1 g [.ref (g.1 + 0), .int a1] D (fX11_isChosen a1 D) := by
  refine AM_of (lv0 := [some (.ref (g.1 + 0)), some (.int a1), none, none]) (own := RX11) (by decide +kernel) rfl (Nat.le_of_ble_eq_true rfl) rfl (fun b hC => ?_)
  unfold fX11_isChosen
  refine A_aload_n hC dX11_isChosen_0 rfl ?_
  refine A_iload_n hC dX11_isChosen_1 rfl ?_
  refine A_iconst (v := 5) hC dX11_isChosen_2 (by decide) ?_
  refine A_callVi (As := [.int a1, .int (5 : Int32)]) (st := []) hC (fun l => mX11_f l g hL a1 (5 : Int32) D) (lM_0 hL) rfl (Nat.le_of_ble_eq_true rfl) yc_X11_291 rfl rfl ⟨by decide, by decide⟩ (Nat.le_of_ble_eq_true rfl) rfl dX11_isChosen_3 (fun x1 D1 => ?_)
  refine A_aload_n hC dX11_isChosen_6 rfl ?_
  refine A_getr (kf := 13) hC kX11 (lM_0 hL) rfl (by decide) (by decide) rfl rfl w_1016 dX11_isChosen_7 ?_
  refine A_iconst (v := 1) hC dX11_isChosen_10 (by decide) ?_
  refine A_iald hC (lM_13 hL) dX11_isChosen_11 ?_
  refine A_join (fun (J : Int32 → ADD → Option (Int32 × ADD)) => ∀ (x2 : Int32) (D2 : ADD), AT aVi g b 36 [some (.ref (g.1 + 0)), some (.int a1), none, none] [.int x2] D2 (J x2 D2)) (fun x2 D2 => ?_) (fun j36 hj36 => ?_)
  · refine A_istore_n (lv2 := [some (.ref (g.1 + 0)), some (.int a1), some (.int x2), none]) hC dX11_isChosen_36 (Nat.le_of_ble_eq_true rfl) rfl rfl ?_
    refine A_aload_n hC dX11_isChosen_37 rfl ?_
    refine A_getr (kf := 14) hC kX11 (lM_0 hL) rfl (by decide) (by decide) rfl rfl w_1017 dX11_isChosen_38 ?_
    refine A_iconst (v := 0) hC dX11_isChosen_41 (by decide) ?_
    refine A_iald hC (lM_14 hL) dX11_isChosen_42 ?_
    refine A_join (fun (J : Int32 → ADD → Option (Int32 × ADD)) => ∀ (x3 : Int32) (D3 : ADD), AT aVi g b 84 [some (.ref (g.1 + 0)), some (.int a1), some (.int x2), none] [.int x3] D3 (J x3 D3)) (fun x3 D3 => ?_) (fun j84 hj84 => ?_)
    · refine A_istore_n (lv2 := [some (.ref (g.1 + 0)), some (.int a1), some (.int x2), some (.int x3)]) hC dX11_isChosen_84 (Nat.le_of_ble_eq_true rfl) rfl rfl ?_
      refine A_aload_n hC dX11_isChosen_85 rfl ?_
      refine A_iload_n hC dX11_isChosen_86 rfl ?_
      refine A_bipush (v := 9) hC dX11_isChosen_87 (by decide) ?_
      refine A_callVi (As := [.int a1, .int (9 : Int32)]) (st := []) hC (fun l => mX11_f l g hL a1 (9 : Int32) D3) (lM_0 hL) rfl (Nat.le_of_ble_eq_true rfl) yc_X11_291 rfl rfl ⟨by decide, by decide⟩ (Nat.le_of_ble_eq_true rfl) rfl dX11_isChosen_89 (fun x4 D4 => ?_)
      refine A_iconst (v := 1) hC dX11_isChosen_92 (by decide) ?_
      refine A_join (fun (J : Int32 → ADD → Option (Int32 × ADD)) => ∀ (x5 : Int32) (D5 : ADD), AT aVi g b 145 [none, none, none, none] [.int x5] D5 (J x5 D5)) (fun x5 D5 => ?_) (fun j145 hj145 => ?_)
      · exact A_zretc hC dX11_isChosen_145
      refine A_join (fun (J : ADD → Option (Int32 × ADD)) => ∀ (D6 : ADD), AT aVi g b 144 [none, none, none, none] [] D6 (J D6)) (fun D6 => ?_) (fun j144 hj144 => ?_)
      · refine A_iconst (v := 0) hC dX11_isChosen_144 (by decide) ?_
        exact A_to (hj145 (0 : Int32) D6) (trivial)
      refine A_icmp_ne (tgt := 144) hC dX11_isChosen_93 (by decide) ?_ ?_
      · exact A_to (hj144 D4) (trivial)
      · refine A_aload_n hC dX11_isChosen_96 rfl ?_
        refine A_getr (kf := 11) hC kX11 (lM_0 hL) rfl (by decide) (by decide) rfl rfl w_1014 dX11_isChosen_97 ?_
        refine A_iconst (v := 0) hC dX11_isChosen_100 (by decide) ?_
        refine A_iald hC (lM_11 hL) dX11_isChosen_101 ?_
        refine A_aload_n hC dX11_isChosen_102 rfl ?_
        refine A_iload_n hC dX11_isChosen_103 rfl ?_
        refine A_iconst (v := 4) hC dX11_isChosen_104 (by decide) ?_
        refine A_callVi (As := [.int a1, .int (4 : Int32)]) (st := [.int (D4.1 11 (0 : Int32).toNatClampNeg)]) hC (fun l => mX11_f l g hL a1 (4 : Int32) D4) (lM_0 hL) rfl (Nat.le_of_ble_eq_true rfl) yc_X11_291 rfl rfl ⟨by decide, by decide⟩ (Nat.le_of_ble_eq_true rfl) rfl dX11_isChosen_105 (fun x6 D7 => ?_)
        refine A_ishr hC dX11_isChosen_108 ?_
        refine A_iconst (v := 1) hC dX11_isChosen_109 (by decide) ?_
        refine A_iand hC dX11_isChosen_110 ?_
        refine A_if_eq (tgt := 144) hC dX11_isChosen_111 (by decide) ?_ ?_
        · exact A_to (hj144 D7) (trivial)
        · refine A_aload_n hC dX11_isChosen_114 rfl ?_
          refine A_getr (kf := 12) hC kX11 (lM_0 hL) rfl (by decide) (by decide) rfl rfl w_1015 dX11_isChosen_115 ?_
          refine A_iconst (v := 0) hC dX11_isChosen_118 (by decide) ?_
          refine A_iald hC (lM_12 hL) dX11_isChosen_119 ?_
          refine A_aload_n hC dX11_isChosen_120 rfl ?_
          refine A_iload_n hC dX11_isChosen_121 rfl ?_
          refine A_iconst (v := 1) hC dX11_isChosen_122 (by decide) ?_
          refine A_callVi (As := [.int a1, .int (1 : Int32)]) (st := [.int (D7.1 12 (0 : Int32).toNatClampNeg)]) hC (fun l => mX11_f l g hL a1 (1 : Int32) D7) (lM_0 hL) rfl (Nat.le_of_ble_eq_true rfl) yc_X11_291 rfl rfl ⟨by decide, by decide⟩ (Nat.le_of_ble_eq_true rfl) rfl dX11_isChosen_123 (fun x7 D8 => ?_)
          refine A_ishr hC dX11_isChosen_126 ?_
          refine A_iconst (v := 1) hC dX11_isChosen_127 (by decide) ?_
          refine A_iand hC dX11_isChosen_128 ?_
          refine A_if_eq (tgt := 144) hC dX11_isChosen_129 (by decide) ?_ ?_
          · exact A_to (hj144 D8) (trivial)
          · refine A_iload_n hC dX11_isChosen_132 rfl ?_
            refine A_if_eq (tgt := 144) hC dX11_isChosen_133 (by decide) ?_ ?_
            · exact A_to (hj144 D8) (trivial)
            · refine A_iload_n hC dX11_isChosen_136 rfl ?_
              refine A_if_eq (tgt := 144) hC dX11_isChosen_137 (by decide) ?_ ?_
              · exact A_to (hj144 D8) (trivial)
              · refine A_iconst (v := 1) hC dX11_isChosen_140 (by decide) ?_
                refine A_goto (tgt := 145) hC dX11_isChosen_141 (by decide) ?_
                exact A_to (hj145 (1 : Int32) D8) (trivial)
    refine A_join (fun (J : ADD → Option (Int32 × ADD)) => ∀ (D9 : ADD), AT aVi g b 79 [some (.ref (g.1 + 0)), some (.int a1), some (.int x2), none] [] D9 (J D9)) (fun D9 => ?_) (fun j79 hj79 => ?_)
    · refine A_iconst (v := 1) hC dX11_isChosen_79 (by decide) ?_
      refine A_goto (tgt := 84) hC dX11_isChosen_80 (by decide) ?_
      exact A_to (hj84 (1 : Int32) D9) (And.intro rfl (And.intro rfl (And.intro rfl (trivial))))
    refine A_if_eq (tgt := 79) hC dX11_isChosen_43 (by decide) ?_ ?_
    · exact A_to (hj79 D2) (And.intro rfl (And.intro rfl (And.intro rfl (trivial))))
    · refine A_aload_n hC dX11_isChosen_46 rfl ?_
      refine A_getr (kf := 14) hC kX11 (lM_0 hL) rfl (by decide) (by decide) rfl rfl w_1017 dX11_isChosen_47 ?_
      refine A_iconst (v := 0) hC dX11_isChosen_50 (by decide) ?_
      refine A_iald hC (lM_14 hL) dX11_isChosen_51 ?_
      refine A_iconst (v := 1) hC dX11_isChosen_52 (by decide) ?_
      refine A_join (fun (J : Int32 → ADD → Option (Int32 × ADD)) => ∀ (x8 : Int32) (D10 : ADD), AT aVi g b 61 [some (.ref (g.1 + 0)), some (.int a1), some (.int x2), none] [.int x8] D10 (J x8 D10)) (fun x8 D10 => ?_) (fun j61 hj61 => ?_)
      · refine A_aload_n hC dX11_isChosen_61 rfl ?_
        refine A_iload_n hC dX11_isChosen_62 rfl ?_
        refine A_bipush (v := 7) hC dX11_isChosen_63 (by decide) ?_
        refine A_callVi (As := [.int a1, .int (7 : Int32)]) (st := [.int x8]) hC (fun l => mX11_f l g hL a1 (7 : Int32) D10) (lM_0 hL) rfl (Nat.le_of_ble_eq_true rfl) yc_X11_291 rfl rfl ⟨by decide, by decide⟩ (Nat.le_of_ble_eq_true rfl) rfl dX11_isChosen_65 (fun x9 D11 => ?_)
        refine A_join (fun (J : Int32 → ADD → Option (Int32 × ADD)) => ∀ (x10 : Int32) (D12 : ADD), AT aVi g b 76 [some (.ref (g.1 + 0)), some (.int a1), some (.int x2), none] [.int x10, .int x8] D12 (J x10 D12)) (fun x10 D12 => ?_) (fun j76 hj76 => ?_)
        · refine A_icmp_ne (tgt := 83) hC dX11_isChosen_76 (by decide) ?_ ?_
          · refine A_iconst (v := 0) hC dX11_isChosen_83 (by decide) ?_
            exact A_to (hj84 (0 : Int32) D12) (And.intro rfl (And.intro rfl (And.intro rfl (trivial))))
          · exact A_to (hj79 D12) (And.intro rfl (And.intro rfl (And.intro rfl (trivial))))
        refine A_if_le (tgt := 75) hC dX11_isChosen_68 (by decide) ?_ ?_
        · refine A_iconst (v := 0) hC dX11_isChosen_75 (by decide) ?_
          exact A_to (hj76 (0 : Int32) D11) (And.intro rfl (And.intro rfl (And.intro rfl (trivial))))
        · refine A_iconst (v := 1) hC dX11_isChosen_71 (by decide) ?_
          refine A_goto (tgt := 76) hC dX11_isChosen_72 (by decide) ?_
          exact A_to (hj76 (1 : Int32) D11) (And.intro rfl (And.intro rfl (And.intro rfl (trivial))))
      refine A_icmp_ne (tgt := 60) hC dX11_isChosen_53 (by decide) ?_ ?_
      · refine A_iconst (v := 0) hC dX11_isChosen_60 (by decide) ?_
        exact A_to (hj61 (0 : Int32) D2) (And.intro rfl (And.intro rfl (And.intro rfl (trivial))))
      · refine A_iconst (v := 1) hC dX11_isChosen_56 (by decide) ?_
        refine A_goto (tgt := 61) hC dX11_isChosen_57 (by decide) ?_
        exact A_to (hj61 (1 : Int32) D2) (And.intro rfl (And.intro rfl (And.intro rfl (trivial))))
  refine A_join (fun (J : ADD → Option (Int32 × ADD)) => ∀ (D13 : ADD), AT aVi g b 35 [some (.ref (g.1 + 0)), some (.int a1), none, none] [] D13 (J D13)) (fun D13 => ?_) (fun j35 hj35 => ?_)
  · refine A_iconst (v := 0) hC dX11_isChosen_35 (by decide) ?_
    exact A_to (hj36 (0 : Int32) D13) (And.intro rfl (And.intro rfl (trivial)))
  refine A_icmp_gt (tgt := 35) hC dX11_isChosen_12 (by decide) ?_ ?_
  · exact A_to (hj35 D1) (And.intro rfl (And.intro rfl (trivial)))
  · refine A_aload_n hC dX11_isChosen_15 rfl ?_
    refine A_iload_n hC dX11_isChosen_16 rfl ?_
    refine A_bipush (v := 6) hC dX11_isChosen_17 (by decide) ?_
    refine A_callVi (As := [.int a1, .int (6 : Int32)]) (st := []) hC (fun l => mX11_f l g hL a1 (6 : Int32) D1) (lM_0 hL) rfl (Nat.le_of_ble_eq_true rfl) yc_X11_291 rfl rfl ⟨by decide, by decide⟩ (Nat.le_of_ble_eq_true rfl) rfl dX11_isChosen_19 (fun x11 D14 => ?_)
    refine A_aload_n hC dX11_isChosen_22 rfl ?_
    refine A_getr (kf := 13) hC kX11 (lM_0 hL) rfl (by decide) (by decide) rfl rfl w_1016 dX11_isChosen_23 ?_
    refine A_iconst (v := 0) hC dX11_isChosen_26 (by decide) ?_
    refine A_iald hC (lM_13 hL) dX11_isChosen_27 ?_
    refine A_icmp_lt (tgt := 35) hC dX11_isChosen_28 (by decide) ?_ ?_
    · exact A_to (hj35 D14) (And.intro rfl (And.intro rfl (trivial)))
    · refine A_iconst (v := 1) hC dX11_isChosen_31 (by decide) ?_
      refine A_goto (tgt := 36) hC dX11_isChosen_32 (by decide) ?_
      exact A_to (hj36 (1 : Int32) D14) (And.intro rfl (And.intro rfl (trivial)))
def fX11_isOfSet (a1 : Int32) (a2 : Int32) (D : ADD) : Option (Int32 × ADD) := aIn a1 32 (aLet (fun (x1 : Int32) (D1 : ADD) => aZ x1 (some (x1, D1))) (fun (j36 : Int32 → ADD → Option (Int32 × ADD)) => aLet (fun (D2 : ADD) => j36 (0 : Int32) D2) (fun (j35 : ADD → Option (Int32 × ADD)) => (if (aBz (D.1 31 a1.toNatClampNeg)) = 0 then j35 D else aBind (fX11_f a1 (9 : Int32) D) (fun x2 D3 => (if x2 = (1 : Int32) then aBind (fX11_f a1 (10 : Int32) D3) (fun x3 D4 => (if x3 = a2 then j36 (1 : Int32) D4 else j35 D4)) else j35 D3))))))
set_option maxHeartbeats 4000000 in
set_option maxRecDepth 100000 in
theorem mX11_isOfSet (l : Launch) (g : AGl) (hL : aLM g) (a1 : Int32) (a2 : Int32) (D : ADD) : AM aVi l yX11_isOfSet cX11_isOfSet 3 (some .boolean) 1 g [.ref (g.1 + 0), .int a1, .int a2] D (fX11_isOfSet a1 a2 D) := by
  refine AM_of (lv0 := [some (.ref (g.1 + 0)), some (.int a1), some (.int a2)]) (own := RX11) (by decide +kernel) rfl (Nat.le_of_ble_eq_true rfl) rfl (fun b hC => ?_)
  unfold fX11_isOfSet
  refine A_aload_n hC dX11_isOfSet_0 rfl ?_
  refine A_getr (kf := 42) hC kX11 (lM_0 hL) rfl (by decide) (by decide) rfl rfl w_1045 dX11_isOfSet_1 ?_
  refine A_iload_n hC dX11_isOfSet_4 rfl ?_
  refine A_zald hC (lM_31 hL) dX11_isOfSet_5 ?_
  refine A_join (fun (J : Int32 → ADD → Option (Int32 × ADD)) => ∀ (x1 : Int32) (D1 : ADD), AT aVi g b 36 [none, none, none] [.int x1] D1 (J x1 D1)) (fun x1 D1 => ?_) (fun j36 hj36 => ?_)
  · exact A_zretc hC dX11_isOfSet_36
  refine A_join (fun (J : ADD → Option (Int32 × ADD)) => ∀ (D2 : ADD), AT aVi g b 35 [none, none, none] [] D2 (J D2)) (fun D2 => ?_) (fun j35 hj35 => ?_)
  · refine A_iconst (v := 0) hC dX11_isOfSet_35 (by decide) ?_
    exact A_to (hj36 (0 : Int32) D2) (trivial)
  refine A_if_eq (tgt := 35) hC dX11_isOfSet_6 (by decide) ?_ ?_
  · exact A_to (hj35 D) (trivial)
  · refine A_aload_n hC dX11_isOfSet_9 rfl ?_
    refine A_iload_n hC dX11_isOfSet_10 rfl ?_
    refine A_bipush (v := 9) hC dX11_isOfSet_11 (by decide) ?_
    refine A_callVi (As := [.int a1, .int (9 : Int32)]) (st := []) hC (fun l => mX11_f l g hL a1 (9 : Int32) D) (lM_0 hL) rfl (Nat.le_of_ble_eq_true rfl) yc_X11_291 rfl rfl ⟨by decide, by decide⟩ (Nat.le_of_ble_eq_true rfl) rfl dX11_isOfSet_13 (fun x2 D3 => ?_)
    refine A_iconst (v := 1) hC dX11_isOfSet_16 (by decide) ?_
    refine A_icmp_ne (tgt := 35) hC dX11_isOfSet_17 (by decide) ?_ ?_
    · exact A_to (hj35 D3) (trivial)
    · refine A_aload_n hC dX11_isOfSet_20 rfl ?_
      refine A_iload_n hC dX11_isOfSet_21 rfl ?_
      refine A_bipush (v := 10) hC dX11_isOfSet_22 (by decide) ?_
      refine A_callVi (As := [.int a1, .int (10 : Int32)]) (st := []) hC (fun l => mX11_f l g hL a1 (10 : Int32) D3) (lM_0 hL) rfl (Nat.le_of_ble_eq_true rfl) yc_X11_291 rfl rfl ⟨by decide, by decide⟩ (Nat.le_of_ble_eq_true rfl) rfl dX11_isOfSet_24 (fun x3 D4 => ?_)
      refine A_iload_n hC dX11_isOfSet_27 rfl ?_
      refine A_icmp_ne (tgt := 35) hC dX11_isOfSet_28 (by decide) ?_ ?_
      · exact A_to (hj35 D4) (trivial)
      · refine A_iconst (v := 1) hC dX11_isOfSet_31 (by decide) ?_
        refine A_goto (tgt := 36) hC dX11_isOfSet_32 (by decide) ?_
        exact A_to (hj36 (1 : Int32) D4) (trivial)
def fX11_isPeak (a1 : Int32) (a2 : Int32) (a3 : Int32) (D : ADD) : Option (Int32 × ADD) := aLet (fun (x1 : Int32) (D1 : ADD) => aZ x1 (some (x1, D1))) (fun (j43 : Int32 → ADD → Option (Int32 × ADD)) => aLet (fun (D2 : ADD) => j43 (0 : Int32) D2) (fun (j42 : ADD → Option (Int32 × ADD)) => aLet (fun (D3 : ADD) => aLet (fun (D4 : ADD) => j43 (1 : Int32) D4) (fun (j38 : ADD → Option (Int32 × ADD)) => (if a3 = a2 then j38 D3 else aBind (fX11_against a1 a3 (a3 + (1 : Int32)) D3) (fun x2 D5 => (if (aCmp x2 (0 : Int64)) < 0 then j42 D5 else j38 D5))))) (fun (j19 : ADD → Option (Int32 × ADD)) => (if a3 = a1 then j19 D else aBind (fX11_against a1 a3 (a3 - (1 : Int32)) D) (fun x3 D6 => (if (aCmp x3 (0 : Int64)) ≤ 0 then j42 D6 else j19 D6))))))
set_option maxHeartbeats 4000000 in
set_option maxRecDepth 100000 in
theorem mX11_isPeak (l : Launch) (g : AGl) (hL : aLM g) (a1 : Int32) (a2 : Int32) (a3 : Int32) (D : ADD) : AM aVi l yX11_isPeak cX11_isPeak 4 (some .boolean) 1 g [.ref (g.1 + 0), .int a1, .int a2, .int a3] D (fX11_isPeak a1 a2 a3 D) := by
  refine AM_of (lv0 := [some (.ref (g.1 + 0)), some (.int a1), some (.int a2), some (.int a3)]) (own := RX11) (by decide +kernel) rfl (Nat.le_of_ble_eq_true rfl) rfl (fun b hC => ?_)
  unfold fX11_isPeak
  refine A_iload_n hC dX11_isPeak_0 rfl ?_
  refine A_iload_n hC dX11_isPeak_1 rfl ?_
  refine A_join (fun (J : Int32 → ADD → Option (Int32 × ADD)) => ∀ (x1 : Int32) (D1 : ADD), AT aVi g b 43 [none, none, none, none] [.int x1] D1 (J x1 D1)) (fun x1 D1 => ?_) (fun j43 hj43 => ?_)
  · exact A_zretc hC dX11_isPeak_43
  refine A_join (fun (J : ADD → Option (Int32 × ADD)) => ∀ (D2 : ADD), AT aVi g b 42 [none, none, none, none] [] D2 (J D2)) (fun D2 => ?_) (fun j42 hj42 => ?_)
  · refine A_iconst (v := 0) hC dX11_isPeak_42 (by decide) ?_
    exact A_to (hj43 (0 : Int32) D2) (trivial)
  refine A_join (fun (J : ADD → Option (Int32 × ADD)) => ∀ (D3 : ADD), AT aVi g b 19 [some (.ref (g.1 + 0)), some (.int a1), some (.int a2), some (.int a3)] [] D3 (J D3)) (fun D3 => ?_) (fun j19 hj19 => ?_)
  · refine A_iload_n hC dX11_isPeak_19 rfl ?_
    refine A_iload_n hC dX11_isPeak_20 rfl ?_
    refine A_join (fun (J : ADD → Option (Int32 × ADD)) => ∀ (D4 : ADD), AT aVi g b 38 [none, none, none, none] [] D4 (J D4)) (fun D4 => ?_) (fun j38 hj38 => ?_)
    · refine A_iconst (v := 1) hC dX11_isPeak_38 (by decide) ?_
      refine A_goto (tgt := 43) hC dX11_isPeak_39 (by decide) ?_
      exact A_to (hj43 (1 : Int32) D4) (trivial)
    refine A_icmp_eq (tgt := 38) hC dX11_isPeak_21 (by decide) ?_ ?_
    · exact A_to (hj38 D3) (trivial)
    · refine A_aload_n hC dX11_isPeak_24 rfl ?_
      refine A_iload_n hC dX11_isPeak_25 rfl ?_
      refine A_iload_n hC dX11_isPeak_26 rfl ?_
      refine A_iload_n hC dX11_isPeak_27 rfl ?_
      refine A_iconst (v := 1) hC dX11_isPeak_28 (by decide) ?_
      refine A_iadd hC dX11_isPeak_29 ?_
      refine A_callVl (As := [.int a1, .int a3, .int (a3 + (1 : Int32))]) (st := []) hC (fun l => mX11_against l g hL a1 a3 (a3 + (1 : Int32)) D3) (lM_0 hL) rfl (Nat.le_of_ble_eq_true rfl) yc_X11_336 rfl rfl ⟨by decide, by decide⟩ (Nat.le_of_ble_eq_true rfl) rfl dX11_isPeak_30 (fun x2 D5 => ?_)
      refine A_lconst (v := 0) hC dX11_isPeak_33 (by decide) ?_
      refine A_lcmp hC dX11_isPeak_34 ?_
      refine A_if_lt (tgt := 42) hC dX11_isPeak_35 (by decide) ?_ ?_
      · exact A_to (hj42 D5) (trivial)
      · exact A_to (hj38 D5) (trivial)
  refine A_icmp_eq (tgt := 19) hC dX11_isPeak_2 (by decide) ?_ ?_
  · exact A_to (hj19 D) (And.intro rfl (And.intro rfl (And.intro rfl (And.intro rfl (trivial)))))
  · refine A_aload_n hC dX11_isPeak_5 rfl ?_
    refine A_iload_n hC dX11_isPeak_6 rfl ?_
    refine A_iload_n hC dX11_isPeak_7 rfl ?_
    refine A_iload_n hC dX11_isPeak_8 rfl ?_
    refine A_iconst (v := 1) hC dX11_isPeak_9 (by decide) ?_
    refine A_isub hC dX11_isPeak_10 ?_
    refine A_callVl (As := [.int a1, .int a3, .int (a3 - (1 : Int32))]) (st := []) hC (fun l => mX11_against l g hL a1 a3 (a3 - (1 : Int32)) D) (lM_0 hL) rfl (Nat.le_of_ble_eq_true rfl) yc_X11_336 rfl rfl ⟨by decide, by decide⟩ (Nat.le_of_ble_eq_true rfl) rfl dX11_isPeak_11 (fun x3 D6 => ?_)
    refine A_lconst (v := 0) hC dX11_isPeak_14 (by decide) ?_
    refine A_lcmp hC dX11_isPeak_15 ?_
    refine A_if_le (tgt := 42) hC dX11_isPeak_16 (by decide) ?_ ?_
    · exact A_to (hj42 D6) (trivial)
    · exact A_to (hj19 D6) (And.intro rfl (And.intro rfl (And.intro rfl (And.intro rfl (trivial)))))
def fX11_isStone (a1 : Int32) (D : ADD) : Option (Int32 × ADD) := aIn (0 : Int32) 4 (aBind (fX11_is a1 (0 : Int32) ((D.1 5 (0 : Int32).toNatClampNeg) - (1 : Int32)) D) (fun x1 D1 => aLet (fun (x2 : Int32) (D2 : ADD) => aZ x2 (some (x2, D2))) (fun (j36 : Int32 → ADD → Option (Int32 × ADD)) => aLet (fun (D3 : ADD) => j36 (0 : Int32) D3) (fun (j35 : ADD → Option (Int32 × ADD)) => (if x1 = 0 then j35 D1 else aIn ((3 : Int32) * a1) 384 (aBind (fX11_dayOfView D1) (fun x3 D4 => (if x3 < (D1.1 10 ((3 : Int32) * a1).toNatClampNeg) then j35 D4 else j36 (1 : Int32) D4))))))))
set_option maxHeartbeats 4000000 in
set_option maxRecDepth 100000 in
theorem mX11_isStone (l : Launch) (g : AGl) (hL : aLM g) (a1 : Int32) (D : ADD) : AM aVi l yX11_isStone cX11_isStone 2 (some .boolean) 1 g [.ref (g.1 + 0), .int a1] D (fX11_isStone a1 D) := by
  refine AM_of (lv0 := [some (.ref (g.1 + 0)), some (.int a1)]) (own := RX11) (by decide +kernel) rfl (Nat.le_of_ble_eq_true rfl) rfl (fun b hC => ?_)
  unfold fX11_isStone
  refine A_iload_n hC dX11_isStone_0 rfl ?_
  refine A_iconst (v := 0) hC dX11_isStone_1 (by decide) ?_
  refine A_aload_n hC dX11_isStone_2 rfl ?_
  refine A_getr (kf := 5) hC kX11 (lM_0 hL) rfl (by decide) (by decide) rfl rfl w_1008 dX11_isStone_3 ?_
  refine A_iconst (v := 0) hC dX11_isStone_6 (by decide) ?_
  refine A_iald hC (lM_5 hL) dX11_isStone_7 ?_
  refine A_iconst (v := 1) hC dX11_isStone_8 (by decide) ?_
  refine A_isub hC dX11_isStone_9 ?_
  refine A_callSi (As := [.int a1, .int (0 : Int32), .int ((D.1 5 (0 : Int32).toNatClampNeg) - (1 : Int32))]) (st := []) hC (fun l => mX11_is l g a1 (0 : Int32) ((D.1 5 (0 : Int32).toNatClampNeg) - (1 : Int32)) D) yc_X11_138 rfl rfl ⟨by decide, by decide⟩ (Nat.le_of_ble_eq_true rfl) rfl dX11_isStone_10 (fun x1 D1 => ?_)
  refine A_join (fun (J : Int32 → ADD → Option (Int32 × ADD)) => ∀ (x2 : Int32) (D2 : ADD), AT aVi g b 36 [none, none] [.int x2] D2 (J x2 D2)) (fun x2 D2 => ?_) (fun j36 hj36 => ?_)
  · exact A_zretc hC dX11_isStone_36
  refine A_join (fun (J : ADD → Option (Int32 × ADD)) => ∀ (D3 : ADD), AT aVi g b 35 [none, none] [] D3 (J D3)) (fun D3 => ?_) (fun j35 hj35 => ?_)
  · refine A_iconst (v := 0) hC dX11_isStone_35 (by decide) ?_
    exact A_to (hj36 (0 : Int32) D3) (trivial)
  refine A_if_eq (tgt := 35) hC dX11_isStone_13 (by decide) ?_ ?_
  · exact A_to (hj35 D1) (trivial)
  · refine A_aload_n hC dX11_isStone_16 rfl ?_
    refine A_getr (kf := 10) hC kX11 (lM_0 hL) rfl (by decide) (by decide) rfl rfl w_1013 dX11_isStone_17 ?_
    refine A_iconst (v := 3) hC dX11_isStone_20 (by decide) ?_
    refine A_iload_n hC dX11_isStone_21 rfl ?_
    refine A_imul hC dX11_isStone_22 ?_
    refine A_iald hC (lM_10 hL) dX11_isStone_23 ?_
    refine A_aload_n hC dX11_isStone_24 rfl ?_
    refine A_callVi (As := []) (st := [.int (D1.1 10 ((3 : Int32) * a1).toNatClampNeg)]) hC (fun l => mX11_dayOfView l g hL D1) (lM_0 hL) rfl (Nat.le_of_ble_eq_true rfl) yc_X11_142 rfl rfl ⟨by decide, by decide⟩ (Nat.le_of_ble_eq_true rfl) rfl dX11_isStone_25 (fun x3 D4 => ?_)
    refine A_icmp_gt (tgt := 35) hC dX11_isStone_28 (by decide) ?_ ?_
    · exact A_to (hj35 D4) (trivial)
    · refine A_iconst (v := 1) hC dX11_isStone_31 (by decide) ?_
      refine A_goto (tgt := 36) hC dX11_isStone_32 (by decide) ?_
      exact A_to (hj36 (1 : Int32) D4) (trivial)
def fX11_isUnit (a1 : Int32) (D : ADD) : Option (Int32 × ADD) := aBind (fX11_is a1 (10 : Int32) (2000 : Int32) D) (fun x1 D1 => aZ x1 (some (x1, D1)))
set_option maxHeartbeats 4000000 in
set_option maxRecDepth 100000 in
theorem mX11_isUnit (l : Launch) (g : AGl) (a1 : Int32) (D : ADD) : AM aVi l yX11_isUnit cX11_isUnit 1 (some .boolean) 1 g [.int a1] D (fX11_isUnit a1 D) := by
  refine AM_of (lv0 := [some (.int a1)]) (own := RX11) (by decide +kernel) rfl (Nat.le_of_ble_eq_true rfl) rfl (fun b hC => ?_)
  unfold fX11_isUnit
  refine A_iload_n hC dX11_isUnit_0 rfl ?_
  refine A_bipush (v := 10) hC dX11_isUnit_1 (by decide) ?_
  refine A_sipush (v := 2000) hC dX11_isUnit_3 (by decide) ?_
  refine A_callSi (As := [.int a1, .int (10 : Int32), .int (2000 : Int32)]) (st := []) hC (fun l => mX11_is l g a1 (10 : Int32) (2000 : Int32) D) yc_X11_138 rfl rfl ⟨by decide, by decide⟩ (Nat.le_of_ble_eq_true rfl) rfl dX11_isUnit_6 (fun x1 D1 => ?_)
  exact A_zretc hC dX11_isUnit_9
def lX11_likely_4 (a1 : Int32) (a2 : Int32) (j64 : Int32 → ADD → Option (Int32 × ADD)) (L4 : Int32 → Int32 → ADD → Option (Int32 × ADD)) (x2 : Int32) (x3 : Int32) (D2 : ADD) : Option (Int32 × ADD) := (if a1 ≤ x3 then j64 x2 D2 else aBind (fX11_far x3 (x3 + a2) (0 : Int32) D2) (fun x4 D3 => aBind (fX11_far x3 (x3 + a2) a1 D3) (fun x5 D4 => aLet (fun (x6 : Int32) (D5 : ADD) => aLet (fun (x7 : Int32) (D6 : ADD) => aLet (x2 + x7) (fun x8 => aLet (x3 + (1 : Int32)) (fun x9 => L4 x8 x9 D6))) (fun (j56 : Int32 → ADD → Option (Int32 × ADD)) => (if a1 < ((8 : Int32) * x6) then j56 (0 : Int32) D5 else j56 (1 : Int32) D5))) (fun (j46 : Int32 → ADD → Option (Int32 × ADD)) => (if x5 ≤ x4 then j46 x5 D4 else j46 x4 D4)))))
def fX11_likely (a1 : Int32) (a2 : Int32) (D : ADD) : Option (Int32 × ADD) := aLet (fun (x1 : Int32) (D1 : ADD) => some (x1, D1)) (fun (j64 : Int32 → ADD → Option (Int32 × ADD)) => aLet (aFix aFuel (lX11_likely_4 a1 a2 j64) (fun _ _ _ => none)) (fun j4 => j4 (0 : Int32) (0 : Int32) D))
set_option maxHeartbeats 4000000 in
set_option maxRecDepth 100000 in
theorem mX11_likely (l : Launch) (g : AGl) (a1 : Int32) (a2 : Int32) (D : ADD) : AM aVi l yX11_likely cX11_likely 6 (some .int) 1 g [.int a1, .int a2] D (fX11_likely a1 a2 D) := by
  refine AM_of (lv0 := [some (.int a1), some (.int a2), none, none, none, none]) (own := RX11) (by decide +kernel) rfl (Nat.le_of_ble_eq_true rfl) rfl (fun b hC => ?_)
  unfold fX11_likely
  refine A_iconst (v := 0) hC dX11_likely_0 (by decide) ?_
  refine A_istore_n (lv2 := [some (.int a1), some (.int a2), some (.int (0 : Int32)), none, none, none]) hC dX11_likely_1 (Nat.le_of_ble_eq_true rfl) rfl rfl ?_
  refine A_iconst (v := 0) hC dX11_likely_2 (by decide) ?_
  refine A_istore_n (lv2 := [some (.int a1), some (.int a2), some (.int (0 : Int32)), some (.int (0 : Int32)), none, none]) hC dX11_likely_3 (Nat.le_of_ble_eq_true rfl) rfl rfl ?_
  refine A_join (fun (J : Int32 → ADD → Option (Int32 × ADD)) => ∀ (x1 : Int32) (D1 : ADD), AT aVi g b 64 [none, none, some (.int x1), none, none, none] [] D1 (J x1 D1)) (fun x1 D1 => ?_) (fun j64 hj64 => ?_)
  · refine A_iload_n hC dX11_likely_64 rfl ?_
    exact A_iret hC dX11_likely_65
  refine A_join (fun (J : Int32 → Int32 → ADD → Option (Int32 × ADD)) => ∀ (x2 : Int32) (x3 : Int32) (D2 : ADD), AT aVi g b 4 [some (.int a1), some (.int a2), some (.int x2), some (.int x3), none, none] [] D2 (J x2 x3 D2)) (aFix_all (fun (J : Int32 → Int32 → ADD → Option (Int32 × ADD)) => ∀ (x2 : Int32) (x3 : Int32) (D2 : ADD), AT aVi g b 4 [some (.int a1), some (.int a2), some (.int x2), some (.int x3), none, none] [] D2 (J x2 x3 D2)) (fun _ _ _ => A_none) (fun L4 hL4 x2 x3 D2 => ?_) _) (fun j4 hj4 => ?_)
  · unfold lX11_likely_4
    refine A_iload_n hC dX11_likely_4 rfl ?_
    refine A_iload_n hC dX11_likely_5 rfl ?_
    refine A_icmp_ge (tgt := 64) hC dX11_likely_6 (by decide) ?_ ?_
    · exact A_to (hj64 x2 D2) (And.intro rfl (trivial))
    · refine A_iload_n hC dX11_likely_9 rfl ?_
      refine A_iload_n hC dX11_likely_10 rfl ?_
      refine A_iload_n hC dX11_likely_11 rfl ?_
      refine A_iadd hC dX11_likely_12 ?_
      refine A_iconst (v := 0) hC dX11_likely_13 (by decide) ?_
      refine A_callSi (As := [.int x3, .int (x3 + a2), .int (0 : Int32)]) (st := []) hC (fun l => mX11_far l g x3 (x3 + a2) (0 : Int32) D2) yc_X11_317 rfl rfl ⟨by decide, by decide⟩ (Nat.le_of_ble_eq_true rfl) rfl dX11_likely_14 (fun x4 D3 => ?_)
      refine A_istore (lv2 := [some (.int a1), some (.int a2), some (.int x2), some (.int x3), some (.int x4), none]) hC dX11_likely_17 (Nat.le_of_ble_eq_true rfl) rfl rfl ?_
      refine A_iload_n hC dX11_likely_19 rfl ?_
      refine A_iload_n hC dX11_likely_20 rfl ?_
      refine A_iload_n hC dX11_likely_21 rfl ?_
      refine A_iadd hC dX11_likely_22 ?_
      refine A_iload_n hC dX11_likely_23 rfl ?_
      refine A_callSi (As := [.int x3, .int (x3 + a2), .int a1]) (st := []) hC (fun l => mX11_far l g x3 (x3 + a2) a1 D3) yc_X11_317 rfl rfl ⟨by decide, by decide⟩ (Nat.le_of_ble_eq_true rfl) rfl dX11_likely_24 (fun x5 D4 => ?_)
      refine A_istore (lv2 := [some (.int a1), some (.int a2), some (.int x2), some (.int x3), some (.int x4), some (.int x5)]) hC dX11_likely_27 (Nat.le_of_ble_eq_true rfl) rfl rfl ?_
      refine A_iload_n hC dX11_likely_29 rfl ?_
      refine A_bipush (v := 8) hC dX11_likely_30 (by decide) ?_
      refine A_iload hC dX11_likely_32 rfl ?_
      refine A_iload hC dX11_likely_34 rfl ?_
      refine A_join (fun (J : Int32 → ADD → Option (Int32 × ADD)) => ∀ (x6 : Int32) (D5 : ADD), AT aVi g b 46 [some (.int a1), some (.int a2), none, some (.int x3), none, none] [.int x6, .int (8 : Int32), .int x2] D5 (J x6 D5)) (fun x6 D5 => ?_) (fun j46 hj46 => ?_)
      · refine A_imul hC dX11_likely_46 ?_
        refine A_iload_n hC dX11_likely_47 rfl ?_
        refine A_join (fun (J : Int32 → ADD → Option (Int32 × ADD)) => ∀ (x7 : Int32) (D6 : ADD), AT aVi g b 56 [some (.int a1), some (.int a2), none, some (.int x3), none, none] [.int x7, .int x2] D6 (J x7 D6)) (fun x7 D6 => ?_) (fun j56 hj56 => ?_)
        · refine A_iadd hC dX11_likely_56 ?_
          refine A_topi (fun x8 => ?_)
          refine A_istore_n (lv2 := [some (.int a1), some (.int a2), some (.int x8), some (.int x3), none, none]) hC dX11_likely_57 (Nat.le_of_ble_eq_true rfl) rfl rfl ?_
          refine A_iincL (z := (1 : Int32)) (lv2 := fun x9 => [some (.int a1), some (.int a2), some (.int x8), some (.int x9), none, none]) hC dX11_likely_58 rfl (by decide) (Nat.le_of_ble_eq_true rfl) rfl (fun _ => rfl) (fun x9 => ?_)
          refine A_goto (tgt := 4) hC dX11_likely_61 (by decide) ?_
          exact A_to (hL4 x8 x9 D6) (And.intro rfl (And.intro rfl (And.intro rfl (And.intro rfl (trivial)))))
        refine A_icmp_gt (tgt := 55) hC dX11_likely_48 (by decide) ?_ ?_
        · refine A_iconst (v := 0) hC dX11_likely_55 (by decide) ?_
          exact A_to (hj56 (0 : Int32) D5) (And.intro rfl (And.intro rfl (And.intro rfl (trivial))))
        · refine A_iconst (v := 1) hC dX11_likely_51 (by decide) ?_
          refine A_goto (tgt := 56) hC dX11_likely_52 (by decide) ?_
          exact A_to (hj56 (1 : Int32) D5) (And.intro rfl (And.intro rfl (And.intro rfl (trivial))))
      refine A_icmp_ge (tgt := 44) hC dX11_likely_36 (by decide) ?_ ?_
      · refine A_iload hC dX11_likely_44 rfl ?_
        exact A_to (hj46 x5 D4) (And.intro rfl (And.intro rfl (And.intro rfl (trivial))))
      · refine A_iload hC dX11_likely_39 rfl ?_
        refine A_goto (tgt := 46) hC dX11_likely_41 (by decide) ?_
        exact A_to (hj46 x4 D4) (And.intro rfl (And.intro rfl (And.intro rfl (trivial))))
  exact A_to (hj4 (0 : Int32) (0 : Int32) D) (And.intro rfl (And.intro rfl (And.intro rfl (And.intro rfl (trivial)))))
def fX11_shortOf (a1 : Int32) (a2 : Int32) (D : ADD) : Option (Int32 × ADD) := aIn a1 32 (aLet (D.1 34 a1.toNatClampNeg) (fun x1 => aBind (fX11_f a1 (7 : Int32) D) (fun x2 D1 => aLet (fun (x3 : Int32) (D2 : ADD) => aLet (fun (x4 : Int32) (D3 : ADD) => some (x4, D3)) (fun (j69 : Int32 → ADD → Option (Int32 × ADD)) => (if (x3 * a2) ≤ x1 then j69 (0 : Int32) D2 else j69 ((x3 * a2) - x1) D2))) (fun (j51 : Int32 → ADD → Option (Int32 × ADD)) => (if x2 = 0 then aNZ a2 (aLet (x1 / a2) (fun x5 => aLet (fun (x6 : Int32) (D4 : ADD) => j51 x6 D4) (fun (j49 : Int32 → ADD → Option (Int32 × ADD)) => aLet (fun (D5 : ADD) => j49 (x5 + (1 : Int32)) D5) (fun (j40 : ADD → Option (Int32 × ADD)) => (if x5 = 0 then j40 D1 else aNZ a2 ((if ((2 : Int32) * (x1 - x1 / a2 * a2)) < a2 then j49 x5 D1 else j40 D1))))))) else j51 x2 D1)))))
set_option maxHeartbeats 4000000 in
set_option maxRecDepth 100000 in
theorem mX11_shortOf (l : Launch) (g : AGl) (hL : aLM g) (a1 : Int32) (a2 : Int32) (D : ADD) : AM aVi l yX11_shortOf cX11_shortOf 5 (some .int) 1 g [.ref (g.1 + 0), .int a1, .int a2] D (fX11_shortOf a1 a2 D) := by
  refine AM_of (lv0 := [some (.ref (g.1 + 0)), some (.int a1), some (.int a2), none, none]) (own := RX11) (by decide +kernel) rfl (Nat.le_of_ble_eq_true rfl) rfl (fun b hC => ?_)
  unfold fX11_shortOf
  refine A_aload_n hC dX11_shortOf_0 rfl ?_
  refine A_getr (kf := 45) hC kX11 (lM_0 hL) rfl (by decide) (by decide) rfl rfl w_1048 dX11_shortOf_1 ?_
  refine A_iload_n hC dX11_shortOf_4 rfl ?_
  refine A_iald hC (lM_34 hL) dX11_shortOf_5 ?_
  refine A_topi (fun x1 => ?_)
  refine A_istore_n (lv2 := [some (.ref (g.1 + 0)), some (.int a1), some (.int a2), some (.int x1), none]) hC dX11_shortOf_6 (Nat.le_of_ble_eq_true rfl) rfl rfl ?_
  refine A_aload_n hC dX11_shortOf_7 rfl ?_
  refine A_iload_n hC dX11_shortOf_8 rfl ?_
  refine A_bipush (v := 7) hC dX11_shortOf_9 (by decide) ?_
  refine A_callVi (As := [.int a1, .int (7 : Int32)]) (st := []) hC (fun l => mX11_f l g hL a1 (7 : Int32) D) (lM_0 hL) rfl (Nat.le_of_ble_eq_true rfl) yc_X11_291 rfl rfl ⟨by decide, by decide⟩ (Nat.le_of_ble_eq_true rfl) rfl dX11_shortOf_11 (fun x2 D1 => ?_)
  refine A_istore (lv2 := [some (.ref (g.1 + 0)), some (.int a1), some (.int a2), some (.int x1), some (.int x2)]) hC dX11_shortOf_14 (Nat.le_of_ble_eq_true rfl) rfl rfl ?_
  refine A_iload hC dX11_shortOf_16 rfl ?_
  refine A_join (fun (J : Int32 → ADD → Option (Int32 × ADD)) => ∀ (x3 : Int32) (D2 : ADD), AT aVi g b 51 [none, none, some (.int a2), some (.int x1), some (.int x3)] [] D2 (J x3 D2)) (fun x3 D2 => ?_) (fun j51 hj51 => ?_)
  · refine A_iload hC dX11_shortOf_51 rfl ?_
    refine A_iload_n hC dX11_shortOf_53 rfl ?_
    refine A_imul hC dX11_shortOf_54 ?_
    refine A_iload_n hC dX11_shortOf_55 rfl ?_
    refine A_join (fun (J : Int32 → ADD → Option (Int32 × ADD)) => ∀ (x4 : Int32) (D3 : ADD), AT aVi g b 69 [none, none, none, none, none] [.int x4] D3 (J x4 D3)) (fun x4 D3 => ?_) (fun j69 hj69 => ?_)
    · exact A_iret hC dX11_shortOf_69
    refine A_icmp_le (tgt := 68) hC dX11_shortOf_56 (by decide) ?_ ?_
    · refine A_iconst (v := 0) hC dX11_shortOf_68 (by decide) ?_
      exact A_to (hj69 (0 : Int32) D2) (trivial)
    · refine A_iload hC dX11_shortOf_59 rfl ?_
      refine A_iload_n hC dX11_shortOf_61 rfl ?_
      refine A_imul hC dX11_shortOf_62 ?_
      refine A_iload_n hC dX11_shortOf_63 rfl ?_
      refine A_isub hC dX11_shortOf_64 ?_
      refine A_goto (tgt := 69) hC dX11_shortOf_65 (by decide) ?_
      exact A_to (hj69 ((x3 * a2) - x1) D2) (trivial)
  refine A_if_ne (tgt := 51) hC dX11_shortOf_18 (by decide) ?_ ?_
  · exact A_to (hj51 x2 D1) (And.intro rfl (And.intro rfl (And.intro rfl (trivial))))
  · refine A_iload_n hC dX11_shortOf_21 rfl ?_
    refine A_iload_n hC dX11_shortOf_22 rfl ?_
    refine A_idiv hC dX11_shortOf_23 ?_
    refine A_topi (fun x5 => ?_)
    refine A_istore (lv2 := [some (.ref (g.1 + 0)), some (.int a1), some (.int a2), some (.int x1), some (.int x5)]) hC dX11_shortOf_24 (Nat.le_of_ble_eq_true rfl) rfl rfl ?_
    refine A_iload hC dX11_shortOf_26 rfl ?_
    refine A_join (fun (J : Int32 → ADD → Option (Int32 × ADD)) => ∀ (x6 : Int32) (D4 : ADD), AT aVi g b 49 [none, none, some (.int a2), some (.int x1), none] [.int x6] D4 (J x6 D4)) (fun x6 D4 => ?_) (fun j49 hj49 => ?_)
    · refine A_istore (lv2 := [none, none, some (.int a2), some (.int x1), some (.int x6)]) hC dX11_shortOf_49 (Nat.le_of_ble_eq_true rfl) rfl rfl ?_
      exact A_to (hj51 x6 D4) (And.intro rfl (And.intro rfl (And.intro rfl (trivial))))
    refine A_join (fun (J : ADD → Option (Int32 × ADD)) => ∀ (D5 : ADD), AT aVi g b 40 [none, none, some (.int a2), some (.int x1), some (.int x5)] [] D5 (J D5)) (fun D5 => ?_) (fun j40 hj40 => ?_)
    · refine A_iload hC dX11_shortOf_40 rfl ?_
      refine A_iconst (v := 1) hC dX11_shortOf_42 (by decide) ?_
      refine A_iadd hC dX11_shortOf_43 ?_
      refine A_goto (tgt := 49) hC dX11_shortOf_44 (by decide) ?_
      exact A_to (hj49 (x5 + (1 : Int32)) D5) (And.intro rfl (And.intro rfl (trivial)))
    refine A_if_eq (tgt := 40) hC dX11_shortOf_28 (by decide) ?_ ?_
    · exact A_to (hj40 D1) (And.intro rfl (And.intro rfl (And.intro rfl (trivial))))
    · refine A_iconst (v := 2) hC dX11_shortOf_31 (by decide) ?_
      refine A_iload_n hC dX11_shortOf_32 rfl ?_
      refine A_iload_n hC dX11_shortOf_33 rfl ?_
      refine A_irem hC dX11_shortOf_34 ?_
      refine A_imul hC dX11_shortOf_35 ?_
      refine A_iload_n hC dX11_shortOf_36 rfl ?_
      refine A_icmp_lt (tgt := 47) hC dX11_shortOf_37 (by decide) ?_ ?_
      · refine A_iload hC dX11_shortOf_47 rfl ?_
        exact A_to (hj49 x5 D1) (And.intro rfl (And.intro rfl (trivial)))
      · exact A_to (hj40 D1) (And.intro rfl (And.intro rfl (And.intro rfl (trivial))))
def fX11_stone (a1 : Int32) (a2 : Int32) (a3 : Int32) (D : ADD) : Option (Int32 × ADD) := aLet (aSI D 0 0 (0 : Int32)) (fun D1 => aIn (0 : Int32) 4 (aLet (fun (D2 : ADD) => some ((-1 : Int32), D2)) (fun (j57 : ADD → Option (Int32 × ADD)) => (if (D1.1 5 (0 : Int32).toNatClampNeg) = (32 : Int32) then j57 D1 else aIn (0 : Int32) 4 ((if (D1.1 8 (0 : Int32).toNatClampNeg) = (400 : Int32) then j57 D1 else aBind (fX11_is a1 (1 : Int32) (30000 : Int32) D1) (fun x1 D3 => (if x1 = 0 then j57 D3 else aBind (fX11_is a2 (0 : Int32) (4 : Int32) D3) (fun x2 D4 => (if x2 = 0 then j57 D4 else aBind (fX11_is a3 (0 : Int32) (5 : Int32) D4) (fun x3 D5 => (if x3 = 0 then j57 D5 else aIn (0 : Int32) 4 (aLet (D5.1 5 (0 : Int32).toNatClampNeg) (fun x4 => aIn (0 : Int32) 4 (aIn ((3 : Int32) * x4) 384 (aLet (aSI D5 10 ((3 : Int32) * x4).toNatClampNeg (D5.1 6 (0 : Int32).toNatClampNeg)) (fun D6 => aIn (((3 : Int32) * x4) + (1 : Int32)) 384 (aLet (aSI D6 10 (((3 : Int32) * x4) + (1 : Int32)).toNatClampNeg a2) (fun D7 => aIn (((3 : Int32) * x4) + (2 : Int32)) 384 (aLet (aSI D7 10 (((3 : Int32) * x4) + (2 : Int32)).toNatClampNeg a3) (fun D8 => aIn (0 : Int32) 4 (aIn (0 : Int32) 4 (aLet (aSI D8 5 (0 : Int32).toNatClampNeg ((D8.1 5 (0 : Int32).toNatClampNeg) + (1 : Int32))) (fun D9 => aBind (fX11_enter x4 (-1 : Int32) a1 D9) (fun _ D10 => some (x4, D10))))))))))))))))))))))))))
set_option maxHeartbeats 4000000 in
set_option maxRecDepth 100000 in
theorem mX11_stone (l : Launch) (g : AGl) (hL : aLM g) (a1 : Int32) (a2 : Int32) (a3 : Int32) (D : ADD) : AM aVi l yX11_stone cX11_stone 5 (some .int) 1 g [.ref (g.1 + 0), .int a1, .int a2, .int a3] D (fX11_stone a1 a2 a3 D) := by
  refine AM_of (lv0 := [some (.ref (g.1 + 0)), some (.int a1), some (.int a2), some (.int a3), none]) (own := RX11) (by decide +kernel) rfl (Nat.le_of_ble_eq_true rfl) rfl (fun b hC => ?_)
  unfold fX11_stone
  refine A_aload_n hC dX11_stone_0 rfl ?_
  refine A_iconst (v := 0) hC dX11_stone_1 (by decide) ?_
  refine A_puti (kf := 0) hC kX11 (lM_0 hL) rfl (by decide) (by decide) rfl rfl rfl w_1003 dX11_stone_2 (fun D1 => ?_)
  refine A_aload_n hC dX11_stone_5 rfl ?_
  refine A_getr (kf := 5) hC kX11 (lM_0 hL) rfl (by decide) (by decide) rfl rfl w_1008 dX11_stone_6 ?_
  refine A_iconst (v := 0) hC dX11_stone_9 (by decide) ?_
  refine A_iald hC (lM_5 hL) dX11_stone_10 ?_
  refine A_bipush (v := 32) hC dX11_stone_11 (by decide) ?_
  refine A_join (fun (J : ADD → Option (Int32 × ADD)) => ∀ (D2 : ADD), AT aVi g b 57 [none, none, none, none, none] [] D2 (J D2)) (fun D2 => ?_) (fun j57 hj57 => ?_)
  · refine A_iconst (v := -1) hC dX11_stone_57 (by decide) ?_
    exact A_iret hC dX11_stone_58
  refine A_icmp_eq (tgt := 57) hC dX11_stone_13 (by decide) ?_ ?_
  · exact A_to (hj57 D1) (trivial)
  · refine A_aload_n hC dX11_stone_16 rfl ?_
    refine A_getr (kf := 8) hC kX11 (lM_0 hL) rfl (by decide) (by decide) rfl rfl w_1011 dX11_stone_17 ?_
    refine A_iconst (v := 0) hC dX11_stone_20 (by decide) ?_
    refine A_iald hC (lM_8 hL) dX11_stone_21 ?_
    refine A_sipush (v := 400) hC dX11_stone_22 (by decide) ?_
    refine A_icmp_eq (tgt := 57) hC dX11_stone_25 (by decide) ?_ ?_
    · exact A_to (hj57 D1) (trivial)
    · refine A_iload_n hC dX11_stone_28 rfl ?_
      refine A_iconst (v := 1) hC dX11_stone_29 (by decide) ?_
      refine A_sipush (v := 30000) hC dX11_stone_30 (by decide) ?_
      refine A_callSi (As := [.int a1, .int (1 : Int32), .int (30000 : Int32)]) (st := []) hC (fun l => mX11_is l g a1 (1 : Int32) (30000 : Int32) D1) yc_X11_138 rfl rfl ⟨by decide, by decide⟩ (Nat.le_of_ble_eq_true rfl) rfl dX11_stone_33 (fun x1 D3 => ?_)
      refine A_if_eq (tgt := 57) hC dX11_stone_36 (by decide) ?_ ?_
      · exact A_to (hj57 D3) (trivial)
      · refine A_iload_n hC dX11_stone_39 rfl ?_
        refine A_iconst (v := 0) hC dX11_stone_40 (by decide) ?_
        refine A_iconst (v := 4) hC dX11_stone_41 (by decide) ?_
        refine A_callSi (As := [.int a2, .int (0 : Int32), .int (4 : Int32)]) (st := []) hC (fun l => mX11_is l g a2 (0 : Int32) (4 : Int32) D3) yc_X11_138 rfl rfl ⟨by decide, by decide⟩ (Nat.le_of_ble_eq_true rfl) rfl dX11_stone_42 (fun x2 D4 => ?_)
        refine A_if_eq (tgt := 57) hC dX11_stone_45 (by decide) ?_ ?_
        · exact A_to (hj57 D4) (trivial)
        · refine A_iload_n hC dX11_stone_48 rfl ?_
          refine A_iconst (v := 0) hC dX11_stone_49 (by decide) ?_
          refine A_iconst (v := 5) hC dX11_stone_50 (by decide) ?_
          refine A_callSi (As := [.int a3, .int (0 : Int32), .int (5 : Int32)]) (st := []) hC (fun l => mX11_is l g a3 (0 : Int32) (5 : Int32) D4) yc_X11_138 rfl rfl ⟨by decide, by decide⟩ (Nat.le_of_ble_eq_true rfl) rfl dX11_stone_51 (fun x3 D5 => ?_)
          refine A_if_ne (tgt := 59) hC dX11_stone_54 (by decide) ?_ ?_
          · refine A_aload_n hC dX11_stone_59 rfl ?_
            refine A_getr (kf := 5) hC kX11 (lM_0 hL) rfl (by decide) (by decide) rfl rfl w_1008 dX11_stone_60 ?_
            refine A_iconst (v := 0) hC dX11_stone_63 (by decide) ?_
            refine A_iald hC (lM_5 hL) dX11_stone_64 ?_
            refine A_topi (fun x4 => ?_)
            refine A_istore (lv2 := [some (.ref (g.1 + 0)), some (.int a1), some (.int a2), some (.int a3), some (.int x4)]) hC dX11_stone_65 (Nat.le_of_ble_eq_true rfl) rfl rfl ?_
            refine A_aload_n hC dX11_stone_67 rfl ?_
            refine A_getr (kf := 10) hC kX11 (lM_0 hL) rfl (by decide) (by decide) rfl rfl w_1013 dX11_stone_68 ?_
            refine A_iconst (v := 3) hC dX11_stone_71 (by decide) ?_
            refine A_iload hC dX11_stone_72 rfl ?_
            refine A_imul hC dX11_stone_74 ?_
            refine A_aload_n hC dX11_stone_75 rfl ?_
            refine A_getr (kf := 6) hC kX11 (lM_0 hL) rfl (by decide) (by decide) rfl rfl w_1009 dX11_stone_76 ?_
            refine A_iconst (v := 0) hC dX11_stone_79 (by decide) ?_
            refine A_iald hC (lM_6 hL) dX11_stone_80 ?_
            refine A_iast hC (lM_10 hL) dX11_stone_81 (fun D6 => ?_)
            refine A_aload_n hC dX11_stone_82 rfl ?_
            refine A_getr (kf := 10) hC kX11 (lM_0 hL) rfl (by decide) (by decide) rfl rfl w_1013 dX11_stone_83 ?_
            refine A_iconst (v := 3) hC dX11_stone_86 (by decide) ?_
            refine A_iload hC dX11_stone_87 rfl ?_
            refine A_imul hC dX11_stone_89 ?_
            refine A_iconst (v := 1) hC dX11_stone_90 (by decide) ?_
            refine A_iadd hC dX11_stone_91 ?_
            refine A_iload_n hC dX11_stone_92 rfl ?_
            refine A_iast hC (lM_10 hL) dX11_stone_93 (fun D7 => ?_)
            refine A_aload_n hC dX11_stone_94 rfl ?_
            refine A_getr (kf := 10) hC kX11 (lM_0 hL) rfl (by decide) (by decide) rfl rfl w_1013 dX11_stone_95 ?_
            refine A_iconst (v := 3) hC dX11_stone_98 (by decide) ?_
            refine A_iload hC dX11_stone_99 rfl ?_
            refine A_imul hC dX11_stone_101 ?_
            refine A_iconst (v := 2) hC dX11_stone_102 (by decide) ?_
            refine A_iadd hC dX11_stone_103 ?_
            refine A_iload_n hC dX11_stone_104 rfl ?_
            refine A_iast hC (lM_10 hL) dX11_stone_105 (fun D8 => ?_)
            refine A_aload_n hC dX11_stone_106 rfl ?_
            refine A_getr (kf := 5) hC kX11 (lM_0 hL) rfl (by decide) (by decide) rfl rfl w_1008 dX11_stone_107 ?_
            refine A_iconst (v := 0) hC dX11_stone_110 (by decide) ?_
            refine A_dup2 hC dX11_stone_111 rfl rfl ?_
            refine A_iald hC (lM_5 hL) dX11_stone_112 ?_
            refine A_iconst (v := 1) hC dX11_stone_113 (by decide) ?_
            refine A_iadd hC dX11_stone_114 ?_
            refine A_iast hC (lM_5 hL) dX11_stone_115 (fun D9 => ?_)
            refine A_aload_n hC dX11_stone_116 rfl ?_
            refine A_iload hC dX11_stone_117 rfl ?_
            refine A_iconst (v := -1) hC dX11_stone_119 (by decide) ?_
            refine A_iload_n hC dX11_stone_120 rfl ?_
            refine A_callVv (As := [.int x4, .int (-1 : Int32), .int a1]) (st := []) hC (fun l => mX11_enter l g hL x4 (-1 : Int32) a1 D9) (lM_0 hL) rfl (Nat.le_of_ble_eq_true rfl) yc_X11_146 rfl rfl ⟨by decide, by decide⟩ (Nat.le_of_ble_eq_true rfl) rfl dX11_stone_121 (fun _ D10 => ?_)
            refine A_iload hC dX11_stone_124 rfl ?_
            exact A_iret hC dX11_stone_126
          · exact A_to (hj57 D5) (trivial)
def fX11_testWord (a1 : Int32) (D : ADD) : Option (Int32 × ADD) := (if a1 = 0 then aBind (fX11_isWord (495875090022 : Int64) D) (fun x1 D1 => aLet (fun (x2 : Int32) (D2 : ADD) => some (x2, D2)) (fun (j220 : Int32 → ADD → Option (Int32 × ADD)) => (if x1 = 0 then aBind (fX11_isWord (426953502835 : Int64) D1) (fun x3 D3 => (if x3 = 0 then aBind (fX11_isWord (1818583396 : Int64) D3) (fun x4 D4 => (if x4 = 0 then aBind (fX11_isWord (1953462126 : Int64) D4) (fun x5 D5 => (if x5 = 0 then aBind (fX11_isWord (1835102827 : Int64) D5) (fun x6 D6 => (if x6 = 0 then aBind (fX11_isWord (478745093490 : Int64) D6) (fun x7 D7 => (if x7 = 0 then aBind (fX11_isWord (6383461 : Int64) D7) (fun x8 D8 => (if x8 = 0 then j220 (-1 : Int32) D8 else j220 (6 : Int32) D8)) else j220 (5 : Int32) D7)) else j220 (4 : Int32) D6)) else j220 (3 : Int32) D5)) else j220 (2 : Int32) D4)) else j220 (1 : Int32) D3)) else j220 (0 : Int32) D1))) else aBind (fX11_isWord (1835101817 : Int64) D) (fun x9 D9 => aLet (fun (x10 : Int32) (D10 : ADD) => some (x10, D10)) (fun (j119 : Int32 → ADD → Option (Int32 × ADD)) => (if x9 = 0 then aBind (fX11_isWord (1852137842 : Int64) D9) (fun x11 D11 => (if x11 = 0 then aBind (fX11_isWord (1835360622 : Int64) D11) (fun x12 D12 => (if x12 = 0 then aBind (fX11_isWord (109299962372965 : Int64) D12) (fun x13 D13 => (if x13 = 0 then aBind (fX11_isWord (500135716196 : Int64) D13) (fun x14 D14 => (if x14 = 0 then aBind (fX11_isWord (482854658917 : Int64) D14) (fun x15 D15 => (if x15 = 0 then aBind (fX11_isWord (500086304371 : Int64) D15) (fun x16 D16 => (if x16 = 0 then aBind (fX11_isWord (469786323827 : Int64) D16) (fun x17 D17 => (if x17 = 0 then j119 (-1 : Int32) D17 else j119 (7 : Int32) D17)) else j119 (6 : Int32) D16)) else j119 (5 : Int32) D15)) else j119 (4 : Int32) D14)) else j119 (3 : Int32) D13)) else j119 (2 : Int32) D12)) else j119 (1 : Int32) D11)) else j119 (0 : Int32) D9))))
set_option maxHeartbeats 4000000 in
set_option maxRecDepth 100000 in
theorem mX11_testWord (l : Launch) (g : AGl) (hL : aLM g) (a1 : Int32) (D : ADD) : AM aVi l yX11_testWord cX11_testWord 2 (some .int) 1 g [.ref (g.1 + 0), .int a1] D (fX11_testWord a1 D) := by
  refine AM_of (lv0 := [some (.ref (g.1 + 0)), some (.int a1)]) (own := RX11) (by decide +kernel) rfl (Nat.le_of_ble_eq_true rfl) rfl (fun b hC => ?_)
  unfold fX11_testWord
  refine A_iload_n hC dX11_testWord_0 rfl ?_
  refine A_if_eq (tgt := 120) hC dX11_testWord_1 (by decide) ?_ ?_
  · refine A_aload_n hC dX11_testWord_120 rfl ?_
    refine A_ldc2 hC dX11_testWord_121 w_1259 ?_
    refine A_callVi (As := [.long (495875090022 : Int64)]) (st := []) hC (fun l => mX11_isWord l g hL (495875090022 : Int64) D) (lM_0 hL) rfl (Nat.le_of_ble_eq_true rfl) yc_X11_209 rfl rfl ⟨by decide, by decide⟩ (Nat.le_of_ble_eq_true rfl) rfl dX11_testWord_124 (fun x1 D1 => ?_)
    refine A_join (fun (J : Int32 → ADD → Option (Int32 × ADD)) => ∀ (x2 : Int32) (D2 : ADD), AT aVi g b 220 [none, none] [.int x2] D2 (J x2 D2)) (fun x2 D2 => ?_) (fun j220 hj220 => ?_)
    · exact A_iret hC dX11_testWord_220
    refine A_if_eq (tgt := 134) hC dX11_testWord_127 (by decide) ?_ ?_
    · refine A_aload_n hC dX11_testWord_134 rfl ?_
      refine A_ldc2 hC dX11_testWord_135 w_1260 ?_
      refine A_callVi (As := [.long (426953502835 : Int64)]) (st := []) hC (fun l => mX11_isWord l g hL (426953502835 : Int64) D1) (lM_0 hL) rfl (Nat.le_of_ble_eq_true rfl) yc_X11_209 rfl rfl ⟨by decide, by decide⟩ (Nat.le_of_ble_eq_true rfl) rfl dX11_testWord_138 (fun x3 D3 => ?_)
      refine A_if_eq (tgt := 148) hC dX11_testWord_141 (by decide) ?_ ?_
      · refine A_aload_n hC dX11_testWord_148 rfl ?_
        refine A_ldc2 hC dX11_testWord_149 w_1261 ?_
        refine A_callVi (As := [.long (1818583396 : Int64)]) (st := []) hC (fun l => mX11_isWord l g hL (1818583396 : Int64) D3) (lM_0 hL) rfl (Nat.le_of_ble_eq_true rfl) yc_X11_209 rfl rfl ⟨by decide, by decide⟩ (Nat.le_of_ble_eq_true rfl) rfl dX11_testWord_152 (fun x4 D4 => ?_)
        refine A_if_eq (tgt := 162) hC dX11_testWord_155 (by decide) ?_ ?_
        · refine A_aload_n hC dX11_testWord_162 rfl ?_
          refine A_ldc2 hC dX11_testWord_163 w_1262 ?_
          refine A_callVi (As := [.long (1953462126 : Int64)]) (st := []) hC (fun l => mX11_isWord l g hL (1953462126 : Int64) D4) (lM_0 hL) rfl (Nat.le_of_ble_eq_true rfl) yc_X11_209 rfl rfl ⟨by decide, by decide⟩ (Nat.le_of_ble_eq_true rfl) rfl dX11_testWord_166 (fun x5 D5 => ?_)
          refine A_if_eq (tgt := 176) hC dX11_testWord_169 (by decide) ?_ ?_
          · refine A_aload_n hC dX11_testWord_176 rfl ?_
            refine A_ldc2 hC dX11_testWord_177 w_1263 ?_
            refine A_callVi (As := [.long (1835102827 : Int64)]) (st := []) hC (fun l => mX11_isWord l g hL (1835102827 : Int64) D5) (lM_0 hL) rfl (Nat.le_of_ble_eq_true rfl) yc_X11_209 rfl rfl ⟨by decide, by decide⟩ (Nat.le_of_ble_eq_true rfl) rfl dX11_testWord_180 (fun x6 D6 => ?_)
            refine A_if_eq (tgt := 190) hC dX11_testWord_183 (by decide) ?_ ?_
            · refine A_aload_n hC dX11_testWord_190 rfl ?_
              refine A_ldc2 hC dX11_testWord_191 w_1264 ?_
              refine A_callVi (As := [.long (478745093490 : Int64)]) (st := []) hC (fun l => mX11_isWord l g hL (478745093490 : Int64) D6) (lM_0 hL) rfl (Nat.le_of_ble_eq_true rfl) yc_X11_209 rfl rfl ⟨by decide, by decide⟩ (Nat.le_of_ble_eq_true rfl) rfl dX11_testWord_194 (fun x7 D7 => ?_)
              refine A_if_eq (tgt := 204) hC dX11_testWord_197 (by decide) ?_ ?_
              · refine A_aload_n hC dX11_testWord_204 rfl ?_
                refine A_ldc2 hC dX11_testWord_205 w_1265 ?_
                refine A_callVi (As := [.long (6383461 : Int64)]) (st := []) hC (fun l => mX11_isWord l g hL (6383461 : Int64) D7) (lM_0 hL) rfl (Nat.le_of_ble_eq_true rfl) yc_X11_209 rfl rfl ⟨by decide, by decide⟩ (Nat.le_of_ble_eq_true rfl) rfl dX11_testWord_208 (fun x8 D8 => ?_)
                refine A_if_eq (tgt := 219) hC dX11_testWord_211 (by decide) ?_ ?_
                · refine A_iconst (v := -1) hC dX11_testWord_219 (by decide) ?_
                  exact A_to (hj220 (-1 : Int32) D8) (trivial)
                · refine A_bipush (v := 6) hC dX11_testWord_214 (by decide) ?_
                  refine A_goto (tgt := 220) hC dX11_testWord_216 (by decide) ?_
                  exact A_to (hj220 (6 : Int32) D8) (trivial)
              · refine A_iconst (v := 5) hC dX11_testWord_200 (by decide) ?_
                refine A_goto (tgt := 220) hC dX11_testWord_201 (by decide) ?_
                exact A_to (hj220 (5 : Int32) D7) (trivial)
            · refine A_iconst (v := 4) hC dX11_testWord_186 (by decide) ?_
              refine A_goto (tgt := 220) hC dX11_testWord_187 (by decide) ?_
              exact A_to (hj220 (4 : Int32) D6) (trivial)
          · refine A_iconst (v := 3) hC dX11_testWord_172 (by decide) ?_
            refine A_goto (tgt := 220) hC dX11_testWord_173 (by decide) ?_
            exact A_to (hj220 (3 : Int32) D5) (trivial)
        · refine A_iconst (v := 2) hC dX11_testWord_158 (by decide) ?_
          refine A_goto (tgt := 220) hC dX11_testWord_159 (by decide) ?_
          exact A_to (hj220 (2 : Int32) D4) (trivial)
      · refine A_iconst (v := 1) hC dX11_testWord_144 (by decide) ?_
        refine A_goto (tgt := 220) hC dX11_testWord_145 (by decide) ?_
        exact A_to (hj220 (1 : Int32) D3) (trivial)
    · refine A_iconst (v := 0) hC dX11_testWord_130 (by decide) ?_
      refine A_goto (tgt := 220) hC dX11_testWord_131 (by decide) ?_
      exact A_to (hj220 (0 : Int32) D1) (trivial)
  · refine A_aload_n hC dX11_testWord_4 rfl ?_
    refine A_ldc2 hC dX11_testWord_5 w_1251 ?_
    refine A_callVi (As := [.long (1835101817 : Int64)]) (st := []) hC (fun l => mX11_isWord l g hL (1835101817 : Int64) D) (lM_0 hL) rfl (Nat.le_of_ble_eq_true rfl) yc_X11_209 rfl rfl ⟨by decide, by decide⟩ (Nat.le_of_ble_eq_true rfl) rfl dX11_testWord_8 (fun x9 D9 => ?_)
    refine A_join (fun (J : Int32 → ADD → Option (Int32 × ADD)) => ∀ (x10 : Int32) (D10 : ADD), AT aVi g b 119 [none, none] [.int x10] D10 (J x10 D10)) (fun x10 D10 => ?_) (fun j119 hj119 => ?_)
    · exact A_iret hC dX11_testWord_119
    refine A_if_eq (tgt := 18) hC dX11_testWord_11 (by decide) ?_ ?_
    · refine A_aload_n hC dX11_testWord_18 rfl ?_
      refine A_ldc2 hC dX11_testWord_19 w_1252 ?_
      refine A_callVi (As := [.long (1852137842 : Int64)]) (st := []) hC (fun l => mX11_isWord l g hL (1852137842 : Int64) D9) (lM_0 hL) rfl (Nat.le_of_ble_eq_true rfl) yc_X11_209 rfl rfl ⟨by decide, by decide⟩ (Nat.le_of_ble_eq_true rfl) rfl dX11_testWord_22 (fun x11 D11 => ?_)
      refine A_if_eq (tgt := 32) hC dX11_testWord_25 (by decide) ?_ ?_
      · refine A_aload_n hC dX11_testWord_32 rfl ?_
        refine A_ldc2 hC dX11_testWord_33 w_1253 ?_
        refine A_callVi (As := [.long (1835360622 : Int64)]) (st := []) hC (fun l => mX11_isWord l g hL (1835360622 : Int64) D11) (lM_0 hL) rfl (Nat.le_of_ble_eq_true rfl) yc_X11_209 rfl rfl ⟨by decide, by decide⟩ (Nat.le_of_ble_eq_true rfl) rfl dX11_testWord_36 (fun x12 D12 => ?_)
        refine A_if_eq (tgt := 46) hC dX11_testWord_39 (by decide) ?_ ?_
        · refine A_aload_n hC dX11_testWord_46 rfl ?_
          refine A_ldc2 hC dX11_testWord_47 w_1254 ?_
          refine A_callVi (As := [.long (109299962372965 : Int64)]) (st := []) hC (fun l => mX11_isWord l g hL (109299962372965 : Int64) D12) (lM_0 hL) rfl (Nat.le_of_ble_eq_true rfl) yc_X11_209 rfl rfl ⟨by decide, by decide⟩ (Nat.le_of_ble_eq_true rfl) rfl dX11_testWord_50 (fun x13 D13 => ?_)
          refine A_if_eq (tgt := 60) hC dX11_testWord_53 (by decide) ?_ ?_
          · refine A_aload_n hC dX11_testWord_60 rfl ?_
            refine A_ldc2 hC dX11_testWord_61 w_1255 ?_
            refine A_callVi (As := [.long (500135716196 : Int64)]) (st := []) hC (fun l => mX11_isWord l g hL (500135716196 : Int64) D13) (lM_0 hL) rfl (Nat.le_of_ble_eq_true rfl) yc_X11_209 rfl rfl ⟨by decide, by decide⟩ (Nat.le_of_ble_eq_true rfl) rfl dX11_testWord_64 (fun x14 D14 => ?_)
            refine A_if_eq (tgt := 74) hC dX11_testWord_67 (by decide) ?_ ?_
            · refine A_aload_n hC dX11_testWord_74 rfl ?_
              refine A_ldc2 hC dX11_testWord_75 w_1256 ?_
              refine A_callVi (As := [.long (482854658917 : Int64)]) (st := []) hC (fun l => mX11_isWord l g hL (482854658917 : Int64) D14) (lM_0 hL) rfl (Nat.le_of_ble_eq_true rfl) yc_X11_209 rfl rfl ⟨by decide, by decide⟩ (Nat.le_of_ble_eq_true rfl) rfl dX11_testWord_78 (fun x15 D15 => ?_)
              refine A_if_eq (tgt := 88) hC dX11_testWord_81 (by decide) ?_ ?_
              · refine A_aload_n hC dX11_testWord_88 rfl ?_
                refine A_ldc2 hC dX11_testWord_89 w_1257 ?_
                refine A_callVi (As := [.long (500086304371 : Int64)]) (st := []) hC (fun l => mX11_isWord l g hL (500086304371 : Int64) D15) (lM_0 hL) rfl (Nat.le_of_ble_eq_true rfl) yc_X11_209 rfl rfl ⟨by decide, by decide⟩ (Nat.le_of_ble_eq_true rfl) rfl dX11_testWord_92 (fun x16 D16 => ?_)
                refine A_if_eq (tgt := 103) hC dX11_testWord_95 (by decide) ?_ ?_
                · refine A_aload_n hC dX11_testWord_103 rfl ?_
                  refine A_ldc2 hC dX11_testWord_104 w_1258 ?_
                  refine A_callVi (As := [.long (469786323827 : Int64)]) (st := []) hC (fun l => mX11_isWord l g hL (469786323827 : Int64) D16) (lM_0 hL) rfl (Nat.le_of_ble_eq_true rfl) yc_X11_209 rfl rfl ⟨by decide, by decide⟩ (Nat.le_of_ble_eq_true rfl) rfl dX11_testWord_107 (fun x17 D17 => ?_)
                  refine A_if_eq (tgt := 118) hC dX11_testWord_110 (by decide) ?_ ?_
                  · refine A_iconst (v := -1) hC dX11_testWord_118 (by decide) ?_
                    exact A_to (hj119 (-1 : Int32) D17) (trivial)
                  · refine A_bipush (v := 7) hC dX11_testWord_113 (by decide) ?_
                    refine A_goto (tgt := 119) hC dX11_testWord_115 (by decide) ?_
                    exact A_to (hj119 (7 : Int32) D17) (trivial)
                · refine A_bipush (v := 6) hC dX11_testWord_98 (by decide) ?_
                  refine A_goto (tgt := 119) hC dX11_testWord_100 (by decide) ?_
                  exact A_to (hj119 (6 : Int32) D16) (trivial)
              · refine A_iconst (v := 5) hC dX11_testWord_84 (by decide) ?_
                refine A_goto (tgt := 119) hC dX11_testWord_85 (by decide) ?_
                exact A_to (hj119 (5 : Int32) D15) (trivial)
            · refine A_iconst (v := 4) hC dX11_testWord_70 (by decide) ?_
              refine A_goto (tgt := 119) hC dX11_testWord_71 (by decide) ?_
              exact A_to (hj119 (4 : Int32) D14) (trivial)
          · refine A_iconst (v := 3) hC dX11_testWord_56 (by decide) ?_
            refine A_goto (tgt := 119) hC dX11_testWord_57 (by decide) ?_
            exact A_to (hj119 (3 : Int32) D13) (trivial)
        · refine A_iconst (v := 2) hC dX11_testWord_42 (by decide) ?_
          refine A_goto (tgt := 119) hC dX11_testWord_43 (by decide) ?_
          exact A_to (hj119 (2 : Int32) D12) (trivial)
      · refine A_iconst (v := 1) hC dX11_testWord_28 (by decide) ?_
        refine A_goto (tgt := 119) hC dX11_testWord_29 (by decide) ?_
        exact A_to (hj119 (1 : Int32) D11) (trivial)
    · refine A_iconst (v := 0) hC dX11_testWord_14 (by decide) ?_
      refine A_goto (tgt := 119) hC dX11_testWord_15 (by decide) ?_
      exact A_to (hj119 (0 : Int32) D9) (trivial)
def fX11_timesOf (a1 : Int32) (a2 : Int32) (D : ADD) : Option (Int32 × ADD) := aBind (fX11_f a1 (7 : Int32) D) (fun x1 D1 => (if x1 ≤ 0 then aIn a1 32 (aNZ a2 (aLet ((D1.1 33 a1.toNatClampNeg) / a2) (fun x2 => aLet (fun (x3 : Int32) (D2 : ADD) => aIn a1 32 (aIn a1 32 (aBind (fX11_far (D2.1 33 a1.toNatClampNeg) (D2.1 34 a1.toNatClampNeg) ((x3 + (1 : Int32)) * a2) D2) (fun x4 D3 => aIn a1 32 (aIn a1 32 (aBind (fX11_far (D3.1 33 a1.toNatClampNeg) (D3.1 34 a1.toNatClampNeg) (x3 * a2) D3) (fun x5 D4 => aLet (fun (x6 : Int32) (D5 : ADD) => some (x6, D5)) (fun (j91 : Int32 → ADD → Option (Int32 × ADD)) => (if x5 ≤ x4 then j91 x3 D4 else j91 (x3 + (1 : Int32)) D4))))))))) (fun (j37 : Int32 → ADD → Option (Int32 × ADD)) => (if (1 : Int32) ≤ x2 then j37 x2 D1 else j37 (1 : Int32) D1))))) else aBind (fX11_f a1 (7 : Int32) D1) (fun x7 D6 => some (x7, D6))))
set_option maxHeartbeats 4000000 in
set_option maxRecDepth 100000 in
theorem mX11_timesOf (l : Launch) (g : AGl) (hL : aLM g) (a1 : Int32) (a2 : Int32) (D : ADD) : AM aVi l yX11_timesOf cX11_timesOf 5 (some .int) 1 g [.ref (g.1 + 0), .int a1, .int a2] D (fX11_timesOf a1 a2 D) := by
  refine AM_of (lv0 := [some (.ref (g.1 + 0)), some (.int a1), some (.int a2), none, none]) (own := RX11) (by decide +kernel) rfl (Nat.le_of_ble_eq_true rfl) rfl (fun b hC => ?_)
  unfold fX11_timesOf
  refine A_aload_n hC dX11_timesOf_0 rfl ?_
  refine A_iload_n hC dX11_timesOf_1 rfl ?_
  refine A_bipush (v := 7) hC dX11_timesOf_2 (by decide) ?_
  refine A_callVi (As := [.int a1, .int (7 : Int32)]) (st := []) hC (fun l => mX11_f l g hL a1 (7 : Int32) D) (lM_0 hL) rfl (Nat.le_of_ble_eq_true rfl) yc_X11_291 rfl rfl ⟨by decide, by decide⟩ (Nat.le_of_ble_eq_true rfl) rfl dX11_timesOf_4 (fun x1 D1 => ?_)
  refine A_if_le (tgt := 18) hC dX11_timesOf_7 (by decide) ?_ ?_
  · refine A_aload_n hC dX11_timesOf_18 rfl ?_
    refine A_getr (kf := 44) hC kX11 (lM_0 hL) rfl (by decide) (by decide) rfl rfl w_1047 dX11_timesOf_19 ?_
    refine A_iload_n hC dX11_timesOf_22 rfl ?_
    refine A_iald hC (lM_33 hL) dX11_timesOf_23 ?_
    refine A_iload_n hC dX11_timesOf_24 rfl ?_
    refine A_idiv hC dX11_timesOf_25 ?_
    refine A_topi (fun x2 => ?_)
    refine A_istore_n (lv2 := [some (.ref (g.1 + 0)), some (.int a1), some (.int a2), some (.int x2), none]) hC dX11_timesOf_26 (Nat.le_of_ble_eq_true rfl) rfl rfl ?_
    refine A_iload_n hC dX11_timesOf_27 rfl ?_
    refine A_iconst (v := 1) hC dX11_timesOf_28 (by decide) ?_
    refine A_join (fun (J : Int32 → ADD → Option (Int32 × ADD)) => ∀ (x3 : Int32) (D2 : ADD), AT aVi g b 37 [some (.ref (g.1 + 0)), some (.int a1), some (.int a2), none, none] [.int x3] D2 (J x3 D2)) (fun x3 D2 => ?_) (fun j37 hj37 => ?_)
    · refine A_istore (lv2 := [some (.ref (g.1 + 0)), some (.int a1), some (.int a2), none, some (.int x3)]) hC dX11_timesOf_37 (Nat.le_of_ble_eq_true rfl) rfl rfl ?_
      refine A_aload_n hC dX11_timesOf_39 rfl ?_
      refine A_getr (kf := 44) hC kX11 (lM_0 hL) rfl (by decide) (by decide) rfl rfl w_1047 dX11_timesOf_40 ?_
      refine A_iload_n hC dX11_timesOf_43 rfl ?_
      refine A_iald hC (lM_33 hL) dX11_timesOf_44 ?_
      refine A_aload_n hC dX11_timesOf_45 rfl ?_
      refine A_getr (kf := 45) hC kX11 (lM_0 hL) rfl (by decide) (by decide) rfl rfl w_1048 dX11_timesOf_46 ?_
      refine A_iload_n hC dX11_timesOf_49 rfl ?_
      refine A_iald hC (lM_34 hL) dX11_timesOf_50 ?_
      refine A_iload hC dX11_timesOf_51 rfl ?_
      refine A_iconst (v := 1) hC dX11_timesOf_53 (by decide) ?_
      refine A_iadd hC dX11_timesOf_54 ?_
      refine A_iload_n hC dX11_timesOf_55 rfl ?_
      refine A_imul hC dX11_timesOf_56 ?_
      refine A_callSi (As := [.int (D2.1 33 a1.toNatClampNeg), .int (D2.1 34 a1.toNatClampNeg), .int ((x3 + (1 : Int32)) * a2)]) (st := []) hC (fun l => mX11_far l g (D2.1 33 a1.toNatClampNeg) (D2.1 34 a1.toNatClampNeg) ((x3 + (1 : Int32)) * a2) D2) yc_X11_317 rfl rfl ⟨by decide, by decide⟩ (Nat.le_of_ble_eq_true rfl) rfl dX11_timesOf_57 (fun x4 D3 => ?_)
      refine A_aload_n hC dX11_timesOf_60 rfl ?_
      refine A_getr (kf := 44) hC kX11 (lM_0 hL) rfl (by decide) (by decide) rfl rfl w_1047 dX11_timesOf_61 ?_
      refine A_iload_n hC dX11_timesOf_64 rfl ?_
      refine A_iald hC (lM_33 hL) dX11_timesOf_65 ?_
      refine A_aload_n hC dX11_timesOf_66 rfl ?_
      refine A_getr (kf := 45) hC kX11 (lM_0 hL) rfl (by decide) (by decide) rfl rfl w_1048 dX11_timesOf_67 ?_
      refine A_iload_n hC dX11_timesOf_70 rfl ?_
      refine A_iald hC (lM_34 hL) dX11_timesOf_71 ?_
      refine A_iload hC dX11_timesOf_72 rfl ?_
      refine A_iload_n hC dX11_timesOf_74 rfl ?_
      refine A_imul hC dX11_timesOf_75 ?_
      refine A_callSi (As := [.int (D3.1 33 a1.toNatClampNeg), .int (D3.1 34 a1.toNatClampNeg), .int (x3 * a2)]) (st := [.int x4]) hC (fun l => mX11_far l g (D3.1 33 a1.toNatClampNeg) (D3.1 34 a1.toNatClampNeg) (x3 * a2) D3) yc_X11_317 rfl rfl ⟨by decide, by decide⟩ (Nat.le_of_ble_eq_true rfl) rfl dX11_timesOf_76 (fun x5 D4 => ?_)
      refine A_join (fun (J : Int32 → ADD → Option (Int32 × ADD)) => ∀ (x6 : Int32) (D5 : ADD), AT aVi g b 91 [none, none, none, none, none] [.int x6] D5 (J x6 D5)) (fun x6 D5 => ?_) (fun j91 hj91 => ?_)
      · exact A_iret hC dX11_timesOf_91
      refine A_icmp_ge (tgt := 89) hC dX11_timesOf_79 (by decide) ?_ ?_
      · refine A_iload hC dX11_timesOf_89 rfl ?_
        exact A_to (hj91 x3 D4) (trivial)
      · refine A_iload hC dX11_timesOf_82 rfl ?_
        refine A_iconst (v := 1) hC dX11_timesOf_84 (by decide) ?_
        refine A_iadd hC dX11_timesOf_85 ?_
        refine A_goto (tgt := 91) hC dX11_timesOf_86 (by decide) ?_
        exact A_to (hj91 (x3 + (1 : Int32)) D4) (trivial)
    refine A_icmp_ge (tgt := 36) hC dX11_timesOf_29 (by decide) ?_ ?_
    · refine A_iload_n hC dX11_timesOf_36 rfl ?_
      exact A_to (hj37 x2 D1) (And.intro rfl (And.intro rfl (And.intro rfl (trivial))))
    · refine A_iconst (v := 1) hC dX11_timesOf_32 (by decide) ?_
      refine A_goto (tgt := 37) hC dX11_timesOf_33 (by decide) ?_
      exact A_to (hj37 (1 : Int32) D1) (And.intro rfl (And.intro rfl (And.intro rfl (trivial))))
  · refine A_aload_n hC dX11_timesOf_10 rfl ?_
    refine A_iload_n hC dX11_timesOf_11 rfl ?_
    refine A_bipush (v := 7) hC dX11_timesOf_12 (by decide) ?_
    refine A_callVi (As := [.int a1, .int (7 : Int32)]) (st := []) hC (fun l => mX11_f l g hL a1 (7 : Int32) D1) (lM_0 hL) rfl (Nat.le_of_ble_eq_true rfl) yc_X11_291 rfl rfl ⟨by decide, by decide⟩ (Nat.le_of_ble_eq_true rfl) rfl dX11_timesOf_14 (fun x7 D6 => ?_)
    exact A_iret hC dX11_timesOf_17
def fX11_view (a1 : Int32) (D : ADD) : Option (Int32 × ADD) := aLet (aSI D 0 0 (0 : Int32)) (fun D1 => aIn (0 : Int32) 4 (aBind (fX11_is a1 (-1 : Int32) (D1.1 6 (0 : Int32).toNatClampNeg) D1) (fun x1 D2 => (if x1 = 0 then some ((0 : Int32), D2) else aIn (0 : Int32) 4 (aLet (aSI D2 7 (0 : Int32).toNatClampNeg a1) (fun D3 => some ((1 : Int32), D3)))))))
set_option maxHeartbeats 4000000 in
set_option maxRecDepth 100000 in
theorem mX11_view (l : Launch) (g : AGl) (hL : aLM g) (a1 : Int32) (D : ADD) : AM aVi l yX11_view cX11_view 2 (some .boolean) 1 g [.ref (g.1 + 0), .int a1] D (fX11_view a1 D) := by
  refine AM_of (lv0 := [some (.ref (g.1 + 0)), some (.int a1)]) (own := RX11) (by decide +kernel) rfl (Nat.le_of_ble_eq_true rfl) rfl (fun b hC => ?_)
  unfold fX11_view
  refine A_aload_n hC dX11_view_0 rfl ?_
  refine A_iconst (v := 0) hC dX11_view_1 (by decide) ?_
  refine A_puti (kf := 0) hC kX11 (lM_0 hL) rfl (by decide) (by decide) rfl rfl rfl w_1003 dX11_view_2 (fun D1 => ?_)
  refine A_iload_n hC dX11_view_5 rfl ?_
  refine A_iconst (v := -1) hC dX11_view_6 (by decide) ?_
  refine A_aload_n hC dX11_view_7 rfl ?_
  refine A_getr (kf := 6) hC kX11 (lM_0 hL) rfl (by decide) (by decide) rfl rfl w_1009 dX11_view_8 ?_
  refine A_iconst (v := 0) hC dX11_view_11 (by decide) ?_
  refine A_iald hC (lM_6 hL) dX11_view_12 ?_
  refine A_callSi (As := [.int a1, .int (-1 : Int32), .int (D1.1 6 (0 : Int32).toNatClampNeg)]) (st := []) hC (fun l => mX11_is l g a1 (-1 : Int32) (D1.1 6 (0 : Int32).toNatClampNeg) D1) yc_X11_138 rfl rfl ⟨by decide, by decide⟩ (Nat.le_of_ble_eq_true rfl) rfl dX11_view_13 (fun x1 D2 => ?_)
  refine A_if_ne (tgt := 21) hC dX11_view_16 (by decide) ?_ ?_
  · refine A_aload_n hC dX11_view_21 rfl ?_
    refine A_getr (kf := 7) hC kX11 (lM_0 hL) rfl (by decide) (by decide) rfl rfl w_1010 dX11_view_22 ?_
    refine A_iconst (v := 0) hC dX11_view_25 (by decide) ?_
    refine A_iload_n hC dX11_view_26 rfl ?_
    refine A_iast hC (lM_7 hL) dX11_view_27 (fun D3 => ?_)
    refine A_iconst (v := 1) hC dX11_view_28 (by decide) ?_
    exact A_zret hC dX11_view_29 (Or.inr rfl)
  · refine A_iconst (v := 0) hC dX11_view_19 (by decide) ?_
    exact A_zret hC dX11_view_20 (Or.inl rfl)
def fX1_takes (a1 : Int32) (D : ADD) : Option (Int32 × ADD) := aBind (fX0_known a1 (9 : Int32) D) (fun x1 D1 => aLet (fun (x2 : Int32) (D2 : ADD) => aZ x2 (some (x2, D2))) (fun (j91 : Int32 → ADD → Option (Int32 × ADD)) => aLet (fun (D3 : ADD) => j91 (0 : Int32) D3) (fun (j90 : ADD → Option (Int32 × ADD)) => (if x1 = (1 : Int32) then aBind (fX0_known a1 (4 : Int32) D1) (fun x3 D4 => (if (((D1.1 31 0) >>> (x3 &&& 31)) &&& (1 : Int32)) = (1 : Int32) then aBind (fX0_known a1 (1 : Int32) D4) (fun x4 D5 => (if (((D4.1 31 1) >>> (x4 &&& 31)) &&& (1 : Int32)) = (1 : Int32) then aBind (fX0_known a1 (5 : Int32) D5) (fun x5 D6 => (if (D6.1 31 3) < x5 then j90 D6 else aBind (fX0_known a1 (6 : Int32) D6) (fun x6 D7 => (if x6 < (D7.1 31 2) then j90 D7 else aBind (fX0_known a1 (7 : Int32) D7) (fun x7 D8 => aBind (fX1_takesMark x7 D8) (fun x8 D9 => (if x8 = 0 then j90 D9 else j91 (1 : Int32) D9))))))) else j90 D5)) else j90 D4)) else j90 D1))))
set_option maxHeartbeats 4000000 in
set_option maxRecDepth 100000 in
theorem mX1_takes (l : Launch) (g : AGl) (hL : aLX g) (a1 : Int32) (D : ADD) : AM aVi l yX1_takes cX1_takes 3 (some .boolean) 1 g [.ref (g.1 + 31), .ref (g.1 + 2), .int a1] D (fX1_takes a1 D) := by
  refine AM_of (lv0 := [some (.ref (g.1 + 31)), some (.ref (g.1 + 2)), some (.int a1)]) (own := RX1) (by decide +kernel) rfl (Nat.le_of_ble_eq_true rfl) rfl (fun b hC => ?_)
  unfold fX1_takes
  refine A_aload_n hC dX1_takes_0 rfl ?_
  refine A_iload_n hC dX1_takes_1 rfl ?_
  refine A_bipush (v := 9) hC dX1_takes_2 (by decide) ?_
  refine A_callVi (As := [.int a1, .int (9 : Int32)]) (st := []) hC (fun l => mX0_known l g hL a1 (9 : Int32) D) (lX_2 hL) rfl (Nat.le_of_ble_eq_true rfl) yc_X1_27 rfl rfl ⟨by decide, by decide⟩ (Nat.le_of_ble_eq_true rfl) rfl dX1_takes_4 (fun x1 D1 => ?_)
  refine A_iconst (v := 1) hC dX1_takes_7 (by decide) ?_
  refine A_join (fun (J : Int32 → ADD → Option (Int32 × ADD)) => ∀ (x2 : Int32) (D2 : ADD), AT aVi g b 91 [none, none, none] [.int x2] D2 (J x2 D2)) (fun x2 D2 => ?_) (fun j91 hj91 => ?_)
  · exact A_zretc hC dX1_takes_91
  refine A_join (fun (J : ADD → Option (Int32 × ADD)) => ∀ (D3 : ADD), AT aVi g b 90 [none, none, none] [] D3 (J D3)) (fun D3 => ?_) (fun j90 hj90 => ?_)
  · refine A_iconst (v := 0) hC dX1_takes_90 (by decide) ?_
    exact A_to (hj91 (0 : Int32) D3) (trivial)
  refine A_icmp_ne (tgt := 90) hC dX1_takes_8 (by decide) ?_ ?_
  · exact A_to (hj90 D1) (trivial)
  · refine A_aload_n hC dX1_takes_11 rfl ?_
    refine A_geti (kf := 0) hC kX1 (lX_31 hL) rfl (by decide) (by decide) rfl w_146 dX1_takes_12 ?_
    refine A_aload_n hC dX1_takes_15 rfl ?_
    refine A_iload_n hC dX1_takes_16 rfl ?_
    refine A_iconst (v := 4) hC dX1_takes_17 (by decide) ?_
    refine A_callVi (As := [.int a1, .int (4 : Int32)]) (st := [.int (D1.1 31 0)]) hC (fun l => mX0_known l g hL a1 (4 : Int32) D1) (lX_2 hL) rfl (Nat.le_of_ble_eq_true rfl) yc_X1_27 rfl rfl ⟨by decide, by decide⟩ (Nat.le_of_ble_eq_true rfl) rfl dX1_takes_18 (fun x3 D4 => ?_)
    refine A_ishr hC dX1_takes_21 ?_
    refine A_iconst (v := 1) hC dX1_takes_22 (by decide) ?_
    refine A_iand hC dX1_takes_23 ?_
    refine A_iconst (v := 1) hC dX1_takes_24 (by decide) ?_
    refine A_icmp_ne (tgt := 90) hC dX1_takes_25 (by decide) ?_ ?_
    · exact A_to (hj90 D4) (trivial)
    · refine A_aload_n hC dX1_takes_28 rfl ?_
      refine A_geti (kf := 1) hC kX1 (lX_31 hL) rfl (by decide) (by decide) rfl w_147 dX1_takes_29 ?_
      refine A_aload_n hC dX1_takes_32 rfl ?_
      refine A_iload_n hC dX1_takes_33 rfl ?_
      refine A_iconst (v := 1) hC dX1_takes_34 (by decide) ?_
      refine A_callVi (As := [.int a1, .int (1 : Int32)]) (st := [.int (D4.1 31 1)]) hC (fun l => mX0_known l g hL a1 (1 : Int32) D4) (lX_2 hL) rfl (Nat.le_of_ble_eq_true rfl) yc_X1_27 rfl rfl ⟨by decide, by decide⟩ (Nat.le_of_ble_eq_true rfl) rfl dX1_takes_35 (fun x4 D5 => ?_)
      refine A_ishr hC dX1_takes_38 ?_
      refine A_iconst (v := 1) hC dX1_takes_39 (by decide) ?_
      refine A_iand hC dX1_takes_40 ?_
      refine A_iconst (v := 1) hC dX1_takes_41 (by decide) ?_
      refine A_icmp_ne (tgt := 90) hC dX1_takes_42 (by decide) ?_ ?_
      · exact A_to (hj90 D5) (trivial)
      · refine A_aload_n hC dX1_takes_45 rfl ?_
        refine A_iload_n hC dX1_takes_46 rfl ?_
        refine A_iconst (v := 5) hC dX1_takes_47 (by decide) ?_
        refine A_callVi (As := [.int a1, .int (5 : Int32)]) (st := []) hC (fun l => mX0_known l g hL a1 (5 : Int32) D5) (lX_2 hL) rfl (Nat.le_of_ble_eq_true rfl) yc_X1_27 rfl rfl ⟨by decide, by decide⟩ (Nat.le_of_ble_eq_true rfl) rfl dX1_takes_48 (fun x5 D6 => ?_)
        refine A_aload_n hC dX1_takes_51 rfl ?_
        refine A_geti (kf := 3) hC kX1 (lX_31 hL) rfl (by decide) (by decide) rfl w_149 dX1_takes_52 ?_
        refine A_icmp_gt (tgt := 90) hC dX1_takes_55 (by decide) ?_ ?_
        · exact A_to (hj90 D6) (trivial)
        · refine A_aload_n hC dX1_takes_58 rfl ?_
          refine A_iload_n hC dX1_takes_59 rfl ?_
          refine A_bipush (v := 6) hC dX1_takes_60 (by decide) ?_
          refine A_callVi (As := [.int a1, .int (6 : Int32)]) (st := []) hC (fun l => mX0_known l g hL a1 (6 : Int32) D6) (lX_2 hL) rfl (Nat.le_of_ble_eq_true rfl) yc_X1_27 rfl rfl ⟨by decide, by decide⟩ (Nat.le_of_ble_eq_true rfl) rfl dX1_takes_62 (fun x6 D7 => ?_)
          refine A_aload_n hC dX1_takes_65 rfl ?_
          refine A_geti (kf := 2) hC kX1 (lX_31 hL) rfl (by decide) (by decide) rfl w_148 dX1_takes_66 ?_
          refine A_icmp_lt (tgt := 90) hC dX1_takes_69 (by decide) ?_ ?_
          · exact A_to (hj90 D7) (trivial)
          · refine A_aload_n hC dX1_takes_72 rfl ?_
            refine A_aload_n hC dX1_takes_73 rfl ?_
            refine A_iload_n hC dX1_takes_74 rfl ?_
            refine A_bipush (v := 7) hC dX1_takes_75 (by decide) ?_
            refine A_callVi (As := [.int a1, .int (7 : Int32)]) (st := [.ref (g.1 + 31)]) hC (fun l => mX0_known l g hL a1 (7 : Int32) D7) (lX_2 hL) rfl (Nat.le_of_ble_eq_true rfl) yc_X1_27 rfl rfl ⟨by decide, by decide⟩ (Nat.le_of_ble_eq_true rfl) rfl dX1_takes_77 (fun x7 D8 => ?_)
            refine A_callVi (As := [.int x7]) (st := []) hC (fun l => mX1_takesMark l g hL x7 D8) (lX_31 hL) rfl (Nat.le_of_ble_eq_true rfl) yc_X1_33 rfl rfl ⟨by decide, by decide⟩ (Nat.le_of_ble_eq_true rfl) rfl dX1_takes_80 (fun x8 D9 => ?_)
            refine A_if_eq (tgt := 90) hC dX1_takes_83 (by decide) ?_ ?_
            · exact A_to (hj90 D9) (trivial)
            · refine A_iconst (v := 1) hC dX1_takes_86 (by decide) ?_
              refine A_goto (tgt := 91) hC dX1_takes_87 (by decide) ?_
              exact A_to (hj91 (1 : Int32) D9) (trivial)
