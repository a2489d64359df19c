def lX11_pair_63 (x9 : Int32) (j125 : Int32 → Int32 → Int64 → ADD → Option (Int32 × ADD)) (L63 : Int32 → Int32 → Int64 → Int32 → ADD → Option (Int32 × ADD)) (x14 : Int32) (x15 : Int32) (x16 : Int64) (x17 : Int32) (D9 : ADD) : Option (Int32 × ADD) := (if x9 ≤ x17 then j125 x14 x15 x16 D9 else aBind (fX11_sumOf x17 x9 D9) (fun x18 D10 => aLet (fun (x19 : Int32) (x20 : Int32) (x21 : Int64) (D11 : ADD) => aLet (x17 + (1 : Int32)) (fun x22 => L63 x19 x20 x21 x22 D11)) (fun (j119 : Int32 → Int32 → Int64 → ADD → Option (Int32 × ADD)) => aLet (fun (D12 : ADD) => j119 x17 x9 x18 D12) (fun (j108 : ADD → Option (Int32 × ADD)) => (if x15 = 0 then j108 D10 else (if (aCmp ((x18 * x14.toInt64) * x15.toInt64) ((x16 * x17.toInt64) * x9.toInt64)) < 0 then j119 x14 x15 x16 D10 else j108 D10))))))
def lX11_pair_54 (a1 : Int32) (a2 : Int32) (j131 : Int32 → Int32 → ADD → Option (Int32 × ADD)) (L54 : Int32 → Int32 → Int64 → Int32 → ADD → Option (Int32 × ADD)) (x6 : Int32) (x7 : Int32) (x8 : Int64) (x9 : Int32) (D7 : ADD) : Option (Int32 × ADD) := (if a2 < x9 then j131 x6 x7 D7 else aLet (fun (x10 : Int32) (x11 : Int32) (x12 : Int64) (D8 : ADD) => aLet (x9 + (1 : Int32)) (fun x13 => L54 x10 x11 x12 x13 D8)) (fun (j125 : Int32 → Int32 → Int64 → ADD → Option (Int32 × ADD)) => aLet (aFix aFuel (lX11_pair_63 x9 j125) (fun _ _ _ _ _ => none)) (fun j63 => j63 x6 x7 x8 a1 D7)))
def fX11_pair (a1 : Int32) (a2 : Int32) (D : ADD) : Option (Int32 × ADD) := aLet (aSI D 0 0 (0 : Int32)) (fun D1 => aBind (fX11_areUnits a1 a2 D1) (fun x1 D2 => aLet (fun (D3 : ADD) => some ((-1 : Int32), D3)) (fun (j26 : ADD → Option (Int32 × ADD)) => (if x1 = 0 then j26 D2 else (if a1 = a2 then j26 D2 else (if (a2 - a1) ≤ (40 : Int32) then aBind (fX11_look D2) (fun _ D4 => aBind (fX11_those D4) (fun x2 D5 => (if x2 = 0 then some ((-1 : Int32), D5) else aLet (a1 + (1 : Int32)) (fun x3 => aLet (fun (x4 : Int32) (x5 : Int32) (D6 : ADD) => some ((((10000 : Int32) * x5) + x4), D6)) (fun (j131 : Int32 → Int32 → ADD → Option (Int32 × ADD)) => aLet (aFix aFuel (lX11_pair_54 a1 a2 j131) (fun _ _ _ _ _ => none)) (fun j54 => j54 (0 : Int32) (0 : Int32) (0 : Int64) x3 D5)))))) else j26 D2))))))
set_option maxHeartbeats 4000000 in
set_option maxRecDepth 100000 in
theorem mX11_pair (l : Launch) (g : AGl) (hL : aLM g) (a1 : Int32) (a2 : Int32) (D : ADD) : AM aVi l yX11_pair cX11_pair 11 (some .int) 4 g [.ref (g.1 + 0), .int a1, .int a2] D (fX11_pair a1 a2 D) := by
  refine AM_of (lv0 := [some (.ref (g.1 + 0)), some (.int a1), some (.int a2), none, none, none, none, none, none, none, none]) (own := RX11) (by decide +kernel) rfl (Nat.le_of_ble_eq_true rfl) rfl (fun b hC => ?_)
  unfold fX11_pair
  refine A_aload_n hC dX11_pair_0 rfl ?_
  refine A_iconst (v := 0) hC dX11_pair_1 (by decide) ?_
  refine A_puti (kf := 0) hC kX11 (lM_0 hL) rfl (by decide) (by decide) rfl rfl rfl w_1003 dX11_pair_2 (fun D1 => ?_)
  refine A_iload_n hC dX11_pair_5 rfl ?_
  refine A_iload_n hC dX11_pair_6 rfl ?_
  refine A_callSi (As := [.int a1, .int a2]) (st := []) hC (fun l => mX11_areUnits l g a1 a2 D1) yc_X11_340 rfl rfl ⟨by decide, by decide⟩ (Nat.le_of_ble_eq_true rfl) rfl dX11_pair_7 (fun x1 D2 => ?_)
  refine A_join (fun (J : ADD → Option (Int32 × ADD)) => ∀ (D3 : ADD), AT aVi g b 26 [none, none, none, none, none, none, none, none, none, none, none] [] D3 (J D3)) (fun D3 => ?_) (fun j26 hj26 => ?_)
  · refine A_iconst (v := -1) hC dX11_pair_26 (by decide) ?_
    exact A_iret hC dX11_pair_27
  refine A_if_eq (tgt := 26) hC dX11_pair_10 (by decide) ?_ ?_
  · exact A_to (hj26 D2) (trivial)
  · refine A_iload_n hC dX11_pair_13 rfl ?_
    refine A_iload_n hC dX11_pair_14 rfl ?_
    refine A_icmp_eq (tgt := 26) hC dX11_pair_15 (by decide) ?_ ?_
    · exact A_to (hj26 D2) (trivial)
    · refine A_iload_n hC dX11_pair_18 rfl ?_
      refine A_iload_n hC dX11_pair_19 rfl ?_
      refine A_isub hC dX11_pair_20 ?_
      refine A_bipush (v := 40) hC dX11_pair_21 (by decide) ?_
      refine A_icmp_le (tgt := 28) hC dX11_pair_23 (by decide) ?_ ?_
      · refine A_aload_n hC dX11_pair_28 rfl ?_
        refine A_callVv (As := []) (st := []) hC (fun l => mX11_look l g hL D2) (lM_0 hL) rfl (Nat.le_of_ble_eq_true rfl) yc_X11_311 rfl rfl ⟨by decide, by decide⟩ (Nat.le_of_ble_eq_true rfl) rfl dX11_pair_29 (fun _ D4 => ?_)
        refine A_aload_n hC dX11_pair_32 rfl ?_
        refine A_callVi (As := []) (st := []) hC (fun l => mX11_those l g hL D4) (lM_0 hL) rfl (Nat.le_of_ble_eq_true rfl) yc_X11_344 rfl rfl ⟨by decide, by decide⟩ (Nat.le_of_ble_eq_true rfl) rfl dX11_pair_33 (fun x2 D5 => ?_)
        refine A_if_ne (tgt := 41) hC dX11_pair_36 (by decide) ?_ ?_
        · refine A_iconst (v := 0) hC dX11_pair_41 (by decide) ?_
          refine A_istore_n (lv2 := [some (.ref (g.1 + 0)), some (.int a1), some (.int a2), some (.int (0 : Int32)), none, none, none, none, none, none, none]) hC dX11_pair_42 (Nat.le_of_ble_eq_true rfl) rfl rfl ?_
          refine A_iconst (v := 0) hC dX11_pair_43 (by decide) ?_
          refine A_istore (lv2 := [some (.ref (g.1 + 0)), some (.int a1), some (.int a2), some (.int (0 : Int32)), some (.int (0 : Int32)), none, none, none, none, none, none]) hC dX11_pair_44 (Nat.le_of_ble_eq_true rfl) rfl rfl ?_
          refine A_lconst (v := 0) hC dX11_pair_46 (by decide) ?_
          refine A_lstore (lv2 := [some (.ref (g.1 + 0)), some (.int a1), some (.int a2), some (.int (0 : Int32)), some (.int (0 : Int32)), some (.long (0 : Int64)), none, none, none, none, none]) hC dX11_pair_47 (Nat.le_of_ble_eq_true rfl) rfl rfl ?_
          refine A_iload_n hC dX11_pair_49 rfl ?_
          refine A_iconst (v := 1) hC dX11_pair_50 (by decide) ?_
          refine A_iadd hC dX11_pair_51 ?_
          refine A_topi (fun x3 => ?_)
          refine A_istore (lv2 := [some (.ref (g.1 + 0)), some (.int a1), some (.int a2), some (.int (0 : Int32)), some (.int (0 : Int32)), some (.long (0 : Int64)), none, some (.int x3), none, none, none]) hC dX11_pair_52 (Nat.le_of_ble_eq_true rfl) rfl rfl ?_
          refine A_join (fun (J : Int32 → Int32 → ADD → Option (Int32 × ADD)) => ∀ (x4 : Int32) (x5 : Int32) (D6 : ADD), AT aVi g b 131 [none, none, none, some (.int x4), some (.int x5), none, none, none, none, none, none] [] D6 (J x4 x5 D6)) (fun x4 x5 D6 => ?_) (fun j131 hj131 => ?_)
          · refine A_sipush (v := 10000) hC dX11_pair_131 (by decide) ?_
            refine A_iload hC dX11_pair_134 rfl ?_
            refine A_imul hC dX11_pair_136 ?_
            refine A_iload_n hC dX11_pair_137 rfl ?_
            refine A_iadd hC dX11_pair_138 ?_
            exact A_iret hC dX11_pair_139
          refine A_join (fun (J : Int32 → Int32 → Int64 → Int32 → ADD → Option (Int32 × ADD)) => ∀ (x6 : Int32) (x7 : Int32) (x8 : Int64) (x9 : Int32) (D7 : ADD), AT aVi g b 54 [some (.ref (g.1 + 0)), some (.int a1), some (.int a2), some (.int x6), some (.int x7), some (.long x8), none, some (.int x9), none, none, none] [] D7 (J x6 x7 x8 x9 D7)) (aFix_all (fun (J : Int32 → Int32 → Int64 → Int32 → ADD → Option (Int32 × ADD)) => ∀ (x6 : Int32) (x7 : Int32) (x8 : Int64) (x9 : Int32) (D7 : ADD), AT aVi g b 54 [some (.ref (g.1 + 0)), some (.int a1), some (.int a2), some (.int x6), some (.int x7), some (.long x8), none, some (.int x9), none, none, none] [] D7 (J x6 x7 x8 x9 D7)) (fun _ _ _ _ _ => A_none) (fun L54 hL54 x6 x7 x8 x9 D7 => ?_) _) (fun j54 hj54 => ?_)
          · unfold lX11_pair_54
            refine A_iload hC dX11_pair_54 rfl ?_
            refine A_iload_n hC dX11_pair_56 rfl ?_
            refine A_icmp_gt (tgt := 131) hC dX11_pair_57 (by decide) ?_ ?_
            · exact A_to (hj131 x6 x7 D7) (And.intro rfl (And.intro rfl (trivial)))
            · refine A_iload_n hC dX11_pair_60 rfl ?_
              refine A_istore (lv2 := [some (.ref (g.1 + 0)), some (.int a1), some (.int a2), some (.int x6), some (.int x7), some (.long x8), none, some (.int x9), some (.int a1), none, none]) hC dX11_pair_61 (Nat.le_of_ble_eq_true rfl) rfl rfl ?_
              refine A_join (fun (J : Int32 → Int32 → Int64 → ADD → Option (Int32 × ADD)) => ∀ (x10 : Int32) (x11 : Int32) (x12 : Int64) (D8 : ADD), AT aVi g b 125 [some (.ref (g.1 + 0)), some (.int a1), some (.int a2), some (.int x10), some (.int x11), some (.long x12), none, some (.int x9), none, none, none] [] D8 (J x10 x11 x12 D8)) (fun x10 x11 x12 D8 => ?_) (fun j125 hj125 => ?_)
              · refine A_iincL (z := (1 : Int32)) (lv2 := fun x13 => [some (.ref (g.1 + 0)), some (.int a1), some (.int a2), some (.int x10), some (.int x11), some (.long x12), none, some (.int x13), none, none, none]) hC dX11_pair_125 rfl (by decide) (Nat.le_of_ble_eq_true rfl) rfl (fun _ => rfl) (fun x13 => ?_)
                refine A_goto (tgt := 54) hC dX11_pair_128 (by decide) ?_
                exact A_to (hL54 x10 x11 x12 x13 D8) (And.intro rfl (And.intro rfl (And.intro rfl (And.intro rfl (And.intro rfl (And.intro rfl (And.intro rfl (trivial))))))))
              refine A_join (fun (J : Int32 → Int32 → Int64 → Int32 → ADD → Option (Int32 × ADD)) => ∀ (x14 : Int32) (x15 : Int32) (x16 : Int64) (x17 : Int32) (D9 : ADD), AT aVi g b 63 [some (.ref (g.1 + 0)), some (.int a1), some (.int a2), some (.int x14), some (.int x15), some (.long x16), none, some (.int x9), some (.int x17), none, none] [] D9 (J x14 x15 x16 x17 D9)) (aFix_all (fun (J : Int32 → Int32 → Int64 → Int32 → ADD → Option (Int32 × ADD)) => ∀ (x14 : Int32) (x15 : Int32) (x16 : Int64) (x17 : Int32) (D9 : ADD), AT aVi g b 63 [some (.ref (g.1 + 0)), some (.int a1), some (.int a2), some (.int x14), some (.int x15), some (.long x16), none, some (.int x9), some (.int x17), none, none] [] D9 (J x14 x15 x16 x17 D9)) (fun _ _ _ _ _ => A_none) (fun L63 hL63 x14 x15 x16 x17 D9 => ?_) _) (fun j63 hj63 => ?_)
              · unfold lX11_pair_63
                refine A_iload hC dX11_pair_63 rfl ?_
                refine A_iload hC dX11_pair_65 rfl ?_
                refine A_icmp_ge (tgt := 125) hC dX11_pair_67 (by decide) ?_ ?_
                · exact A_to (hj125 x14 x15 x16 D9) (And.intro rfl (And.intro rfl (And.intro rfl (And.intro rfl (And.intro rfl (And.intro rfl (And.intro rfl (trivial))))))))
                · refine A_aload_n hC dX11_pair_70 rfl ?_
                  refine A_iload hC dX11_pair_71 rfl ?_
                  refine A_iload hC dX11_pair_73 rfl ?_
                  refine A_callVl (As := [.int x17, .int x9]) (st := []) hC (fun l => mX11_sumOf l g hL x17 x9 D9) (lM_0 hL) rfl (Nat.le_of_ble_eq_true rfl) yc_X11_356 rfl rfl ⟨by decide, by decide⟩ (Nat.le_of_ble_eq_true rfl) rfl dX11_pair_75 (fun x18 D10 => ?_)
                  refine A_lstore (lv2 := [some (.ref (g.1 + 0)), some (.int a1), some (.int a2), some (.int x14), some (.int x15), some (.long x16), none, some (.int x9), some (.int x17), some (.long x18), none]) hC dX11_pair_78 (Nat.le_of_ble_eq_true rfl) rfl rfl ?_
                  refine A_iload hC dX11_pair_80 rfl ?_
                  refine A_join (fun (J : Int32 → Int32 → Int64 → ADD → Option (Int32 × ADD)) => ∀ (x19 : Int32) (x20 : Int32) (x21 : Int64) (D11 : ADD), AT aVi g b 119 [some (.ref (g.1 + 0)), some (.int a1), some (.int a2), some (.int x19), some (.int x20), some (.long x21), none, some (.int x9), some (.int x17), none, none] [] D11 (J x19 x20 x21 D11)) (fun x19 x20 x21 D11 => ?_) (fun j119 hj119 => ?_)
                  · refine A_iincL (z := (1 : Int32)) (lv2 := fun x22 => [some (.ref (g.1 + 0)), some (.int a1), some (.int a2), some (.int x19), some (.int x20), some (.long x21), none, some (.int x9), some (.int x22), none, none]) hC dX11_pair_119 rfl (by decide) (Nat.le_of_ble_eq_true rfl) rfl (fun _ => rfl) (fun x22 => ?_)
                    refine A_goto (tgt := 63) hC dX11_pair_122 (by decide) ?_
                    exact A_to (hL63 x19 x20 x21 x22 D11) (And.intro rfl (And.intro rfl (And.intro rfl (And.intro rfl (And.intro rfl (And.intro rfl (And.intro rfl (And.intro rfl (trivial)))))))))
                  refine A_join (fun (J : ADD → Option (Int32 × ADD)) => ∀ (D12 : ADD), AT aVi g b 108 [some (.ref (g.1 + 0)), some (.int a1), some (.int a2), none, none, none, none, some (.int x9), some (.int x17), some (.long x18), none] [] D12 (J D12)) (fun D12 => ?_) (fun j108 hj108 => ?_)
                  · refine A_lload hC dX11_pair_108 rfl ?_
                    refine A_lstore (lv2 := [some (.ref (g.1 + 0)), some (.int a1), some (.int a2), none, none, some (.long x18), none, some (.int x9), some (.int x17), some (.long x18), none]) hC dX11_pair_110 (Nat.le_of_ble_eq_true rfl) rfl rfl ?_
                    refine A_iload hC dX11_pair_112 rfl ?_
                    refine A_istore_n (lv2 := [some (.ref (g.1 + 0)), some (.int a1), some (.int a2), some (.int x17), none, some (.long x18), none, some (.int x9), some (.int x17), some (.long x18), none]) hC dX11_pair_114 (Nat.le_of_ble_eq_true rfl) rfl rfl ?_
                    refine A_iload hC dX11_pair_115 rfl ?_
                    refine A_istore (lv2 := [some (.ref (g.1 + 0)), some (.int a1), some (.int a2), some (.int x17), some (.int x9), some (.long x18), none, some (.int x9), some (.int x17), some (.long x18), none]) hC dX11_pair_117 (Nat.le_of_ble_eq_true rfl) rfl rfl ?_
                    exact A_to (hj119 x17 x9 x18 D12) (And.intro rfl (And.intro rfl (And.intro rfl (And.intro rfl (And.intro rfl (And.intro rfl (And.intro rfl (And.intro rfl (trivial)))))))))
                  refine A_if_eq (tgt := 108) hC dX11_pair_82 (by decide) ?_ ?_
                  · exact A_to (hj108 D10) (And.intro rfl (And.intro rfl (And.intro rfl (And.intro rfl (And.intro rfl (And.intro rfl (trivial)))))))
                  · refine A_lload hC dX11_pair_85 rfl ?_
                    refine A_iload_n hC dX11_pair_87 rfl ?_
                    refine A_i2l hC dX11_pair_88 ?_
                    refine A_lmul hC dX11_pair_89 ?_
                    refine A_iload hC dX11_pair_90 rfl ?_
                    refine A_i2l hC dX11_pair_92 ?_
                    refine A_lmul hC dX11_pair_93 ?_
                    refine A_lload hC dX11_pair_94 rfl ?_
                    refine A_iload hC dX11_pair_96 rfl ?_
                    refine A_i2l hC dX11_pair_98 ?_
                    refine A_lmul hC dX11_pair_99 ?_
                    refine A_iload hC dX11_pair_100 rfl ?_
                    refine A_i2l hC dX11_pair_102 ?_
                    refine A_lmul hC dX11_pair_103 ?_
                    refine A_lcmp hC dX11_pair_104 ?_
                    refine A_if_lt (tgt := 119) hC dX11_pair_105 (by decide) ?_ ?_
                    · exact A_to (hj119 x14 x15 x16 D10) (And.intro rfl (And.intro rfl (And.intro rfl (And.intro rfl (And.intro rfl (And.intro rfl (And.intro rfl (And.intro rfl (trivial)))))))))
                    · exact A_to (hj108 D10) (And.intro rfl (And.intro rfl (And.intro rfl (And.intro rfl (And.intro rfl (And.intro rfl (trivial)))))))
              exact A_to (hj63 x6 x7 x8 a1 D7) (And.intro rfl (And.intro rfl (And.intro rfl (And.intro rfl (And.intro rfl (And.intro rfl (And.intro rfl (And.intro rfl (trivial)))))))))
          exact A_to (hj54 (0 : Int32) (0 : Int32) (0 : Int64) x3 D5) (And.intro rfl (And.intro rfl (And.intro rfl (And.intro rfl (And.intro rfl (And.intro rfl (And.intro rfl (trivial))))))))
        · refine A_iconst (v := -1) hC dX11_pair_39 (by decide) ?_
          exact A_iret hC dX11_pair_40
      · exact A_to (hj26 D2) (trivial)
def fX11_score (a1 : Int32) (D : ADD) : Option (Int32 × ADD) := aLet (aSI D 0 0 (0 : Int32)) (fun D1 => aBind (fX11_isUnit a1 D1) (fun x1 D2 => (if x1 = 0 then some ((-1000000000 : Int32), D2) else aBind (fX11_look D2) (fun _ D3 => aBind (fX11_scoreOf a1 D3) (fun x2 D4 => some (x2, D4))))))
set_option maxHeartbeats 4000000 in
set_option maxRecDepth 100000 in
theorem mX11_score (l : Launch) (g : AGl) (hL : aLM g) (a1 : Int32) (D : ADD) : AM aVi l yX11_score cX11_score 2 (some .int) 4 g [.ref (g.1 + 0), .int a1] D (fX11_score a1 D) := by
  refine AM_of (lv0 := [some (.ref (g.1 + 0)), some (.int a1)]) (own := RX11) (by decide +kernel) rfl (Nat.le_of_ble_eq_true rfl) rfl (fun b hC => ?_)
  unfold fX11_score
  refine A_aload_n hC dX11_score_0 rfl ?_
  refine A_iconst (v := 0) hC dX11_score_1 (by decide) ?_
  refine A_puti (kf := 0) hC kX11 (lM_0 hL) rfl (by decide) (by decide) rfl rfl rfl w_1003 dX11_score_2 (fun D1 => ?_)
  refine A_iload_n hC dX11_score_5 rfl ?_
  refine A_callSi (As := [.int a1]) (st := []) hC (fun l => mX11_isUnit l g a1 D1) yc_X11_314 rfl rfl ⟨by decide, by decide⟩ (Nat.le_of_ble_eq_true rfl) rfl dX11_score_6 (fun x1 D2 => ?_)
  refine A_if_ne (tgt := 16) hC dX11_score_9 (by decide) ?_ ?_
  · refine A_aload_n hC dX11_score_16 rfl ?_
    refine A_callVv (As := []) (st := []) hC (fun l => mX11_look l g hL D2) (lM_0 hL) rfl (Nat.le_of_ble_eq_true rfl) yc_X11_311 rfl rfl ⟨by decide, by decide⟩ (Nat.le_of_ble_eq_true rfl) rfl dX11_score_17 (fun _ D3 => ?_)
    refine A_aload_n hC dX11_score_20 rfl ?_
    refine A_iload_n hC dX11_score_21 rfl ?_
    refine A_callVi (As := [.int a1]) (st := []) hC (fun l => mX11_scoreOf l g hL a1 D3) (lM_0 hL) rfl (Nat.le_of_ble_eq_true rfl) yc_X11_330 rfl rfl ⟨by decide, by decide⟩ (Nat.le_of_ble_eq_true rfl) rfl dX11_score_22 (fun x2 D4 => ?_)
    exact A_iret hC dX11_score_25
  · refine A_ldcw hC dX11_score_12 w_1356 ?_
    exact A_iret hC dX11_score_15
def fX11_sum (a1 : Int32) (a2 : Int32) (D : ADD) : Option (Int64 × ADD) := aLet (aSI D 0 0 (0 : Int32)) (fun D1 => aBind (fX11_isUnit a1 D1) (fun x1 D2 => aLet (fun (D3 : ADD) => some ((-1000000000000 : Int64), D3)) (fun (j24 : ADD → Option (Int64 × ADD)) => (if x1 = 0 then j24 D2 else aBind (fX11_isUnit a2 D2) (fun x2 D4 => (if x2 = 0 then j24 D4 else (if a1 < a2 then aBind (fX11_look D4) (fun _ D5 => aBind (fX11_sumOf a1 a2 D5) (fun x3 D6 => some (x3, D6))) else j24 D4)))))))
set_option maxHeartbeats 4000000 in
set_option maxRecDepth 100000 in
theorem mX11_sum (l : Launch) (g : AGl) (hL : aLM g) (a1 : Int32) (a2 : Int32) (D : ADD) : AM aVl l yX11_sum cX11_sum 3 (some .long) 4 g [.ref (g.1 + 0), .int a1, .int a2] D (fX11_sum a1 a2 D) := by
  refine AM_of (lv0 := [some (.ref (g.1 + 0)), some (.int a1), some (.int a2)]) (own := RX11) (by decide +kernel) rfl (Nat.le_of_ble_eq_true rfl) rfl (fun b hC => ?_)
  unfold fX11_sum
  refine A_aload_n hC dX11_sum_0 rfl ?_
  refine A_iconst (v := 0) hC dX11_sum_1 (by decide) ?_
  refine A_puti (kf := 0) hC kX11 (lM_0 hL) rfl (by decide) (by decide) rfl rfl rfl w_1003 dX11_sum_2 (fun D1 => ?_)
  refine A_iload_n hC dX11_sum_5 rfl ?_
  refine A_callSi (As := [.int a1]) (st := []) hC (fun l => mX11_isUnit l g a1 D1) yc_X11_314 rfl rfl ⟨by decide, by decide⟩ (Nat.le_of_ble_eq_true rfl) rfl dX11_sum_6 (fun x1 D2 => ?_)
  refine A_join (fun (J : ADD → Option (Int64 × ADD)) => ∀ (D3 : ADD), AT aVl g b 24 [none, none, none] [] D3 (J D3)) (fun D3 => ?_) (fun j24 hj24 => ?_)
  · refine A_ldc2 hC dX11_sum_24 w_1408 ?_
    exact A_lret hC dX11_sum_27
  refine A_if_eq (tgt := 24) hC dX11_sum_9 (by decide) ?_ ?_
  · exact A_to (hj24 D2) (trivial)
  · refine A_iload_n hC dX11_sum_12 rfl ?_
    refine A_callSi (As := [.int a2]) (st := []) hC (fun l => mX11_isUnit l g a2 D2) yc_X11_314 rfl rfl ⟨by decide, by decide⟩ (Nat.le_of_ble_eq_true rfl) rfl dX11_sum_13 (fun x2 D4 => ?_)
    refine A_if_eq (tgt := 24) hC dX11_sum_16 (by decide) ?_ ?_
    · exact A_to (hj24 D4) (trivial)
    · refine A_iload_n hC dX11_sum_19 rfl ?_
      refine A_iload_n hC dX11_sum_20 rfl ?_
      refine A_icmp_lt (tgt := 28) hC dX11_sum_21 (by decide) ?_ ?_
      · refine A_aload_n hC dX11_sum_28 rfl ?_
        refine A_callVv (As := []) (st := []) hC (fun l => mX11_look l g hL D4) (lM_0 hL) rfl (Nat.le_of_ble_eq_true rfl) yc_X11_311 rfl rfl ⟨by decide, by decide⟩ (Nat.le_of_ble_eq_true rfl) rfl dX11_sum_29 (fun _ D5 => ?_)
        refine A_aload_n hC dX11_sum_32 rfl ?_
        refine A_iload_n hC dX11_sum_33 rfl ?_
        refine A_iload_n hC dX11_sum_34 rfl ?_
        refine A_callVl (As := [.int a1, .int a2]) (st := []) hC (fun l => mX11_sumOf l g hL a1 a2 D5) (lM_0 hL) rfl (Nat.le_of_ble_eq_true rfl) yc_X11_356 rfl rfl ⟨by decide, by decide⟩ (Nat.le_of_ble_eq_true rfl) rfl dX11_sum_35 (fun x3 D6 => ?_)
        exact A_lret hC dX11_sum_38
      · exact A_to (hj24 D4) (trivial)
def lX4_marksNear_4 (a1 : Int32) (j43 : Int32 → ADD → Option (Int32 × ADD)) (L4 : Int32 → Int32 → ADD → Option (Int32 × ADD)) (x2 : Int32) (x3 : Int32) (D2 : ADD) : Option (Int32 × ADD) := (if (D2.1 43 0) ≤ x3 then j43 x2 D2 else aBind (fX4_markOf x3 D2) (fun x4 D3 => aLet (fun (x5 : Int32) (D4 : ADD) => aLet (x2 + x5) (fun x6 => aLet (x3 + (1 : Int32)) (fun x7 => L4 x6 x7 D4))) (fun (j35 : Int32 → ADD → Option (Int32 × ADD)) => aLet (fun (D5 : ADD) => j35 (0 : Int32) D5) (fun (j34 : ADD → Option (Int32 × ADD)) => (if x4 ≤ 0 then j34 D3 else aBind (fX4_isNear x3 a1 D3) (fun x8 D6 => (if x8 = 0 then j34 D6 else j35 (1 : Int32) D6)))))))
def fX4_marksNear (a1 : Int32) (D : ADD) : Option (Int32 × ADD) := aLet (fun (x1 : Int32) (D1 : ADD) => some (x1, D1)) (fun (j43 : Int32 → ADD → Option (Int32 × ADD)) => aLet (aFix aFuel (lX4_marksNear_4 a1 j43) (fun _ _ _ => none)) (fun j4 => j4 (0 : Int32) (0 : Int32) D))
set_option maxHeartbeats 4000000 in
set_option maxRecDepth 100000 in
theorem mX4_marksNear (l : Launch) (g : AGl) (hL : aLX g) (a1 : Int32) (D : ADD) : AM aVi l yX4_marksNear cX4_marksNear 4 (some .int) 4 g [.ref (g.1 + 43), .int a1] D (fX4_marksNear a1 D) := by
  refine AM_of (lv0 := [some (.ref (g.1 + 43)), some (.int a1), none, none]) (own := RX4) (by decide +kernel) rfl (Nat.le_of_ble_eq_true rfl) rfl (fun b hC => ?_)
  unfold fX4_marksNear
  refine A_iconst (v := 0) hC dX4_marksNear_0 (by decide) ?_
  refine A_istore_n (lv2 := [some (.ref (g.1 + 43)), some (.int a1), some (.int (0 : Int32)), none]) hC dX4_marksNear_1 (Nat.le_of_ble_eq_true rfl) rfl rfl ?_
  refine A_iconst (v := 0) hC dX4_marksNear_2 (by decide) ?_
  refine A_istore_n (lv2 := [some (.ref (g.1 + 43)), some (.int a1), some (.int (0 : Int32)), some (.int (0 : Int32))]) hC dX4_marksNear_3 (Nat.le_of_ble_eq_true rfl) rfl rfl ?_
  refine A_join (fun (J : Int32 → ADD → Option (Int32 × ADD)) => ∀ (x1 : Int32) (D1 : ADD), AT aVi g b 43 [none, none, some (.int x1), none] [] D1 (J x1 D1)) (fun x1 D1 => ?_) (fun j43 hj43 => ?_)
  · refine A_iload_n hC dX4_marksNear_43 rfl ?_
    exact A_iret hC dX4_marksNear_44
  refine A_join (fun (J : Int32 → Int32 → ADD → Option (Int32 × ADD)) => ∀ (x2 : Int32) (x3 : Int32) (D2 : ADD), AT aVi g b 4 [some (.ref (g.1 + 43)), some (.int a1), some (.int x2), some (.int x3)] [] D2 (J x2 x3 D2)) (aFix_all (fun (J : Int32 → Int32 → ADD → Option (Int32 × ADD)) => ∀ (x2 : Int32) (x3 : Int32) (D2 : ADD), AT aVi g b 4 [some (.ref (g.1 + 43)), some (.int a1), some (.int x2), some (.int x3)] [] D2 (J x2 x3 D2)) (fun _ _ _ => A_none) (fun L4 hL4 x2 x3 D2 => ?_) _) (fun j4 hj4 => ?_)
  · unfold lX4_marksNear_4
    refine A_iload_n hC dX4_marksNear_4 rfl ?_
    refine A_aload_n hC dX4_marksNear_5 rfl ?_
    refine A_geti (kf := 0) hC kX4 (lX_43 hL) rfl (by decide) (by decide) rfl w_237 dX4_marksNear_6 ?_
    refine A_icmp_ge (tgt := 43) hC dX4_marksNear_9 (by decide) ?_ ?_
    · exact A_to (hj43 x2 D2) (And.intro rfl (trivial))
    · refine A_iload_n hC dX4_marksNear_12 rfl ?_
      refine A_aload_n hC dX4_marksNear_13 rfl ?_
      refine A_iload_n hC dX4_marksNear_14 rfl ?_
      refine A_callVi (As := [.int x3]) (st := [.int x2]) hC (fun l => mX4_markOf l g hL x3 D2) (lX_43 hL) rfl (Nat.le_of_ble_eq_true rfl) yc_X4_93 rfl rfl ⟨by decide, by decide⟩ (Nat.le_of_ble_eq_true rfl) rfl dX4_marksNear_15 (fun x4 D3 => ?_)
      refine A_join (fun (J : Int32 → ADD → Option (Int32 × ADD)) => ∀ (x5 : Int32) (D4 : ADD), AT aVi g b 35 [some (.ref (g.1 + 43)), some (.int a1), none, some (.int x3)] [.int x5, .int x2] D4 (J x5 D4)) (fun x5 D4 => ?_) (fun j35 hj35 => ?_)
      · refine A_iadd hC dX4_marksNear_35 ?_
        refine A_topi (fun x6 => ?_)
        refine A_istore_n (lv2 := [some (.ref (g.1 + 43)), some (.int a1), some (.int x6), some (.int x3)]) hC dX4_marksNear_36 (Nat.le_of_ble_eq_true rfl) rfl rfl ?_
        refine A_iincL (z := (1 : Int32)) (lv2 := fun x7 => [some (.ref (g.1 + 43)), some (.int a1), some (.int x6), some (.int x7)]) hC dX4_marksNear_37 rfl (by decide) (Nat.le_of_ble_eq_true rfl) rfl (fun _ => rfl) (fun x7 => ?_)
        refine A_goto (tgt := 4) hC dX4_marksNear_40 (by decide) ?_
        exact A_to (hL4 x6 x7 D4) (And.intro rfl (And.intro rfl (And.intro rfl (And.intro rfl (trivial)))))
      refine A_join (fun (J : ADD → Option (Int32 × ADD)) => ∀ (D5 : ADD), AT aVi g b 34 [some (.ref (g.1 + 43)), some (.int a1), none, some (.int x3)] [.int x2] D5 (J D5)) (fun D5 => ?_) (fun j34 hj34 => ?_)
      · refine A_iconst (v := 0) hC dX4_marksNear_34 (by decide) ?_
        exact A_to (hj35 (0 : Int32) D5) (And.intro rfl (And.intro rfl (And.intro rfl (trivial))))
      refine A_if_le (tgt := 34) hC dX4_marksNear_18 (by decide) ?_ ?_
      · exact A_to (hj34 D3) (And.intro rfl (And.intro rfl (And.intro rfl (trivial))))
      · refine A_aload_n hC dX4_marksNear_21 rfl ?_
        refine A_iload_n hC dX4_marksNear_22 rfl ?_
        refine A_iload_n hC dX4_marksNear_23 rfl ?_
        refine A_callVi (As := [.int x3, .int a1]) (st := [.int x2]) hC (fun l => mX4_isNear l g hL x3 a1 D3) (lX_43 hL) rfl (Nat.le_of_ble_eq_true rfl) yc_X4_81 rfl rfl ⟨by decide, by decide⟩ (Nat.le_of_ble_eq_true rfl) rfl dX4_marksNear_24 (fun x8 D6 => ?_)
        refine A_if_eq (tgt := 34) hC dX4_marksNear_27 (by decide) ?_ ?_
        · exact A_to (hj34 D6) (And.intro rfl (And.intro rfl (And.intro rfl (trivial))))
        · refine A_iconst (v := 1) hC dX4_marksNear_30 (by decide) ?_
          refine A_goto (tgt := 35) hC dX4_marksNear_31 (by decide) ?_
          exact A_to (hj35 (1 : Int32) D6) (And.intro rfl (And.intro rfl (And.intro rfl (trivial))))
  exact A_to (hj4 (0 : Int32) (0 : Int32) D) (And.intro rfl (And.intro rfl (And.intro rfl (And.intro rfl (trivial)))))
def lX4_nearBy_4 (a1 : Int32) (j35 : Int32 → ADD → Option (Int32 × ADD)) (L4 : Int32 → Int32 → ADD → Option (Int32 × ADD)) (x2 : Int32) (x3 : Int32) (D2 : ADD) : Option (Int32 × ADD) := (if (D2.1 43 0) ≤ x3 then j35 x2 D2 else aBind (fX4_isNear x3 a1 D2) (fun x4 D3 => aLet (fun (x5 : Int32) (D4 : ADD) => aLet (x2 + x5) (fun x6 => aLet (x3 + (1 : Int32)) (fun x7 => L4 x6 x7 D4))) (fun (j27 : Int32 → ADD → Option (Int32 × ADD)) => (if x4 = 0 then j27 (0 : Int32) D3 else j27 (1 : Int32) D3))))
def fX4_nearBy (a1 : Int32) (D : ADD) : Option (Int32 × ADD) := aLet (fun (x1 : Int32) (D1 : ADD) => some (x1, D1)) (fun (j35 : Int32 → ADD → Option (Int32 × ADD)) => aLet (aFix aFuel (lX4_nearBy_4 a1 j35) (fun _ _ _ => none)) (fun j4 => j4 (0 : Int32) (0 : Int32) D))
set_option maxHeartbeats 4000000 in
set_option maxRecDepth 100000 in
theorem mX4_nearBy (l : Launch) (g : AGl) (hL : aLX g) (a1 : Int32) (D : ADD) : AM aVi l yX4_nearBy cX4_nearBy 4 (some .int) 4 g [.ref (g.1 + 43), .int a1] D (fX4_nearBy a1 D) := by
  refine AM_of (lv0 := [some (.ref (g.1 + 43)), some (.int a1), none, none]) (own := RX4) (by decide +kernel) rfl (Nat.le_of_ble_eq_true rfl) rfl (fun b hC => ?_)
  unfold fX4_nearBy
  refine A_iconst (v := 0) hC dX4_nearBy_0 (by decide) ?_
  refine A_istore_n (lv2 := [some (.ref (g.1 + 43)), some (.int a1), some (.int (0 : Int32)), none]) hC dX4_nearBy_1 (Nat.le_of_ble_eq_true rfl) rfl rfl ?_
  refine A_iconst (v := 0) hC dX4_nearBy_2 (by decide) ?_
  refine A_istore_n (lv2 := [some (.ref (g.1 + 43)), some (.int a1), some (.int (0 : Int32)), some (.int (0 : Int32))]) hC dX4_nearBy_3 (Nat.le_of_ble_eq_true rfl) rfl rfl ?_
  refine A_join (fun (J : Int32 → ADD → Option (Int32 × ADD)) => ∀ (x1 : Int32) (D1 : ADD), AT aVi g b 35 [none, none, some (.int x1), none] [] D1 (J x1 D1)) (fun x1 D1 => ?_) (fun j35 hj35 => ?_)
  · refine A_iload_n hC dX4_nearBy_35 rfl ?_
    exact A_iret hC dX4_nearBy_36
  refine A_join (fun (J : Int32 → Int32 → ADD → Option (Int32 × ADD)) => ∀ (x2 : Int32) (x3 : Int32) (D2 : ADD), AT aVi g b 4 [some (.ref (g.1 + 43)), some (.int a1), some (.int x2), some (.int x3)] [] D2 (J x2 x3 D2)) (aFix_all (fun (J : Int32 → Int32 → ADD → Option (Int32 × ADD)) => ∀ (x2 : Int32) (x3 : Int32) (D2 : ADD), AT aVi g b 4 [some (.ref (g.1 + 43)), some (.int a1), some (.int x2), some (.int x3)] [] D2 (J x2 x3 D2)) (fun _ _ _ => A_none) (fun L4 hL4 x2 x3 D2 => ?_) _) (fun j4 hj4 => ?_)
  · unfold lX4_nearBy_4
    refine A_iload_n hC dX4_nearBy_4 rfl ?_
    refine A_aload_n hC dX4_nearBy_5 rfl ?_
    refine A_geti (kf := 0) hC kX4 (lX_43 hL) rfl (by decide) (by decide) rfl w_237 dX4_nearBy_6 ?_
    refine A_icmp_ge (tgt := 35) hC dX4_nearBy_9 (by decide) ?_ ?_
    · exact A_to (hj35 x2 D2) (And.intro rfl (trivial))
    · refine A_iload_n hC dX4_nearBy_12 rfl ?_
      refine A_aload_n hC dX4_nearBy_13 rfl ?_
      refine A_iload_n hC dX4_nearBy_14 rfl ?_
      refine A_iload_n hC dX4_nearBy_15 rfl ?_
      refine A_callVi (As := [.int x3, .int a1]) (st := [.int x2]) hC (fun l => mX4_isNear l g hL x3 a1 D2) (lX_43 hL) rfl (Nat.le_of_ble_eq_true rfl) yc_X4_81 rfl rfl ⟨by decide, by decide⟩ (Nat.le_of_ble_eq_true rfl) rfl dX4_nearBy_16 (fun x4 D3 => ?_)
      refine A_join (fun (J : Int32 → ADD → Option (Int32 × ADD)) => ∀ (x5 : Int32) (D4 : ADD), AT aVi g b 27 [some (.ref (g.1 + 43)), some (.int a1), none, some (.int x3)] [.int x5, .int x2] D4 (J x5 D4)) (fun x5 D4 => ?_) (fun j27 hj27 => ?_)
      · refine A_iadd hC dX4_nearBy_27 ?_
        refine A_topi (fun x6 => ?_)
        refine A_istore_n (lv2 := [some (.ref (g.1 + 43)), some (.int a1), some (.int x6), some (.int x3)]) hC dX4_nearBy_28 (Nat.le_of_ble_eq_true rfl) rfl rfl ?_
        refine A_iincL (z := (1 : Int32)) (lv2 := fun x7 => [some (.ref (g.1 + 43)), some (.int a1), some (.int x6), some (.int x7)]) hC dX4_nearBy_29 rfl (by decide) (Nat.le_of_ble_eq_true rfl) rfl (fun _ => rfl) (fun x7 => ?_)
        refine A_goto (tgt := 4) hC dX4_nearBy_32 (by decide) ?_
        exact A_to (hL4 x6 x7 D4) (And.intro rfl (And.intro rfl (And.intro rfl (And.intro rfl (trivial)))))
      refine A_if_eq (tgt := 26) hC dX4_nearBy_19 (by decide) ?_ ?_
      · refine A_iconst (v := 0) hC dX4_nearBy_26 (by decide) ?_
        exact A_to (hj27 (0 : Int32) D3) (And.intro rfl (And.intro rfl (And.intro rfl (trivial))))
      · refine A_iconst (v := 1) hC dX4_nearBy_22 (by decide) ?_
        refine A_goto (tgt := 27) hC dX4_nearBy_23 (by decide) ?_
        exact A_to (hj27 (1 : Int32) D3) (And.intro rfl (And.intro rfl (And.intro rfl (trivial))))
  exact A_to (hj4 (0 : Int32) (0 : Int32) D) (And.intro rfl (And.intro rfl (And.intro rfl (And.intro rfl (trivial)))))
def lX4_townsNear_4 (a1 : Int32) (j41 : Int32 → ADD → Option (Int32 × ADD)) (L4 : Int32 → Int32 → ADD → Option (Int32 × ADD)) (x3 : Int32) (x4 : Int32) (D3 : ADD) : Option (Int32 × ADD) := (if (D3.1 43 0) ≤ x4 then j41 x3 D3 else aBind (fX4_isNear x4 a1 D3) (fun x5 D4 => aLet (fun (x6 : Int32) (D5 : ADD) => aLet (x3 ||| x6) (fun x7 => aLet (x4 + (1 : Int32)) (fun x8 => L4 x7 x8 D5))) (fun (j33 : Int32 → ADD → Option (Int32 × ADD)) => (if x5 = 0 then j33 (0 : Int32) D4 else aBind (fX4_townOf x4 D4) (fun x9 D6 => j33 ((1 : Int32) <<< (x9 &&& 31)) D6)))))
def fX4_townsNear (a1 : Int32) (D : ADD) : Option (Int32 × ADD) := aLet (fun (x1 : Int32) (D1 : ADD) => aBind (fJ6_bitCount_0f7a4 x1 D1) (fun x2 D2 => some (x2, D2))) (fun (j41 : Int32 → ADD → Option (Int32 × ADD)) => aLet (aFix aFuel (lX4_townsNear_4 a1 j41) (fun _ _ _ => none)) (fun j4 => j4 (0 : Int32) (0 : Int32) D))
set_option maxHeartbeats 4000000 in
set_option maxRecDepth 100000 in
theorem mX4_townsNear (l : Launch) (g : AGl) (hL : aLX g) (a1 : Int32) (D : ADD) : AM aVi l yX4_townsNear cX4_townsNear 4 (some .int) 4 g [.ref (g.1 + 43), .int a1] D (fX4_townsNear a1 D) := by
  refine AM_of (lv0 := [some (.ref (g.1 + 43)), some (.int a1), none, none]) (own := RX4) (by decide +kernel) rfl (Nat.le_of_ble_eq_true rfl) rfl (fun b hC => ?_)
  unfold fX4_townsNear
  refine A_iconst (v := 0) hC dX4_townsNear_0 (by decide) ?_
  refine A_istore_n (lv2 := [some (.ref (g.1 + 43)), some (.int a1), some (.int (0 : Int32)), none]) hC dX4_townsNear_1 (Nat.le_of_ble_eq_true rfl) rfl rfl ?_
  refine A_iconst (v := 0) hC dX4_townsNear_2 (by decide) ?_
  refine A_istore_n (lv2 := [some (.ref (g.1 + 43)), some (.int a1), some (.int (0 : Int32)), some (.int (0 : Int32))]) hC dX4_townsNear_3 (Nat.le_of_ble_eq_true rfl) rfl rfl ?_
  refine A_join (fun (J : Int32 → ADD → Option (Int32 × ADD)) => ∀ (x1 : Int32) (D1 : ADD), AT aVi g b 41 [none, none, some (.int x1), none] [] D1 (J x1 D1)) (fun x1 D1 => ?_) (fun j41 hj41 => ?_)
  · refine A_iload_n hC dX4_townsNear_41 rfl ?_
    refine A_callSi (As := [.int x1]) (st := []) hC (fun l => mJ6_bitCount_0f7a4 l g x1 D1) yc_X4_88 rfl rfl ⟨by decide, by decide⟩ (Nat.le_of_ble_eq_true rfl) rfl dX4_townsNear_42 (fun x2 D2 => ?_)
    exact A_iret hC dX4_townsNear_45
  refine A_join (fun (J : Int32 → Int32 → ADD → Option (Int32 × ADD)) => ∀ (x3 : Int32) (x4 : Int32) (D3 : ADD), AT aVi g b 4 [some (.ref (g.1 + 43)), some (.int a1), some (.int x3), some (.int x4)] [] D3 (J x3 x4 D3)) (aFix_all (fun (J : Int32 → Int32 → ADD → Option (Int32 × ADD)) => ∀ (x3 : Int32) (x4 : Int32) (D3 : ADD), AT aVi g b 4 [some (.ref (g.1 + 43)), some (.int a1), some (.int x3), some (.int x4)] [] D3 (J x3 x4 D3)) (fun _ _ _ => A_none) (fun L4 hL4 x3 x4 D3 => ?_) _) (fun j4 hj4 => ?_)
  · unfold lX4_townsNear_4
    refine A_iload_n hC dX4_townsNear_4 rfl ?_
    refine A_aload_n hC dX4_townsNear_5 rfl ?_
    refine A_geti (kf := 0) hC kX4 (lX_43 hL) rfl (by decide) (by decide) rfl w_237 dX4_townsNear_6 ?_
    refine A_icmp_ge (tgt := 41) hC dX4_townsNear_9 (by decide) ?_ ?_
    · exact A_to (hj41 x3 D3) (And.intro rfl (trivial))
    · refine A_iload_n hC dX4_townsNear_12 rfl ?_
      refine A_aload_n hC dX4_townsNear_13 rfl ?_
      refine A_iload_n hC dX4_townsNear_14 rfl ?_
      refine A_iload_n hC dX4_townsNear_15 rfl ?_
      refine A_callVi (As := [.int x4, .int a1]) (st := [.int x3]) hC (fun l => mX4_isNear l g hL x4 a1 D3) (lX_43 hL) rfl (Nat.le_of_ble_eq_true rfl) yc_X4_81 rfl rfl ⟨by decide, by decide⟩ (Nat.le_of_ble_eq_true rfl) rfl dX4_townsNear_16 (fun x5 D4 => ?_)
      refine A_join (fun (J : Int32 → ADD → Option (Int32 × ADD)) => ∀ (x6 : Int32) (D5 : ADD), AT aVi g b 33 [some (.ref (g.1 + 43)), some (.int a1), none, some (.int x4)] [.int x6, .int x3] D5 (J x6 D5)) (fun x6 D5 => ?_) (fun j33 hj33 => ?_)
      · refine A_ior hC dX4_townsNear_33 ?_
        refine A_topi (fun x7 => ?_)
        refine A_istore_n (lv2 := [some (.ref (g.1 + 43)), some (.int a1), some (.int x7), some (.int x4)]) hC dX4_townsNear_34 (Nat.le_of_ble_eq_true rfl) rfl rfl ?_
        refine A_iincL (z := (1 : Int32)) (lv2 := fun x8 => [some (.ref (g.1 + 43)), some (.int a1), some (.int x7), some (.int x8)]) hC dX4_townsNear_35 rfl (by decide) (Nat.le_of_ble_eq_true rfl) rfl (fun _ => rfl) (fun x8 => ?_)
        refine A_goto (tgt := 4) hC dX4_townsNear_38 (by decide) ?_
        exact A_to (hL4 x7 x8 D5) (And.intro rfl (And.intro rfl (And.intro rfl (And.intro rfl (trivial)))))
      refine A_if_eq (tgt := 32) hC dX4_townsNear_19 (by decide) ?_ ?_
      · refine A_iconst (v := 0) hC dX4_townsNear_32 (by decide) ?_
        exact A_to (hj33 (0 : Int32) D4) (And.intro rfl (And.intro rfl (And.intro rfl (trivial))))
      · refine A_iconst (v := 1) hC dX4_townsNear_22 (by decide) ?_
        refine A_aload_n hC dX4_townsNear_23 rfl ?_
        refine A_iload_n hC dX4_townsNear_24 rfl ?_
        refine A_callVi (As := [.int x4]) (st := [.int (1 : Int32), .int x3]) hC (fun l => mX4_townOf l g hL x4 D4) (lX_43 hL) rfl (Nat.le_of_ble_eq_true rfl) yc_X4_85 rfl rfl ⟨by decide, by decide⟩ (Nat.le_of_ble_eq_true rfl) rfl dX4_townsNear_25 (fun x9 D6 => ?_)
        refine A_ishl hC dX4_townsNear_28 ?_
        refine A_goto (tgt := 33) hC dX4_townsNear_29 (by decide) ?_
        exact A_to (hj33 ((1 : Int32) <<< (x9 &&& 31)) D6) (And.intro rfl (And.intro rfl (And.intro rfl (trivial))))
  exact A_to (hj4 (0 : Int32) (0 : Int32) D) (And.intro rfl (And.intro rfl (And.intro rfl (And.intro rfl (trivial)))))
def lX7_bestPair_44 (a1 : Int32) (x9 : Int32) (j108 : Int32 → Int32 → Int64 → ADD → Option (Int32 × ADD)) (L44 : Int32 → Int32 → Int64 → Int32 → ADD → Option (Int32 × ADD)) (x14 : Int32) (x15 : Int32) (x16 : Int64) (x17 : Int32) (D6 : ADD) : Option (Int32 × ADD) := (if x9 ≤ x17 then j108 x14 x15 x16 D6 else aBind (fX7_sumOfListed (D6.1 43 0) a1 x17 x9 D6) (fun x18 D7 => aLet (fun (x19 : Int32) (x20 : Int32) (x21 : Int64) (D8 : ADD) => aLet (x17 + (1 : Int32)) (fun x22 => L44 x19 x20 x21 x22 D8)) (fun (j102 : Int32 → Int32 → Int64 → ADD → Option (Int32 × ADD)) => (if (aCmp ((x18 * x14.toInt64) * x15.toInt64) ((x16 * x17.toInt64) * x9.toInt64)) < 0 then j102 x14 x15 x16 D7 else j102 x17 x9 x18 D7))))
def lX7_bestPair_35 (a1 : Int32) (a2 : Int32) (j114 : Int32 → Int32 → ADD → Option (Int32 × ADD)) (L35 : Int32 → Int32 → Int64 → Int32 → ADD → Option (Int32 × ADD)) (x6 : Int32) (x7 : Int32) (x8 : Int64) (x9 : Int32) (D4 : ADD) : Option (Int32 × ADD) := (if a2 < x9 then j114 x6 x7 D4 else aLet (fun (x10 : Int32) (x11 : Int32) (x12 : Int64) (D5 : ADD) => aLet (x9 + (1 : Int32)) (fun x13 => L35 x10 x11 x12 x13 D5)) (fun (j108 : Int32 → Int32 → Int64 → ADD → Option (Int32 × ADD)) => aLet (aFix aFuel (lX7_bestPair_44 a1 x9 j108) (fun _ _ _ _ _ => none)) (fun j44 => j44 x6 x7 x8 a1 D4)))
def fX7_bestPair (a1 : Int32) (a2 : Int32) (D : ADD) : Option (Int32 × ADD) := aBind (fX7_listOffs a1 a2 D) (fun _ D1 => aLet (a1 + (1 : Int32)) (fun x1 => aBind (fX7_sumOfListed (D1.1 43 0) a1 a1 x1 D1) (fun x2 D2 => aLet (a1 + (2 : Int32)) (fun x3 => aLet (fun (x4 : Int32) (x5 : Int32) (D3 : ADD) => some ((((10000 : Int32) * x5) + x4), D3)) (fun (j114 : Int32 → Int32 → ADD → Option (Int32 × ADD)) => aLet (aFix aFuel (lX7_bestPair_35 a1 a2 j114) (fun _ _ _ _ _ => none)) (fun j35 => j35 a1 x1 x2 x3 D2))))))
set_option maxHeartbeats 4000000 in
set_option maxRecDepth 100000 in
theorem mX7_bestPair (l : Launch) (g : AGl) (hL : aLX g) (a1 : Int32) (a2 : Int32) (D : ADD) : AM aVi l yX7_bestPair cX7_bestPair 12 (some .int) 4 g [.ref (g.1 + 50), .ref (g.1 + 43), .int a1, .int a2] D (fX7_bestPair a1 a2 D) := by
  refine AM_of (lv0 := [some (.ref (g.1 + 50)), some (.ref (g.1 + 43)), some (.int a1), some (.int a2), none, none, none, none, none, none, none, none]) (own := RX7) (by decide +kernel) rfl (Nat.le_of_ble_eq_true rfl) rfl (fun b hC => ?_)
  unfold fX7_bestPair
  refine A_aload_n hC dX7_bestPair_0 rfl ?_
  refine A_aload_n hC dX7_bestPair_1 rfl ?_
  refine A_iload_n hC dX7_bestPair_2 rfl ?_
  refine A_iload_n hC dX7_bestPair_3 rfl ?_
  refine A_callVv (As := [.ref (g.1 + 43), .int a1, .int a2]) (st := []) hC (fun l => mX7_listOffs l g hL a1 a2 D) (lX_50 hL) rfl (Nat.le_of_ble_eq_true rfl) yc_X7_84 rfl rfl ⟨by decide, by decide⟩ (Nat.le_of_ble_eq_true rfl) rfl dX7_bestPair_4 (fun _ D1 => ?_)
  refine A_iload_n hC dX7_bestPair_7 rfl ?_
  refine A_istore (lv2 := [some (.ref (g.1 + 50)), some (.ref (g.1 + 43)), some (.int a1), some (.int a2), some (.int a1), none, none, none, none, none, none, none]) hC dX7_bestPair_8 (Nat.le_of_ble_eq_true rfl) rfl rfl ?_
  refine A_iload_n hC dX7_bestPair_10 rfl ?_
  refine A_iconst (v := 1) hC dX7_bestPair_11 (by decide) ?_
  refine A_iadd hC dX7_bestPair_12 ?_
  refine A_topi (fun x1 => ?_)
  refine A_istore (lv2 := [some (.ref (g.1 + 50)), some (.ref (g.1 + 43)), some (.int a1), some (.int a2), some (.int a1), some (.int x1), none, none, none, none, none, none]) hC dX7_bestPair_13 (Nat.le_of_ble_eq_true rfl) rfl rfl ?_
  refine A_aload_n hC dX7_bestPair_15 rfl ?_
  refine A_aload_n hC dX7_bestPair_16 rfl ?_
  refine A_geti (kf := 0) hC kX4 (lX_43 hL) rfl (by decide) (by decide) rfl w_239 dX7_bestPair_17 ?_
  refine A_iload_n hC dX7_bestPair_20 rfl ?_
  refine A_iload hC dX7_bestPair_21 rfl ?_
  refine A_iload hC dX7_bestPair_23 rfl ?_
  refine A_callVl (As := [.int (D1.1 43 0), .int a1, .int a1, .int x1]) (st := []) hC (fun l => mX7_sumOfListed l g hL (D1.1 43 0) a1 a1 x1 D1) (lX_50 hL) rfl (Nat.le_of_ble_eq_true rfl) yc_X7_88 rfl rfl ⟨by decide, by decide⟩ (Nat.le_of_ble_eq_true rfl) rfl dX7_bestPair_25 (fun x2 D2 => ?_)
  refine A_lstore (lv2 := [some (.ref (g.1 + 50)), some (.ref (g.1 + 43)), some (.int a1), some (.int a2), some (.int a1), some (.int x1), some (.long x2), none, none, none, none, none]) hC dX7_bestPair_28 (Nat.le_of_ble_eq_true rfl) rfl rfl ?_
  refine A_iload_n hC dX7_bestPair_30 rfl ?_
  refine A_iconst (v := 2) hC dX7_bestPair_31 (by decide) ?_
  refine A_iadd hC dX7_bestPair_32 ?_
  refine A_topi (fun x3 => ?_)
  refine A_istore (lv2 := [some (.ref (g.1 + 50)), some (.ref (g.1 + 43)), some (.int a1), some (.int a2), some (.int a1), some (.int x1), some (.long x2), none, some (.int x3), none, none, none]) hC dX7_bestPair_33 (Nat.le_of_ble_eq_true rfl) rfl rfl ?_
  refine A_join (fun (J : Int32 → Int32 → ADD → Option (Int32 × ADD)) => ∀ (x4 : Int32) (x5 : Int32) (D3 : ADD), AT aVi g b 114 [none, none, none, none, some (.int x4), some (.int x5), none, none, none, none, none, none] [] D3 (J x4 x5 D3)) (fun x4 x5 D3 => ?_) (fun j114 hj114 => ?_)
  · refine A_sipush (v := 10000) hC dX7_bestPair_114 (by decide) ?_
    refine A_iload hC dX7_bestPair_117 rfl ?_
    refine A_imul hC dX7_bestPair_119 ?_
    refine A_iload hC dX7_bestPair_120 rfl ?_
    refine A_iadd hC dX7_bestPair_122 ?_
    exact A_iret hC dX7_bestPair_123
  refine A_join (fun (J : Int32 → Int32 → Int64 → Int32 → ADD → Option (Int32 × ADD)) => ∀ (x6 : Int32) (x7 : Int32) (x8 : Int64) (x9 : Int32) (D4 : ADD), AT aVi g b 35 [some (.ref (g.1 + 50)), some (.ref (g.1 + 43)), some (.int a1), some (.int a2), some (.int x6), some (.int x7), some (.long x8), none, some (.int x9), none, none, none] [] D4 (J x6 x7 x8 x9 D4)) (aFix_all (fun (J : Int32 → Int32 → Int64 → Int32 → ADD → Option (Int32 × ADD)) => ∀ (x6 : Int32) (x7 : Int32) (x8 : Int64) (x9 : Int32) (D4 : ADD), AT aVi g b 35 [some (.ref (g.1 + 50)), some (.ref (g.1 + 43)), some (.int a1), some (.int a2), some (.int x6), some (.int x7), some (.long x8), none, some (.int x9), none, none, none] [] D4 (J x6 x7 x8 x9 D4)) (fun _ _ _ _ _ => A_none) (fun L35 hL35 x6 x7 x8 x9 D4 => ?_) _) (fun j35 hj35 => ?_)
  · unfold lX7_bestPair_35
    refine A_iload hC dX7_bestPair_35 rfl ?_
    refine A_iload_n hC dX7_bestPair_37 rfl ?_
    refine A_icmp_gt (tgt := 114) hC dX7_bestPair_38 (by decide) ?_ ?_
    · exact A_to (hj114 x6 x7 D4) (And.intro rfl (And.intro rfl (trivial)))
    · refine A_iload_n hC dX7_bestPair_41 rfl ?_
      refine A_istore (lv2 := [some (.ref (g.1 + 50)), some (.ref (g.1 + 43)), some (.int a1), some (.int a2), some (.int x6), some (.int x7), some (.long x8), none, some (.int x9), some (.int a1), none, none]) hC dX7_bestPair_42 (Nat.le_of_ble_eq_true rfl) rfl rfl ?_
      refine A_join (fun (J : Int32 → Int32 → Int64 → ADD → Option (Int32 × ADD)) => ∀ (x10 : Int32) (x11 : Int32) (x12 : Int64) (D5 : ADD), AT aVi g b 108 [some (.ref (g.1 + 50)), some (.ref (g.1 + 43)), some (.int a1), some (.int a2), some (.int x10), some (.int x11), some (.long x12), none, some (.int x9), none, none, none] [] D5 (J x10 x11 x12 D5)) (fun x10 x11 x12 D5 => ?_) (fun j108 hj108 => ?_)
      · refine A_iincL (z := (1 : Int32)) (lv2 := fun x13 => [some (.ref (g.1 + 50)), some (.ref (g.1 + 43)), some (.int a1), some (.int a2), some (.int x10), some (.int x11), some (.long x12), none, some (.int x13), none, none, none]) hC dX7_bestPair_108 rfl (by decide) (Nat.le_of_ble_eq_true rfl) rfl (fun _ => rfl) (fun x13 => ?_)
        refine A_goto (tgt := 35) hC dX7_bestPair_111 (by decide) ?_
        exact A_to (hL35 x10 x11 x12 x13 D5) (And.intro rfl (And.intro rfl (And.intro rfl (And.intro rfl (And.intro rfl (And.intro rfl (And.intro rfl (And.intro rfl (trivial)))))))))
      refine A_join (fun (J : Int32 → Int32 → Int64 → Int32 → ADD → Option (Int32 × ADD)) => ∀ (x14 : Int32) (x15 : Int32) (x16 : Int64) (x17 : Int32) (D6 : ADD), AT aVi g b 44 [some (.ref (g.1 + 50)), some (.ref (g.1 + 43)), some (.int a1), some (.int a2), some (.int x14), some (.int x15), some (.long x16), none, some (.int x9), some (.int x17), none, none] [] D6 (J x14 x15 x16 x17 D6)) (aFix_all (fun (J : Int32 → Int32 → Int64 → Int32 → ADD → Option (Int32 × ADD)) => ∀ (x14 : Int32) (x15 : Int32) (x16 : Int64) (x17 : Int32) (D6 : ADD), AT aVi g b 44 [some (.ref (g.1 + 50)), some (.ref (g.1 + 43)), some (.int a1), some (.int a2), some (.int x14), some (.int x15), some (.long x16), none, some (.int x9), some (.int x17), none, none] [] D6 (J x14 x15 x16 x17 D6)) (fun _ _ _ _ _ => A_none) (fun L44 hL44 x14 x15 x16 x17 D6 => ?_) _) (fun j44 hj44 => ?_)
      · unfold lX7_bestPair_44
        refine A_iload hC dX7_bestPair_44 rfl ?_
        refine A_iload hC dX7_bestPair_46 rfl ?_
        refine A_icmp_ge (tgt := 108) hC dX7_bestPair_48 (by decide) ?_ ?_
        · exact A_to (hj108 x14 x15 x16 D6) (And.intro rfl (And.intro rfl (And.intro rfl (And.intro rfl (And.intro rfl (And.intro rfl (And.intro rfl (And.intro rfl (trivial)))))))))
        · refine A_aload_n hC dX7_bestPair_51 rfl ?_
          refine A_aload_n hC dX7_bestPair_52 rfl ?_
          refine A_geti (kf := 0) hC kX4 (lX_43 hL) rfl (by decide) (by decide) rfl w_239 dX7_bestPair_53 ?_
          refine A_iload_n hC dX7_bestPair_56 rfl ?_
          refine A_iload hC dX7_bestPair_57 rfl ?_
          refine A_iload hC dX7_bestPair_59 rfl ?_
          refine A_callVl (As := [.int (D6.1 43 0), .int a1, .int x17, .int x9]) (st := []) hC (fun l => mX7_sumOfListed l g hL (D6.1 43 0) a1 x17 x9 D6) (lX_50 hL) rfl (Nat.le_of_ble_eq_true rfl) yc_X7_88 rfl rfl ⟨by decide, by decide⟩ (Nat.le_of_ble_eq_true rfl) rfl dX7_bestPair_61 (fun x18 D7 => ?_)
          refine A_lstore (lv2 := [some (.ref (g.1 + 50)), some (.ref (g.1 + 43)), some (.int a1), some (.int a2), some (.int x14), some (.int x15), some (.long x16), none, some (.int x9), some (.int x17), some (.long x18), none]) hC dX7_bestPair_64 (Nat.le_of_ble_eq_true rfl) rfl rfl ?_
          refine A_lload hC dX7_bestPair_66 rfl ?_
          refine A_iload hC dX7_bestPair_68 rfl ?_
          refine A_i2l hC dX7_bestPair_70 ?_
          refine A_lmul hC dX7_bestPair_71 ?_
          refine A_iload hC dX7_bestPair_72 rfl ?_
          refine A_i2l hC dX7_bestPair_74 ?_
          refine A_lmul hC dX7_bestPair_75 ?_
          refine A_lload hC dX7_bestPair_76 rfl ?_
          refine A_iload hC dX7_bestPair_78 rfl ?_
          refine A_i2l hC dX7_bestPair_80 ?_
          refine A_lmul hC dX7_bestPair_81 ?_
          refine A_iload hC dX7_bestPair_82 rfl ?_
          refine A_i2l hC dX7_bestPair_84 ?_
          refine A_lmul hC dX7_bestPair_85 ?_
          refine A_lcmp hC dX7_bestPair_86 ?_
          refine A_join (fun (J : Int32 → Int32 → Int64 → ADD → Option (Int32 × ADD)) => ∀ (x19 : Int32) (x20 : Int32) (x21 : Int64) (D8 : ADD), AT aVi g b 102 [some (.ref (g.1 + 50)), some (.ref (g.1 + 43)), some (.int a1), some (.int a2), some (.int x19), some (.int x20), some (.long x21), none, some (.int x9), some (.int x17), none, none] [] D8 (J x19 x20 x21 D8)) (fun x19 x20 x21 D8 => ?_) (fun j102 hj102 => ?_)
          · refine A_iincL (z := (1 : Int32)) (lv2 := fun x22 => [some (.ref (g.1 + 50)), some (.ref (g.1 + 43)), some (.int a1), some (.int a2), some (.int x19), some (.int x20), some (.long x21), none, some (.int x9), some (.int x22), none, none]) hC dX7_bestPair_102 rfl (by decide) (Nat.le_of_ble_eq_true rfl) rfl (fun _ => rfl) (fun x22 => ?_)
            refine A_goto (tgt := 44) hC dX7_bestPair_105 (by decide) ?_
            exact A_to (hL44 x19 x20 x21 x22 D8) (And.intro rfl (And.intro rfl (And.intro rfl (And.intro rfl (And.intro rfl (And.intro rfl (And.intro rfl (And.intro rfl (And.intro rfl (trivial))))))))))
          refine A_if_lt (tgt := 102) hC dX7_bestPair_87 (by decide) ?_ ?_
          · exact A_to (hj102 x14 x15 x16 D7) (And.intro rfl (And.intro rfl (And.intro rfl (And.intro rfl (And.intro rfl (And.intro rfl (And.intro rfl (And.intro rfl (And.intro rfl (trivial))))))))))
          · refine A_lload hC dX7_bestPair_90 rfl ?_
            refine A_lstore (lv2 := [some (.ref (g.1 + 50)), some (.ref (g.1 + 43)), some (.int a1), some (.int a2), some (.int x14), some (.int x15), some (.long x18), none, some (.int x9), some (.int x17), some (.long x18), none]) hC dX7_bestPair_92 (Nat.le_of_ble_eq_true rfl) rfl rfl ?_
            refine A_iload hC dX7_bestPair_94 rfl ?_
            refine A_istore (lv2 := [some (.ref (g.1 + 50)), some (.ref (g.1 + 43)), some (.int a1), some (.int a2), some (.int x17), some (.int x15), some (.long x18), none, some (.int x9), some (.int x17), some (.long x18), none]) hC dX7_bestPair_96 (Nat.le_of_ble_eq_true rfl) rfl rfl ?_
            refine A_iload hC dX7_bestPair_98 rfl ?_
            refine A_istore (lv2 := [some (.ref (g.1 + 50)), some (.ref (g.1 + 43)), some (.int a1), some (.int a2), some (.int x17), some (.int x9), some (.long x18), none, some (.int x9), some (.int x17), some (.long x18), none]) hC dX7_bestPair_100 (Nat.le_of_ble_eq_true rfl) rfl rfl ?_
            exact A_to (hj102 x17 x9 x18 D7) (And.intro rfl (And.intro rfl (And.intro rfl (And.intro rfl (And.intro rfl (And.intro rfl (And.intro rfl (And.intro rfl (And.intro rfl (trivial))))))))))
      exact A_to (hj44 x6 x7 x8 a1 D4) (And.intro rfl (And.intro rfl (And.intro rfl (And.intro rfl (And.intro rfl (And.intro rfl (And.intro rfl (And.intro rfl (And.intro rfl (trivial))))))))))
  exact A_to (hj35 a1 x1 x2 x3 D2) (And.intro rfl (And.intro rfl (And.intro rfl (And.intro rfl (And.intro rfl (And.intro rfl (And.intro rfl (And.intro rfl (trivial)))))))))
def lX7_peakAt_6 (a1 : Int32) (j50 : ADD → Option (Int32 × ADD)) (L6 : Int32 → ADD → Option (Int32 × ADD)) (x1 : Int32) (D3 : ADD) : Option (Int32 × ADD) := (if (D3.1 50 5) ≤ x1 then j50 D3 else (if (Int32.ofNat 301) ≤ x1 then j50 D3 else aIn x1 301 (aBind (fX7_betterPeaks (D3.1 53 x1.toNatClampNeg) D3) (fun x2 D4 => (if x2 = a1 then aIn x1 301 (some ((D4.1 53 x1.toNatClampNeg), D4)) else aLet (x1 + (1 : Int32)) (fun x3 => L6 x3 D4))))))
def fX7_peakAt (a1 : Int32) (D : ADD) : Option (Int32 × ADD) := aBind (fX7_listPeaks D) (fun _ D1 => aLet (fun (D2 : ADD) => some ((-1 : Int32), D2)) (fun (j50 : ADD → Option (Int32 × ADD)) => aLet (aFix aFuel (lX7_peakAt_6 a1 j50) (fun _ _ => none)) (fun j6 => j6 (0 : Int32) D1)))
set_option maxHeartbeats 4000000 in
set_option maxRecDepth 100000 in
theorem mX7_peakAt (l : Launch) (g : AGl) (hL : aLX g) (a1 : Int32) (D : ADD) : AM aVi l yX7_peakAt cX7_peakAt 3 (some .int) 4 g [.ref (g.1 + 50), .int a1] D (fX7_peakAt a1 D) := by
  refine AM_of (lv0 := [some (.ref (g.1 + 50)), some (.int a1), none]) (own := RX7) (by decide +kernel) rfl (Nat.le_of_ble_eq_true rfl) rfl (fun b hC => ?_)
  unfold fX7_peakAt
  refine A_aload_n hC dX7_peakAt_0 rfl ?_
  refine A_callVv (As := []) (st := []) hC (fun l => mX7_listPeaks l g hL D) (lX_50 hL) rfl (Nat.le_of_ble_eq_true rfl) yc_X7_49 rfl rfl ⟨by decide, by decide⟩ (Nat.le_of_ble_eq_true rfl) rfl dX7_peakAt_1 (fun _ D1 => ?_)
  refine A_iconst (v := 0) hC dX7_peakAt_4 (by decide) ?_
  refine A_istore_n (lv2 := [some (.ref (g.1 + 50)), some (.int a1), some (.int (0 : Int32))]) hC dX7_peakAt_5 (Nat.le_of_ble_eq_true rfl) rfl rfl ?_
  refine A_join (fun (J : ADD → Option (Int32 × ADD)) => ∀ (D2 : ADD), AT aVi g b 50 [none, none, none] [] D2 (J D2)) (fun D2 => ?_) (fun j50 hj50 => ?_)
  · refine A_iconst (v := -1) hC dX7_peakAt_50 (by decide) ?_
    exact A_iret hC dX7_peakAt_51
  refine A_join (fun (J : Int32 → ADD → Option (Int32 × ADD)) => ∀ (x1 : Int32) (D3 : ADD), AT aVi g b 6 [some (.ref (g.1 + 50)), some (.int a1), some (.int x1)] [] D3 (J x1 D3)) (aFix_all (fun (J : Int32 → ADD → Option (Int32 × ADD)) => ∀ (x1 : Int32) (D3 : ADD), AT aVi g b 6 [some (.ref (g.1 + 50)), some (.int a1), some (.int x1)] [] D3 (J x1 D3)) (fun _ _ => A_none) (fun L6 hL6 x1 D3 => ?_) _) (fun j6 hj6 => ?_)
  · unfold lX7_peakAt_6
    refine A_iload_n hC dX7_peakAt_6 rfl ?_
    refine A_aload_n hC dX7_peakAt_7 rfl ?_
    refine A_geti (kf := 5) hC kX7 (lX_50 hL) rfl (by decide) (by decide) rfl w_277 dX7_peakAt_8 ?_
    refine A_icmp_ge (tgt := 50) hC dX7_peakAt_11 (by decide) ?_ ?_
    · exact A_to (hj50 D3) (trivial)
    · refine A_iload_n hC dX7_peakAt_14 rfl ?_
      refine A_aload_n hC dX7_peakAt_15 rfl ?_
      refine A_getr (kf := 4) hC kX7 (lX_50 hL) rfl (by decide) (by decide) rfl rfl w_276 dX7_peakAt_16 ?_
      refine A_aleni hC (lX_53 hL) dX7_peakAt_19 ?_
      refine A_icmp_ge (tgt := 50) hC dX7_peakAt_20 (by decide) ?_ ?_
      · exact A_to (hj50 D3) (trivial)
      · refine A_aload_n hC dX7_peakAt_23 rfl ?_
        refine A_aload_n hC dX7_peakAt_24 rfl ?_
        refine A_getr (kf := 4) hC kX7 (lX_50 hL) rfl (by decide) (by decide) rfl rfl w_276 dX7_peakAt_25 ?_
        refine A_iload_n hC dX7_peakAt_28 rfl ?_
        refine A_iald hC (lX_53 hL) dX7_peakAt_29 ?_
        refine A_callVi (As := [.int (D3.1 53 x1.toNatClampNeg)]) (st := []) hC (fun l => mX7_betterPeaks l g hL (D3.1 53 x1.toNatClampNeg) D3) (lX_50 hL) rfl (Nat.le_of_ble_eq_true rfl) yc_X7_52 rfl rfl ⟨by decide, by decide⟩ (Nat.le_of_ble_eq_true rfl) rfl dX7_peakAt_30 (fun x2 D4 => ?_)
        refine A_iload_n hC dX7_peakAt_33 rfl ?_
        refine A_icmp_ne (tgt := 44) hC dX7_peakAt_34 (by decide) ?_ ?_
        · refine A_iincL (z := (1 : Int32)) (lv2 := fun x3 => [some (.ref (g.1 + 50)), some (.int a1), some (.int x3)]) hC dX7_peakAt_44 rfl (by decide) (Nat.le_of_ble_eq_true rfl) rfl (fun _ => rfl) (fun x3 => ?_)
          refine A_goto (tgt := 6) hC dX7_peakAt_47 (by decide) ?_
          exact A_to (hL6 x3 D4) (And.intro rfl (And.intro rfl (And.intro rfl (trivial))))
        · refine A_aload_n hC dX7_peakAt_37 rfl ?_
          refine A_getr (kf := 4) hC kX7 (lX_50 hL) rfl (by decide) (by decide) rfl rfl w_276 dX7_peakAt_38 ?_
          refine A_iload_n hC dX7_peakAt_41 rfl ?_
          refine A_iald hC (lX_53 hL) dX7_peakAt_42 ?_
          exact A_iret hC dX7_peakAt_43
  exact A_to (hj6 (0 : Int32) D1) (And.intro rfl (And.intro rfl (And.intro rfl (trivial))))
def fX7_placeOf (a1 : Int32) (D : ADD) : Option (Int32 × ADD) := aBind (fX7_isPeak a1 D) (fun x1 D1 => (if x1 = 0 then some ((9999 : Int32), D1) else aBind (fX7_listPeaks D1) (fun _ D2 => aBind (fX7_betterPeaks a1 D2) (fun x2 D3 => some (x2, D3)))))
set_option maxHeartbeats 4000000 in
set_option maxRecDepth 100000 in
theorem mX7_placeOf (l : Launch) (g : AGl) (hL : aLX g) (a1 : Int32) (D : ADD) : AM aVi l yX7_placeOf cX7_placeOf 2 (some .int) 4 g [.ref (g.1 + 50), .int a1] D (fX7_placeOf a1 D) := by
  refine AM_of (lv0 := [some (.ref (g.1 + 50)), some (.int a1)]) (own := RX7) (by decide +kernel) rfl (Nat.le_of_ble_eq_true rfl) rfl (fun b hC => ?_)
  unfold fX7_placeOf
  refine A_aload_n hC dX7_placeOf_0 rfl ?_
  refine A_iload_n hC dX7_placeOf_1 rfl ?_
  refine A_callVi (As := [.int a1]) (st := []) hC (fun l => mX7_isPeak l g hL a1 D) (lX_50 hL) rfl (Nat.le_of_ble_eq_true rfl) yc_X7_55 rfl rfl ⟨by decide, by decide⟩ (Nat.le_of_ble_eq_true rfl) rfl dX7_placeOf_2 (fun x1 D1 => ?_)
  refine A_if_ne (tgt := 12) hC dX7_placeOf_5 (by decide) ?_ ?_
  · refine A_aload_n hC dX7_placeOf_12 rfl ?_
    refine A_callVv (As := []) (st := []) hC (fun l => mX7_listPeaks l g hL D1) (lX_50 hL) rfl (Nat.le_of_ble_eq_true rfl) yc_X7_49 rfl rfl ⟨by decide, by decide⟩ (Nat.le_of_ble_eq_true rfl) rfl dX7_placeOf_13 (fun _ D2 => ?_)
    refine A_aload_n hC dX7_placeOf_16 rfl ?_
    refine A_iload_n hC dX7_placeOf_17 rfl ?_
    refine A_callVi (As := [.int a1]) (st := []) hC (fun l => mX7_betterPeaks l g hL a1 D2) (lX_50 hL) rfl (Nat.le_of_ble_eq_true rfl) yc_X7_52 rfl rfl ⟨by decide, by decide⟩ (Nat.le_of_ble_eq_true rfl) rfl dX7_placeOf_18 (fun x2 D3 => ?_)
    exact A_iret hC dX7_placeOf_21
  · refine A_sipush (v := 9999) hC dX7_placeOf_8 (by decide) ?_
    exact A_iret hC dX7_placeOf_11
def lX7_scoreUnits_24 (j57 : ADD → Option (Unit × ADD)) (L24 : Int32 → ADD → Option (Unit × ADD)) (x2 : Int32) (D4 : ADD) : Option (Unit × ADD) := (if (D4.1 50 1) < x2 then j57 D4 else aBind (fX4_scoreBy x2 D4) (fun x3 D5 => aIn (x2 - (D4.1 50 0)) 301 (aLet (aSI D5 51 (x2 - (D4.1 50 0)).toNatClampNeg x3) (fun D6 => aLet (x2 + (1 : Int32)) (fun x4 => L24 x4 D6)))))
def fX7_scoreUnits (a1 : Int32) (a2 : Int32) (D : ADD) : Option (Unit × ADD) := aLet (aSI D 50 0 a1) (fun D1 => aLet (aSI D1 50 1 (aMin a2 (a1 + (300 : Int32)))) (fun D2 => aLet (D2.1 50 0) (fun x1 => aLet (fun (D3 : ADD) => some ((), D3)) (fun (j57 : ADD → Option (Unit × ADD)) => aLet (aFix aFuel (lX7_scoreUnits_24 j57) (fun _ _ => none)) (fun j24 => j24 x1 D2)))))
set_option maxHeartbeats 4000000 in
set_option maxRecDepth 100000 in
theorem mX7_scoreUnits (l : Launch) (g : AGl) (hL : aLX g) (a1 : Int32) (a2 : Int32) (D : ADD) : AM aVv l yX7_scoreUnits cX7_scoreUnits 5 none 4 g [.ref (g.1 + 50), .ref (g.1 + 43), .int a1, .int a2] D (fX7_scoreUnits a1 a2 D) := by
  refine AM_of (lv0 := [some (.ref (g.1 + 50)), some (.ref (g.1 + 43)), some (.int a1), some (.int a2), none]) (own := RX7) (by decide +kernel) rfl (Nat.le_of_ble_eq_true rfl) rfl (fun b hC => ?_)
  unfold fX7_scoreUnits
  refine A_aload_n hC dX7_scoreUnits_0 rfl ?_
  refine A_iload_n hC dX7_scoreUnits_1 rfl ?_
  refine A_puti (kf := 0) hC kX7 (lX_50 hL) rfl (by decide) (by decide) rfl rfl rfl w_272 dX7_scoreUnits_2 (fun D1 => ?_)
  refine A_aload_n hC dX7_scoreUnits_5 rfl ?_
  refine A_iload_n hC dX7_scoreUnits_6 rfl ?_
  refine A_iload_n hC dX7_scoreUnits_7 rfl ?_
  refine A_sipush (v := 300) hC dX7_scoreUnits_8 (by decide) ?_
  refine A_iadd hC dX7_scoreUnits_11 ?_
  refine A_mmin hC w_715 w_567 w_16 w_568 rfl (by decide) (Nat.le_of_ble_eq_true rfl) dX7_scoreUnits_12 ?_
  refine A_puti (kf := 1) hC kX7 (lX_50 hL) rfl (by decide) (by decide) rfl rfl rfl w_273 dX7_scoreUnits_15 (fun D2 => ?_)
  refine A_aload_n hC dX7_scoreUnits_18 rfl ?_
  refine A_geti (kf := 0) hC kX7 (lX_50 hL) rfl (by decide) (by decide) rfl w_272 dX7_scoreUnits_19 ?_
  refine A_topi (fun x1 => ?_)
  refine A_istore (lv2 := [some (.ref (g.1 + 50)), some (.ref (g.1 + 43)), some (.int a1), some (.int a2), some (.int x1)]) hC dX7_scoreUnits_22 (Nat.le_of_ble_eq_true rfl) rfl rfl ?_
  refine A_join (fun (J : ADD → Option (Unit × ADD)) => ∀ (D3 : ADD), AT aVv g b 57 [none, none, none, none, none] [] D3 (J D3)) (fun D3 => ?_) (fun j57 hj57 => ?_)
  · exact A_vret hC dX7_scoreUnits_57
  refine A_join (fun (J : Int32 → ADD → Option (Unit × ADD)) => ∀ (x2 : Int32) (D4 : ADD), AT aVv g b 24 [some (.ref (g.1 + 50)), some (.ref (g.1 + 43)), none, none, some (.int x2)] [] D4 (J x2 D4)) (aFix_all (fun (J : Int32 → ADD → Option (Unit × ADD)) => ∀ (x2 : Int32) (D4 : ADD), AT aVv g b 24 [some (.ref (g.1 + 50)), some (.ref (g.1 + 43)), none, none, some (.int x2)] [] D4 (J x2 D4)) (fun _ _ => A_none) (fun L24 hL24 x2 D4 => ?_) _) (fun j24 hj24 => ?_)
  · unfold lX7_scoreUnits_24
    refine A_iload hC dX7_scoreUnits_24 rfl ?_
    refine A_aload_n hC dX7_scoreUnits_26 rfl ?_
    refine A_geti (kf := 1) hC kX7 (lX_50 hL) rfl (by decide) (by decide) rfl w_273 dX7_scoreUnits_27 ?_
    refine A_icmp_gt (tgt := 57) hC dX7_scoreUnits_30 (by decide) ?_ ?_
    · exact A_to (hj57 D4) (trivial)
    · refine A_aload_n hC dX7_scoreUnits_33 rfl ?_
      refine A_getr (kf := 2) hC kX7 (lX_50 hL) rfl (by decide) (by decide) rfl rfl w_274 dX7_scoreUnits_34 ?_
      refine A_iload hC dX7_scoreUnits_37 rfl ?_
      refine A_aload_n hC dX7_scoreUnits_39 rfl ?_
      refine A_geti (kf := 0) hC kX7 (lX_50 hL) rfl (by decide) (by decide) rfl w_272 dX7_scoreUnits_40 ?_
      refine A_isub hC dX7_scoreUnits_43 ?_
      refine A_aload_n hC dX7_scoreUnits_44 rfl ?_
      refine A_iload hC dX7_scoreUnits_45 rfl ?_
      refine A_callVi (As := [.int x2]) (st := [.int (x2 - (D4.1 50 0)), .ref (g.1 + 51)]) hC (fun l => mX4_scoreBy l g hL x2 D4) (lX_43 hL) rfl (Nat.le_of_ble_eq_true rfl) yc_X7_40 rfl rfl ⟨by decide, by decide⟩ (Nat.le_of_ble_eq_true rfl) rfl dX7_scoreUnits_47 (fun x3 D5 => ?_)
      refine A_iast hC (lX_51 hL) dX7_scoreUnits_50 (fun D6 => ?_)
      refine A_iincL (z := (1 : Int32)) (lv2 := fun x4 => [some (.ref (g.1 + 50)), some (.ref (g.1 + 43)), none, none, some (.int x4)]) hC dX7_scoreUnits_51 rfl (by decide) (Nat.le_of_ble_eq_true rfl) rfl (fun _ => rfl) (fun x4 => ?_)
      refine A_goto (tgt := 24) hC dX7_scoreUnits_54 (by decide) ?_
      exact A_to (hL24 x4 D6) (And.intro rfl (And.intro rfl (And.intro rfl (trivial))))
  exact A_to (hj24 x1 D2) (And.intro rfl (And.intro rfl (And.intro rfl (trivial))))
def fX7_worthOf (a1 : Int32) (D : ADD) : Option (Int32 × ADD) := aLet (fun (D1 : ADD) => some ((0 : Int32), D1)) (fun (j10 : ADD → Option (Int32 × ADD)) => (if a1 < 0 then j10 D else (if a1 < (32 : Int32) then aIn a1 32 (aLet (D.1 44 a1.toNatClampNeg) (fun x1 => aIn a1 32 (aLet (D.1 45 a1.toNatClampNeg) (fun x2 => (if x1 = x2 then some ((0 : Int32), D) else aBind (fX7_setAside a1 D) (fun _ D2 => aBind (fX7_bestIf a1 x1 D2) (fun x3 D3 => aBind (fX7_bestIf a1 x2 D3) (fun x4 D4 => some ((aAbs (x3 - x4)), D4))))))))) else j10 D)))
set_option maxHeartbeats 4000000 in
set_option maxRecDepth 100000 in
theorem mX7_worthOf (l : Launch) (g : AGl) (hL : aLX g) (a1 : Int32) (D : ADD) : AM aVi l yX7_worthOf cX7_worthOf 5 (some .int) 4 g [.ref (g.1 + 50), .ref (g.1 + 43), .int a1] D (fX7_worthOf a1 D) := by
  refine AM_of (lv0 := [some (.ref (g.1 + 50)), some (.ref (g.1 + 43)), some (.int a1), none, none]) (own := RX7) (by decide +kernel) rfl (Nat.le_of_ble_eq_true rfl) rfl (fun b hC => ?_)
  unfold fX7_worthOf
  refine A_iload_n hC dX7_worthOf_0 rfl ?_
  refine A_join (fun (J : ADD → Option (Int32 × ADD)) => ∀ (D1 : ADD), AT aVi g b 10 [none, none, none, none, none] [] D1 (J D1)) (fun D1 => ?_) (fun j10 hj10 => ?_)
  · refine A_iconst (v := 0) hC dX7_worthOf_10 (by decide) ?_
    exact A_iret hC dX7_worthOf_11
  refine A_if_lt (tgt := 10) hC dX7_worthOf_1 (by decide) ?_ ?_
  · exact A_to (hj10 D) (trivial)
  · refine A_iload_n hC dX7_worthOf_4 rfl ?_
    refine A_bipush (v := 32) hC dX7_worthOf_5 (by decide) ?_
    refine A_icmp_lt (tgt := 12) hC dX7_worthOf_7 (by decide) ?_ ?_
    · refine A_aload_n hC dX7_worthOf_12 rfl ?_
      refine A_getr (kf := 1) hC kX4 (lX_43 hL) rfl (by decide) (by decide) rfl rfl w_242 dX7_worthOf_13 ?_
      refine A_iload_n hC dX7_worthOf_16 rfl ?_
      refine A_iald hC (lX_44 hL) dX7_worthOf_17 ?_
      refine A_topi (fun x1 => ?_)
      refine A_istore_n (lv2 := [some (.ref (g.1 + 50)), some (.ref (g.1 + 43)), some (.int a1), some (.int x1), none]) hC dX7_worthOf_18 (Nat.le_of_ble_eq_true rfl) rfl rfl ?_
      refine A_aload_n hC dX7_worthOf_19 rfl ?_
      refine A_getr (kf := 2) hC kX4 (lX_43 hL) rfl (by decide) (by decide) rfl rfl w_245 dX7_worthOf_20 ?_
      refine A_iload_n hC dX7_worthOf_23 rfl ?_
      refine A_iald hC (lX_45 hL) dX7_worthOf_24 ?_
      refine A_topi (fun x2 => ?_)
      refine A_istore (lv2 := [some (.ref (g.1 + 50)), some (.ref (g.1 + 43)), some (.int a1), some (.int x1), some (.int x2)]) hC dX7_worthOf_25 (Nat.le_of_ble_eq_true rfl) rfl rfl ?_
      refine A_iload_n hC dX7_worthOf_27 rfl ?_
      refine A_iload hC dX7_worthOf_28 rfl ?_
      refine A_icmp_ne (tgt := 35) hC dX7_worthOf_30 (by decide) ?_ ?_
      · refine A_aload_n hC dX7_worthOf_35 rfl ?_
        refine A_aload_n hC dX7_worthOf_36 rfl ?_
        refine A_iload_n hC dX7_worthOf_37 rfl ?_
        refine A_callVv (As := [.ref (g.1 + 43), .int a1]) (st := []) hC (fun l => mX7_setAside l g hL a1 D) (lX_50 hL) rfl (Nat.le_of_ble_eq_true rfl) yc_X7_65 rfl rfl ⟨by decide, by decide⟩ (Nat.le_of_ble_eq_true rfl) rfl dX7_worthOf_38 (fun _ D2 => ?_)
        refine A_aload_n hC dX7_worthOf_41 rfl ?_
        refine A_aload_n hC dX7_worthOf_42 rfl ?_
        refine A_iload_n hC dX7_worthOf_43 rfl ?_
        refine A_iload_n hC dX7_worthOf_44 rfl ?_
        refine A_callVi (As := [.ref (g.1 + 43), .int a1, .int x1]) (st := []) hC (fun l => mX7_bestIf l g hL a1 x1 D2) (lX_50 hL) rfl (Nat.le_of_ble_eq_true rfl) yc_X7_69 rfl rfl ⟨by decide, by decide⟩ (Nat.le_of_ble_eq_true rfl) rfl dX7_worthOf_45 (fun x3 D3 => ?_)
        refine A_aload_n hC dX7_worthOf_48 rfl ?_
        refine A_aload_n hC dX7_worthOf_49 rfl ?_
        refine A_iload_n hC dX7_worthOf_50 rfl ?_
        refine A_iload hC dX7_worthOf_51 rfl ?_
        refine A_callVi (As := [.ref (g.1 + 43), .int a1, .int x2]) (st := [.int x3]) hC (fun l => mX7_bestIf l g hL a1 x2 D3) (lX_50 hL) rfl (Nat.le_of_ble_eq_true rfl) yc_X7_69 rfl rfl ⟨by decide, by decide⟩ (Nat.le_of_ble_eq_true rfl) rfl dX7_worthOf_53 (fun x4 D4 => ?_)
        refine A_isub hC dX7_worthOf_56 ?_
        refine A_mabs hC w_960 w_895 w_16 w_896 rfl (by decide) (Nat.le_of_ble_eq_true rfl) dX7_worthOf_57 ?_
        exact A_iret hC dX7_worthOf_60
      · refine A_iconst (v := 0) hC dX7_worthOf_33 (by decide) ?_
        exact A_iret hC dX7_worthOf_34
    · exact A_to (hj10 D) (trivial)
def fX10_weighEvidence (a1 : Int32) (a2 : Int32) (D : ADD) : Option (Unit × ADD) := aLet (D.1 43 0) (fun x1 => aLet (a1 * x1) (fun x2 => aBind (fX4_nearBy a1 D) (fun x3 D1 => aBind (fX3_ofNear a1 x3 D1) (fun x4 D2 => aLet x4.toInt64 (fun x5 => aLet (aMinL (1000000000 : Int64) (x5 * a2.toInt64)) (fun x6 => aIn (0 : Int32) 8 (aLet (aSI D2 57 (0 : Int32).toNatClampNeg x1) (fun D3 => aIn (1 : Int32) 8 (aLet (aSI D3 57 (1 : Int32).toNatClampNeg x3) (fun D4 => aLet (fun (x7 : Int32) (D5 : ADD) => aIn (2 : Int32) 8 (aLet (aSI D5 57 (2 : Int32).toNatClampNeg x7) (fun D6 => aNZl (1000 : Int64) (aIn (3 : Int32) 8 (aLet (aSI D6 57 (3 : Int32).toNatClampNeg (aMinL (9999 : Int64) (x5 / (1000 : Int64))).toInt32) (fun D7 => aNZl (1000 : Int64) (aIn (4 : Int32) 8 (aLet (aSI D7 57 (4 : Int32).toNatClampNeg (aMinL (9999 : Int64) (x6 / (1000 : Int64))).toInt32) (fun D8 => aBind (fX7_placeOf a1 D8) (fun x8 D9 => aIn (5 : Int32) 8 (aLet (aSI D9 57 (5 : Int32).toNatClampNeg x8) (fun D10 => aBind (fX4_townsNear a1 D10) (fun x9 D11 => aIn (6 : Int32) 8 (aLet (aSI D11 57 (6 : Int32).toNatClampNeg x9) (fun D12 => aBind (fX4_marksNear a1 D12) (fun x10 D13 => aIn (7 : Int32) 8 (aLet (aSI D13 57 (7 : Int32).toNatClampNeg x10) (fun D14 => some ((), D14))))))))))))))))))) (fun (j97 : Int32 → ADD → Option (Unit × ADD)) => (if x2 = 0 then j97 (0 : Int32) D4 else aBind (fX4_scoreBy a1 D4) (fun x11 D15 => aNZ x2 (j97 ((x11 * (1000 : Int32)) / x2) D15))))))))))))))
set_option maxHeartbeats 4000000 in
set_option maxRecDepth 100000 in
theorem mX10_weighEvidence (l : Launch) (g : AGl) (hL : aLX g) (a1 : Int32) (a2 : Int32) (D : ADD) : AM aVv l yX10_weighEvidence cX10_weighEvidence 10 none 5 g [.ref (g.1 + 0), .int a1, .int a2] D (fX10_weighEvidence a1 a2 D) := by
  refine AM_of (lv0 := [some (.ref (g.1 + 0)), some (.int a1), some (.int a2), none, none, none, none, none, none, none]) (own := RX10) (by decide +kernel) rfl (Nat.le_of_ble_eq_true rfl) rfl (fun b hC => ?_)
  unfold fX10_weighEvidence
  refine A_aload_n hC dX10_weighEvidence_0 rfl ?_
  refine A_getr (kf := 3) hC kX10 (lX_0 hL) rfl (by decide) (by decide) rfl rfl w_308 dX10_weighEvidence_1 ?_
  refine A_geti (kf := 0) hC kX4 (lX_43 hL) rfl (by decide) (by decide) rfl w_240 dX10_weighEvidence_4 ?_
  refine A_topi (fun x1 => ?_)
  refine A_istore_n (lv2 := [some (.ref (g.1 + 0)), some (.int a1), some (.int a2), some (.int x1), none, none, none, none, none, none]) hC dX10_weighEvidence_7 (Nat.le_of_ble_eq_true rfl) rfl rfl ?_
  refine A_iload_n hC dX10_weighEvidence_8 rfl ?_
  refine A_iload_n hC dX10_weighEvidence_9 rfl ?_
  refine A_imul hC dX10_weighEvidence_10 ?_
  refine A_topi (fun x2 => ?_)
  refine A_istore (lv2 := [some (.ref (g.1 + 0)), some (.int a1), some (.int a2), some (.int x1), some (.int x2), none, none, none, none, none]) hC dX10_weighEvidence_11 (Nat.le_of_ble_eq_true rfl) rfl rfl ?_
  refine A_aload_n hC dX10_weighEvidence_13 rfl ?_
  refine A_getr (kf := 3) hC kX10 (lX_0 hL) rfl (by decide) (by decide) rfl rfl w_308 dX10_weighEvidence_14 ?_
  refine A_iload_n hC dX10_weighEvidence_17 rfl ?_
  refine A_callVi (As := [.int a1]) (st := []) hC (fun l => mX4_nearBy l g hL a1 D) (lX_43 hL) rfl (Nat.le_of_ble_eq_true rfl) yc_X10_206 rfl rfl ⟨by decide, by decide⟩ (Nat.le_of_ble_eq_true rfl) rfl dX10_weighEvidence_18 (fun x3 D1 => ?_)
  refine A_istore (lv2 := [some (.ref (g.1 + 0)), some (.int a1), some (.int a2), some (.int x1), some (.int x2), some (.int x3), none, none, none, none]) hC dX10_weighEvidence_21 (Nat.le_of_ble_eq_true rfl) rfl rfl ?_
  refine A_aload_n hC dX10_weighEvidence_23 rfl ?_
  refine A_getr (kf := 5) hC kX10 (lX_0 hL) rfl (by decide) (by decide) rfl rfl w_310 dX10_weighEvidence_24 ?_
  refine A_aload_n hC dX10_weighEvidence_27 rfl ?_
  refine A_getr (kf := 3) hC kX10 (lX_0 hL) rfl (by decide) (by decide) rfl rfl w_308 dX10_weighEvidence_28 ?_
  refine A_iload_n hC dX10_weighEvidence_31 rfl ?_
  refine A_iload hC dX10_weighEvidence_32 rfl ?_
  refine A_callVi (As := [.ref (g.1 + 43), .int a1, .int x3]) (st := []) hC (fun l => mX3_ofNear l g hL a1 x3 D1) (lX_55 hL) rfl (Nat.le_of_ble_eq_true rfl) yc_X10_209 rfl rfl ⟨by decide, by decide⟩ (Nat.le_of_ble_eq_true rfl) rfl dX10_weighEvidence_34 (fun x4 D2 => ?_)
  refine A_i2l hC dX10_weighEvidence_37 ?_
  refine A_topl (fun x5 => ?_)
  refine A_lstore (lv2 := [some (.ref (g.1 + 0)), some (.int a1), some (.int a2), some (.int x1), some (.int x2), some (.int x3), some (.long x5), none, none, none]) hC dX10_weighEvidence_38 (Nat.le_of_ble_eq_true rfl) rfl rfl ?_
  refine A_ldc2 hC dX10_weighEvidence_40 w_825 ?_
  refine A_lload hC dX10_weighEvidence_43 rfl ?_
  refine A_iload_n hC dX10_weighEvidence_45 rfl ?_
  refine A_i2l hC dX10_weighEvidence_46 ?_
  refine A_lmul hC dX10_weighEvidence_47 ?_
  refine A_mminl hC w_826 w_827 w_16 w_828 rfl (by decide) (Nat.le_of_ble_eq_true rfl) dX10_weighEvidence_48 ?_
  refine A_topl (fun x6 => ?_)
  refine A_lstore (lv2 := [some (.ref (g.1 + 0)), some (.int a1), some (.int a2), some (.int x1), some (.int x2), some (.int x3), some (.long x5), none, some (.long x6), none]) hC dX10_weighEvidence_51 (Nat.le_of_ble_eq_true rfl) rfl rfl ?_
  refine A_aload_n hC dX10_weighEvidence_53 rfl ?_
  refine A_getr (kf := 6) hC kX10 (lX_0 hL) rfl (by decide) (by decide) rfl rfl w_311 dX10_weighEvidence_54 ?_
  refine A_iconst (v := 0) hC dX10_weighEvidence_57 (by decide) ?_
  refine A_iload_n hC dX10_weighEvidence_58 rfl ?_
  refine A_iast hC (lX_57 hL) dX10_weighEvidence_59 (fun D3 => ?_)
  refine A_aload_n hC dX10_weighEvidence_60 rfl ?_
  refine A_getr (kf := 6) hC kX10 (lX_0 hL) rfl (by decide) (by decide) rfl rfl w_311 dX10_weighEvidence_61 ?_
  refine A_iconst (v := 1) hC dX10_weighEvidence_64 (by decide) ?_
  refine A_iload hC dX10_weighEvidence_65 rfl ?_
  refine A_iast hC (lX_57 hL) dX10_weighEvidence_67 (fun D4 => ?_)
  refine A_aload_n hC dX10_weighEvidence_68 rfl ?_
  refine A_getr (kf := 6) hC kX10 (lX_0 hL) rfl (by decide) (by decide) rfl rfl w_311 dX10_weighEvidence_69 ?_
  refine A_iconst (v := 2) hC dX10_weighEvidence_72 (by decide) ?_
  refine A_iload hC dX10_weighEvidence_73 rfl ?_
  refine A_join (fun (J : Int32 → ADD → Option (Unit × ADD)) => ∀ (x7 : Int32) (D5 : ADD), AT aVv g b 97 [some (.ref (g.1 + 0)), some (.int a1), none, none, none, none, some (.long x5), none, some (.long x6), none] [.int x7, .int (2 : Int32), .ref (g.1 + 57)] D5 (J x7 D5)) (fun x7 D5 => ?_) (fun j97 hj97 => ?_)
  · refine A_iast hC (lX_57 hL) dX10_weighEvidence_97 (fun D6 => ?_)
    refine A_aload_n hC dX10_weighEvidence_98 rfl ?_
    refine A_getr (kf := 6) hC kX10 (lX_0 hL) rfl (by decide) (by decide) rfl rfl w_311 dX10_weighEvidence_99 ?_
    refine A_iconst (v := 3) hC dX10_weighEvidence_102 (by decide) ?_
    refine A_ldc2 hC dX10_weighEvidence_103 w_829 ?_
    refine A_lload hC dX10_weighEvidence_106 rfl ?_
    refine A_ldc2 hC dX10_weighEvidence_108 w_830 ?_
    refine A_ldiv hC dX10_weighEvidence_111 ?_
    refine A_mminl hC w_826 w_827 w_16 w_828 rfl (by decide) (Nat.le_of_ble_eq_true rfl) dX10_weighEvidence_112 ?_
    refine A_l2i hC dX10_weighEvidence_115 ?_
    refine A_iast hC (lX_57 hL) dX10_weighEvidence_116 (fun D7 => ?_)
    refine A_aload_n hC dX10_weighEvidence_117 rfl ?_
    refine A_getr (kf := 6) hC kX10 (lX_0 hL) rfl (by decide) (by decide) rfl rfl w_311 dX10_weighEvidence_118 ?_
    refine A_iconst (v := 4) hC dX10_weighEvidence_121 (by decide) ?_
    refine A_ldc2 hC dX10_weighEvidence_122 w_829 ?_
    refine A_lload hC dX10_weighEvidence_125 rfl ?_
    refine A_ldc2 hC dX10_weighEvidence_127 w_830 ?_
    refine A_ldiv hC dX10_weighEvidence_130 ?_
    refine A_mminl hC w_826 w_827 w_16 w_828 rfl (by decide) (Nat.le_of_ble_eq_true rfl) dX10_weighEvidence_131 ?_
    refine A_l2i hC dX10_weighEvidence_134 ?_
    refine A_iast hC (lX_57 hL) dX10_weighEvidence_135 (fun D8 => ?_)
    refine A_aload_n hC dX10_weighEvidence_136 rfl ?_
    refine A_getr (kf := 6) hC kX10 (lX_0 hL) rfl (by decide) (by decide) rfl rfl w_311 dX10_weighEvidence_137 ?_
    refine A_iconst (v := 5) hC dX10_weighEvidence_140 (by decide) ?_
    refine A_aload_n hC dX10_weighEvidence_141 rfl ?_
    refine A_getr (kf := 4) hC kX10 (lX_0 hL) rfl (by decide) (by decide) rfl rfl w_309 dX10_weighEvidence_142 ?_
    refine A_iload_n hC dX10_weighEvidence_145 rfl ?_
    refine A_callVi (As := [.int a1]) (st := [.int (5 : Int32), .ref (g.1 + 57)]) hC (fun l => mX7_placeOf l g hL a1 D8) (lX_50 hL) rfl (Nat.le_of_ble_eq_true rfl) yc_X10_301 rfl rfl ⟨by decide, by decide⟩ (Nat.le_of_ble_eq_true rfl) rfl dX10_weighEvidence_146 (fun x8 D9 => ?_)
    refine A_iast hC (lX_57 hL) dX10_weighEvidence_149 (fun D10 => ?_)
    refine A_aload_n hC dX10_weighEvidence_150 rfl ?_
    refine A_getr (kf := 6) hC kX10 (lX_0 hL) rfl (by decide) (by decide) rfl rfl w_311 dX10_weighEvidence_151 ?_
    refine A_bipush (v := 6) hC dX10_weighEvidence_154 (by decide) ?_
    refine A_aload_n hC dX10_weighEvidence_156 rfl ?_
    refine A_getr (kf := 3) hC kX10 (lX_0 hL) rfl (by decide) (by decide) rfl rfl w_308 dX10_weighEvidence_157 ?_
    refine A_iload_n hC dX10_weighEvidence_160 rfl ?_
    refine A_callVi (As := [.int a1]) (st := [.int (6 : Int32), .ref (g.1 + 57)]) hC (fun l => mX4_townsNear l g hL a1 D10) (lX_43 hL) rfl (Nat.le_of_ble_eq_true rfl) yc_X10_304 rfl rfl ⟨by decide, by decide⟩ (Nat.le_of_ble_eq_true rfl) rfl dX10_weighEvidence_161 (fun x9 D11 => ?_)
    refine A_iast hC (lX_57 hL) dX10_weighEvidence_164 (fun D12 => ?_)
    refine A_aload_n hC dX10_weighEvidence_165 rfl ?_
    refine A_getr (kf := 6) hC kX10 (lX_0 hL) rfl (by decide) (by decide) rfl rfl w_311 dX10_weighEvidence_166 ?_
    refine A_bipush (v := 7) hC dX10_weighEvidence_169 (by decide) ?_
    refine A_aload_n hC dX10_weighEvidence_171 rfl ?_
    refine A_getr (kf := 3) hC kX10 (lX_0 hL) rfl (by decide) (by decide) rfl rfl w_308 dX10_weighEvidence_172 ?_
    refine A_iload_n hC dX10_weighEvidence_175 rfl ?_
    refine A_callVi (As := [.int a1]) (st := [.int (7 : Int32), .ref (g.1 + 57)]) hC (fun l => mX4_marksNear l g hL a1 D12) (lX_43 hL) rfl (Nat.le_of_ble_eq_true rfl) yc_X10_307 rfl rfl ⟨by decide, by decide⟩ (Nat.le_of_ble_eq_true rfl) rfl dX10_weighEvidence_176 (fun x10 D13 => ?_)
    refine A_iast hC (lX_57 hL) dX10_weighEvidence_179 (fun D14 => ?_)
    exact A_vret hC dX10_weighEvidence_180
  refine A_if_ne (tgt := 82) hC dX10_weighEvidence_75 (by decide) ?_ ?_
  · refine A_aload_n hC dX10_weighEvidence_82 rfl ?_
    refine A_getr (kf := 3) hC kX10 (lX_0 hL) rfl (by decide) (by decide) rfl rfl w_308 dX10_weighEvidence_83 ?_
    refine A_iload_n hC dX10_weighEvidence_86 rfl ?_
    refine A_callVi (As := [.int a1]) (st := [.int (2 : Int32), .ref (g.1 + 57)]) hC (fun l => mX4_scoreBy l g hL a1 D4) (lX_43 hL) rfl (Nat.le_of_ble_eq_true rfl) yc_X10_178 rfl rfl ⟨by decide, by decide⟩ (Nat.le_of_ble_eq_true rfl) rfl dX10_weighEvidence_87 (fun x11 D15 => ?_)
    refine A_sipush (v := 1000) hC dX10_weighEvidence_90 (by decide) ?_
    refine A_imul hC dX10_weighEvidence_93 ?_
    refine A_iload hC dX10_weighEvidence_94 rfl ?_
    refine A_idiv hC dX10_weighEvidence_96 ?_
    exact A_to (hj97 ((x11 * (1000 : Int32)) / x2) D15) (And.intro rfl (And.intro rfl (And.intro rfl (And.intro rfl (trivial)))))
  · refine A_iconst (v := 0) hC dX10_weighEvidence_78 (by decide) ?_
    refine A_goto (tgt := 97) hC dX10_weighEvidence_79 (by decide) ?_
    exact A_to (hj97 (0 : Int32) D4) (And.intro rfl (And.intro rfl (And.intro rfl (And.intro rfl (trivial)))))
def lX11_bestOf_13 (a1 : Int32) (a2 : Int32) (j45 : Int32 → ADD → Option (Int32 × ADD)) (L13 : Int32 → Int32 → ADD → Option (Int32 × ADD)) (x3 : Int32) (x4 : Int32) (D3 : ADD) : Option (Int32 × ADD) := (if a2 < x4 then j45 x3 D3 else aBind (fX11_against a1 x4 x3 D3) (fun x5 D4 => aLet (fun (x6 : Int32) (D5 : ADD) => aLet (x4 + (1 : Int32)) (fun x7 => L13 x6 x7 D5)) (fun (j38 : Int32 → ADD → Option (Int32 × ADD)) => (if (aCmp x5 (0 : Int64)) < 0 then j38 x3 D4 else j38 x4 D4))))
def fX11_bestOf (a1 : Int32) (a2 : Int32) (D : ADD) : Option (Int32 × ADD) := aBind (fX11_findScores a1 a2 D) (fun _ D1 => aLet (a1 + (1 : Int32)) (fun x1 => aLet (fun (x2 : Int32) (D2 : ADD) => some (x2, D2)) (fun (j45 : Int32 → ADD → Option (Int32 × ADD)) => aLet (aFix aFuel (lX11_bestOf_13 a1 a2 j45) (fun _ _ _ => none)) (fun j13 => j13 a1 x1 D1))))
set_option maxHeartbeats 4000000 in
set_option maxRecDepth 100000 in
theorem mX11_bestOf (l : Launch) (g : AGl) (hL : aLM g) (a1 : Int32) (a2 : Int32) (D : ADD) : AM aVi l yX11_bestOf cX11_bestOf 5 (some .int) 5 g [.ref (g.1 + 0), .int a1, .int a2] D (fX11_bestOf a1 a2 D) := by
  refine AM_of (lv0 := [some (.ref (g.1 + 0)), some (.int a1), some (.int a2), none, none]) (own := RX11) (by decide +kernel) rfl (Nat.le_of_ble_eq_true rfl) rfl (fun b hC => ?_)
  unfold fX11_bestOf
  refine A_aload_n hC dX11_bestOf_0 rfl ?_
  refine A_iload_n hC dX11_bestOf_1 rfl ?_
  refine A_iload_n hC dX11_bestOf_2 rfl ?_
  refine A_callVv (As := [.int a1, .int a2]) (st := []) hC (fun l => mX11_findScores l g hL a1 a2 D) (lM_0 hL) rfl (Nat.le_of_ble_eq_true rfl) yc_X11_333 rfl rfl ⟨by decide, by decide⟩ (Nat.le_of_ble_eq_true rfl) rfl dX11_bestOf_3 (fun _ D1 => ?_)
  refine A_iload_n hC dX11_bestOf_6 rfl ?_
  refine A_istore_n (lv2 := [some (.ref (g.1 + 0)), some (.int a1), some (.int a2), some (.int a1), none]) hC dX11_bestOf_7 (Nat.le_of_ble_eq_true rfl) rfl rfl ?_
  refine A_iload_n hC dX11_bestOf_8 rfl ?_
  refine A_iconst (v := 1) hC dX11_bestOf_9 (by decide) ?_
  refine A_iadd hC dX11_bestOf_10 ?_
  refine A_topi (fun x1 => ?_)
  refine A_istore (lv2 := [some (.ref (g.1 + 0)), some (.int a1), some (.int a2), some (.int a1), some (.int x1)]) hC dX11_bestOf_11 (Nat.le_of_ble_eq_true rfl) rfl rfl ?_
  refine A_join (fun (J : Int32 → ADD → Option (Int32 × ADD)) => ∀ (x2 : Int32) (D2 : ADD), AT aVi g b 45 [none, none, none, some (.int x2), none] [] D2 (J x2 D2)) (fun x2 D2 => ?_) (fun j45 hj45 => ?_)
  · refine A_iload_n hC dX11_bestOf_45 rfl ?_
    exact A_iret hC dX11_bestOf_46
  refine A_join (fun (J : Int32 → Int32 → ADD → Option (Int32 × ADD)) => ∀ (x3 : Int32) (x4 : Int32) (D3 : ADD), AT aVi g b 13 [some (.ref (g.1 + 0)), some (.int a1), some (.int a2), some (.int x3), some (.int x4)] [] D3 (J x3 x4 D3)) (aFix_all (fun (J : Int32 → Int32 → ADD → Option (Int32 × ADD)) => ∀ (x3 : Int32) (x4 : Int32) (D3 : ADD), AT aVi g b 13 [some (.ref (g.1 + 0)), some (.int a1), some (.int a2), some (.int x3), some (.int x4)] [] D3 (J x3 x4 D3)) (fun _ _ _ => A_none) (fun L13 hL13 x3 x4 D3 => ?_) _) (fun j13 hj13 => ?_)
  · unfold lX11_bestOf_13
    refine A_iload hC dX11_bestOf_13 rfl ?_
    refine A_iload_n hC dX11_bestOf_15 rfl ?_
    refine A_icmp_gt (tgt := 45) hC dX11_bestOf_16 (by decide) ?_ ?_
    · exact A_to (hj45 x3 D3) (And.intro rfl (trivial))
    · refine A_aload_n hC dX11_bestOf_19 rfl ?_
      refine A_iload_n hC dX11_bestOf_20 rfl ?_
      refine A_iload hC dX11_bestOf_21 rfl ?_
      refine A_iload_n hC dX11_bestOf_23 rfl ?_
      refine A_callVl (As := [.int a1, .int x4, .int x3]) (st := []) hC (fun l => mX11_against l g hL a1 x4 x3 D3) (lM_0 hL) rfl (Nat.le_of_ble_eq_true rfl) yc_X11_336 rfl rfl ⟨by decide, by decide⟩ (Nat.le_of_ble_eq_true rfl) rfl dX11_bestOf_24 (fun x5 D4 => ?_)
      refine A_lconst (v := 0) hC dX11_bestOf_27 (by decide) ?_
      refine A_lcmp hC dX11_bestOf_28 ?_
      refine A_join (fun (J : Int32 → ADD → Option (Int32 × ADD)) => ∀ (x6 : Int32) (D5 : ADD), AT aVi g b 38 [some (.ref (g.1 + 0)), some (.int a1), some (.int a2), none, some (.int x4)] [.int x6] D5 (J x6 D5)) (fun x6 D5 => ?_) (fun j38 hj38 => ?_)
      · refine A_istore_n (lv2 := [some (.ref (g.1 + 0)), some (.int a1), some (.int a2), some (.int x6), some (.int x4)]) hC dX11_bestOf_38 (Nat.le_of_ble_eq_true rfl) rfl rfl ?_
        refine A_iincL (z := (1 : Int32)) (lv2 := fun x7 => [some (.ref (g.1 + 0)), some (.int a1), some (.int a2), some (.int x6), some (.int x7)]) hC dX11_bestOf_39 rfl (by decide) (Nat.le_of_ble_eq_true rfl) rfl (fun _ => rfl) (fun x7 => ?_)
        refine A_goto (tgt := 13) hC dX11_bestOf_42 (by decide) ?_
        exact A_to (hL13 x6 x7 D5) (And.intro rfl (And.intro rfl (And.intro rfl (And.intro rfl (And.intro rfl (trivial))))))
      refine A_if_lt (tgt := 37) hC dX11_bestOf_29 (by decide) ?_ ?_
      · refine A_iload_n hC dX11_bestOf_37 rfl ?_
        exact A_to (hj38 x3 D4) (And.intro rfl (And.intro rfl (And.intro rfl (And.intro rfl (trivial)))))
      · refine A_iload hC dX11_bestOf_32 rfl ?_
        refine A_goto (tgt := 38) hC dX11_bestOf_34 (by decide) ?_
        exact A_to (hj38 x4 D4) (And.intro rfl (And.intro rfl (And.intro rfl (And.intro rfl (trivial)))))
  exact A_to (hj13 a1 x1 D1) (And.intro rfl (And.intro rfl (And.intro rfl (And.intro rfl (And.intro rfl (trivial))))))
def fX11_chance (a1 : Int32) (D : ADD) : Option (Int32 × ADD) := aLet (aSI D 0 0 (0 : Int32)) (fun D1 => aBind (fX11_isUnit a1 D1) (fun x1 D2 => (if x1 = 0 then some ((-1 : Int32), D2) else aBind (fX11_look D2) (fun _ D3 => aBind (fX11_chanceOf a1 D3) (fun x2 D4 => some (x2.toInt32, D4))))))
set_option maxHeartbeats 4000000 in
set_option maxRecDepth 100000 in
theorem mX11_chance (l : Launch) (g : AGl) (hL : aLM g) (a1 : Int32) (D : ADD) : AM aVi l yX11_chance cX11_chance 2 (some .int) 5 g [.ref (g.1 + 0), .int a1] D (fX11_chance a1 D) := by
  refine AM_of (lv0 := [some (.ref (g.1 + 0)), some (.int a1)]) (own := RX11) (by decide +kernel) rfl (Nat.le_of_ble_eq_true rfl) rfl (fun b hC => ?_)
  unfold fX11_chance
  refine A_aload_n hC dX11_chance_0 rfl ?_
  refine A_iconst (v := 0) hC dX11_chance_1 (by decide) ?_
  refine A_puti (kf := 0) hC kX11 (lM_0 hL) rfl (by decide) (by decide) rfl rfl rfl w_1003 dX11_chance_2 (fun D1 => ?_)
  refine A_iload_n hC dX11_chance_5 rfl ?_
  refine A_callSi (As := [.int a1]) (st := []) hC (fun l => mX11_isUnit l g a1 D1) yc_X11_314 rfl rfl ⟨by decide, by decide⟩ (Nat.le_of_ble_eq_true rfl) rfl dX11_chance_6 (fun x1 D2 => ?_)
  refine A_if_ne (tgt := 14) hC dX11_chance_9 (by decide) ?_ ?_
  · refine A_aload_n hC dX11_chance_14 rfl ?_
    refine A_callVv (As := []) (st := []) hC (fun l => mX11_look l g hL D2) (lM_0 hL) rfl (Nat.le_of_ble_eq_true rfl) yc_X11_311 rfl rfl ⟨by decide, by decide⟩ (Nat.le_of_ble_eq_true rfl) rfl dX11_chance_15 (fun _ D3 => ?_)
    refine A_aload_n hC dX11_chance_18 rfl ?_
    refine A_iload_n hC dX11_chance_19 rfl ?_
    refine A_callVl (As := [.int a1]) (st := []) hC (fun l => mX11_chanceOf l g hL a1 D3) (lM_0 hL) rfl (Nat.le_of_ble_eq_true rfl) yc_X11_380 rfl rfl ⟨by decide, by decide⟩ (Nat.le_of_ble_eq_true rfl) rfl dX11_chance_20 (fun x2 D4 => ?_)
    refine A_l2i hC dX11_chance_23 ?_
    exact A_iret hC dX11_chance_24
  · refine A_iconst (v := -1) hC dX11_chance_12 (by decide) ?_
    exact A_iret hC dX11_chance_13
