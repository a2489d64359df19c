def fX11_test (a1 : Int32) (a2 : Int32) (a3 : Int32) (D : ADD) : Option (Int32 × ADD) := aLet (fun (D1 : ADD) => aBind (fX11_isWord (7237492 : Int64) D1) (fun x1 D2 => aLet (fun (D3 : ADD) => aBind (fX11_testWord a1 D3) (fun x2 D4 => (if x2 = (-1 : Int32) then aBind (fX11_wrong D4) (fun x9 D18 => aZ x9 (some (x9, D18))) else aBind (fX11_next D4) (fun _ D5 => aLet (D5.1 0 27) (fun x3 => aLet (fun (D6 : ADD) => aBind (fX11_wrong D6) (fun x4 D7 => aZ x4 (some (x4, D7)))) (fun (j89 : ADD → Option (Int32 × ADD)) => (if (D5.1 0 26) = (4 : Int32) then aLet (fun (D8 : ADD) => aBind (fX11_next D8) (fun _ D9 => (if (D9.1 0 26) = (3 : Int32) then aLet (D9.1 0 27) (fun x5 => aBind (fX11_next D9) (fun _ D10 => aLet (fun (D11 : ADD) => some ((1 : Int32), D11)) (fun (j188 : ADD → Option (Int32 × ADD)) => (if (4 : Int32) ≤ a3 then j188 D10 else (if (16 : Int32) ≤ a2 then j188 D10 else aLet (((4 : Int32) * a2) + a3) (fun x6 => aLet (fun (x7 : Int32) (D12 : ADD) => aIn x6 64 (aLet (aSI D12 24 x6.toNatClampNeg x7) (fun D13 => aIn x6 64 (aLet (aSI D13 25 x6.toNatClampNeg x3) (fun D14 => aIn x6 64 (aLet (aSI D14 26 x6.toNatClampNeg x5) (fun D15 => aIn a2 17 (aLet (aSI D15 23 a2.toNatClampNeg (a3 + (1 : Int32))) (fun D16 => j188 D16))))))))) (fun (j160 : Int32 → ADD → Option (Int32 × ADD)) => (if x1 = 0 then j160 x2 D10 else j160 (x2 + (8 : Int32)) D10)))))))) else aBind (fX11_wrong D9) (fun x8 D17 => aZ x8 (some (x8, D17)))))) (fun (j94 : ADD → Option (Int32 × ADD)) => (if x3 = (60 : Int32) then j94 D5 else (if x3 = (62 : Int32) then j94 D5 else (if x3 = (61 : Int32) then j94 D5 else j89 D5)))) else j89 D5))))))) (fun (j32 : ADD → Option (Int32 × ADD)) => (if x1 = 0 then j32 D2 else aBind (fX11_next D2) (fun _ D19 => j32 D19))))) (fun (j14 : ADD → Option (Int32 × ADD)) => (if a3 = (4 : Int32) then aBind (fX11_later (3 : Int32) (D.1 0 25) D) (fun _ D20 => j14 D20) else j14 D))
set_option maxHeartbeats 4000000 in
set_option maxRecDepth 100000 in
theorem mX11_test (l : Launch) (g : AGl) (hL : aLM g) (a1 : Int32) (a2 : Int32) (a3 : Int32) (D : ADD) : AM aVi l yX11_test cX11_test 9 (some .boolean) 2 g [.ref (g.1 + 0), .int a1, .int a2, .int a3] D (fX11_test a1 a2 a3 D) := by
  refine AM_of (lv0 := [some (.ref (g.1 + 0)), some (.int a1), some (.int a2), some (.int a3), none, none, none, none, none]) (own := RX11) (by decide +kernel) rfl (Nat.le_of_ble_eq_true rfl) rfl (fun b hC => ?_)
  unfold fX11_test
  refine A_iload_n hC dX11_test_0 rfl ?_
  refine A_iconst (v := 4) hC dX11_test_1 (by decide) ?_
  refine A_join (fun (J : ADD → Option (Int32 × ADD)) => ∀ (D1 : ADD), AT aVi g b 14 [some (.ref (g.1 + 0)), some (.int a1), some (.int a2), some (.int a3), none, none, none, none, none] [] D1 (J D1)) (fun D1 => ?_) (fun j14 hj14 => ?_)
  · refine A_aload_n hC dX11_test_14 rfl ?_
    refine A_ldc2 hC dX11_test_15 w_1246 ?_
    refine A_callVi (As := [.long (7237492 : Int64)]) (st := []) hC (fun l => mX11_isWord l g hL (7237492 : Int64) D1) (lM_0 hL) rfl (Nat.le_of_ble_eq_true rfl) yc_X11_209 rfl rfl ⟨by decide, by decide⟩ (Nat.le_of_ble_eq_true rfl) rfl dX11_test_18 (fun x1 D2 => ?_)
    refine A_istore (lv2 := [some (.ref (g.1 + 0)), some (.int a1), some (.int a2), some (.int a3), some (.int x1), none, none, none, none]) hC dX11_test_21 (Nat.le_of_ble_eq_true rfl) rfl rfl ?_
    refine A_iload hC dX11_test_23 rfl ?_
    refine A_join (fun (J : ADD → Option (Int32 × ADD)) => ∀ (D3 : ADD), AT aVi g b 32 [some (.ref (g.1 + 0)), some (.int a1), some (.int a2), some (.int a3), some (.int x1), none, none, none, none] [] D3 (J D3)) (fun D3 => ?_) (fun j32 hj32 => ?_)
    · refine A_aload_n hC dX11_test_32 rfl ?_
      refine A_iload_n hC dX11_test_33 rfl ?_
      refine A_callVi (As := [.int a1]) (st := []) hC (fun l => mX11_testWord l g hL a1 D3) (lM_0 hL) rfl (Nat.le_of_ble_eq_true rfl) yc_X11_261 rfl rfl ⟨by decide, by decide⟩ (Nat.le_of_ble_eq_true rfl) rfl dX11_test_34 (fun x2 D4 => ?_)
      refine A_istore (lv2 := [some (.ref (g.1 + 0)), some (.int a1), some (.int a2), some (.int a3), some (.int x1), some (.int x2), none, none, none]) hC dX11_test_37 (Nat.le_of_ble_eq_true rfl) rfl rfl ?_
      refine A_iload hC dX11_test_39 rfl ?_
      refine A_iconst (v := -1) hC dX11_test_41 (by decide) ?_
      refine A_icmp_ne (tgt := 50) hC dX11_test_42 (by decide) ?_ ?_
      · refine A_aload_n hC dX11_test_50 rfl ?_
        refine A_callVv (As := []) (st := []) hC (fun l => mX11_next l g hL D4) (lM_0 hL) rfl (Nat.le_of_ble_eq_true rfl) yc_X11_204 rfl rfl ⟨by decide, by decide⟩ (Nat.le_of_ble_eq_true rfl) rfl dX11_test_51 (fun _ D5 => ?_)
        refine A_aload_n hC dX11_test_54 rfl ?_
        refine A_geti (kf := 27) hC kX11 (lM_0 hL) rfl (by decide) (by decide) rfl w_1030 dX11_test_55 ?_
        refine A_topi (fun x3 => ?_)
        refine A_istore (lv2 := [some (.ref (g.1 + 0)), some (.int a1), some (.int a2), some (.int a3), some (.int x1), some (.int x2), some (.int x3), none, none]) hC dX11_test_58 (Nat.le_of_ble_eq_true rfl) rfl rfl ?_
        refine A_aload_n hC dX11_test_60 rfl ?_
        refine A_geti (kf := 26) hC kX11 (lM_0 hL) rfl (by decide) (by decide) rfl w_1029 dX11_test_61 ?_
        refine A_iconst (v := 4) hC dX11_test_64 (by decide) ?_
        refine A_join (fun (J : ADD → Option (Int32 × ADD)) => ∀ (D6 : ADD), AT aVi g b 89 [some (.ref (g.1 + 0)), none, none, none, none, none, none, none, none] [] D6 (J D6)) (fun D6 => ?_) (fun j89 hj89 => ?_)
        · refine A_aload_n hC dX11_test_89 rfl ?_
          refine A_callVi (As := []) (st := []) hC (fun l => mX11_wrong l g hL D6) (lM_0 hL) rfl (Nat.le_of_ble_eq_true rfl) yc_X11_200 rfl rfl ⟨by decide, by decide⟩ (Nat.le_of_ble_eq_true rfl) rfl dX11_test_90 (fun x4 D7 => ?_)
          exact A_zretc hC dX11_test_93
        refine A_icmp_ne (tgt := 89) hC dX11_test_65 (by decide) ?_ ?_
        · exact A_to (hj89 D5) (And.intro rfl (trivial))
        · refine A_iload hC dX11_test_68 rfl ?_
          refine A_bipush (v := 60) hC dX11_test_70 (by decide) ?_
          refine A_join (fun (J : ADD → Option (Int32 × ADD)) => ∀ (D8 : ADD), AT aVi g b 94 [some (.ref (g.1 + 0)), none, some (.int a2), some (.int a3), some (.int x1), some (.int x2), some (.int x3), none, none] [] D8 (J D8)) (fun D8 => ?_) (fun j94 hj94 => ?_)
          · refine A_aload_n hC dX11_test_94 rfl ?_
            refine A_callVv (As := []) (st := []) hC (fun l => mX11_next l g hL D8) (lM_0 hL) rfl (Nat.le_of_ble_eq_true rfl) yc_X11_204 rfl rfl ⟨by decide, by decide⟩ (Nat.le_of_ble_eq_true rfl) rfl dX11_test_95 (fun _ D9 => ?_)
            refine A_aload_n hC dX11_test_98 rfl ?_
            refine A_geti (kf := 26) hC kX11 (lM_0 hL) rfl (by decide) (by decide) rfl w_1029 dX11_test_99 ?_
            refine A_iconst (v := 3) hC dX11_test_102 (by decide) ?_
            refine A_icmp_eq (tgt := 111) hC dX11_test_103 (by decide) ?_ ?_
            · refine A_aload_n hC dX11_test_111 rfl ?_
              refine A_geti (kf := 27) hC kX11 (lM_0 hL) rfl (by decide) (by decide) rfl w_1030 dX11_test_112 ?_
              refine A_topi (fun x5 => ?_)
              refine A_istore (lv2 := [some (.ref (g.1 + 0)), none, some (.int a2), some (.int a3), some (.int x1), some (.int x2), some (.int x3), some (.int x5), none]) hC dX11_test_115 (Nat.le_of_ble_eq_true rfl) rfl rfl ?_
              refine A_aload_n hC dX11_test_117 rfl ?_
              refine A_callVv (As := []) (st := []) hC (fun l => mX11_next l g hL D9) (lM_0 hL) rfl (Nat.le_of_ble_eq_true rfl) yc_X11_204 rfl rfl ⟨by decide, by decide⟩ (Nat.le_of_ble_eq_true rfl) rfl dX11_test_118 (fun _ D10 => ?_)
              refine A_iload_n hC dX11_test_121 rfl ?_
              refine A_iconst (v := 4) hC dX11_test_122 (by decide) ?_
              refine A_join (fun (J : ADD → Option (Int32 × ADD)) => ∀ (D11 : ADD), AT aVi g b 188 [none, none, none, none, none, none, none, none, none] [] D11 (J D11)) (fun D11 => ?_) (fun j188 hj188 => ?_)
              · refine A_iconst (v := 1) hC dX11_test_188 (by decide) ?_
                exact A_zret hC dX11_test_189 (Or.inr rfl)
              refine A_icmp_ge (tgt := 188) hC dX11_test_123 (by decide) ?_ ?_
              · exact A_to (hj188 D10) (trivial)
              · refine A_iload_n hC dX11_test_126 rfl ?_
                refine A_bipush (v := 16) hC dX11_test_127 (by decide) ?_
                refine A_icmp_ge (tgt := 188) hC dX11_test_129 (by decide) ?_ ?_
                · exact A_to (hj188 D10) (trivial)
                · refine A_iconst (v := 4) hC dX11_test_132 (by decide) ?_
                  refine A_iload_n hC dX11_test_133 rfl ?_
                  refine A_imul hC dX11_test_134 ?_
                  refine A_iload_n hC dX11_test_135 rfl ?_
                  refine A_iadd hC dX11_test_136 ?_
                  refine A_topi (fun x6 => ?_)
                  refine A_istore (lv2 := [some (.ref (g.1 + 0)), none, some (.int a2), some (.int a3), some (.int x1), some (.int x2), some (.int x3), some (.int x5), some (.int x6)]) hC dX11_test_137 (Nat.le_of_ble_eq_true rfl) rfl rfl ?_
                  refine A_aload_n hC dX11_test_139 rfl ?_
                  refine A_getr (kf := 34) hC kX11 (lM_0 hL) rfl (by decide) (by decide) rfl rfl w_1037 dX11_test_140 ?_
                  refine A_iload hC dX11_test_143 rfl ?_
                  refine A_iload hC dX11_test_145 rfl ?_
                  refine A_join (fun (J : Int32 → ADD → Option (Int32 × ADD)) => ∀ (x7 : Int32) (D12 : ADD), AT aVi g b 160 [some (.ref (g.1 + 0)), none, some (.int a2), some (.int a3), none, none, some (.int x3), some (.int x5), some (.int x6)] [.int x7, .int x6, .ref (g.1 + 24)] D12 (J x7 D12)) (fun x7 D12 => ?_) (fun j160 hj160 => ?_)
                  · refine A_iast hC (lM_24 hL) dX11_test_160 (fun D13 => ?_)
                    refine A_aload_n hC dX11_test_161 rfl ?_
                    refine A_getr (kf := 35) hC kX11 (lM_0 hL) rfl (by decide) (by decide) rfl rfl w_1038 dX11_test_162 ?_
                    refine A_iload hC dX11_test_165 rfl ?_
                    refine A_iload hC dX11_test_167 rfl ?_
                    refine A_iast hC (lM_25 hL) dX11_test_169 (fun D14 => ?_)
                    refine A_aload_n hC dX11_test_170 rfl ?_
                    refine A_getr (kf := 36) hC kX11 (lM_0 hL) rfl (by decide) (by decide) rfl rfl w_1039 dX11_test_171 ?_
                    refine A_iload hC dX11_test_174 rfl ?_
                    refine A_iload hC dX11_test_176 rfl ?_
                    refine A_iast hC (lM_26 hL) dX11_test_178 (fun D15 => ?_)
                    refine A_aload_n hC dX11_test_179 rfl ?_
                    refine A_getr (kf := 33) hC kX11 (lM_0 hL) rfl (by decide) (by decide) rfl rfl w_1036 dX11_test_180 ?_
                    refine A_iload_n hC dX11_test_183 rfl ?_
                    refine A_iload_n hC dX11_test_184 rfl ?_
                    refine A_iconst (v := 1) hC dX11_test_185 (by decide) ?_
                    refine A_iadd hC dX11_test_186 ?_
                    refine A_iast hC (lM_23 hL) dX11_test_187 (fun D16 => ?_)
                    exact A_to (hj188 D16) (trivial)
                  refine A_if_eq (tgt := 158) hC dX11_test_147 (by decide) ?_ ?_
                  · refine A_iload hC dX11_test_158 rfl ?_
                    exact A_to (hj160 x2 D10) (And.intro rfl (And.intro rfl (And.intro rfl (And.intro rfl (And.intro rfl (And.intro rfl (trivial)))))))
                  · refine A_iload hC dX11_test_150 rfl ?_
                    refine A_bipush (v := 8) hC dX11_test_152 (by decide) ?_
                    refine A_iadd hC dX11_test_154 ?_
                    refine A_goto (tgt := 160) hC dX11_test_155 (by decide) ?_
                    exact A_to (hj160 (x2 + (8 : Int32)) D10) (And.intro rfl (And.intro rfl (And.intro rfl (And.intro rfl (And.intro rfl (And.intro rfl (trivial)))))))
            · refine A_aload_n hC dX11_test_106 rfl ?_
              refine A_callVi (As := []) (st := []) hC (fun l => mX11_wrong l g hL D9) (lM_0 hL) rfl (Nat.le_of_ble_eq_true rfl) yc_X11_200 rfl rfl ⟨by decide, by decide⟩ (Nat.le_of_ble_eq_true rfl) rfl dX11_test_107 (fun x8 D17 => ?_)
              exact A_zretc hC dX11_test_110
          refine A_icmp_eq (tgt := 94) hC dX11_test_72 (by decide) ?_ ?_
          · exact A_to (hj94 D5) (And.intro rfl (And.intro rfl (And.intro rfl (And.intro rfl (And.intro rfl (And.intro rfl (trivial)))))))
          · refine A_iload hC dX11_test_75 rfl ?_
            refine A_bipush (v := 62) hC dX11_test_77 (by decide) ?_
            refine A_icmp_eq (tgt := 94) hC dX11_test_79 (by decide) ?_ ?_
            · exact A_to (hj94 D5) (And.intro rfl (And.intro rfl (And.intro rfl (And.intro rfl (And.intro rfl (And.intro rfl (trivial)))))))
            · refine A_iload hC dX11_test_82 rfl ?_
              refine A_bipush (v := 61) hC dX11_test_84 (by decide) ?_
              refine A_icmp_eq (tgt := 94) hC dX11_test_86 (by decide) ?_ ?_
              · exact A_to (hj94 D5) (And.intro rfl (And.intro rfl (And.intro rfl (And.intro rfl (And.intro rfl (And.intro rfl (trivial)))))))
              · exact A_to (hj89 D5) (And.intro rfl (trivial))
      · refine A_aload_n hC dX11_test_45 rfl ?_
        refine A_callVi (As := []) (st := []) hC (fun l => mX11_wrong l g hL D4) (lM_0 hL) rfl (Nat.le_of_ble_eq_true rfl) yc_X11_200 rfl rfl ⟨by decide, by decide⟩ (Nat.le_of_ble_eq_true rfl) rfl dX11_test_46 (fun x9 D18 => ?_)
        exact A_zretc hC dX11_test_49
    refine A_if_eq (tgt := 32) hC dX11_test_25 (by decide) ?_ ?_
    · exact A_to (hj32 D2) (And.intro rfl (And.intro rfl (And.intro rfl (And.intro rfl (And.intro rfl (trivial))))))
    · refine A_aload_n hC dX11_test_28 rfl ?_
      refine A_callVv (As := []) (st := []) hC (fun l => mX11_next l g hL D2) (lM_0 hL) rfl (Nat.le_of_ble_eq_true rfl) yc_X11_204 rfl rfl ⟨by decide, by decide⟩ (Nat.le_of_ble_eq_true rfl) rfl dX11_test_29 (fun _ D19 => ?_)
      exact A_to (hj32 D19) (And.intro rfl (And.intro rfl (And.intro rfl (And.intro rfl (And.intro rfl (trivial))))))
  refine A_icmp_ne (tgt := 14) hC dX11_test_2 (by decide) ?_ ?_
  · exact A_to (hj14 D) (And.intro rfl (And.intro rfl (And.intro rfl (And.intro rfl (trivial)))))
  · refine A_aload_n hC dX11_test_5 rfl ?_
    refine A_iconst (v := 3) hC dX11_test_6 (by decide) ?_
    refine A_aload_n hC dX11_test_7 rfl ?_
    refine A_geti (kf := 25) hC kX11 (lM_0 hL) rfl (by decide) (by decide) rfl w_1028 dX11_test_8 ?_
    refine A_callVv (As := [.int (3 : Int32), .int (D.1 0 25)]) (st := []) hC (fun l => mX11_later l g hL (3 : Int32) (D.1 0 25) D) (lM_0 hL) rfl (Nat.le_of_ble_eq_true rfl) yc_X11_255 rfl rfl ⟨by decide, by decide⟩ (Nat.le_of_ble_eq_true rfl) rfl dX11_test_11 (fun _ D20 => ?_)
    exact A_to (hj14 D20) (And.intro rfl (And.intro rfl (And.intro rfl (And.intro rfl (trivial)))))
def lX3_ofShort_6 (a1 : Int32) (j29 : ADD → Option (Int32 × ADD)) (L6 : Int32 → ADD → Option (Int32 × ADD)) (x2 : Int32) (D4 : ADD) : Option (Int32 × ADD) := (if a1 ≤ x2 then j29 D4 else (if (32 : Int32) ≤ x2 then j29 D4 else aBind (fX3_draw (1 : Int32) (2 : Int32) D4) (fun _ D5 => aLet (x2 + (1 : Int32)) (fun x3 => L6 x3 D5))))
def fX3_ofShort (a1 : Int32) (a2 : Int32) (D : ADD) : Option (Int32 × ADD) := aBind (fX3_begin D) (fun _ D1 => aLet (fun (D2 : ADD) => aBind (fX3_from a2 D2) (fun x1 D3 => some (x1, D3))) (fun (j29 : ADD → Option (Int32 × ADD)) => aLet (aFix aFuel (lX3_ofShort_6 a1 j29) (fun _ _ => none)) (fun j6 => j6 (0 : Int32) D1)))
set_option maxHeartbeats 4000000 in
set_option maxRecDepth 100000 in
theorem mX3_ofShort (l : Launch) (g : AGl) (hL : aLX g) (a1 : Int32) (a2 : Int32) (D : ADD) : AM aVi l yX3_ofShort cX3_ofShort 4 (some .int) 2 g [.ref (g.1 + 55), .int a1, .int a2] D (fX3_ofShort a1 a2 D) := by
  refine AM_of (lv0 := [some (.ref (g.1 + 55)), some (.int a1), some (.int a2), none]) (own := RX3) (by decide +kernel) rfl (Nat.le_of_ble_eq_true rfl) rfl (fun b hC => ?_)
  unfold fX3_ofShort
  refine A_aload_n hC dX3_ofShort_0 rfl ?_
  refine A_callVv (As := []) (st := []) hC (fun l => mX3_begin l g hL D) (lX_55 hL) rfl (Nat.le_of_ble_eq_true rfl) yc_X3_15 rfl rfl ⟨by decide, by decide⟩ (Nat.le_of_ble_eq_true rfl) rfl dX3_ofShort_1 (fun _ D1 => ?_)
  refine A_iconst (v := 0) hC dX3_ofShort_4 (by decide) ?_
  refine A_istore_n (lv2 := [some (.ref (g.1 + 55)), some (.int a1), some (.int a2), some (.int (0 : Int32))]) hC dX3_ofShort_5 (Nat.le_of_ble_eq_true rfl) rfl rfl ?_
  refine A_join (fun (J : ADD → Option (Int32 × ADD)) => ∀ (D2 : ADD), AT aVi g b 29 [some (.ref (g.1 + 55)), none, some (.int a2), none] [] D2 (J D2)) (fun D2 => ?_) (fun j29 hj29 => ?_)
  · refine A_aload_n hC dX3_ofShort_29 rfl ?_
    refine A_iload_n hC dX3_ofShort_30 rfl ?_
    refine A_callVi (As := [.int a2]) (st := []) hC (fun l => mX3_from l g hL a2 D2) (lX_55 hL) rfl (Nat.le_of_ble_eq_true rfl) yc_X3_32 rfl rfl ⟨by decide, by decide⟩ (Nat.le_of_ble_eq_true rfl) rfl dX3_ofShort_31 (fun x1 D3 => ?_)
    exact A_iret hC dX3_ofShort_34
  refine A_join (fun (J : Int32 → ADD → Option (Int32 × ADD)) => ∀ (x2 : Int32) (D4 : ADD), AT aVi g b 6 [some (.ref (g.1 + 55)), some (.int a1), some (.int a2), some (.int x2)] [] D4 (J x2 D4)) (aFix_all (fun (J : Int32 → ADD → Option (Int32 × ADD)) => ∀ (x2 : Int32) (D4 : ADD), AT aVi g b 6 [some (.ref (g.1 + 55)), some (.int a1), some (.int a2), some (.int x2)] [] D4 (J x2 D4)) (fun _ _ => A_none) (fun L6 hL6 x2 D4 => ?_) _) (fun j6 hj6 => ?_)
  · unfold lX3_ofShort_6
    refine A_iload_n hC dX3_ofShort_6 rfl ?_
    refine A_iload_n hC dX3_ofShort_7 rfl ?_
    refine A_icmp_ge (tgt := 29) hC dX3_ofShort_8 (by decide) ?_ ?_
    · exact A_to (hj29 D4) (And.intro rfl (And.intro rfl (trivial)))
    · refine A_iload_n hC dX3_ofShort_11 rfl ?_
      refine A_bipush (v := 32) hC dX3_ofShort_12 (by decide) ?_
      refine A_icmp_ge (tgt := 29) hC dX3_ofShort_14 (by decide) ?_ ?_
      · exact A_to (hj29 D4) (And.intro rfl (And.intro rfl (trivial)))
      · refine A_aload_n hC dX3_ofShort_17 rfl ?_
        refine A_iconst (v := 1) hC dX3_ofShort_18 (by decide) ?_
        refine A_iconst (v := 2) hC dX3_ofShort_19 (by decide) ?_
        refine A_callVv (As := [.int (1 : Int32), .int (2 : Int32)]) (st := []) hC (fun l => mX3_draw l g hL (1 : Int32) (2 : Int32) D4) (lX_55 hL) rfl (Nat.le_of_ble_eq_true rfl) yc_X3_28 rfl rfl ⟨by decide, by decide⟩ (Nat.le_of_ble_eq_true rfl) rfl dX3_ofShort_20 (fun _ D5 => ?_)
        refine A_iincL (z := (1 : Int32)) (lv2 := fun x3 => [some (.ref (g.1 + 55)), some (.int a1), some (.int a2), some (.int x3)]) hC dX3_ofShort_23 rfl (by decide) (Nat.le_of_ble_eq_true rfl) rfl (fun _ => rfl) (fun x3 => ?_)
        refine A_goto (tgt := 6) hC dX3_ofShort_26 (by decide) ?_
        exact A_to (hL6 x3 D5) (And.intro rfl (And.intro rfl (And.intro rfl (And.intro rfl (trivial)))))
  exact A_to (hj6 (0 : Int32) D1) (And.intro rfl (And.intro rfl (And.intro rfl (And.intro rfl (trivial)))))
def fX4_areTwins (a1 : Int32) (a2 : Int32) (a3 : Int32) (D : ADD) : Option (Int32 × ADD) := aBind (fX4_numberOf a1 D) (fun x1 D1 => aBind (fX4_numberOf a2 D1) (fun x2 D2 => aBind (fX0_known x1 (4 : Int32) D2) (fun x3 D3 => aBind (fX0_known x2 (4 : Int32) D3) (fun x4 D4 => aLet (fun (x5 : Int32) (D5 : ADD) => aZ x5 (some (x5, D5))) (fun (j95 : Int32 → ADD → Option (Int32 × ADD)) => aLet (fun (D6 : ADD) => j95 (0 : Int32) D6) (fun (j94 : ADD → Option (Int32 × ADD)) => (if x3 = x4 then aBind (fX0_known x1 (1 : Int32) D4) (fun x6 D7 => aBind (fX0_known x2 (1 : Int32) D7) (fun x7 D8 => (if x6 = x7 then aBind (fX0_known x1 (7 : Int32) D8) (fun x8 D9 => aBind (fX0_known x2 (7 : Int32) D9) (fun x9 D10 => (if x8 = x9 then aBind (fX0_known x1 (0 : Int32) D10) (fun x10 D11 => aBind (fX0_known x2 (0 : Int32) D11) (fun x11 D12 => (if a3 < (aAbs (x10 - x11)) then j94 D12 else j95 (1 : Int32) D12))) else j94 D10))) else j94 D8))) else j94 D4)))))))
set_option maxHeartbeats 4000000 in
set_option maxRecDepth 100000 in
theorem mX4_areTwins (l : Launch) (g : AGl) (hL : aLX g) (a1 : Int32) (a2 : Int32) (a3 : Int32) (D : ADD) : AM aVi l yX4_areTwins cX4_areTwins 7 (some .boolean) 2 g [.ref (g.1 + 43), .ref (g.1 + 2), .int a1, .int a2, .int a3] D (fX4_areTwins a1 a2 a3 D) := by
  refine AM_of (lv0 := [some (.ref (g.1 + 43)), some (.ref (g.1 + 2)), some (.int a1), some (.int a2), some (.int a3), none, none]) (own := RX4) (by decide +kernel) rfl (Nat.le_of_ble_eq_true rfl) rfl (fun b hC => ?_)
  unfold fX4_areTwins
  refine A_aload_n hC dX4_areTwins_0 rfl ?_
  refine A_iload_n hC dX4_areTwins_1 rfl ?_
  refine A_callVi (As := [.int a1]) (st := []) hC (fun l => mX4_numberOf l g hL a1 D) (lX_43 hL) rfl (Nat.le_of_ble_eq_true rfl) yc_X4_57 rfl rfl ⟨by decide, by decide⟩ (Nat.le_of_ble_eq_true rfl) rfl dX4_areTwins_2 (fun x1 D1 => ?_)
  refine A_istore (lv2 := [some (.ref (g.1 + 43)), some (.ref (g.1 + 2)), some (.int a1), some (.int a2), some (.int a3), some (.int x1), none]) hC dX4_areTwins_5 (Nat.le_of_ble_eq_true rfl) rfl rfl ?_
  refine A_aload_n hC dX4_areTwins_7 rfl ?_
  refine A_iload_n hC dX4_areTwins_8 rfl ?_
  refine A_callVi (As := [.int a2]) (st := []) hC (fun l => mX4_numberOf l g hL a2 D1) (lX_43 hL) rfl (Nat.le_of_ble_eq_true rfl) yc_X4_57 rfl rfl ⟨by decide, by decide⟩ (Nat.le_of_ble_eq_true rfl) rfl dX4_areTwins_9 (fun x2 D2 => ?_)
  refine A_istore (lv2 := [some (.ref (g.1 + 43)), some (.ref (g.1 + 2)), some (.int a1), some (.int a2), some (.int a3), some (.int x1), some (.int x2)]) hC dX4_areTwins_12 (Nat.le_of_ble_eq_true rfl) rfl rfl ?_
  refine A_aload_n hC dX4_areTwins_14 rfl ?_
  refine A_iload hC dX4_areTwins_15 rfl ?_
  refine A_iconst (v := 4) hC dX4_areTwins_17 (by decide) ?_
  refine A_callVi (As := [.int x1, .int (4 : Int32)]) (st := []) hC (fun l => mX0_known l g hL x1 (4 : Int32) D2) (lX_2 hL) rfl (Nat.le_of_ble_eq_true rfl) yc_X4_123 rfl rfl ⟨by decide, by decide⟩ (Nat.le_of_ble_eq_true rfl) rfl dX4_areTwins_18 (fun x3 D3 => ?_)
  refine A_aload_n hC dX4_areTwins_21 rfl ?_
  refine A_iload hC dX4_areTwins_22 rfl ?_
  refine A_iconst (v := 4) hC dX4_areTwins_24 (by decide) ?_
  refine A_callVi (As := [.int x2, .int (4 : Int32)]) (st := [.int x3]) hC (fun l => mX0_known l g hL x2 (4 : Int32) D3) (lX_2 hL) rfl (Nat.le_of_ble_eq_true rfl) yc_X4_123 rfl rfl ⟨by decide, by decide⟩ (Nat.le_of_ble_eq_true rfl) rfl dX4_areTwins_25 (fun x4 D4 => ?_)
  refine A_join (fun (J : Int32 → ADD → Option (Int32 × ADD)) => ∀ (x5 : Int32) (D5 : ADD), AT aVi g b 95 [none, none, none, none, none, none, none] [.int x5] D5 (J x5 D5)) (fun x5 D5 => ?_) (fun j95 hj95 => ?_)
  · exact A_zretc hC dX4_areTwins_95
  refine A_join (fun (J : ADD → Option (Int32 × ADD)) => ∀ (D6 : ADD), AT aVi g b 94 [none, none, none, none, none, none, none] [] D6 (J D6)) (fun D6 => ?_) (fun j94 hj94 => ?_)
  · refine A_iconst (v := 0) hC dX4_areTwins_94 (by decide) ?_
    exact A_to (hj95 (0 : Int32) D6) (trivial)
  refine A_icmp_ne (tgt := 94) hC dX4_areTwins_28 (by decide) ?_ ?_
  · exact A_to (hj94 D4) (trivial)
  · refine A_aload_n hC dX4_areTwins_31 rfl ?_
    refine A_iload hC dX4_areTwins_32 rfl ?_
    refine A_iconst (v := 1) hC dX4_areTwins_34 (by decide) ?_
    refine A_callVi (As := [.int x1, .int (1 : Int32)]) (st := []) hC (fun l => mX0_known l g hL x1 (1 : Int32) D4) (lX_2 hL) rfl (Nat.le_of_ble_eq_true rfl) yc_X4_123 rfl rfl ⟨by decide, by decide⟩ (Nat.le_of_ble_eq_true rfl) rfl dX4_areTwins_35 (fun x6 D7 => ?_)
    refine A_aload_n hC dX4_areTwins_38 rfl ?_
    refine A_iload hC dX4_areTwins_39 rfl ?_
    refine A_iconst (v := 1) hC dX4_areTwins_41 (by decide) ?_
    refine A_callVi (As := [.int x2, .int (1 : Int32)]) (st := [.int x6]) hC (fun l => mX0_known l g hL x2 (1 : Int32) D7) (lX_2 hL) rfl (Nat.le_of_ble_eq_true rfl) yc_X4_123 rfl rfl ⟨by decide, by decide⟩ (Nat.le_of_ble_eq_true rfl) rfl dX4_areTwins_42 (fun x7 D8 => ?_)
    refine A_icmp_ne (tgt := 94) hC dX4_areTwins_45 (by decide) ?_ ?_
    · exact A_to (hj94 D8) (trivial)
    · refine A_aload_n hC dX4_areTwins_48 rfl ?_
      refine A_iload hC dX4_areTwins_49 rfl ?_
      refine A_bipush (v := 7) hC dX4_areTwins_51 (by decide) ?_
      refine A_callVi (As := [.int x1, .int (7 : Int32)]) (st := []) hC (fun l => mX0_known l g hL x1 (7 : Int32) D8) (lX_2 hL) rfl (Nat.le_of_ble_eq_true rfl) yc_X4_123 rfl rfl ⟨by decide, by decide⟩ (Nat.le_of_ble_eq_true rfl) rfl dX4_areTwins_53 (fun x8 D9 => ?_)
      refine A_aload_n hC dX4_areTwins_56 rfl ?_
      refine A_iload hC dX4_areTwins_57 rfl ?_
      refine A_bipush (v := 7) hC dX4_areTwins_59 (by decide) ?_
      refine A_callVi (As := [.int x2, .int (7 : Int32)]) (st := [.int x8]) hC (fun l => mX0_known l g hL x2 (7 : Int32) D9) (lX_2 hL) rfl (Nat.le_of_ble_eq_true rfl) yc_X4_123 rfl rfl ⟨by decide, by decide⟩ (Nat.le_of_ble_eq_true rfl) rfl dX4_areTwins_61 (fun x9 D10 => ?_)
      refine A_icmp_ne (tgt := 94) hC dX4_areTwins_64 (by decide) ?_ ?_
      · exact A_to (hj94 D10) (trivial)
      · refine A_aload_n hC dX4_areTwins_67 rfl ?_
        refine A_iload hC dX4_areTwins_68 rfl ?_
        refine A_iconst (v := 0) hC dX4_areTwins_70 (by decide) ?_
        refine A_callVi (As := [.int x1, .int (0 : Int32)]) (st := []) hC (fun l => mX0_known l g hL x1 (0 : Int32) D10) (lX_2 hL) rfl (Nat.le_of_ble_eq_true rfl) yc_X4_123 rfl rfl ⟨by decide, by decide⟩ (Nat.le_of_ble_eq_true rfl) rfl dX4_areTwins_71 (fun x10 D11 => ?_)
        refine A_aload_n hC dX4_areTwins_74 rfl ?_
        refine A_iload hC dX4_areTwins_75 rfl ?_
        refine A_iconst (v := 0) hC dX4_areTwins_77 (by decide) ?_
        refine A_callVi (As := [.int x2, .int (0 : Int32)]) (st := [.int x10]) hC (fun l => mX0_known l g hL x2 (0 : Int32) D11) (lX_2 hL) rfl (Nat.le_of_ble_eq_true rfl) yc_X4_123 rfl rfl ⟨by decide, by decide⟩ (Nat.le_of_ble_eq_true rfl) rfl dX4_areTwins_78 (fun x11 D12 => ?_)
        refine A_isub hC dX4_areTwins_81 ?_
        refine A_mabs hC w_939 w_895 w_16 w_896 rfl (by decide) (Nat.le_of_ble_eq_true rfl) dX4_areTwins_82 ?_
        refine A_iload hC dX4_areTwins_85 rfl ?_
        refine A_icmp_gt (tgt := 94) hC dX4_areTwins_87 (by decide) ?_ ?_
        · exact A_to (hj94 D12) (trivial)
        · refine A_iconst (v := 1) hC dX4_areTwins_90 (by decide) ?_
          refine A_goto (tgt := 95) hC dX4_areTwins_91 (by decide) ?_
          exact A_to (hj95 (1 : Int32) D12) (trivial)
def fX4_belongs (a1 : Int32) (a2 : Int32) (a3 : Int32) (D : ADD) : Option (Int32 × ADD) := (if a2 = (5 : Int32) then aBind (fX0_known a1 (9 : Int32) D) (fun x10 D10 => aLet (fun (x11 : Int32) (D11 : ADD) => aZ x11 (some (x11, D11))) (fun (j40 : Int32 → ADD → Option (Int32 × ADD)) => aLet (fun (D12 : ADD) => j40 (0 : Int32) D12) (fun (j39 : ADD → Option (Int32 × ADD)) => (if x10 = (1 : Int32) then aBind (fX0_known a1 (10 : Int32) D10) (fun x12 D13 => (if x12 = a3 then j40 (1 : Int32) D13 else j39 D13)) else j39 D10)))) else aBind (fX1_takes a1 D) (fun x1 D1 => (if x1 = 0 then some ((0 : Int32), D1) else aTab a2 1 [aBind (fX0_known a1 (4 : Int32) D1) (fun x2 D2 => aLet (fun (x3 : Int32) (D3 : ADD) => aZ x3 (some (x3, D3))) (fun (j104 : Int32 → ADD → Option (Int32 × ADD)) => (if x2 = a3 then j104 (1 : Int32) D2 else j104 (0 : Int32) D2))), aBind (fX0_known a1 (5 : Int32) D1) (fun x4 D4 => aLet (fun (x5 : Int32) (D5 : ADD) => aZ x5 (some (x5, D5))) (fun (j121 : Int32 → ADD → Option (Int32 × ADD)) => (if x4 < a3 then j121 (0 : Int32) D4 else j121 (1 : Int32) D4))), aBind (fX0_known a1 (6 : Int32) D1) (fun x6 D6 => aLet (fun (x7 : Int32) (D7 : ADD) => aZ x7 (some (x7, D7))) (fun (j139 : Int32 → ADD → Option (Int32 × ADD)) => (if a3 ≤ x6 then j139 (0 : Int32) D6 else j139 (1 : Int32) D6))), aBind (fX0_known a1 (8 : Int32) D1) (fun x8 D8 => aLet (fun (x9 : Int32) (D9 : ADD) => aZ x9 (some (x9, D9))) (fun (j157 : Int32 → ADD → Option (Int32 × ADD)) => (if x8 = a3 then j157 (1 : Int32) D8 else j157 (0 : Int32) D8)))] (some ((1 : Int32), D1)))))
set_option maxHeartbeats 4000000 in
set_option maxRecDepth 100000 in
theorem mX4_belongs (l : Launch) (g : AGl) (hL : aLX g) (a1 : Int32) (a2 : Int32) (a3 : Int32) (D : ADD) : AM aVi l yX4_belongs cX4_belongs 5 (some .boolean) 2 g [.ref (g.1 + 1), .int a1, .int a2, .int a3] D (fX4_belongs a1 a2 a3 D) := by
  refine AM_of (lv0 := [some (.ref (g.1 + 1)), some (.int a1), some (.int a2), some (.int a3), none]) (own := RX4) (by decide +kernel) rfl (Nat.le_of_ble_eq_true rfl) rfl (fun b hC => ?_)
  unfold fX4_belongs
  refine A_aload_n hC dX4_belongs_0 rfl ?_
  refine A_getr (kf := 0) hC kX8 (lX_1 hL) rfl (by decide) (by decide) rfl rfl w_164 dX4_belongs_1 ?_
  refine A_astore (lv2 := [some (.ref (g.1 + 1)), some (.int a1), some (.int a2), some (.int a3), some (.ref (g.1 + 2))]) hC dX4_belongs_4 (Nat.le_of_ble_eq_true rfl) rfl rfl ?_
  refine A_iload_n hC dX4_belongs_6 rfl ?_
  refine A_iconst (v := 5) hC dX4_belongs_7 (by decide) ?_
  refine A_icmp_ne (tgt := 41) hC dX4_belongs_8 (by decide) ?_ ?_
  · refine A_aload_n hC dX4_belongs_41 rfl ?_
    refine A_getr (kf := 4) hC kX8 (lX_1 hL) rfl (by decide) (by decide) rfl rfl w_174 dX4_belongs_42 ?_
    refine A_aload hC dX4_belongs_45 rfl ?_
    refine A_iload_n hC dX4_belongs_47 rfl ?_
    refine A_callVi (As := [.ref (g.1 + 2), .int a1]) (st := []) hC (fun l => mX1_takes l g hL a1 D) (lX_31 hL) rfl (Nat.le_of_ble_eq_true rfl) yc_X4_130 rfl rfl ⟨by decide, by decide⟩ (Nat.le_of_ble_eq_true rfl) rfl dX4_belongs_48 (fun x1 D1 => ?_)
    refine A_if_ne (tgt := 56) hC dX4_belongs_51 (by decide) ?_ ?_
    · refine A_iload_n hC dX4_belongs_56 rfl ?_
      refine A_tab (td := 158) hC dX4_belongs_57 rfl (by decide) ?_ (And.intro (Exists.intro 88 (And.intro (by decide) ?_)) (And.intro (Exists.intro 105 (And.intro (by decide) ?_)) (And.intro (Exists.intro 122 (And.intro (by decide) ?_)) (And.intro (Exists.intro 140 (And.intro (by decide) ?_)) trivial))))
      · refine A_iconst (v := 1) hC dX4_belongs_158 (by decide) ?_
        exact A_zret hC dX4_belongs_159 (Or.inr rfl)
      · refine A_aload hC dX4_belongs_88 rfl ?_
        refine A_iload_n hC dX4_belongs_90 rfl ?_
        refine A_iconst (v := 4) hC dX4_belongs_91 (by decide) ?_
        refine A_callVi (As := [.int a1, .int (4 : Int32)]) (st := []) hC (fun l => mX0_known l g hL a1 (4 : Int32) D1) (lX_2 hL) rfl (Nat.le_of_ble_eq_true rfl) yc_X4_123 rfl rfl ⟨by decide, by decide⟩ (Nat.le_of_ble_eq_true rfl) rfl dX4_belongs_92 (fun x2 D2 => ?_)
        refine A_iload_n hC dX4_belongs_95 rfl ?_
        refine A_join (fun (J : Int32 → ADD → Option (Int32 × ADD)) => ∀ (x3 : Int32) (D3 : ADD), AT aVi g b 104 [none, none, none, none, none] [.int x3] D3 (J x3 D3)) (fun x3 D3 => ?_) (fun j104 hj104 => ?_)
        · exact A_zretc hC dX4_belongs_104
        refine A_icmp_ne (tgt := 103) hC dX4_belongs_96 (by decide) ?_ ?_
        · refine A_iconst (v := 0) hC dX4_belongs_103 (by decide) ?_
          exact A_to (hj104 (0 : Int32) D2) (trivial)
        · refine A_iconst (v := 1) hC dX4_belongs_99 (by decide) ?_
          refine A_goto (tgt := 104) hC dX4_belongs_100 (by decide) ?_
          exact A_to (hj104 (1 : Int32) D2) (trivial)
      · refine A_aload hC dX4_belongs_105 rfl ?_
        refine A_iload_n hC dX4_belongs_107 rfl ?_
        refine A_iconst (v := 5) hC dX4_belongs_108 (by decide) ?_
        refine A_callVi (As := [.int a1, .int (5 : Int32)]) (st := []) hC (fun l => mX0_known l g hL a1 (5 : Int32) D1) (lX_2 hL) rfl (Nat.le_of_ble_eq_true rfl) yc_X4_123 rfl rfl ⟨by decide, by decide⟩ (Nat.le_of_ble_eq_true rfl) rfl dX4_belongs_109 (fun x4 D4 => ?_)
        refine A_iload_n hC dX4_belongs_112 rfl ?_
        refine A_join (fun (J : Int32 → ADD → Option (Int32 × ADD)) => ∀ (x5 : Int32) (D5 : ADD), AT aVi g b 121 [none, none, none, none, none] [.int x5] D5 (J x5 D5)) (fun x5 D5 => ?_) (fun j121 hj121 => ?_)
        · exact A_zretc hC dX4_belongs_121
        refine A_icmp_lt (tgt := 120) hC dX4_belongs_113 (by decide) ?_ ?_
        · refine A_iconst (v := 0) hC dX4_belongs_120 (by decide) ?_
          exact A_to (hj121 (0 : Int32) D4) (trivial)
        · refine A_iconst (v := 1) hC dX4_belongs_116 (by decide) ?_
          refine A_goto (tgt := 121) hC dX4_belongs_117 (by decide) ?_
          exact A_to (hj121 (1 : Int32) D4) (trivial)
      · refine A_aload hC dX4_belongs_122 rfl ?_
        refine A_iload_n hC dX4_belongs_124 rfl ?_
        refine A_bipush (v := 6) hC dX4_belongs_125 (by decide) ?_
        refine A_callVi (As := [.int a1, .int (6 : Int32)]) (st := []) hC (fun l => mX0_known l g hL a1 (6 : Int32) D1) (lX_2 hL) rfl (Nat.le_of_ble_eq_true rfl) yc_X4_123 rfl rfl ⟨by decide, by decide⟩ (Nat.le_of_ble_eq_true rfl) rfl dX4_belongs_127 (fun x6 D6 => ?_)
        refine A_iload_n hC dX4_belongs_130 rfl ?_
        refine A_join (fun (J : Int32 → ADD → Option (Int32 × ADD)) => ∀ (x7 : Int32) (D7 : ADD), AT aVi g b 139 [none, none, none, none, none] [.int x7] D7 (J x7 D7)) (fun x7 D7 => ?_) (fun j139 hj139 => ?_)
        · exact A_zretc hC dX4_belongs_139
        refine A_icmp_ge (tgt := 138) hC dX4_belongs_131 (by decide) ?_ ?_
        · refine A_iconst (v := 0) hC dX4_belongs_138 (by decide) ?_
          exact A_to (hj139 (0 : Int32) D6) (trivial)
        · refine A_iconst (v := 1) hC dX4_belongs_134 (by decide) ?_
          refine A_goto (tgt := 139) hC dX4_belongs_135 (by decide) ?_
          exact A_to (hj139 (1 : Int32) D6) (trivial)
      · refine A_aload hC dX4_belongs_140 rfl ?_
        refine A_iload_n hC dX4_belongs_142 rfl ?_
        refine A_bipush (v := 8) hC dX4_belongs_143 (by decide) ?_
        refine A_callVi (As := [.int a1, .int (8 : Int32)]) (st := []) hC (fun l => mX0_known l g hL a1 (8 : Int32) D1) (lX_2 hL) rfl (Nat.le_of_ble_eq_true rfl) yc_X4_123 rfl rfl ⟨by decide, by decide⟩ (Nat.le_of_ble_eq_true rfl) rfl dX4_belongs_145 (fun x8 D8 => ?_)
        refine A_iload_n hC dX4_belongs_148 rfl ?_
        refine A_join (fun (J : Int32 → ADD → Option (Int32 × ADD)) => ∀ (x9 : Int32) (D9 : ADD), AT aVi g b 157 [none, none, none, none, none] [.int x9] D9 (J x9 D9)) (fun x9 D9 => ?_) (fun j157 hj157 => ?_)
        · exact A_zretc hC dX4_belongs_157
        refine A_icmp_ne (tgt := 156) hC dX4_belongs_149 (by decide) ?_ ?_
        · refine A_iconst (v := 0) hC dX4_belongs_156 (by decide) ?_
          exact A_to (hj157 (0 : Int32) D8) (trivial)
        · refine A_iconst (v := 1) hC dX4_belongs_152 (by decide) ?_
          refine A_goto (tgt := 157) hC dX4_belongs_153 (by decide) ?_
          exact A_to (hj157 (1 : Int32) D8) (trivial)
    · refine A_iconst (v := 0) hC dX4_belongs_54 (by decide) ?_
      exact A_zret hC dX4_belongs_55 (Or.inl rfl)
  · refine A_aload hC dX4_belongs_11 rfl ?_
    refine A_iload_n hC dX4_belongs_13 rfl ?_
    refine A_bipush (v := 9) hC dX4_belongs_14 (by decide) ?_
    refine A_callVi (As := [.int a1, .int (9 : Int32)]) (st := []) hC (fun l => mX0_known l g hL a1 (9 : Int32) D) (lX_2 hL) rfl (Nat.le_of_ble_eq_true rfl) yc_X4_123 rfl rfl ⟨by decide, by decide⟩ (Nat.le_of_ble_eq_true rfl) rfl dX4_belongs_16 (fun x10 D10 => ?_)
    refine A_iconst (v := 1) hC dX4_belongs_19 (by decide) ?_
    refine A_join (fun (J : Int32 → ADD → Option (Int32 × ADD)) => ∀ (x11 : Int32) (D11 : ADD), AT aVi g b 40 [none, none, none, none, none] [.int x11] D11 (J x11 D11)) (fun x11 D11 => ?_) (fun j40 hj40 => ?_)
    · exact A_zretc hC dX4_belongs_40
    refine A_join (fun (J : ADD → Option (Int32 × ADD)) => ∀ (D12 : ADD), AT aVi g b 39 [none, none, none, none, none] [] D12 (J D12)) (fun D12 => ?_) (fun j39 hj39 => ?_)
    · refine A_iconst (v := 0) hC dX4_belongs_39 (by decide) ?_
      exact A_to (hj40 (0 : Int32) D12) (trivial)
    refine A_icmp_ne (tgt := 39) hC dX4_belongs_20 (by decide) ?_ ?_
    · exact A_to (hj39 D10) (trivial)
    · refine A_aload hC dX4_belongs_23 rfl ?_
      refine A_iload_n hC dX4_belongs_25 rfl ?_
      refine A_bipush (v := 10) hC dX4_belongs_26 (by decide) ?_
      refine A_callVi (As := [.int a1, .int (10 : Int32)]) (st := []) hC (fun l => mX0_known l g hL a1 (10 : Int32) D10) (lX_2 hL) rfl (Nat.le_of_ble_eq_true rfl) yc_X4_123 rfl rfl ⟨by decide, by decide⟩ (Nat.le_of_ble_eq_true rfl) rfl dX4_belongs_28 (fun x12 D13 => ?_)
      refine A_iload_n hC dX4_belongs_31 rfl ?_
      refine A_icmp_ne (tgt := 39) hC dX4_belongs_32 (by decide) ?_ ?_
      · exact A_to (hj39 D13) (trivial)
      · refine A_iconst (v := 1) hC dX4_belongs_35 (by decide) ?_
        refine A_goto (tgt := 40) hC dX4_belongs_36 (by decide) ?_
        exact A_to (hj40 (1 : Int32) D13) (trivial)
def lX4_firstWithTimes_2 (a1 : Int32) (a2 : Int32) (j28 : ADD → Option (Int32 × ADD)) (L2 : Int32 → ADD → Option (Int32 × ADD)) (x1 : Int32) (D2 : ADD) : Option (Int32 × ADD) := (if (D2.1 43 0) ≤ x1 then j28 D2 else aBind (fX4_timesOf x1 a2 D2) (fun x2 D3 => (if x2 = a1 then some (x1, D3) else aLet (x1 + (1 : Int32)) (fun x3 => L2 x3 D3))))
def fX4_firstWithTimes (a1 : Int32) (a2 : Int32) (D : ADD) : Option (Int32 × ADD) := aLet (fun (D1 : ADD) => some ((D1.1 43 0), D1)) (fun (j28 : ADD → Option (Int32 × ADD)) => aLet (aFix aFuel (lX4_firstWithTimes_2 a1 a2 j28) (fun _ _ => none)) (fun j2 => j2 (0 : Int32) D))
set_option maxHeartbeats 4000000 in
set_option maxRecDepth 100000 in
theorem mX4_firstWithTimes (l : Launch) (g : AGl) (hL : aLX g) (a1 : Int32) (a2 : Int32) (D : ADD) : AM aVi l yX4_firstWithTimes cX4_firstWithTimes 4 (some .int) 2 g [.ref (g.1 + 43), .int a1, .int a2] D (fX4_firstWithTimes a1 a2 D) := by
  refine AM_of (lv0 := [some (.ref (g.1 + 43)), some (.int a1), some (.int a2), none]) (own := RX4) (by decide +kernel) rfl (Nat.le_of_ble_eq_true rfl) rfl (fun b hC => ?_)
  unfold fX4_firstWithTimes
  refine A_iconst (v := 0) hC dX4_firstWithTimes_0 (by decide) ?_
  refine A_istore_n (lv2 := [some (.ref (g.1 + 43)), some (.int a1), some (.int a2), some (.int (0 : Int32))]) hC dX4_firstWithTimes_1 (Nat.le_of_ble_eq_true rfl) rfl rfl ?_
  refine A_join (fun (J : ADD → Option (Int32 × ADD)) => ∀ (D1 : ADD), AT aVi g b 28 [some (.ref (g.1 + 43)), none, none, none] [] D1 (J D1)) (fun D1 => ?_) (fun j28 hj28 => ?_)
  · refine A_aload_n hC dX4_firstWithTimes_28 rfl ?_
    refine A_geti (kf := 0) hC kX4 (lX_43 hL) rfl (by decide) (by decide) rfl w_237 dX4_firstWithTimes_29 ?_
    exact A_iret hC dX4_firstWithTimes_32
  refine A_join (fun (J : Int32 → ADD → Option (Int32 × ADD)) => ∀ (x1 : Int32) (D2 : ADD), AT aVi g b 2 [some (.ref (g.1 + 43)), some (.int a1), some (.int a2), some (.int x1)] [] D2 (J x1 D2)) (aFix_all (fun (J : Int32 → ADD → Option (Int32 × ADD)) => ∀ (x1 : Int32) (D2 : ADD), AT aVi g b 2 [some (.ref (g.1 + 43)), some (.int a1), some (.int a2), some (.int x1)] [] D2 (J x1 D2)) (fun _ _ => A_none) (fun L2 hL2 x1 D2 => ?_) _) (fun j2 hj2 => ?_)
  · unfold lX4_firstWithTimes_2
    refine A_iload_n hC dX4_firstWithTimes_2 rfl ?_
    refine A_aload_n hC dX4_firstWithTimes_3 rfl ?_
    refine A_geti (kf := 0) hC kX4 (lX_43 hL) rfl (by decide) (by decide) rfl w_237 dX4_firstWithTimes_4 ?_
    refine A_icmp_ge (tgt := 28) hC dX4_firstWithTimes_7 (by decide) ?_ ?_
    · exact A_to (hj28 D2) (And.intro rfl (trivial))
    · refine A_aload_n hC dX4_firstWithTimes_10 rfl ?_
      refine A_iload_n hC dX4_firstWithTimes_11 rfl ?_
      refine A_iload_n hC dX4_firstWithTimes_12 rfl ?_
      refine A_callVi (As := [.int x1, .int a2]) (st := []) hC (fun l => mX4_timesOf l g hL x1 a2 D2) (lX_43 hL) rfl (Nat.le_of_ble_eq_true rfl) yc_X4_99 rfl rfl ⟨by decide, by decide⟩ (Nat.le_of_ble_eq_true rfl) rfl dX4_firstWithTimes_13 (fun x2 D3 => ?_)
      refine A_iload_n hC dX4_firstWithTimes_16 rfl ?_
      refine A_icmp_ne (tgt := 22) hC dX4_firstWithTimes_17 (by decide) ?_ ?_
      · refine A_iincL (z := (1 : Int32)) (lv2 := fun x3 => [some (.ref (g.1 + 43)), some (.int a1), some (.int a2), some (.int x3)]) hC dX4_firstWithTimes_22 rfl (by decide) (Nat.le_of_ble_eq_true rfl) rfl (fun _ => rfl) (fun x3 => ?_)
        refine A_goto (tgt := 2) hC dX4_firstWithTimes_25 (by decide) ?_
        exact A_to (hL2 x3 D3) (And.intro rfl (And.intro rfl (And.intro rfl (And.intro rfl (trivial)))))
      · refine A_iload_n hC dX4_firstWithTimes_20 rfl ?_
        exact A_iret hC dX4_firstWithTimes_21
  exact A_to (hj2 (0 : Int32) D) (And.intro rfl (And.intro rfl (And.intro rfl (And.intro rfl (trivial)))))
def lX4_greatestTimes_4 (a1 : Int32) (j29 : Int32 → ADD → Option (Int32 × ADD)) (L4 : Int32 → Int32 → ADD → Option (Int32 × ADD)) (x2 : Int32) (x3 : Int32) (D2 : ADD) : Option (Int32 × ADD) := (if (D2.1 43 0) ≤ x3 then j29 x2 D2 else aBind (fX4_timesOf x3 a1 D2) (fun x4 D3 => aLet (aMax x2 x4) (fun x5 => aLet (x3 + (1 : Int32)) (fun x6 => L4 x5 x6 D3))))
def fX4_greatestTimes (a1 : Int32) (D : ADD) : Option (Int32 × ADD) := aLet (fun (x1 : Int32) (D1 : ADD) => some (x1, D1)) (fun (j29 : Int32 → ADD → Option (Int32 × ADD)) => aLet (aFix aFuel (lX4_greatestTimes_4 a1 j29) (fun _ _ _ => none)) (fun j4 => j4 (0 : Int32) (0 : Int32) D))
set_option maxHeartbeats 4000000 in
set_option maxRecDepth 100000 in
theorem mX4_greatestTimes (l : Launch) (g : AGl) (hL : aLX g) (a1 : Int32) (D : ADD) : AM aVi l yX4_greatestTimes cX4_greatestTimes 4 (some .int) 2 g [.ref (g.1 + 43), .int a1] D (fX4_greatestTimes a1 D) := by
  refine AM_of (lv0 := [some (.ref (g.1 + 43)), some (.int a1), none, none]) (own := RX4) (by decide +kernel) rfl (Nat.le_of_ble_eq_true rfl) rfl (fun b hC => ?_)
  unfold fX4_greatestTimes
  refine A_iconst (v := 0) hC dX4_greatestTimes_0 (by decide) ?_
  refine A_istore_n (lv2 := [some (.ref (g.1 + 43)), some (.int a1), some (.int (0 : Int32)), none]) hC dX4_greatestTimes_1 (Nat.le_of_ble_eq_true rfl) rfl rfl ?_
  refine A_iconst (v := 0) hC dX4_greatestTimes_2 (by decide) ?_
  refine A_istore_n (lv2 := [some (.ref (g.1 + 43)), some (.int a1), some (.int (0 : Int32)), some (.int (0 : Int32))]) hC dX4_greatestTimes_3 (Nat.le_of_ble_eq_true rfl) rfl rfl ?_
  refine A_join (fun (J : Int32 → ADD → Option (Int32 × ADD)) => ∀ (x1 : Int32) (D1 : ADD), AT aVi g b 29 [none, none, some (.int x1), none] [] D1 (J x1 D1)) (fun x1 D1 => ?_) (fun j29 hj29 => ?_)
  · refine A_iload_n hC dX4_greatestTimes_29 rfl ?_
    exact A_iret hC dX4_greatestTimes_30
  refine A_join (fun (J : Int32 → Int32 → ADD → Option (Int32 × ADD)) => ∀ (x2 : Int32) (x3 : Int32) (D2 : ADD), AT aVi g b 4 [some (.ref (g.1 + 43)), some (.int a1), some (.int x2), some (.int x3)] [] D2 (J x2 x3 D2)) (aFix_all (fun (J : Int32 → Int32 → ADD → Option (Int32 × ADD)) => ∀ (x2 : Int32) (x3 : Int32) (D2 : ADD), AT aVi g b 4 [some (.ref (g.1 + 43)), some (.int a1), some (.int x2), some (.int x3)] [] D2 (J x2 x3 D2)) (fun _ _ _ => A_none) (fun L4 hL4 x2 x3 D2 => ?_) _) (fun j4 hj4 => ?_)
  · unfold lX4_greatestTimes_4
    refine A_iload_n hC dX4_greatestTimes_4 rfl ?_
    refine A_aload_n hC dX4_greatestTimes_5 rfl ?_
    refine A_geti (kf := 0) hC kX4 (lX_43 hL) rfl (by decide) (by decide) rfl w_237 dX4_greatestTimes_6 ?_
    refine A_icmp_ge (tgt := 29) hC dX4_greatestTimes_9 (by decide) ?_ ?_
    · exact A_to (hj29 x2 D2) (And.intro rfl (trivial))
    · refine A_iload_n hC dX4_greatestTimes_12 rfl ?_
      refine A_aload_n hC dX4_greatestTimes_13 rfl ?_
      refine A_iload_n hC dX4_greatestTimes_14 rfl ?_
      refine A_iload_n hC dX4_greatestTimes_15 rfl ?_
      refine A_callVi (As := [.int x3, .int a1]) (st := [.int x2]) hC (fun l => mX4_timesOf l g hL x3 a1 D2) (lX_43 hL) rfl (Nat.le_of_ble_eq_true rfl) yc_X4_99 rfl rfl ⟨by decide, by decide⟩ (Nat.le_of_ble_eq_true rfl) rfl dX4_greatestTimes_16 (fun x4 D3 => ?_)
      refine A_mmax hC w_880 w_634 w_16 w_635 rfl (by decide) (Nat.le_of_ble_eq_true rfl) dX4_greatestTimes_19 ?_
      refine A_topi (fun x5 => ?_)
      refine A_istore_n (lv2 := [some (.ref (g.1 + 43)), some (.int a1), some (.int x5), some (.int x3)]) hC dX4_greatestTimes_22 (Nat.le_of_ble_eq_true rfl) rfl rfl ?_
      refine A_iincL (z := (1 : Int32)) (lv2 := fun x6 => [some (.ref (g.1 + 43)), some (.int a1), some (.int x5), some (.int x6)]) hC dX4_greatestTimes_23 rfl (by decide) (Nat.le_of_ble_eq_true rfl) rfl (fun _ => rfl) (fun x6 => ?_)
      refine A_goto (tgt := 4) hC dX4_greatestTimes_26 (by decide) ?_
      exact A_to (hL4 x5 x6 D3) (And.intro rfl (And.intro rfl (And.intro rfl (And.intro rfl (trivial)))))
  exact A_to (hj4 (0 : Int32) (0 : Int32) D) (And.intro rfl (And.intro rfl (And.intro rfl (And.intro rfl (trivial)))))
def lX4_indexOf_2 (a1 : Int32) (j27 : ADD → Option (Int32 × ADD)) (L2 : Int32 → ADD → Option (Int32 × ADD)) (x1 : Int32) (D2 : ADD) : Option (Int32 × ADD) := (if (D2.1 43 0) ≤ x1 then j27 D2 else aBind (fX4_numberOf x1 D2) (fun x2 D3 => (if x2 = a1 then some (x1, D3) else aLet (x1 + (1 : Int32)) (fun x3 => L2 x3 D3))))
def fX4_indexOf (a1 : Int32) (D : ADD) : Option (Int32 × ADD) := aLet (fun (D1 : ADD) => some ((-1 : Int32), D1)) (fun (j27 : ADD → Option (Int32 × ADD)) => aLet (aFix aFuel (lX4_indexOf_2 a1 j27) (fun _ _ => none)) (fun j2 => j2 (0 : Int32) D))
set_option maxHeartbeats 4000000 in
set_option maxRecDepth 100000 in
theorem mX4_indexOf (l : Launch) (g : AGl) (hL : aLX g) (a1 : Int32) (D : ADD) : AM aVi l yX4_indexOf cX4_indexOf 3 (some .int) 2 g [.ref (g.1 + 43), .int a1] D (fX4_indexOf a1 D) := by
  refine AM_of (lv0 := [some (.ref (g.1 + 43)), some (.int a1), none]) (own := RX4) (by decide +kernel) rfl (Nat.le_of_ble_eq_true rfl) rfl (fun b hC => ?_)
  unfold fX4_indexOf
  refine A_iconst (v := 0) hC dX4_indexOf_0 (by decide) ?_
  refine A_istore_n (lv2 := [some (.ref (g.1 + 43)), some (.int a1), some (.int (0 : Int32))]) hC dX4_indexOf_1 (Nat.le_of_ble_eq_true rfl) rfl rfl ?_
  refine A_join (fun (J : ADD → Option (Int32 × ADD)) => ∀ (D1 : ADD), AT aVi g b 27 [none, none, none] [] D1 (J D1)) (fun D1 => ?_) (fun j27 hj27 => ?_)
  · refine A_iconst (v := -1) hC dX4_indexOf_27 (by decide) ?_
    exact A_iret hC dX4_indexOf_28
  refine A_join (fun (J : Int32 → ADD → Option (Int32 × ADD)) => ∀ (x1 : Int32) (D2 : ADD), AT aVi g b 2 [some (.ref (g.1 + 43)), some (.int a1), some (.int x1)] [] D2 (J x1 D2)) (aFix_all (fun (J : Int32 → ADD → Option (Int32 × ADD)) => ∀ (x1 : Int32) (D2 : ADD), AT aVi g b 2 [some (.ref (g.1 + 43)), some (.int a1), some (.int x1)] [] D2 (J x1 D2)) (fun _ _ => A_none) (fun L2 hL2 x1 D2 => ?_) _) (fun j2 hj2 => ?_)
  · unfold lX4_indexOf_2
    refine A_iload_n hC dX4_indexOf_2 rfl ?_
    refine A_aload_n hC dX4_indexOf_3 rfl ?_
    refine A_geti (kf := 0) hC kX4 (lX_43 hL) rfl (by decide) (by decide) rfl w_237 dX4_indexOf_4 ?_
    refine A_icmp_ge (tgt := 27) hC dX4_indexOf_7 (by decide) ?_ ?_
    · exact A_to (hj27 D2) (trivial)
    · refine A_aload_n hC dX4_indexOf_10 rfl ?_
      refine A_iload_n hC dX4_indexOf_11 rfl ?_
      refine A_callVi (As := [.int x1]) (st := []) hC (fun l => mX4_numberOf l g hL x1 D2) (lX_43 hL) rfl (Nat.le_of_ble_eq_true rfl) yc_X4_57 rfl rfl ⟨by decide, by decide⟩ (Nat.le_of_ble_eq_true rfl) rfl dX4_indexOf_12 (fun x2 D3 => ?_)
      refine A_iload_n hC dX4_indexOf_15 rfl ?_
      refine A_icmp_ne (tgt := 21) hC dX4_indexOf_16 (by decide) ?_ ?_
      · refine A_iincL (z := (1 : Int32)) (lv2 := fun x3 => [some (.ref (g.1 + 43)), some (.int a1), some (.int x3)]) hC dX4_indexOf_21 rfl (by decide) (Nat.le_of_ble_eq_true rfl) rfl (fun _ => rfl) (fun x3 => ?_)
        refine A_goto (tgt := 2) hC dX4_indexOf_24 (by decide) ?_
        exact A_to (hL2 x3 D3) (And.intro rfl (And.intro rfl (And.intro rfl (trivial))))
      · refine A_iload_n hC dX4_indexOf_19 rfl ?_
        exact A_iret hC dX4_indexOf_20
  exact A_to (hj2 (0 : Int32) D) (And.intro rfl (And.intro rfl (And.intro rfl (trivial))))
def fX4_luckyOf (a1 : Int32) (a2 : Int32) (D : ADD) : Option (Int32 × ADD) := aBind (fX4_has a1 D) (fun x1 D1 => aLet (fun (x2 : Int32) (D2 : ADD) => some (x2, D2)) (fun (j29 : Int32 → ADD → Option (Int32 × ADD)) => (if x1 = 0 then j29 (0 : Int32) D1 else aIn a1 32 (aIn a1 32 (aBind (fX2_luckyPlaces ((D1.1 45 a1.toNatClampNeg) - (D1.1 44 a1.toNatClampNeg)) a2 D1) (fun x3 D3 => j29 x3 D3))))))
set_option maxHeartbeats 4000000 in
set_option maxRecDepth 100000 in
theorem mX4_luckyOf (l : Launch) (g : AGl) (hL : aLX g) (a1 : Int32) (a2 : Int32) (D : ADD) : AM aVi l yX4_luckyOf cX4_luckyOf 3 (some .int) 2 g [.ref (g.1 + 43), .int a1, .int a2] D (fX4_luckyOf a1 a2 D) := by
  refine AM_of (lv0 := [some (.ref (g.1 + 43)), some (.int a1), some (.int a2)]) (own := RX4) (by decide +kernel) rfl (Nat.le_of_ble_eq_true rfl) rfl (fun b hC => ?_)
  unfold fX4_luckyOf
  refine A_aload_n hC dX4_luckyOf_0 rfl ?_
  refine A_iload_n hC dX4_luckyOf_1 rfl ?_
  refine A_callVi (As := [.int a1]) (st := []) hC (fun l => mX4_has l g hL a1 D) (lX_43 hL) rfl (Nat.le_of_ble_eq_true rfl) yc_X4_53 rfl rfl ⟨by decide, by decide⟩ (Nat.le_of_ble_eq_true rfl) rfl dX4_luckyOf_2 (fun x1 D1 => ?_)
  refine A_join (fun (J : Int32 → ADD → Option (Int32 × ADD)) => ∀ (x2 : Int32) (D2 : ADD), AT aVi g b 29 [none, none, none] [.int x2] D2 (J x2 D2)) (fun x2 D2 => ?_) (fun j29 hj29 => ?_)
  · exact A_iret hC dX4_luckyOf_29
  refine A_if_eq (tgt := 28) hC dX4_luckyOf_5 (by decide) ?_ ?_
  · refine A_iconst (v := 0) hC dX4_luckyOf_28 (by decide) ?_
    exact A_to (hj29 (0 : Int32) D1) (trivial)
  · refine A_aload_n hC dX4_luckyOf_8 rfl ?_
    refine A_getr (kf := 2) hC kX4 (lX_43 hL) rfl (by decide) (by decide) rfl rfl w_244 dX4_luckyOf_9 ?_
    refine A_iload_n hC dX4_luckyOf_12 rfl ?_
    refine A_iald hC (lX_45 hL) dX4_luckyOf_13 ?_
    refine A_aload_n hC dX4_luckyOf_14 rfl ?_
    refine A_getr (kf := 1) hC kX4 (lX_43 hL) rfl (by decide) (by decide) rfl rfl w_241 dX4_luckyOf_15 ?_
    refine A_iload_n hC dX4_luckyOf_18 rfl ?_
    refine A_iald hC (lX_44 hL) dX4_luckyOf_19 ?_
    refine A_isub hC dX4_luckyOf_20 ?_
    refine A_iload_n hC dX4_luckyOf_21 rfl ?_
    refine A_callSi (As := [.int ((D1.1 45 a1.toNatClampNeg) - (D1.1 44 a1.toNatClampNeg)), .int a2]) (st := []) hC (fun l => mX2_luckyPlaces l g ((D1.1 45 a1.toNatClampNeg) - (D1.1 44 a1.toNatClampNeg)) a2 D1) yc_X4_78 rfl rfl ⟨by decide, by decide⟩ (Nat.le_of_ble_eq_true rfl) rfl dX4_luckyOf_22 (fun x3 D3 => ?_)
    refine A_goto (tgt := 29) hC dX4_luckyOf_25 (by decide) ?_
    exact A_to (hj29 x3 D3) (trivial)
def lX4_measure_24 (j126 : Int32 → Int32 → ADD → Option (Unit × ADD)) (L24 : Int32 → Int32 → Int32 → ADD → Option (Unit × ADD)) (x9 : Int32) (x10 : Int32) (x11 : Int32) (D9 : ADD) : Option (Unit × ADD) := (if (D9.1 13 0) ≤ x11 then j126 x9 x10 D9 else aBind (fX6_holds 13 49 x11 D9) (fun x12 D10 => aLet (fun (x13 : Int32) (x14 : Int32) (D11 : ADD) => aLet (x11 + (1 : Int32)) (fun x15 => L24 x13 x14 x15 D11)) (fun (j120 : Int32 → Int32 → ADD → Option (Unit × ADD)) => (if x12 = 0 then j120 x9 x10 D10 else aBind (fX6_deedOf 13 x11 D10) (fun x16 D12 => (if x16 = (2 : Int32) then j126 x9 x10 D12 else aLet (fun (x17 : Int32) (D13 : ADD) => aLet (x9 + x17) (fun x18 => aLet (fun (x19 : Int32) (D14 : ADD) => aLet (x10 + x19) (fun x20 => j120 x18 x20 D14)) (fun (j117 : Int32 → ADD → Option (Unit × ADD)) => (if x16 = (1 : Int32) then aBind (fX6_leastOf 13 x11 D13) (fun x22 D16 => j117 (-x22) D16) else aBind (fX6_mostOf 13 x11 D13) (fun x21 D15 => j117 x21 D15))))) (fun (j90 : Int32 → ADD → Option (Unit × ADD)) => (if x16 = (1 : Int32) then aBind (fX6_mostOf 13 x11 D12) (fun x24 D18 => j90 (-x24) D18) else aBind (fX6_leastOf 13 x11 D12) (fun x23 D17 => j90 x23 D17)))))))))
def fX4_measure (a1 : Int32) (D : ADD) : Option (Unit × ADD) := aIn a1 32 (aLet (D.1 46 a1.toNatClampNeg) (fun x1 => aBind (fX4_listTraits x1 D) (fun _ D1 => aLet (fun (x2 : Int32) (x3 : Int32) (D2 : ADD) => aBind (fX0_known x1 (0 : Int32) D2) (fun x4 D3 => aBind (fX0_known x1 (3 : Int32) D3) (fun x5 D4 => aLet (x4 - x5) (fun x6 => aBind (fX2_whenNew x6 x2 D4) (fun x7 D5 => aIn a1 32 (aLet (aSI D5 44 a1.toNatClampNeg x7) (fun D6 => aBind (fX2_whenNew x6 x3 D6) (fun x8 D7 => aIn a1 32 (aLet (aSI D7 45 a1.toNatClampNeg x8) (fun D8 => some ((), D8))))))))))) (fun (j126 : Int32 → Int32 → ADD → Option (Unit × ADD)) => aLet (aFix aFuel (lX4_measure_24 j126) (fun _ _ _ _ => none)) (fun j24 => j24 (0 : Int32) (0 : Int32) (0 : Int32) D1)))))
set_option maxHeartbeats 4000000 in
set_option maxRecDepth 100000 in
theorem mX4_measure (l : Launch) (g : AGl) (hL : aLX g) (a1 : Int32) (D : ADD) : AM aVv l yX4_measure cX4_measure 9 none 2 g [.ref (g.1 + 43), .ref (g.1 + 2), .ref (g.1 + 13), .int a1] D (fX4_measure a1 D) := by
  refine AM_of (lv0 := [some (.ref (g.1 + 43)), some (.ref (g.1 + 2)), some (.ref (g.1 + 13)), some (.int a1), none, none, none, none, none]) (own := RX4) (by decide +kernel) rfl (Nat.le_of_ble_eq_true rfl) rfl (fun b hC => ?_)
  unfold fX4_measure
  refine A_aload_n hC dX4_measure_0 rfl ?_
  refine A_getr (kf := 3) hC kX4 (lX_43 hL) rfl (by decide) (by decide) rfl rfl w_247 dX4_measure_1 ?_
  refine A_iload_n hC dX4_measure_4 rfl ?_
  refine A_iald hC (lX_46 hL) dX4_measure_5 ?_
  refine A_topi (fun x1 => ?_)
  refine A_istore (lv2 := [some (.ref (g.1 + 43)), some (.ref (g.1 + 2)), some (.ref (g.1 + 13)), some (.int a1), some (.int x1), none, none, none, none]) hC dX4_measure_6 (Nat.le_of_ble_eq_true rfl) rfl rfl ?_
  refine A_aload_n hC dX4_measure_8 rfl ?_
  refine A_aload_n hC dX4_measure_9 rfl ?_
  refine A_iload hC dX4_measure_10 rfl ?_
  refine A_callVv (As := [.ref (g.1 + 2), .int x1]) (st := []) hC (fun l => mX4_listTraits l g hL x1 D) (lX_43 hL) rfl (Nat.le_of_ble_eq_true rfl) yc_X4_144 rfl rfl ⟨by decide, by decide⟩ (Nat.le_of_ble_eq_true rfl) rfl dX4_measure_12 (fun _ D1 => ?_)
  refine A_iconst (v := 0) hC dX4_measure_15 (by decide) ?_
  refine A_istore (lv2 := [some (.ref (g.1 + 43)), some (.ref (g.1 + 2)), some (.ref (g.1 + 13)), some (.int a1), some (.int x1), some (.int (0 : Int32)), none, none, none]) hC dX4_measure_16 (Nat.le_of_ble_eq_true rfl) rfl rfl ?_
  refine A_iconst (v := 0) hC dX4_measure_18 (by decide) ?_
  refine A_istore (lv2 := [some (.ref (g.1 + 43)), some (.ref (g.1 + 2)), some (.ref (g.1 + 13)), some (.int a1), some (.int x1), some (.int (0 : Int32)), some (.int (0 : Int32)), none, none]) hC dX4_measure_19 (Nat.le_of_ble_eq_true rfl) rfl rfl ?_
  refine A_iconst (v := 0) hC dX4_measure_21 (by decide) ?_
  refine A_istore (lv2 := [some (.ref (g.1 + 43)), some (.ref (g.1 + 2)), some (.ref (g.1 + 13)), some (.int a1), some (.int x1), some (.int (0 : Int32)), some (.int (0 : Int32)), some (.int (0 : Int32)), none]) hC dX4_measure_22 (Nat.le_of_ble_eq_true rfl) rfl rfl ?_
  refine A_join (fun (J : Int32 → Int32 → ADD → Option (Unit × ADD)) => ∀ (x2 : Int32) (x3 : Int32) (D2 : ADD), AT aVv g b 126 [some (.ref (g.1 + 43)), some (.ref (g.1 + 2)), none, some (.int a1), some (.int x1), some (.int x2), some (.int x3), none, none] [] D2 (J x2 x3 D2)) (fun x2 x3 D2 => ?_) (fun j126 hj126 => ?_)
  · refine A_aload_n hC dX4_measure_126 rfl ?_
    refine A_iload hC dX4_measure_127 rfl ?_
    refine A_iconst (v := 0) hC dX4_measure_129 (by decide) ?_
    refine A_callVi (As := [.int x1, .int (0 : Int32)]) (st := []) hC (fun l => mX0_known l g hL x1 (0 : Int32) D2) (lX_2 hL) rfl (Nat.le_of_ble_eq_true rfl) yc_X4_123 rfl rfl ⟨by decide, by decide⟩ (Nat.le_of_ble_eq_true rfl) rfl dX4_measure_130 (fun x4 D3 => ?_)
    refine A_aload_n hC dX4_measure_133 rfl ?_
    refine A_iload hC dX4_measure_134 rfl ?_
    refine A_iconst (v := 3) hC dX4_measure_136 (by decide) ?_
    refine A_callVi (As := [.int x1, .int (3 : Int32)]) (st := [.int x4]) hC (fun l => mX0_known l g hL x1 (3 : Int32) D3) (lX_2 hL) rfl (Nat.le_of_ble_eq_true rfl) yc_X4_123 rfl rfl ⟨by decide, by decide⟩ (Nat.le_of_ble_eq_true rfl) rfl dX4_measure_137 (fun x5 D4 => ?_)
    refine A_isub hC dX4_measure_140 ?_
    refine A_topi (fun x6 => ?_)
    refine A_istore (lv2 := [some (.ref (g.1 + 43)), some (.ref (g.1 + 2)), none, some (.int a1), some (.int x1), some (.int x2), some (.int x3), some (.int x6), none]) hC dX4_measure_141 (Nat.le_of_ble_eq_true rfl) rfl rfl ?_
    refine A_aload_n hC dX4_measure_143 rfl ?_
    refine A_getr (kf := 1) hC kX4 (lX_43 hL) rfl (by decide) (by decide) rfl rfl w_241 dX4_measure_144 ?_
    refine A_iload_n hC dX4_measure_147 rfl ?_
    refine A_iload hC dX4_measure_148 rfl ?_
    refine A_iload hC dX4_measure_150 rfl ?_
    refine A_callSi (As := [.int x6, .int x2]) (st := [.int a1, .ref (g.1 + 44)]) hC (fun l => mX2_whenNew l g x6 x2 D4) yc_X4_166 rfl rfl ⟨by decide, by decide⟩ (Nat.le_of_ble_eq_true rfl) rfl dX4_measure_152 (fun x7 D5 => ?_)
    refine A_iast hC (lX_44 hL) dX4_measure_155 (fun D6 => ?_)
    refine A_aload_n hC dX4_measure_156 rfl ?_
    refine A_getr (kf := 2) hC kX4 (lX_43 hL) rfl (by decide) (by decide) rfl rfl w_244 dX4_measure_157 ?_
    refine A_iload_n hC dX4_measure_160 rfl ?_
    refine A_iload hC dX4_measure_161 rfl ?_
    refine A_iload hC dX4_measure_163 rfl ?_
    refine A_callSi (As := [.int x6, .int x3]) (st := [.int a1, .ref (g.1 + 45)]) hC (fun l => mX2_whenNew l g x6 x3 D6) yc_X4_166 rfl rfl ⟨by decide, by decide⟩ (Nat.le_of_ble_eq_true rfl) rfl dX4_measure_165 (fun x8 D7 => ?_)
    refine A_iast hC (lX_45 hL) dX4_measure_168 (fun D8 => ?_)
    exact A_vret hC dX4_measure_169
  refine A_join (fun (J : Int32 → Int32 → Int32 → ADD → Option (Unit × ADD)) => ∀ (x9 : Int32) (x10 : Int32) (x11 : Int32) (D9 : ADD), AT aVv g b 24 [some (.ref (g.1 + 43)), some (.ref (g.1 + 2)), some (.ref (g.1 + 13)), some (.int a1), some (.int x1), some (.int x9), some (.int x10), some (.int x11), none] [] D9 (J x9 x10 x11 D9)) (aFix_all (fun (J : Int32 → Int32 → Int32 → ADD → Option (Unit × ADD)) => ∀ (x9 : Int32) (x10 : Int32) (x11 : Int32) (D9 : ADD), AT aVv g b 24 [some (.ref (g.1 + 43)), some (.ref (g.1 + 2)), some (.ref (g.1 + 13)), some (.int a1), some (.int x1), some (.int x9), some (.int x10), some (.int x11), none] [] D9 (J x9 x10 x11 D9)) (fun _ _ _ _ => A_none) (fun L24 hL24 x9 x10 x11 D9 => ?_) _) (fun j24 hj24 => ?_)
  · unfold lX4_measure_24
    refine A_iload hC dX4_measure_24 rfl ?_
    refine A_aload_n hC dX4_measure_26 rfl ?_
    refine A_geti (kf := 0) hC kX6 (lX_13 hL) rfl (by decide) (by decide) rfl w_111 dX4_measure_27 ?_
    refine A_icmp_ge (tgt := 126) hC dX4_measure_30 (by decide) ?_ ?_
    · exact A_to (hj126 x9 x10 D9) (And.intro rfl (And.intro rfl (And.intro rfl (And.intro rfl (And.intro rfl (And.intro rfl (trivial)))))))
    · refine A_aload_n hC dX4_measure_33 rfl ?_
      refine A_iload hC dX4_measure_34 rfl ?_
      refine A_aload_n hC dX4_measure_36 rfl ?_
      refine A_getr (kf := 6) hC kX4 (lX_43 hL) rfl (by decide) (by decide) rfl rfl w_250 dX4_measure_37 ?_
      refine A_callVi (As := [.int x11, .ref (g.1 + 49)]) (st := []) hC (fun l => mX6_holds l g 13 49 (lR_13 hL) (lX_49 hL) x11 D9) (lX_13 hL) rfl (Nat.le_of_ble_eq_true rfl) yc_X4_153 rfl rfl ⟨by decide, by decide⟩ (Nat.le_of_ble_eq_true rfl) rfl dX4_measure_40 (fun x12 D10 => ?_)
      refine A_join (fun (J : Int32 → Int32 → ADD → Option (Unit × ADD)) => ∀ (x13 : Int32) (x14 : Int32) (D11 : ADD), AT aVv g b 120 [some (.ref (g.1 + 43)), some (.ref (g.1 + 2)), some (.ref (g.1 + 13)), some (.int a1), some (.int x1), some (.int x13), some (.int x14), some (.int x11), none] [] D11 (J x13 x14 D11)) (fun x13 x14 D11 => ?_) (fun j120 hj120 => ?_)
      · refine A_iincL (z := (1 : Int32)) (lv2 := fun x15 => [some (.ref (g.1 + 43)), some (.ref (g.1 + 2)), some (.ref (g.1 + 13)), some (.int a1), some (.int x1), some (.int x13), some (.int x14), some (.int x15), none]) hC dX4_measure_120 rfl (by decide) (Nat.le_of_ble_eq_true rfl) rfl (fun _ => rfl) (fun x15 => ?_)
        refine A_goto (tgt := 24) hC dX4_measure_123 (by decide) ?_
        exact A_to (hL24 x13 x14 x15 D11) (And.intro rfl (And.intro rfl (And.intro rfl (And.intro rfl (And.intro rfl (And.intro rfl (And.intro rfl (And.intro rfl (trivial)))))))))
      refine A_if_ne (tgt := 49) hC dX4_measure_43 (by decide) ?_ ?_
      · refine A_aload_n hC dX4_measure_49 rfl ?_
        refine A_iload hC dX4_measure_50 rfl ?_
        refine A_callVi (As := [.int x11]) (st := []) hC (fun l => mX6_deedOf l g 13 (lR_13 hL) x11 D10) (lX_13 hL) rfl (Nat.le_of_ble_eq_true rfl) yc_X4_157 rfl rfl ⟨by decide, by decide⟩ (Nat.le_of_ble_eq_true rfl) rfl dX4_measure_52 (fun x16 D12 => ?_)
        refine A_istore (lv2 := [some (.ref (g.1 + 43)), some (.ref (g.1 + 2)), some (.ref (g.1 + 13)), some (.int a1), some (.int x1), some (.int x9), some (.int x10), some (.int x11), some (.int x16)]) hC dX4_measure_55 (Nat.le_of_ble_eq_true rfl) rfl rfl ?_
        refine A_iload hC dX4_measure_57 rfl ?_
        refine A_iconst (v := 2) hC dX4_measure_59 (by decide) ?_
        refine A_icmp_ne (tgt := 66) hC dX4_measure_60 (by decide) ?_ ?_
        · refine A_iload hC dX4_measure_66 rfl ?_
          refine A_iload hC dX4_measure_68 rfl ?_
          refine A_iconst (v := 1) hC dX4_measure_70 (by decide) ?_
          refine A_join (fun (J : Int32 → ADD → Option (Unit × ADD)) => ∀ (x17 : Int32) (D13 : ADD), AT aVv g b 90 [some (.ref (g.1 + 43)), some (.ref (g.1 + 2)), some (.ref (g.1 + 13)), some (.int a1), some (.int x1), none, some (.int x10), some (.int x11), some (.int x16)] [.int x17, .int x9] D13 (J x17 D13)) (fun x17 D13 => ?_) (fun j90 hj90 => ?_)
          · refine A_iadd hC dX4_measure_90 ?_
            refine A_topi (fun x18 => ?_)
            refine A_istore (lv2 := [some (.ref (g.1 + 43)), some (.ref (g.1 + 2)), some (.ref (g.1 + 13)), some (.int a1), some (.int x1), some (.int x18), some (.int x10), some (.int x11), some (.int x16)]) hC dX4_measure_91 (Nat.le_of_ble_eq_true rfl) rfl rfl ?_
            refine A_iload hC dX4_measure_93 rfl ?_
            refine A_iload hC dX4_measure_95 rfl ?_
            refine A_iconst (v := 1) hC dX4_measure_97 (by decide) ?_
            refine A_join (fun (J : Int32 → ADD → Option (Unit × ADD)) => ∀ (x19 : Int32) (D14 : ADD), AT aVv g b 117 [some (.ref (g.1 + 43)), some (.ref (g.1 + 2)), some (.ref (g.1 + 13)), some (.int a1), some (.int x1), some (.int x18), none, some (.int x11), none] [.int x19, .int x10] D14 (J x19 D14)) (fun x19 D14 => ?_) (fun j117 hj117 => ?_)
            · refine A_iadd hC dX4_measure_117 ?_
              refine A_topi (fun x20 => ?_)
              refine A_istore (lv2 := [some (.ref (g.1 + 43)), some (.ref (g.1 + 2)), some (.ref (g.1 + 13)), some (.int a1), some (.int x1), some (.int x18), some (.int x20), some (.int x11), none]) hC dX4_measure_118 (Nat.le_of_ble_eq_true rfl) rfl rfl ?_
              exact A_to (hj120 x18 x20 D14) (And.intro rfl (And.intro rfl (And.intro rfl (And.intro rfl (And.intro rfl (And.intro rfl (And.intro rfl (And.intro rfl (trivial)))))))))
            refine A_icmp_ne (tgt := 111) hC dX4_measure_98 (by decide) ?_ ?_
            · refine A_aload_n hC dX4_measure_111 rfl ?_
              refine A_iload hC dX4_measure_112 rfl ?_
              refine A_callVi (As := [.int x11]) (st := [.int x10]) hC (fun l => mX6_mostOf l g 13 (lR_13 hL) x11 D13) (lX_13 hL) rfl (Nat.le_of_ble_eq_true rfl) yc_X4_160 rfl rfl ⟨by decide, by decide⟩ (Nat.le_of_ble_eq_true rfl) rfl dX4_measure_114 (fun x21 D15 => ?_)
              exact A_to (hj117 x21 D15) (And.intro rfl (And.intro rfl (And.intro rfl (And.intro rfl (And.intro rfl (And.intro rfl (And.intro rfl (trivial))))))))
            · refine A_aload_n hC dX4_measure_101 rfl ?_
              refine A_iload hC dX4_measure_102 rfl ?_
              refine A_callVi (As := [.int x11]) (st := [.int x10]) hC (fun l => mX6_leastOf l g 13 (lR_13 hL) x11 D13) (lX_13 hL) rfl (Nat.le_of_ble_eq_true rfl) yc_X4_163 rfl rfl ⟨by decide, by decide⟩ (Nat.le_of_ble_eq_true rfl) rfl dX4_measure_104 (fun x22 D16 => ?_)
              refine A_ineg hC dX4_measure_107 ?_
              refine A_goto (tgt := 117) hC dX4_measure_108 (by decide) ?_
              exact A_to (hj117 (-x22) D16) (And.intro rfl (And.intro rfl (And.intro rfl (And.intro rfl (And.intro rfl (And.intro rfl (And.intro rfl (trivial))))))))
          refine A_icmp_ne (tgt := 84) hC dX4_measure_71 (by decide) ?_ ?_
          · refine A_aload_n hC dX4_measure_84 rfl ?_
            refine A_iload hC dX4_measure_85 rfl ?_
            refine A_callVi (As := [.int x11]) (st := [.int x9]) hC (fun l => mX6_leastOf l g 13 (lR_13 hL) x11 D12) (lX_13 hL) rfl (Nat.le_of_ble_eq_true rfl) yc_X4_163 rfl rfl ⟨by decide, by decide⟩ (Nat.le_of_ble_eq_true rfl) rfl dX4_measure_87 (fun x23 D17 => ?_)
            exact A_to (hj90 x23 D17) (And.intro rfl (And.intro rfl (And.intro rfl (And.intro rfl (And.intro rfl (And.intro rfl (And.intro rfl (And.intro rfl (trivial)))))))))
          · refine A_aload_n hC dX4_measure_74 rfl ?_
            refine A_iload hC dX4_measure_75 rfl ?_
            refine A_callVi (As := [.int x11]) (st := [.int x9]) hC (fun l => mX6_mostOf l g 13 (lR_13 hL) x11 D12) (lX_13 hL) rfl (Nat.le_of_ble_eq_true rfl) yc_X4_160 rfl rfl ⟨by decide, by decide⟩ (Nat.le_of_ble_eq_true rfl) rfl dX4_measure_77 (fun x24 D18 => ?_)
            refine A_ineg hC dX4_measure_80 ?_
            refine A_goto (tgt := 90) hC dX4_measure_81 (by decide) ?_
            exact A_to (hj90 (-x24) D18) (And.intro rfl (And.intro rfl (And.intro rfl (And.intro rfl (And.intro rfl (And.intro rfl (And.intro rfl (And.intro rfl (trivial)))))))))
        · refine A_goto (tgt := 126) hC dX4_measure_63 (by decide) ?_
          exact A_to (hj126 x9 x10 D12) (And.intro rfl (And.intro rfl (And.intro rfl (And.intro rfl (And.intro rfl (And.intro rfl (trivial)))))))
      · refine A_goto (tgt := 120) hC dX4_measure_46 (by decide) ?_
        exact A_to (hj120 x9 x10 D10) (And.intro rfl (And.intro rfl (And.intro rfl (And.intro rfl (And.intro rfl (And.intro rfl (And.intro rfl (And.intro rfl (trivial)))))))))
  exact A_to (hj24 (0 : Int32) (0 : Int32) (0 : Int32) D1) (And.intro rfl (And.intro rfl (And.intro rfl (And.intro rfl (And.intro rfl (And.intro rfl (And.intro rfl (And.intro rfl (trivial)))))))))
def fX4_offIf (a1 : Int32) (a2 : Int32) (a3 : Int32) (D : ADD) : Option (Int32 × ADD) := aBind (fX4_has a1 D) (fun x1 D1 => aLet (fun (x2 : Int32) (D2 : ADD) => some (x2, D2)) (fun (j24 : Int32 → ADD → Option (Int32 × ADD)) => (if x1 = 0 then j24 (0 : Int32) D1 else aIn a1 32 (aBind (fX2_off a2 a2 (D1.1 47 a1.toNatClampNeg) a3 D1) (fun x3 D3 => j24 x3 D3)))))
set_option maxHeartbeats 4000000 in
set_option maxRecDepth 100000 in
theorem mX4_offIf (l : Launch) (g : AGl) (hL : aLX g) (a1 : Int32) (a2 : Int32) (a3 : Int32) (D : ADD) : AM aVi l yX4_offIf cX4_offIf 4 (some .int) 2 g [.ref (g.1 + 43), .int a1, .int a2, .int a3] D (fX4_offIf a1 a2 a3 D) := by
  refine AM_of (lv0 := [some (.ref (g.1 + 43)), some (.int a1), some (.int a2), some (.int a3)]) (own := RX4) (by decide +kernel) rfl (Nat.le_of_ble_eq_true rfl) rfl (fun b hC => ?_)
  unfold fX4_offIf
  refine A_aload_n hC dX4_offIf_0 rfl ?_
  refine A_iload_n hC dX4_offIf_1 rfl ?_
  refine A_callVi (As := [.int a1]) (st := []) hC (fun l => mX4_has l g hL a1 D) (lX_43 hL) rfl (Nat.le_of_ble_eq_true rfl) yc_X4_53 rfl rfl ⟨by decide, by decide⟩ (Nat.le_of_ble_eq_true rfl) rfl dX4_offIf_2 (fun x1 D1 => ?_)
  refine A_join (fun (J : Int32 → ADD → Option (Int32 × ADD)) => ∀ (x2 : Int32) (D2 : ADD), AT aVi g b 24 [none, none, none, none] [.int x2] D2 (J x2 D2)) (fun x2 D2 => ?_) (fun j24 hj24 => ?_)
  · exact A_iret hC dX4_offIf_24
  refine A_if_eq (tgt := 23) hC dX4_offIf_5 (by decide) ?_ ?_
  · refine A_iconst (v := 0) hC dX4_offIf_23 (by decide) ?_
    exact A_to (hj24 (0 : Int32) D1) (trivial)
  · refine A_iload_n hC dX4_offIf_8 rfl ?_
    refine A_iload_n hC dX4_offIf_9 rfl ?_
    refine A_aload_n hC dX4_offIf_10 rfl ?_
    refine A_getr (kf := 4) hC kX4 (lX_43 hL) rfl (by decide) (by decide) rfl rfl w_248 dX4_offIf_11 ?_
    refine A_iload_n hC dX4_offIf_14 rfl ?_
    refine A_iald hC (lX_47 hL) dX4_offIf_15 ?_
    refine A_iload_n hC dX4_offIf_16 rfl ?_
    refine A_callSi (As := [.int a2, .int a2, .int (D1.1 47 a1.toNatClampNeg), .int a3]) (st := []) hC (fun l => mX2_off l g a2 a2 (D1.1 47 a1.toNatClampNeg) a3 D1) yc_X4_61 rfl rfl ⟨by decide, by decide⟩ (Nat.le_of_ble_eq_true rfl) rfl dX4_offIf_17 (fun x3 D3 => ?_)
    refine A_goto (tgt := 24) hC dX4_offIf_20 (by decide) ?_
    exact A_to (hj24 x3 D3) (trivial)
def fX4_offOf (a1 : Int32) (a2 : Int32) (D : ADD) : Option (Int32 × ADD) := aBind (fX4_has a1 D) (fun x1 D1 => aLet (fun (x2 : Int32) (D2 : ADD) => some (x2, D2)) (fun (j34 : Int32 → ADD → Option (Int32 × ADD)) => (if x1 = 0 then j34 (0 : Int32) D1 else aIn a1 32 (aIn a1 32 (aIn a1 32 (aBind (fX2_off (D1.1 44 a1.toNatClampNeg) (D1.1 45 a1.toNatClampNeg) (D1.1 47 a1.toNatClampNeg) a2 D1) (fun x3 D3 => j34 x3 D3)))))))
set_option maxHeartbeats 4000000 in
set_option maxRecDepth 100000 in
theorem mX4_offOf (l : Launch) (g : AGl) (hL : aLX g) (a1 : Int32) (a2 : Int32) (D : ADD) : AM aVi l yX4_offOf cX4_offOf 3 (some .int) 2 g [.ref (g.1 + 43), .int a1, .int a2] D (fX4_offOf a1 a2 D) := by
  refine AM_of (lv0 := [some (.ref (g.1 + 43)), some (.int a1), some (.int a2)]) (own := RX4) (by decide +kernel) rfl (Nat.le_of_ble_eq_true rfl) rfl (fun b hC => ?_)
  unfold fX4_offOf
  refine A_aload_n hC dX4_offOf_0 rfl ?_
  refine A_iload_n hC dX4_offOf_1 rfl ?_
  refine A_callVi (As := [.int a1]) (st := []) hC (fun l => mX4_has l g hL a1 D) (lX_43 hL) rfl (Nat.le_of_ble_eq_true rfl) yc_X4_53 rfl rfl ⟨by decide, by decide⟩ (Nat.le_of_ble_eq_true rfl) rfl dX4_offOf_2 (fun x1 D1 => ?_)
  refine A_join (fun (J : Int32 → ADD → Option (Int32 × ADD)) => ∀ (x2 : Int32) (D2 : ADD), AT aVi g b 34 [none, none, none] [.int x2] D2 (J x2 D2)) (fun x2 D2 => ?_) (fun j34 hj34 => ?_)
  · exact A_iret hC dX4_offOf_34
  refine A_if_eq (tgt := 33) hC dX4_offOf_5 (by decide) ?_ ?_
  · refine A_iconst (v := 0) hC dX4_offOf_33 (by decide) ?_
    exact A_to (hj34 (0 : Int32) D1) (trivial)
  · refine A_aload_n hC dX4_offOf_8 rfl ?_
    refine A_getr (kf := 1) hC kX4 (lX_43 hL) rfl (by decide) (by decide) rfl rfl w_241 dX4_offOf_9 ?_
    refine A_iload_n hC dX4_offOf_12 rfl ?_
    refine A_iald hC (lX_44 hL) dX4_offOf_13 ?_
    refine A_aload_n hC dX4_offOf_14 rfl ?_
    refine A_getr (kf := 2) hC kX4 (lX_43 hL) rfl (by decide) (by decide) rfl rfl w_244 dX4_offOf_15 ?_
    refine A_iload_n hC dX4_offOf_18 rfl ?_
    refine A_iald hC (lX_45 hL) dX4_offOf_19 ?_
    refine A_aload_n hC dX4_offOf_20 rfl ?_
    refine A_getr (kf := 4) hC kX4 (lX_43 hL) rfl (by decide) (by decide) rfl rfl w_248 dX4_offOf_21 ?_
    refine A_iload_n hC dX4_offOf_24 rfl ?_
    refine A_iald hC (lX_47 hL) dX4_offOf_25 ?_
    refine A_iload_n hC dX4_offOf_26 rfl ?_
    refine A_callSi (As := [.int (D1.1 44 a1.toNatClampNeg), .int (D1.1 45 a1.toNatClampNeg), .int (D1.1 47 a1.toNatClampNeg), .int a2]) (st := []) hC (fun l => mX2_off l g (D1.1 44 a1.toNatClampNeg) (D1.1 45 a1.toNatClampNeg) (D1.1 47 a1.toNatClampNeg) a2 D1) yc_X4_61 rfl rfl ⟨by decide, by decide⟩ (Nat.le_of_ble_eq_true rfl) rfl dX4_offOf_27 (fun x3 D3 => ?_)
    refine A_goto (tgt := 34) hC dX4_offOf_30 (by decide) ?_
    exact A_to (hj34 x3 D3) (trivial)
def fX4_shortOf (a1 : Int32) (a2 : Int32) (D : ADD) : Option (Int32 × ADD) := aBind (fX4_has a1 D) (fun x1 D1 => aLet (fun (x2 : Int32) (D2 : ADD) => some (x2, D2)) (fun (j28 : Int32 → ADD → Option (Int32 × ADD)) => (if x1 = 0 then j28 (0 : Int32) D1 else aIn a1 32 (aIn a1 32 (aBind (fX2_shortage (D1.1 45 a1.toNatClampNeg) (D1.1 47 a1.toNatClampNeg) a2 D1) (fun x3 D3 => j28 x3 D3))))))
set_option maxHeartbeats 4000000 in
set_option maxRecDepth 100000 in
theorem mX4_shortOf (l : Launch) (g : AGl) (hL : aLX g) (a1 : Int32) (a2 : Int32) (D : ADD) : AM aVi l yX4_shortOf cX4_shortOf 3 (some .int) 2 g [.ref (g.1 + 43), .int a1, .int a2] D (fX4_shortOf a1 a2 D) := by
  refine AM_of (lv0 := [some (.ref (g.1 + 43)), some (.int a1), some (.int a2)]) (own := RX4) (by decide +kernel) rfl (Nat.le_of_ble_eq_true rfl) rfl (fun b hC => ?_)
  unfold fX4_shortOf
  refine A_aload_n hC dX4_shortOf_0 rfl ?_
  refine A_iload_n hC dX4_shortOf_1 rfl ?_
  refine A_callVi (As := [.int a1]) (st := []) hC (fun l => mX4_has l g hL a1 D) (lX_43 hL) rfl (Nat.le_of_ble_eq_true rfl) yc_X4_53 rfl rfl ⟨by decide, by decide⟩ (Nat.le_of_ble_eq_true rfl) rfl dX4_shortOf_2 (fun x1 D1 => ?_)
  refine A_join (fun (J : Int32 → ADD → Option (Int32 × ADD)) => ∀ (x2 : Int32) (D2 : ADD), AT aVi g b 28 [none, none, none] [.int x2] D2 (J x2 D2)) (fun x2 D2 => ?_) (fun j28 hj28 => ?_)
  · exact A_iret hC dX4_shortOf_28
  refine A_if_eq (tgt := 27) hC dX4_shortOf_5 (by decide) ?_ ?_
  · refine A_iconst (v := 0) hC dX4_shortOf_27 (by decide) ?_
    exact A_to (hj28 (0 : Int32) D1) (trivial)
  · refine A_aload_n hC dX4_shortOf_8 rfl ?_
    refine A_getr (kf := 2) hC kX4 (lX_43 hL) rfl (by decide) (by decide) rfl rfl w_244 dX4_shortOf_9 ?_
    refine A_iload_n hC dX4_shortOf_12 rfl ?_
    refine A_iald hC (lX_45 hL) dX4_shortOf_13 ?_
    refine A_aload_n hC dX4_shortOf_14 rfl ?_
    refine A_getr (kf := 4) hC kX4 (lX_43 hL) rfl (by decide) (by decide) rfl rfl w_248 dX4_shortOf_15 ?_
    refine A_iload_n hC dX4_shortOf_18 rfl ?_
    refine A_iald hC (lX_47 hL) dX4_shortOf_19 ?_
    refine A_iload_n hC dX4_shortOf_20 rfl ?_
    refine A_callSi (As := [.int (D1.1 45 a1.toNatClampNeg), .int (D1.1 47 a1.toNatClampNeg), .int a2]) (st := []) hC (fun l => mX2_shortage l g (D1.1 45 a1.toNatClampNeg) (D1.1 47 a1.toNatClampNeg) a2 D1) yc_X4_74 rfl rfl ⟨by decide, by decide⟩ (Nat.le_of_ble_eq_true rfl) rfl dX4_shortOf_21 (fun x3 D3 => ?_)
    refine A_goto (tgt := 28) hC dX4_shortOf_24 (by decide) ?_
    exact A_to (hj28 x3 D3) (trivial)
def fX5_pass (a1 : Int32) (D : ADD) : Option (Int32 × ADD) := aBind (fX5_isSign a1 D) (fun x1 D1 => (if x1 = 0 then aBind (fX5_refuse D1) (fun x2 D3 => aZ x2 (some (x2, D3))) else aBind (fX5_advance D1) (fun _ D2 => some ((1 : Int32), D2))))
set_option maxHeartbeats 4000000 in
set_option maxRecDepth 100000 in
theorem mX5_pass (l : Launch) (g : AGl) (hL : aLX g) (a1 : Int32) (D : ADD) : AM aVi l yX5_pass cX5_pass 2 (some .boolean) 2 g [.ref (g.1 + 33), .int a1] D (fX5_pass a1 D) := by
  refine AM_of (lv0 := [some (.ref (g.1 + 33)), some (.int a1)]) (own := RX5) (by decide +kernel) rfl (Nat.le_of_ble_eq_true rfl) rfl (fun b hC => ?_)
  unfold fX5_pass
  refine A_aload_n hC dX5_pass_0 rfl ?_
  refine A_iload_n hC dX5_pass_1 rfl ?_
  refine A_callVi (As := [.int a1]) (st := []) hC (fun l => mX5_isSign l g hL a1 D) (lX_33 hL) rfl (Nat.le_of_ble_eq_true rfl) yc_X5_96 rfl rfl ⟨by decide, by decide⟩ (Nat.le_of_ble_eq_true rfl) rfl dX5_pass_2 (fun x1 D1 => ?_)
  refine A_if_ne (tgt := 13) hC dX5_pass_5 (by decide) ?_ ?_
  · refine A_aload_n hC dX5_pass_13 rfl ?_
    refine A_callVv (As := []) (st := []) hC (fun l => mX5_advance l g hL D1) (lX_33 hL) rfl (Nat.le_of_ble_eq_true rfl) yc_X5_45 rfl rfl ⟨by decide, by decide⟩ (Nat.le_of_ble_eq_true rfl) rfl dX5_pass_14 (fun _ D2 => ?_)
    refine A_iconst (v := 1) hC dX5_pass_17 (by decide) ?_
    exact A_zret hC dX5_pass_18 (Or.inr rfl)
  · refine A_aload_n hC dX5_pass_8 rfl ?_
    refine A_callVi (As := []) (st := []) hC (fun l => mX5_refuse l g hL D1) (lX_33 hL) rfl (Nat.le_of_ble_eq_true rfl) yc_X5_92 rfl rfl ⟨by decide, by decide⟩ (Nat.le_of_ble_eq_true rfl) rfl dX5_pass_9 (fun x2 D3 => ?_)
    exact A_zretc hC dX5_pass_12
def lX7_bestUnit_12 (j37 : Int32 → ADD → Option (Int32 × ADD)) (L12 : Int32 → Int32 → ADD → Option (Int32 × ADD)) (x4 : Int32) (x5 : Int32) (D2 : ADD) : Option (Int32 × ADD) := (if (D2.1 50 1) < x5 then j37 x4 D2 else aBind (fX7_compare x5 x4 D2) (fun x6 D3 => aLet (fun (x7 : Int32) (D4 : ADD) => aLet (x5 + (1 : Int32)) (fun x8 => L12 x7 x8 D4)) (fun (j31 : Int32 → ADD → Option (Int32 × ADD)) => (if x6 < 0 then j31 x4 D3 else j31 x5 D3))))
def fX7_bestUnit (D : ADD) : Option (Int32 × ADD) := aLet (D.1 50 0) (fun x1 => aLet ((D.1 50 0) + (1 : Int32)) (fun x2 => aLet (fun (x3 : Int32) (D1 : ADD) => some (x3, D1)) (fun (j37 : Int32 → ADD → Option (Int32 × ADD)) => aLet (aFix aFuel (lX7_bestUnit_12 j37) (fun _ _ _ => none)) (fun j12 => j12 x1 x2 D))))
set_option maxHeartbeats 4000000 in
set_option maxRecDepth 100000 in
theorem mX7_bestUnit (l : Launch) (g : AGl) (hL : aLX g) (D : ADD) : AM aVi l yX7_bestUnit cX7_bestUnit 3 (some .int) 2 g [.ref (g.1 + 50)] D (fX7_bestUnit D) := by
  refine AM_of (lv0 := [some (.ref (g.1 + 50)), none, none]) (own := RX7) (by decide +kernel) rfl (Nat.le_of_ble_eq_true rfl) rfl (fun b hC => ?_)
  unfold fX7_bestUnit
  refine A_aload_n hC dX7_bestUnit_0 rfl ?_
  refine A_geti (kf := 0) hC kX7 (lX_50 hL) rfl (by decide) (by decide) rfl w_272 dX7_bestUnit_1 ?_
  refine A_topi (fun x1 => ?_)
  refine A_istore_n (lv2 := [some (.ref (g.1 + 50)), some (.int x1), none]) hC dX7_bestUnit_4 (Nat.le_of_ble_eq_true rfl) rfl rfl ?_
  refine A_aload_n hC dX7_bestUnit_5 rfl ?_
  refine A_geti (kf := 0) hC kX7 (lX_50 hL) rfl (by decide) (by decide) rfl w_272 dX7_bestUnit_6 ?_
  refine A_iconst (v := 1) hC dX7_bestUnit_9 (by decide) ?_
  refine A_iadd hC dX7_bestUnit_10 ?_
  refine A_topi (fun x2 => ?_)
  refine A_istore_n (lv2 := [some (.ref (g.1 + 50)), some (.int x1), some (.int x2)]) hC dX7_bestUnit_11 (Nat.le_of_ble_eq_true rfl) rfl rfl ?_
  refine A_join (fun (J : Int32 → ADD → Option (Int32 × ADD)) => ∀ (x3 : Int32) (D1 : ADD), AT aVi g b 37 [none, some (.int x3), none] [] D1 (J x3 D1)) (fun x3 D1 => ?_) (fun j37 hj37 => ?_)
  · refine A_iload_n hC dX7_bestUnit_37 rfl ?_
    exact A_iret hC dX7_bestUnit_38
  refine A_join (fun (J : Int32 → Int32 → ADD → Option (Int32 × ADD)) => ∀ (x4 : Int32) (x5 : Int32) (D2 : ADD), AT aVi g b 12 [some (.ref (g.1 + 50)), some (.int x4), some (.int x5)] [] D2 (J x4 x5 D2)) (aFix_all (fun (J : Int32 → Int32 → ADD → Option (Int32 × ADD)) => ∀ (x4 : Int32) (x5 : Int32) (D2 : ADD), AT aVi g b 12 [some (.ref (g.1 + 50)), some (.int x4), some (.int x5)] [] D2 (J x4 x5 D2)) (fun _ _ _ => A_none) (fun L12 hL12 x4 x5 D2 => ?_) _) (fun j12 hj12 => ?_)
  · unfold lX7_bestUnit_12
    refine A_iload_n hC dX7_bestUnit_12 rfl ?_
    refine A_aload_n hC dX7_bestUnit_13 rfl ?_
    refine A_geti (kf := 1) hC kX7 (lX_50 hL) rfl (by decide) (by decide) rfl w_273 dX7_bestUnit_14 ?_
    refine A_icmp_gt (tgt := 37) hC dX7_bestUnit_17 (by decide) ?_ ?_
    · exact A_to (hj37 x4 D2) (And.intro rfl (trivial))
    · refine A_aload_n hC dX7_bestUnit_20 rfl ?_
      refine A_iload_n hC dX7_bestUnit_21 rfl ?_
      refine A_iload_n hC dX7_bestUnit_22 rfl ?_
      refine A_callVi (As := [.int x5, .int x4]) (st := []) hC (fun l => mX7_compare l g hL x5 x4 D2) (lX_50 hL) rfl (Nat.le_of_ble_eq_true rfl) yc_X7_46 rfl rfl ⟨by decide, by decide⟩ (Nat.le_of_ble_eq_true rfl) rfl dX7_bestUnit_23 (fun x6 D3 => ?_)
      refine A_join (fun (J : Int32 → ADD → Option (Int32 × ADD)) => ∀ (x7 : Int32) (D4 : ADD), AT aVi g b 31 [some (.ref (g.1 + 50)), some (.int x7), some (.int x5)] [] D4 (J x7 D4)) (fun x7 D4 => ?_) (fun j31 hj31 => ?_)
      · refine A_iincL (z := (1 : Int32)) (lv2 := fun x8 => [some (.ref (g.1 + 50)), some (.int x7), some (.int x8)]) hC dX7_bestUnit_31 rfl (by decide) (Nat.le_of_ble_eq_true rfl) rfl (fun _ => rfl) (fun x8 => ?_)
        refine A_goto (tgt := 12) hC dX7_bestUnit_34 (by decide) ?_
        exact A_to (hL12 x7 x8 D4) (And.intro rfl (And.intro rfl (And.intro rfl (trivial))))
      refine A_if_lt (tgt := 31) hC dX7_bestUnit_26 (by decide) ?_ ?_
      · exact A_to (hj31 x4 D3) (And.intro rfl (And.intro rfl (And.intro rfl (trivial))))
      · refine A_iload_n hC dX7_bestUnit_29 rfl ?_
        refine A_istore_n (lv2 := [some (.ref (g.1 + 50)), some (.int x5), some (.int x5)]) hC dX7_bestUnit_30 (Nat.le_of_ble_eq_true rfl) rfl rfl ?_
        exact A_to (hj31 x5 D3) (And.intro rfl (And.intro rfl (And.intro rfl (trivial))))
  exact A_to (hj12 x1 x2 D) (And.intro rfl (And.intro rfl (And.intro rfl (trivial))))
