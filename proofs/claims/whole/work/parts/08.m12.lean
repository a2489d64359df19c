def lX11_findProof_113 (x4 : Int32) (j138 : Int32 → ADD → Option (Unit × ADD)) (L113 : Int32 → Int32 → ADD → Option (Unit × ADD)) (x14 : Int32) (x15 : Int32) (D21 : ADD) : Option (Unit × ADD) := (if (6 : Int32) ≤ x15 then j138 x14 D21 else aLet (x14 + ((x4 >>> (x15 &&& 31)) &&& (1 : Int32))) (fun x16 => aLet (x15 + (1 : Int32)) (fun x17 => L113 x16 x17 D21)))
def lX11_findProof_33 (a1 : Int32) (j107 : Int32 → Int32 → ADD → Option (Unit × ADD)) (L33 : Int32 → Int32 → Int32 → ADD → Option (Unit × ADD)) (x18 : Int32) (x19 : Int32) (x20 : Int32) (D22 : ADD) : Option (Unit × ADD) := (if (D22.1 0 41) ≤ x20 then j107 x18 x19 D22 else aIn x20 32 (aLet (fun (x21 : Int32) (x22 : Int32) (D23 : ADD) => aLet (x20 + (1 : Int32)) (fun x23 => L33 x21 x22 x23 D23)) (fun (j101 : Int32 → Int32 → ADD → Option (Unit × ADD)) => (if (aBz (D22.1 35 x20.toNatClampNeg)) = 0 then j101 x18 x19 D22 else aBind (fX11_off x20 a1 D22) (fun x24 D24 => (if a1 < ((8 : Int32) * x24) then j101 x18 x19 D24 else aBind (fX11_f x20 (4 : Int32) D24) (fun x25 D25 => aLet (x18 ||| ((1 : Int32) <<< (x25 &&& 31))) (fun x26 => aBind (fX11_f x20 (7 : Int32) D25) (fun x27 D26 => aLet (fun (x28 : Int32) (D27 : ADD) => aLet (x19 + x28) (fun x29 => j101 x26 x29 D27)) (fun (j98 : Int32 → ADD → Option (Unit × ADD)) => (if x27 ≤ 0 then j98 (0 : Int32) D26 else j98 (1 : Int32) D26)))))))))))
def fX11_findProof (a1 : Int32) (a2 : Int32) (a3 : Int32) (D : ADD) : Option (Unit × ADD) := aBind (fX11_those D) (fun x1 D1 => aBind (fX11_chanceOf a1 D1) (fun x2 D2 => aLet (x2 * ((a3 - a2) + (1 : Int32)).toInt64) (fun x3 => aLet (fun (x4 : Int32) (x5 : Int32) (D3 : ADD) => aLet (fun (x6 : Int32) (D4 : ADD) => aBind (fX11_findScores a2 a3 D4) (fun _ D5 => aIn (0 : Int32) 8 (aLet (aSI D5 30 (0 : Int32).toNatClampNeg x1) (fun D6 => aBind (fX11_nearOf a1 D6) (fun x7 D7 => aIn (1 : Int32) 8 (aLet (aSI D7 30 (1 : Int32).toNatClampNeg x7) (fun D8 => aLet (fun (x8 : Int32) (D9 : ADD) => aIn (2 : Int32) 8 (aLet (aSI D9 30 (2 : Int32).toNatClampNeg x8) (fun D10 => aBind (fX11_thousands x2 D10) (fun x9 D11 => aIn (3 : Int32) 8 (aLet (aSI D11 30 (3 : Int32).toNatClampNeg x9) (fun D12 => aLet (fun (x10 : Int64) (D13 : ADD) => aBind (fX11_thousands x10 D13) (fun x11 D14 => aIn (4 : Int32) 8 (aLet (aSI D14 30 (4 : Int32).toNatClampNeg x11) (fun D15 => aLet (fun (x12 : Int32) (D16 : ADD) => aIn (5 : Int32) 8 (aLet (aSI D16 30 (5 : Int32).toNatClampNeg x12) (fun D17 => aIn (6 : Int32) 8 (aLet (aSI D17 30 (6 : Int32).toNatClampNeg x6) (fun D18 => aIn (7 : Int32) 8 (aLet (aSI D18 30 (7 : Int32).toNatClampNeg x5) (fun D19 => some ((), D19)))))))) (fun (j259 : Int32 → ADD → Option (Unit × ADD)) => (if x1 = 0 then j259 (9999 : Int32) D15 else aBind (fX11_placeOf a2 a3 a1 D15) (fun x13 D20 => j259 x13 D20))))))) (fun (j232 : Int64 → ADD → Option (Unit × ADD)) => (if (aCmp x3 (1000000000 : Int64)) ≤ 0 then j232 x3 D12 else j232 (1000000000 : Int64) D12)))))))) (fun (j198 : Int32 → ADD → Option (Unit × ADD)) => (if x1 = 0 then j198 (0 : Int32) D8 else aIn (a1 - a2) 301 (aNZl (a1.toInt64 * x1.toInt64) (j198 (((1000 : Int64) * (D8.1 36 (a1 - a2).toNatClampNeg).toInt64) / (a1.toInt64 * x1.toInt64)).toInt32 D8))))))))))) (fun (j138 : Int32 → ADD → Option (Unit × ADD)) => aLet (aFix aFuel (lX11_findProof_113 x4 j138) (fun _ _ _ => none)) (fun j113 => j113 (0 : Int32) (0 : Int32) D3))) (fun (j107 : Int32 → Int32 → ADD → Option (Unit × ADD)) => aLet (aFix aFuel (lX11_findProof_33 a1 j107) (fun _ _ _ _ => none)) (fun j33 => j33 (0 : Int32) (0 : Int32) (0 : Int32) D2)))))
set_option maxHeartbeats 4000000 in
set_option maxRecDepth 100000 in
theorem mX11_findProof (l : Launch) (g : AGl) (hL : aLM g) (a1 : Int32) (a2 : Int32) (a3 : Int32) (D : ADD) : AM aVv l yX11_findProof cX11_findProof 13 none 5 g [.ref (g.1 + 0), .int a1, .int a2, .int a3] D (fX11_findProof a1 a2 a3 D) := by
  refine AM_of (lv0 := [some (.ref (g.1 + 0)), some (.int a1), some (.int a2), some (.int a3), none, none, none, none, none, none, none, none, none]) (own := RX11) (by decide +kernel) rfl (Nat.le_of_ble_eq_true rfl) rfl (fun b hC => ?_)
  unfold fX11_findProof
  refine A_aload_n hC dX11_findProof_0 rfl ?_
  refine A_callVi (As := []) (st := []) hC (fun l => mX11_those l g hL D) (lM_0 hL) rfl (Nat.le_of_ble_eq_true rfl) yc_X11_344 rfl rfl ⟨by decide, by decide⟩ (Nat.le_of_ble_eq_true rfl) rfl dX11_findProof_1 (fun x1 D1 => ?_)
  refine A_istore (lv2 := [some (.ref (g.1 + 0)), some (.int a1), some (.int a2), some (.int a3), some (.int x1), none, none, none, none, none, none, none, none]) hC dX11_findProof_4 (Nat.le_of_ble_eq_true rfl) rfl rfl ?_
  refine A_aload_n hC dX11_findProof_6 rfl ?_
  refine A_iload_n hC dX11_findProof_7 rfl ?_
  refine A_callVl (As := [.int a1]) (st := []) hC (fun l => mX11_chanceOf l g hL a1 D1) (lM_0 hL) rfl (Nat.le_of_ble_eq_true rfl) yc_X11_380 rfl rfl ⟨by decide, by decide⟩ (Nat.le_of_ble_eq_true rfl) rfl dX11_findProof_8 (fun x2 D2 => ?_)
  refine A_lstore (lv2 := [some (.ref (g.1 + 0)), some (.int a1), some (.int a2), some (.int a3), some (.int x1), some (.long x2), none, none, none, none, none, none, none]) hC dX11_findProof_11 (Nat.le_of_ble_eq_true rfl) rfl rfl ?_
  refine A_lload hC dX11_findProof_13 rfl ?_
  refine A_iload_n hC dX11_findProof_15 rfl ?_
  refine A_iload_n hC dX11_findProof_16 rfl ?_
  refine A_isub hC dX11_findProof_17 ?_
  refine A_iconst (v := 1) hC dX11_findProof_18 (by decide) ?_
  refine A_iadd hC dX11_findProof_19 ?_
  refine A_i2l hC dX11_findProof_20 ?_
  refine A_lmul hC dX11_findProof_21 ?_
  refine A_topl (fun x3 => ?_)
  refine A_lstore (lv2 := [some (.ref (g.1 + 0)), some (.int a1), some (.int a2), some (.int a3), some (.int x1), some (.long x2), none, some (.long x3), none, none, none, none, none]) hC dX11_findProof_22 (Nat.le_of_ble_eq_true rfl) rfl rfl ?_
  refine A_iconst (v := 0) hC dX11_findProof_24 (by decide) ?_
  refine A_istore (lv2 := [some (.ref (g.1 + 0)), some (.int a1), some (.int a2), some (.int a3), some (.int x1), some (.long x2), none, some (.long x3), none, some (.int (0 : Int32)), none, none, none]) hC dX11_findProof_25 (Nat.le_of_ble_eq_true rfl) rfl rfl ?_
  refine A_iconst (v := 0) hC dX11_findProof_27 (by decide) ?_
  refine A_istore (lv2 := [some (.ref (g.1 + 0)), some (.int a1), some (.int a2), some (.int a3), some (.int x1), some (.long x2), none, some (.long x3), none, some (.int (0 : Int32)), some (.int (0 : Int32)), none, none]) hC dX11_findProof_28 (Nat.le_of_ble_eq_true rfl) rfl rfl ?_
  refine A_iconst (v := 0) hC dX11_findProof_30 (by decide) ?_
  refine A_istore (lv2 := [some (.ref (g.1 + 0)), some (.int a1), some (.int a2), some (.int a3), some (.int x1), some (.long x2), none, some (.long x3), none, some (.int (0 : Int32)), some (.int (0 : Int32)), some (.int (0 : Int32)), none]) hC dX11_findProof_31 (Nat.le_of_ble_eq_true rfl) rfl rfl ?_
  refine A_join (fun (J : Int32 → Int32 → ADD → Option (Unit × ADD)) => ∀ (x4 : Int32) (x5 : Int32) (D3 : ADD), AT aVv g b 107 [some (.ref (g.1 + 0)), some (.int a1), some (.int a2), some (.int a3), some (.int x1), some (.long x2), none, some (.long x3), none, some (.int x4), some (.int x5), none, none] [] D3 (J x4 x5 D3)) (fun x4 x5 D3 => ?_) (fun j107 hj107 => ?_)
  · refine A_iconst (v := 0) hC dX11_findProof_107 (by decide) ?_
    refine A_istore (lv2 := [some (.ref (g.1 + 0)), some (.int a1), some (.int a2), some (.int a3), some (.int x1), some (.long x2), none, some (.long x3), none, some (.int x4), some (.int x5), some (.int (0 : Int32)), none]) hC dX11_findProof_108 (Nat.le_of_ble_eq_true rfl) rfl rfl ?_
    refine A_iconst (v := 0) hC dX11_findProof_110 (by decide) ?_
    refine A_istore (lv2 := [some (.ref (g.1 + 0)), some (.int a1), some (.int a2), some (.int a3), some (.int x1), some (.long x2), none, some (.long x3), none, some (.int x4), some (.int x5), some (.int (0 : Int32)), some (.int (0 : Int32))]) hC dX11_findProof_111 (Nat.le_of_ble_eq_true rfl) rfl rfl ?_
    refine A_join (fun (J : Int32 → ADD → Option (Unit × ADD)) => ∀ (x6 : Int32) (D4 : ADD), AT aVv g b 138 [some (.ref (g.1 + 0)), some (.int a1), some (.int a2), some (.int a3), some (.int x1), some (.long x2), none, some (.long x3), none, none, some (.int x5), some (.int x6), none] [] D4 (J x6 D4)) (fun x6 D4 => ?_) (fun j138 hj138 => ?_)
    · refine A_aload_n hC dX11_findProof_138 rfl ?_
      refine A_iload_n hC dX11_findProof_139 rfl ?_
      refine A_iload_n hC dX11_findProof_140 rfl ?_
      refine A_callVv (As := [.int a2, .int a3]) (st := []) hC (fun l => mX11_findScores l g hL a2 a3 D4) (lM_0 hL) rfl (Nat.le_of_ble_eq_true rfl) yc_X11_333 rfl rfl ⟨by decide, by decide⟩ (Nat.le_of_ble_eq_true rfl) rfl dX11_findProof_141 (fun _ D5 => ?_)
      refine A_aload_n hC dX11_findProof_144 rfl ?_
      refine A_getr (kf := 40) hC kX11 (lM_0 hL) rfl (by decide) (by decide) rfl rfl w_1043 dX11_findProof_145 ?_
      refine A_iconst (v := 0) hC dX11_findProof_148 (by decide) ?_
      refine A_iload hC dX11_findProof_149 rfl ?_
      refine A_iast hC (lM_30 hL) dX11_findProof_151 (fun D6 => ?_)
      refine A_aload_n hC dX11_findProof_152 rfl ?_
      refine A_getr (kf := 40) hC kX11 (lM_0 hL) rfl (by decide) (by decide) rfl rfl w_1043 dX11_findProof_153 ?_
      refine A_iconst (v := 1) hC dX11_findProof_156 (by decide) ?_
      refine A_aload_n hC dX11_findProof_157 rfl ?_
      refine A_iload_n hC dX11_findProof_158 rfl ?_
      refine A_callVi (As := [.int a1]) (st := [.int (1 : Int32), .ref (g.1 + 30)]) hC (fun l => mX11_nearOf l g hL a1 D6) (lM_0 hL) rfl (Nat.le_of_ble_eq_true rfl) yc_X11_373 rfl rfl ⟨by decide, by decide⟩ (Nat.le_of_ble_eq_true rfl) rfl dX11_findProof_159 (fun x7 D7 => ?_)
      refine A_iast hC (lM_30 hL) dX11_findProof_162 (fun D8 => ?_)
      refine A_aload_n hC dX11_findProof_163 rfl ?_
      refine A_getr (kf := 40) hC kX11 (lM_0 hL) rfl (by decide) (by decide) rfl rfl w_1043 dX11_findProof_164 ?_
      refine A_iconst (v := 2) hC dX11_findProof_167 (by decide) ?_
      refine A_iload hC dX11_findProof_168 rfl ?_
      refine A_join (fun (J : Int32 → ADD → Option (Unit × ADD)) => ∀ (x8 : Int32) (D9 : ADD), AT aVv g b 198 [some (.ref (g.1 + 0)), some (.int a1), some (.int a2), some (.int a3), some (.int x1), some (.long x2), none, some (.long x3), none, none, some (.int x5), some (.int x6), none] [.int x8, .int (2 : Int32), .ref (g.1 + 30)] D9 (J x8 D9)) (fun x8 D9 => ?_) (fun j198 hj198 => ?_)
      · refine A_iast hC (lM_30 hL) dX11_findProof_198 (fun D10 => ?_)
        refine A_aload_n hC dX11_findProof_199 rfl ?_
        refine A_getr (kf := 40) hC kX11 (lM_0 hL) rfl (by decide) (by decide) rfl rfl w_1043 dX11_findProof_200 ?_
        refine A_iconst (v := 3) hC dX11_findProof_203 (by decide) ?_
        refine A_lload hC dX11_findProof_204 rfl ?_
        refine A_callSi (As := [.long x2]) (st := [.int (3 : Int32), .ref (g.1 + 30)]) hC (fun l => mX11_thousands l g x2 D10) yc_X11_387 rfl rfl ⟨by decide, by decide⟩ (Nat.le_of_ble_eq_true rfl) rfl dX11_findProof_206 (fun x9 D11 => ?_)
        refine A_iast hC (lM_30 hL) dX11_findProof_209 (fun D12 => ?_)
        refine A_aload_n hC dX11_findProof_210 rfl ?_
        refine A_getr (kf := 40) hC kX11 (lM_0 hL) rfl (by decide) (by decide) rfl rfl w_1043 dX11_findProof_211 ?_
        refine A_iconst (v := 4) hC dX11_findProof_214 (by decide) ?_
        refine A_lload hC dX11_findProof_215 rfl ?_
        refine A_ldc2 hC dX11_findProof_217 w_1421 ?_
        refine A_lcmp hC dX11_findProof_220 ?_
        refine A_join (fun (J : Int64 → ADD → Option (Unit × ADD)) => ∀ (x10 : Int64) (D13 : ADD), AT aVv g b 232 [some (.ref (g.1 + 0)), some (.int a1), some (.int a2), some (.int a3), some (.int x1), none, none, none, none, none, some (.int x5), some (.int x6), none] [.long x10, .int (4 : Int32), .ref (g.1 + 30)] D13 (J x10 D13)) (fun x10 D13 => ?_) (fun j232 hj232 => ?_)
        · refine A_callSi (As := [.long x10]) (st := [.int (4 : Int32), .ref (g.1 + 30)]) hC (fun l => mX11_thousands l g x10 D13) yc_X11_387 rfl rfl ⟨by decide, by decide⟩ (Nat.le_of_ble_eq_true rfl) rfl dX11_findProof_232 (fun x11 D14 => ?_)
          refine A_iast hC (lM_30 hL) dX11_findProof_235 (fun D15 => ?_)
          refine A_aload_n hC dX11_findProof_236 rfl ?_
          refine A_getr (kf := 40) hC kX11 (lM_0 hL) rfl (by decide) (by decide) rfl rfl w_1043 dX11_findProof_237 ?_
          refine A_iconst (v := 5) hC dX11_findProof_240 (by decide) ?_
          refine A_iload hC dX11_findProof_241 rfl ?_
          refine A_join (fun (J : Int32 → ADD → Option (Unit × ADD)) => ∀ (x12 : Int32) (D16 : ADD), AT aVv g b 259 [some (.ref (g.1 + 0)), none, none, none, none, none, none, none, none, none, some (.int x5), some (.int x6), none] [.int x12, .int (5 : Int32), .ref (g.1 + 30)] D16 (J x12 D16)) (fun x12 D16 => ?_) (fun j259 hj259 => ?_)
          · refine A_iast hC (lM_30 hL) dX11_findProof_259 (fun D17 => ?_)
            refine A_aload_n hC dX11_findProof_260 rfl ?_
            refine A_getr (kf := 40) hC kX11 (lM_0 hL) rfl (by decide) (by decide) rfl rfl w_1043 dX11_findProof_261 ?_
            refine A_bipush (v := 6) hC dX11_findProof_264 (by decide) ?_
            refine A_iload hC dX11_findProof_266 rfl ?_
            refine A_iast hC (lM_30 hL) dX11_findProof_268 (fun D18 => ?_)
            refine A_aload_n hC dX11_findProof_269 rfl ?_
            refine A_getr (kf := 40) hC kX11 (lM_0 hL) rfl (by decide) (by decide) rfl rfl w_1043 dX11_findProof_270 ?_
            refine A_bipush (v := 7) hC dX11_findProof_273 (by decide) ?_
            refine A_iload hC dX11_findProof_275 rfl ?_
            refine A_iast hC (lM_30 hL) dX11_findProof_277 (fun D19 => ?_)
            exact A_vret hC dX11_findProof_278
          refine A_if_ne (tgt := 252) hC dX11_findProof_243 (by decide) ?_ ?_
          · refine A_aload_n hC dX11_findProof_252 rfl ?_
            refine A_iload_n hC dX11_findProof_253 rfl ?_
            refine A_iload_n hC dX11_findProof_254 rfl ?_
            refine A_iload_n hC dX11_findProof_255 rfl ?_
            refine A_callVi (As := [.int a2, .int a3, .int a1]) (st := [.int (5 : Int32), .ref (g.1 + 30)]) hC (fun l => mX11_placeOf l g hL a2 a3 a1 D15) (lM_0 hL) rfl (Nat.le_of_ble_eq_true rfl) yc_X11_353 rfl rfl ⟨by decide, by decide⟩ (Nat.le_of_ble_eq_true rfl) rfl dX11_findProof_256 (fun x13 D20 => ?_)
            exact A_to (hj259 x13 D20) (And.intro rfl (And.intro rfl (And.intro rfl (trivial))))
          · refine A_sipush (v := 9999) hC dX11_findProof_246 (by decide) ?_
            refine A_goto (tgt := 259) hC dX11_findProof_249 (by decide) ?_
            exact A_to (hj259 (9999 : Int32) D15) (And.intro rfl (And.intro rfl (And.intro rfl (trivial))))
        refine A_if_le (tgt := 230) hC dX11_findProof_221 (by decide) ?_ ?_
        · refine A_lload hC dX11_findProof_230 rfl ?_
          exact A_to (hj232 x3 D12) (And.intro rfl (And.intro rfl (And.intro rfl (And.intro rfl (And.intro rfl (And.intro rfl (And.intro rfl (trivial))))))))
        · refine A_ldc2 hC dX11_findProof_224 w_1421 ?_
          refine A_goto (tgt := 232) hC dX11_findProof_227 (by decide) ?_
          exact A_to (hj232 (1000000000 : Int64) D12) (And.intro rfl (And.intro rfl (And.intro rfl (And.intro rfl (And.intro rfl (And.intro rfl (And.intro rfl (trivial))))))))
      refine A_if_ne (tgt := 177) hC dX11_findProof_170 (by decide) ?_ ?_
      · refine A_ldc2 hC dX11_findProof_177 w_1445 ?_
        refine A_aload_n hC dX11_findProof_180 rfl ?_
        refine A_getr (kf := 47) hC kX11 (lM_0 hL) rfl (by decide) (by decide) rfl rfl w_1050 dX11_findProof_181 ?_
        refine A_iload_n hC dX11_findProof_184 rfl ?_
        refine A_iload_n hC dX11_findProof_185 rfl ?_
        refine A_isub hC dX11_findProof_186 ?_
        refine A_iald hC (lM_36 hL) dX11_findProof_187 ?_
        refine A_i2l hC dX11_findProof_188 ?_
        refine A_lmul hC dX11_findProof_189 ?_
        refine A_iload_n hC dX11_findProof_190 rfl ?_
        refine A_i2l hC dX11_findProof_191 ?_
        refine A_iload hC dX11_findProof_192 rfl ?_
        refine A_i2l hC dX11_findProof_194 ?_
        refine A_lmul hC dX11_findProof_195 ?_
        refine A_ldiv hC dX11_findProof_196 ?_
        refine A_l2i hC dX11_findProof_197 ?_
        exact A_to (hj198 (((1000 : Int64) * (D8.1 36 (a1 - a2).toNatClampNeg).toInt64) / (a1.toInt64 * x1.toInt64)).toInt32 D8) (And.intro rfl (And.intro rfl (And.intro rfl (And.intro rfl (And.intro rfl (And.intro rfl (And.intro rfl (And.intro rfl (And.intro rfl (trivial))))))))))
      · refine A_iconst (v := 0) hC dX11_findProof_173 (by decide) ?_
        refine A_goto (tgt := 198) hC dX11_findProof_174 (by decide) ?_
        exact A_to (hj198 (0 : Int32) D8) (And.intro rfl (And.intro rfl (And.intro rfl (And.intro rfl (And.intro rfl (And.intro rfl (And.intro rfl (And.intro rfl (And.intro rfl (trivial))))))))))
    refine A_join (fun (J : Int32 → Int32 → ADD → Option (Unit × ADD)) => ∀ (x14 : Int32) (x15 : Int32) (D21 : ADD), AT aVv g b 113 [some (.ref (g.1 + 0)), some (.int a1), some (.int a2), some (.int a3), some (.int x1), some (.long x2), none, some (.long x3), none, some (.int x4), some (.int x5), some (.int x14), some (.int x15)] [] D21 (J x14 x15 D21)) (aFix_all (fun (J : Int32 → Int32 → ADD → Option (Unit × ADD)) => ∀ (x14 : Int32) (x15 : Int32) (D21 : ADD), AT aVv g b 113 [some (.ref (g.1 + 0)), some (.int a1), some (.int a2), some (.int a3), some (.int x1), some (.long x2), none, some (.long x3), none, some (.int x4), some (.int x5), some (.int x14), some (.int x15)] [] D21 (J x14 x15 D21)) (fun _ _ _ => A_none) (fun L113 hL113 x14 x15 D21 => ?_) _) (fun j113 hj113 => ?_)
    · unfold lX11_findProof_113
      refine A_iload hC dX11_findProof_113 rfl ?_
      refine A_bipush (v := 6) hC dX11_findProof_115 (by decide) ?_
      refine A_icmp_ge (tgt := 138) hC dX11_findProof_117 (by decide) ?_ ?_
      · exact A_to (hj138 x14 D21) (And.intro rfl (And.intro rfl (And.intro rfl (And.intro rfl (And.intro rfl (And.intro rfl (And.intro rfl (And.intro rfl (And.intro rfl (trivial))))))))))
      · refine A_iload hC dX11_findProof_120 rfl ?_
        refine A_iload hC dX11_findProof_122 rfl ?_
        refine A_iload hC dX11_findProof_124 rfl ?_
        refine A_ishr hC dX11_findProof_126 ?_
        refine A_iconst (v := 1) hC dX11_findProof_127 (by decide) ?_
        refine A_iand hC dX11_findProof_128 ?_
        refine A_iadd hC dX11_findProof_129 ?_
        refine A_topi (fun x16 => ?_)
        refine A_istore (lv2 := [some (.ref (g.1 + 0)), some (.int a1), some (.int a2), some (.int a3), some (.int x1), some (.long x2), none, some (.long x3), none, some (.int x4), some (.int x5), some (.int x16), some (.int x15)]) hC dX11_findProof_130 (Nat.le_of_ble_eq_true rfl) rfl rfl ?_
        refine A_iincL (z := (1 : Int32)) (lv2 := fun x17 => [some (.ref (g.1 + 0)), some (.int a1), some (.int a2), some (.int a3), some (.int x1), some (.long x2), none, some (.long x3), none, some (.int x4), some (.int x5), some (.int x16), some (.int x17)]) hC dX11_findProof_132 rfl (by decide) (Nat.le_of_ble_eq_true rfl) rfl (fun _ => rfl) (fun x17 => ?_)
        refine A_goto (tgt := 113) hC dX11_findProof_135 (by decide) ?_
        exact A_to (hL113 x16 x17 D21) (And.intro rfl (And.intro rfl (And.intro rfl (And.intro rfl (And.intro rfl (And.intro rfl (And.intro rfl (And.intro rfl (And.intro rfl (And.intro rfl (And.intro rfl (trivial))))))))))))
    exact A_to (hj113 (0 : Int32) (0 : Int32) D3) (And.intro rfl (And.intro rfl (And.intro rfl (And.intro rfl (And.intro rfl (And.intro rfl (And.intro rfl (And.intro rfl (And.intro rfl (And.intro rfl (And.intro rfl (trivial))))))))))))
  refine A_join (fun (J : Int32 → Int32 → Int32 → ADD → Option (Unit × ADD)) => ∀ (x18 : Int32) (x19 : Int32) (x20 : Int32) (D22 : ADD), AT aVv g b 33 [some (.ref (g.1 + 0)), some (.int a1), some (.int a2), some (.int a3), some (.int x1), some (.long x2), none, some (.long x3), none, some (.int x18), some (.int x19), some (.int x20), none] [] D22 (J x18 x19 x20 D22)) (aFix_all (fun (J : Int32 → Int32 → Int32 → ADD → Option (Unit × ADD)) => ∀ (x18 : Int32) (x19 : Int32) (x20 : Int32) (D22 : ADD), AT aVv g b 33 [some (.ref (g.1 + 0)), some (.int a1), some (.int a2), some (.int a3), some (.int x1), some (.long x2), none, some (.long x3), none, some (.int x18), some (.int x19), some (.int x20), none] [] D22 (J x18 x19 x20 D22)) (fun _ _ _ _ => A_none) (fun L33 hL33 x18 x19 x20 D22 => ?_) _) (fun j33 hj33 => ?_)
  · unfold lX11_findProof_33
    refine A_iload hC dX11_findProof_33 rfl ?_
    refine A_aload_n hC dX11_findProof_35 rfl ?_
    refine A_geti (kf := 41) hC kX11 (lM_0 hL) rfl (by decide) (by decide) rfl w_1044 dX11_findProof_36 ?_
    refine A_icmp_ge (tgt := 107) hC dX11_findProof_39 (by decide) ?_ ?_
    · exact A_to (hj107 x18 x19 D22) (And.intro rfl (And.intro rfl (And.intro rfl (And.intro rfl (And.intro rfl (And.intro rfl (And.intro rfl (And.intro rfl (And.intro rfl (trivial))))))))))
    · refine A_aload_n hC dX11_findProof_42 rfl ?_
      refine A_getr (kf := 46) hC kX11 (lM_0 hL) rfl (by decide) (by decide) rfl rfl w_1049 dX11_findProof_43 ?_
      refine A_iload hC dX11_findProof_46 rfl ?_
      refine A_zald hC (lM_35 hL) dX11_findProof_48 ?_
      refine A_join (fun (J : Int32 → Int32 → ADD → Option (Unit × ADD)) => ∀ (x21 : Int32) (x22 : Int32) (D23 : ADD), AT aVv g b 101 [some (.ref (g.1 + 0)), some (.int a1), some (.int a2), some (.int a3), some (.int x1), some (.long x2), none, some (.long x3), none, some (.int x21), some (.int x22), some (.int x20), none] [] D23 (J x21 x22 D23)) (fun x21 x22 D23 => ?_) (fun j101 hj101 => ?_)
      · refine A_iincL (z := (1 : Int32)) (lv2 := fun x23 => [some (.ref (g.1 + 0)), some (.int a1), some (.int a2), some (.int a3), some (.int x1), some (.long x2), none, some (.long x3), none, some (.int x21), some (.int x22), some (.int x23), none]) hC dX11_findProof_101 rfl (by decide) (Nat.le_of_ble_eq_true rfl) rfl (fun _ => rfl) (fun x23 => ?_)
        refine A_goto (tgt := 33) hC dX11_findProof_104 (by decide) ?_
        exact A_to (hL33 x21 x22 x23 D23) (And.intro rfl (And.intro rfl (And.intro rfl (And.intro rfl (And.intro rfl (And.intro rfl (And.intro rfl (And.intro rfl (And.intro rfl (And.intro rfl (trivial)))))))))))
      refine A_if_eq (tgt := 101) hC dX11_findProof_49 (by decide) ?_ ?_
      · exact A_to (hj101 x18 x19 D22) (And.intro rfl (And.intro rfl (And.intro rfl (And.intro rfl (And.intro rfl (And.intro rfl (And.intro rfl (And.intro rfl (And.intro rfl (And.intro rfl (trivial)))))))))))
      · refine A_bipush (v := 8) hC dX11_findProof_52 (by decide) ?_
        refine A_aload_n hC dX11_findProof_54 rfl ?_
        refine A_iload hC dX11_findProof_55 rfl ?_
        refine A_iload_n hC dX11_findProof_57 rfl ?_
        refine A_callVi (As := [.int x20, .int a1]) (st := [.int (8 : Int32)]) hC (fun l => mX11_off l g hL x20 a1 D22) (lM_0 hL) rfl (Nat.le_of_ble_eq_true rfl) yc_X11_323 rfl rfl ⟨by decide, by decide⟩ (Nat.le_of_ble_eq_true rfl) rfl dX11_findProof_58 (fun x24 D24 => ?_)
        refine A_imul hC dX11_findProof_61 ?_
        refine A_iload_n hC dX11_findProof_62 rfl ?_
        refine A_icmp_gt (tgt := 101) hC dX11_findProof_63 (by decide) ?_ ?_
        · exact A_to (hj101 x18 x19 D24) (And.intro rfl (And.intro rfl (And.intro rfl (And.intro rfl (And.intro rfl (And.intro rfl (And.intro rfl (And.intro rfl (And.intro rfl (And.intro rfl (trivial)))))))))))
        · refine A_iload hC dX11_findProof_66 rfl ?_
          refine A_iconst (v := 1) hC dX11_findProof_68 (by decide) ?_
          refine A_aload_n hC dX11_findProof_69 rfl ?_
          refine A_iload hC dX11_findProof_70 rfl ?_
          refine A_iconst (v := 4) hC dX11_findProof_72 (by decide) ?_
          refine A_callVi (As := [.int x20, .int (4 : Int32)]) (st := [.int (1 : Int32), .int x18]) hC (fun l => mX11_f l g hL x20 (4 : Int32) D24) (lM_0 hL) rfl (Nat.le_of_ble_eq_true rfl) yc_X11_291 rfl rfl ⟨by decide, by decide⟩ (Nat.le_of_ble_eq_true rfl) rfl dX11_findProof_73 (fun x25 D25 => ?_)
          refine A_ishl hC dX11_findProof_76 ?_
          refine A_ior hC dX11_findProof_77 ?_
          refine A_topi (fun x26 => ?_)
          refine A_istore (lv2 := [some (.ref (g.1 + 0)), some (.int a1), some (.int a2), some (.int a3), some (.int x1), some (.long x2), none, some (.long x3), none, some (.int x26), some (.int x19), some (.int x20), none]) hC dX11_findProof_78 (Nat.le_of_ble_eq_true rfl) rfl rfl ?_
          refine A_iload hC dX11_findProof_80 rfl ?_
          refine A_aload_n hC dX11_findProof_82 rfl ?_
          refine A_iload hC dX11_findProof_83 rfl ?_
          refine A_bipush (v := 7) hC dX11_findProof_85 (by decide) ?_
          refine A_callVi (As := [.int x20, .int (7 : Int32)]) (st := [.int x19]) hC (fun l => mX11_f l g hL x20 (7 : Int32) D25) (lM_0 hL) rfl (Nat.le_of_ble_eq_true rfl) yc_X11_291 rfl rfl ⟨by decide, by decide⟩ (Nat.le_of_ble_eq_true rfl) rfl dX11_findProof_87 (fun x27 D26 => ?_)
          refine A_join (fun (J : Int32 → ADD → Option (Unit × ADD)) => ∀ (x28 : Int32) (D27 : ADD), AT aVv g b 98 [some (.ref (g.1 + 0)), some (.int a1), some (.int a2), some (.int a3), some (.int x1), some (.long x2), none, some (.long x3), none, some (.int x26), none, some (.int x20), none] [.int x28, .int x19] D27 (J x28 D27)) (fun x28 D27 => ?_) (fun j98 hj98 => ?_)
          · refine A_iadd hC dX11_findProof_98 ?_
            refine A_topi (fun x29 => ?_)
            refine A_istore (lv2 := [some (.ref (g.1 + 0)), some (.int a1), some (.int a2), some (.int a3), some (.int x1), some (.long x2), none, some (.long x3), none, some (.int x26), some (.int x29), some (.int x20), none]) hC dX11_findProof_99 (Nat.le_of_ble_eq_true rfl) rfl rfl ?_
            exact A_to (hj101 x26 x29 D27) (And.intro rfl (And.intro rfl (And.intro rfl (And.intro rfl (And.intro rfl (And.intro rfl (And.intro rfl (And.intro rfl (And.intro rfl (And.intro rfl (trivial)))))))))))
          refine A_if_le (tgt := 97) hC dX11_findProof_90 (by decide) ?_ ?_
          · refine A_iconst (v := 0) hC dX11_findProof_97 (by decide) ?_
            exact A_to (hj98 (0 : Int32) D26) (And.intro rfl (And.intro rfl (And.intro rfl (And.intro rfl (And.intro rfl (And.intro rfl (And.intro rfl (And.intro rfl (And.intro rfl (trivial))))))))))
          · refine A_iconst (v := 1) hC dX11_findProof_93 (by decide) ?_
            refine A_goto (tgt := 98) hC dX11_findProof_94 (by decide) ?_
            exact A_to (hj98 (1 : Int32) D26) (And.intro rfl (And.intro rfl (And.intro rfl (And.intro rfl (And.intro rfl (And.intro rfl (And.intro rfl (And.intro rfl (And.intro rfl (trivial))))))))))
  exact A_to (hj33 (0 : Int32) (0 : Int32) (0 : Int32) D2) (And.intro rfl (And.intro rfl (And.intro rfl (And.intro rfl (And.intro rfl (And.intro rfl (And.intro rfl (And.intro rfl (And.intro rfl (And.intro rfl (trivial)))))))))))
def lX11_peak_48 (a1 : Int32) (a2 : Int32) (a3 : Int32) (j75 : ADD → Option (Int32 × ADD)) (L48 : Int32 → ADD → Option (Int32 × ADD)) (x4 : Int32) (D9 : ADD) : Option (Int32 × ADD) := (if a2 < x4 then j75 D9 else aBind (fX11_placeOf a1 a2 x4 D9) (fun x5 D10 => (if x5 = a3 then some (x4, D10) else aLet (x4 + (1 : Int32)) (fun x6 => L48 x6 D10))))
def fX11_peak (a1 : Int32) (a2 : Int32) (a3 : Int32) (D : ADD) : Option (Int32 × ADD) := aLet (aSI D 0 0 (0 : Int32)) (fun D1 => aBind (fX11_areUnits a1 a2 D1) (fun x1 D2 => (if x1 = 0 then some ((-1 : Int32), D2) else aBind (fX11_look D2) (fun _ D3 => aBind (fX11_those D3) (fun x2 D4 => aLet (fun (D5 : ADD) => some ((-1 : Int32), D5)) (fun (j37 : ADD → Option (Int32 × ADD)) => (if x2 = 0 then j37 D4 else aBind (fX11_is a3 (0 : Int32) (a2 - a1) D4) (fun x3 D6 => (if x3 = 0 then j37 D6 else aBind (fX11_findScores a1 a2 D6) (fun _ D7 => aLet (fun (D8 : ADD) => some ((-1 : Int32), D8)) (fun (j75 : ADD → Option (Int32 × ADD)) => aLet (aFix aFuel (lX11_peak_48 a1 a2 a3 j75) (fun _ _ => none)) (fun j48 => j48 a1 D7))))))))))))
set_option maxHeartbeats 4000000 in
set_option maxRecDepth 100000 in
theorem mX11_peak (l : Launch) (g : AGl) (hL : aLM g) (a1 : Int32) (a2 : Int32) (a3 : Int32) (D : ADD) : AM aVi l yX11_peak cX11_peak 5 (some .int) 5 g [.ref (g.1 + 0), .int a1, .int a2, .int a3] D (fX11_peak a1 a2 a3 D) := by
  refine AM_of (lv0 := [some (.ref (g.1 + 0)), some (.int a1), some (.int a2), some (.int a3), none]) (own := RX11) (by decide +kernel) rfl (Nat.le_of_ble_eq_true rfl) rfl (fun b hC => ?_)
  unfold fX11_peak
  refine A_aload_n hC dX11_peak_0 rfl ?_
  refine A_iconst (v := 0) hC dX11_peak_1 (by decide) ?_
  refine A_puti (kf := 0) hC kX11 (lM_0 hL) rfl (by decide) (by decide) rfl rfl rfl w_1003 dX11_peak_2 (fun D1 => ?_)
  refine A_iload_n hC dX11_peak_5 rfl ?_
  refine A_iload_n hC dX11_peak_6 rfl ?_
  refine A_callSi (As := [.int a1, .int a2]) (st := []) hC (fun l => mX11_areUnits l g a1 a2 D1) yc_X11_340 rfl rfl ⟨by decide, by decide⟩ (Nat.le_of_ble_eq_true rfl) rfl dX11_peak_7 (fun x1 D2 => ?_)
  refine A_if_ne (tgt := 15) hC dX11_peak_10 (by decide) ?_ ?_
  · refine A_aload_n hC dX11_peak_15 rfl ?_
    refine A_callVv (As := []) (st := []) hC (fun l => mX11_look l g hL D2) (lM_0 hL) rfl (Nat.le_of_ble_eq_true rfl) yc_X11_311 rfl rfl ⟨by decide, by decide⟩ (Nat.le_of_ble_eq_true rfl) rfl dX11_peak_16 (fun _ D3 => ?_)
    refine A_aload_n hC dX11_peak_19 rfl ?_
    refine A_callVi (As := []) (st := []) hC (fun l => mX11_those l g hL D3) (lM_0 hL) rfl (Nat.le_of_ble_eq_true rfl) yc_X11_344 rfl rfl ⟨by decide, by decide⟩ (Nat.le_of_ble_eq_true rfl) rfl dX11_peak_20 (fun x2 D4 => ?_)
    refine A_join (fun (J : ADD → Option (Int32 × ADD)) => ∀ (D5 : ADD), AT aVi g b 37 [none, none, none, none, none] [] D5 (J D5)) (fun D5 => ?_) (fun j37 hj37 => ?_)
    · refine A_iconst (v := -1) hC dX11_peak_37 (by decide) ?_
      exact A_iret hC dX11_peak_38
    refine A_if_eq (tgt := 37) hC dX11_peak_23 (by decide) ?_ ?_
    · exact A_to (hj37 D4) (trivial)
    · refine A_iload_n hC dX11_peak_26 rfl ?_
      refine A_iconst (v := 0) hC dX11_peak_27 (by decide) ?_
      refine A_iload_n hC dX11_peak_28 rfl ?_
      refine A_iload_n hC dX11_peak_29 rfl ?_
      refine A_isub hC dX11_peak_30 ?_
      refine A_callSi (As := [.int a3, .int (0 : Int32), .int (a2 - a1)]) (st := []) hC (fun l => mX11_is l g a3 (0 : Int32) (a2 - a1) D4) yc_X11_138 rfl rfl ⟨by decide, by decide⟩ (Nat.le_of_ble_eq_true rfl) rfl dX11_peak_31 (fun x3 D6 => ?_)
      refine A_if_ne (tgt := 39) hC dX11_peak_34 (by decide) ?_ ?_
      · refine A_aload_n hC dX11_peak_39 rfl ?_
        refine A_iload_n hC dX11_peak_40 rfl ?_
        refine A_iload_n hC dX11_peak_41 rfl ?_
        refine A_callVv (As := [.int a1, .int a2]) (st := []) hC (fun l => mX11_findScores l g hL a1 a2 D6) (lM_0 hL) rfl (Nat.le_of_ble_eq_true rfl) yc_X11_333 rfl rfl ⟨by decide, by decide⟩ (Nat.le_of_ble_eq_true rfl) rfl dX11_peak_42 (fun _ D7 => ?_)
        refine A_iload_n hC dX11_peak_45 rfl ?_
        refine A_istore (lv2 := [some (.ref (g.1 + 0)), some (.int a1), some (.int a2), some (.int a3), some (.int a1)]) hC dX11_peak_46 (Nat.le_of_ble_eq_true rfl) rfl rfl ?_
        refine A_join (fun (J : ADD → Option (Int32 × ADD)) => ∀ (D8 : ADD), AT aVi g b 75 [none, none, none, none, none] [] D8 (J D8)) (fun D8 => ?_) (fun j75 hj75 => ?_)
        · refine A_iconst (v := -1) hC dX11_peak_75 (by decide) ?_
          exact A_iret hC dX11_peak_76
        refine A_join (fun (J : Int32 → ADD → Option (Int32 × ADD)) => ∀ (x4 : Int32) (D9 : ADD), AT aVi g b 48 [some (.ref (g.1 + 0)), some (.int a1), some (.int a2), some (.int a3), some (.int x4)] [] D9 (J x4 D9)) (aFix_all (fun (J : Int32 → ADD → Option (Int32 × ADD)) => ∀ (x4 : Int32) (D9 : ADD), AT aVi g b 48 [some (.ref (g.1 + 0)), some (.int a1), some (.int a2), some (.int a3), some (.int x4)] [] D9 (J x4 D9)) (fun _ _ => A_none) (fun L48 hL48 x4 D9 => ?_) _) (fun j48 hj48 => ?_)
        · unfold lX11_peak_48
          refine A_iload hC dX11_peak_48 rfl ?_
          refine A_iload_n hC dX11_peak_50 rfl ?_
          refine A_icmp_gt (tgt := 75) hC dX11_peak_51 (by decide) ?_ ?_
          · exact A_to (hj75 D9) (trivial)
          · refine A_aload_n hC dX11_peak_54 rfl ?_
            refine A_iload_n hC dX11_peak_55 rfl ?_
            refine A_iload_n hC dX11_peak_56 rfl ?_
            refine A_iload hC dX11_peak_57 rfl ?_
            refine A_callVi (As := [.int a1, .int a2, .int x4]) (st := []) hC (fun l => mX11_placeOf l g hL a1 a2 x4 D9) (lM_0 hL) rfl (Nat.le_of_ble_eq_true rfl) yc_X11_353 rfl rfl ⟨by decide, by decide⟩ (Nat.le_of_ble_eq_true rfl) rfl dX11_peak_59 (fun x5 D10 => ?_)
            refine A_iload_n hC dX11_peak_62 rfl ?_
            refine A_icmp_ne (tgt := 69) hC dX11_peak_63 (by decide) ?_ ?_
            · refine A_iincL (z := (1 : Int32)) (lv2 := fun x6 => [some (.ref (g.1 + 0)), some (.int a1), some (.int a2), some (.int a3), some (.int x6)]) hC dX11_peak_69 rfl (by decide) (Nat.le_of_ble_eq_true rfl) rfl (fun _ => rfl) (fun x6 => ?_)
              refine A_goto (tgt := 48) hC dX11_peak_72 (by decide) ?_
              exact A_to (hL48 x6 D10) (And.intro rfl (And.intro rfl (And.intro rfl (And.intro rfl (And.intro rfl (trivial))))))
            · refine A_iload hC dX11_peak_66 rfl ?_
              exact A_iret hC dX11_peak_68
        exact A_to (hj48 a1 D7) (And.intro rfl (And.intro rfl (And.intro rfl (And.intro rfl (And.intro rfl (trivial))))))
      · exact A_to (hj37 D6) (trivial)
  · refine A_iconst (v := -1) hC dX11_peak_13 (by decide) ?_
    exact A_iret hC dX11_peak_14
def fX11_best (a1 : Int32) (a2 : Int32) (D : ADD) : Option (Int32 × ADD) := aLet (aSI D 0 0 (0 : Int32)) (fun D1 => aBind (fX11_areUnits a1 a2 D1) (fun x1 D2 => (if x1 = 0 then some ((-1 : Int32), D2) else aBind (fX11_look D2) (fun _ D3 => aBind (fX11_those D3) (fun x2 D4 => aLet (fun (x3 : Int32) (D5 : ADD) => some (x3, D5)) (fun (j36 : Int32 → ADD → Option (Int32 × ADD)) => (if x2 ≤ 0 then j36 (-1 : Int32) D4 else aBind (fX11_bestOf a1 a2 D4) (fun x4 D6 => j36 x4 D6))))))))
set_option maxHeartbeats 4000000 in
set_option maxRecDepth 100000 in
theorem mX11_best (l : Launch) (g : AGl) (hL : aLM g) (a1 : Int32) (a2 : Int32) (D : ADD) : AM aVi l yX11_best cX11_best 3 (some .int) 6 g [.ref (g.1 + 0), .int a1, .int a2] D (fX11_best a1 a2 D) := by
  refine AM_of (lv0 := [some (.ref (g.1 + 0)), some (.int a1), some (.int a2)]) (own := RX11) (by decide +kernel) rfl (Nat.le_of_ble_eq_true rfl) rfl (fun b hC => ?_)
  unfold fX11_best
  refine A_aload_n hC dX11_best_0 rfl ?_
  refine A_iconst (v := 0) hC dX11_best_1 (by decide) ?_
  refine A_puti (kf := 0) hC kX11 (lM_0 hL) rfl (by decide) (by decide) rfl rfl rfl w_1003 dX11_best_2 (fun D1 => ?_)
  refine A_iload_n hC dX11_best_5 rfl ?_
  refine A_iload_n hC dX11_best_6 rfl ?_
  refine A_callSi (As := [.int a1, .int a2]) (st := []) hC (fun l => mX11_areUnits l g a1 a2 D1) yc_X11_340 rfl rfl ⟨by decide, by decide⟩ (Nat.le_of_ble_eq_true rfl) rfl dX11_best_7 (fun x1 D2 => ?_)
  refine A_if_ne (tgt := 15) hC dX11_best_10 (by decide) ?_ ?_
  · refine A_aload_n hC dX11_best_15 rfl ?_
    refine A_callVv (As := []) (st := []) hC (fun l => mX11_look l g hL D2) (lM_0 hL) rfl (Nat.le_of_ble_eq_true rfl) yc_X11_311 rfl rfl ⟨by decide, by decide⟩ (Nat.le_of_ble_eq_true rfl) rfl dX11_best_16 (fun _ D3 => ?_)
    refine A_aload_n hC dX11_best_19 rfl ?_
    refine A_callVi (As := []) (st := []) hC (fun l => mX11_those l g hL D3) (lM_0 hL) rfl (Nat.le_of_ble_eq_true rfl) yc_X11_344 rfl rfl ⟨by decide, by decide⟩ (Nat.le_of_ble_eq_true rfl) rfl dX11_best_20 (fun x2 D4 => ?_)
    refine A_join (fun (J : Int32 → ADD → Option (Int32 × ADD)) => ∀ (x3 : Int32) (D5 : ADD), AT aVi g b 36 [none, none, none] [.int x3] D5 (J x3 D5)) (fun x3 D5 => ?_) (fun j36 hj36 => ?_)
    · exact A_iret hC dX11_best_36
    refine A_if_le (tgt := 35) hC dX11_best_23 (by decide) ?_ ?_
    · refine A_iconst (v := -1) hC dX11_best_35 (by decide) ?_
      exact A_to (hj36 (-1 : Int32) D4) (trivial)
    · refine A_aload_n hC dX11_best_26 rfl ?_
      refine A_iload_n hC dX11_best_27 rfl ?_
      refine A_iload_n hC dX11_best_28 rfl ?_
      refine A_callVi (As := [.int a1, .int a2]) (st := []) hC (fun l => mX11_bestOf l g hL a1 a2 D4) (lM_0 hL) rfl (Nat.le_of_ble_eq_true rfl) yc_X11_347 rfl rfl ⟨by decide, by decide⟩ (Nat.le_of_ble_eq_true rfl) rfl dX11_best_29 (fun x4 D6 => ?_)
      refine A_goto (tgt := 36) hC dX11_best_32 (by decide) ?_
      exact A_to (hj36 x4 D6) (trivial)
  · refine A_iconst (v := -1) hC dX11_best_13 (by decide) ?_
    exact A_iret hC dX11_best_14
def lX11_bestOfTown_3 (a1 : Int32) (j51 : ADD → Option (Int32 × ADD)) (L3 : Int32 → ADD → Option (Int32 × ADD)) (x4 : Int32) (D5 : ADD) : Option (Int32 × ADD) := (if (D5.1 0 41) ≤ x4 then j51 D5 else aIn x4 32 (aLet (fun (x5 : Int32) (D6 : ADD) => aIn x4 32 (aLet (aSI D6 35 x4.toNatClampNeg x5) (fun D7 => aLet (x4 + (1 : Int32)) (fun x6 => L3 x6 D7)))) (fun (j44 : Int32 → ADD → Option (Int32 × ADD)) => aLet (fun (D8 : ADD) => j44 (0 : Int32) D8) (fun (j43 : ADD → Option (Int32 × ADD)) => (if (aBz (D5.1 38 x4.toNatClampNeg)) = 0 then j43 D5 else aBind (fX11_f x4 (4 : Int32) D5) (fun x7 D9 => (if x7 = a1 then j44 (1 : Int32) D9 else j43 D9)))))))
def fX11_bestOfTown (a1 : Int32) (a2 : Int32) (a3 : Int32) (D : ADD) : Option (Int32 × ADD) := aLet (fun (D1 : ADD) => aBind (fX11_those D1) (fun x1 D2 => aLet (fun (x2 : Int32) (D3 : ADD) => some (x2, D3)) (fun (j68 : Int32 → ADD → Option (Int32 × ADD)) => (if x1 = 0 then j68 (-1 : Int32) D2 else aBind (fX11_bestOf a2 a3 D2) (fun x3 D4 => j68 x3 D4))))) (fun (j51 : ADD → Option (Int32 × ADD)) => aLet (aFix aFuel (lX11_bestOfTown_3 a1 j51) (fun _ _ => none)) (fun j3 => j3 (0 : Int32) D))
set_option maxHeartbeats 4000000 in
set_option maxRecDepth 100000 in
theorem mX11_bestOfTown (l : Launch) (g : AGl) (hL : aLM g) (a1 : Int32) (a2 : Int32) (a3 : Int32) (D : ADD) : AM aVi l yX11_bestOfTown cX11_bestOfTown 5 (some .int) 6 g [.ref (g.1 + 0), .int a1, .int a2, .int a3] D (fX11_bestOfTown a1 a2 a3 D) := by
  refine AM_of (lv0 := [some (.ref (g.1 + 0)), some (.int a1), some (.int a2), some (.int a3), none]) (own := RX11) (by decide +kernel) rfl (Nat.le_of_ble_eq_true rfl) rfl (fun b hC => ?_)
  unfold fX11_bestOfTown
  refine A_iconst (v := 0) hC dX11_bestOfTown_0 (by decide) ?_
  refine A_istore (lv2 := [some (.ref (g.1 + 0)), some (.int a1), some (.int a2), some (.int a3), some (.int (0 : Int32))]) hC dX11_bestOfTown_1 (Nat.le_of_ble_eq_true rfl) rfl rfl ?_
  refine A_join (fun (J : ADD → Option (Int32 × ADD)) => ∀ (D1 : ADD), AT aVi g b 51 [some (.ref (g.1 + 0)), none, some (.int a2), some (.int a3), none] [] D1 (J D1)) (fun D1 => ?_) (fun j51 hj51 => ?_)
  · refine A_aload_n hC dX11_bestOfTown_51 rfl ?_
    refine A_callVi (As := []) (st := []) hC (fun l => mX11_those l g hL D1) (lM_0 hL) rfl (Nat.le_of_ble_eq_true rfl) yc_X11_344 rfl rfl ⟨by decide, by decide⟩ (Nat.le_of_ble_eq_true rfl) rfl dX11_bestOfTown_52 (fun x1 D2 => ?_)
    refine A_join (fun (J : Int32 → ADD → Option (Int32 × ADD)) => ∀ (x2 : Int32) (D3 : ADD), AT aVi g b 68 [none, none, none, none, none] [.int x2] D3 (J x2 D3)) (fun x2 D3 => ?_) (fun j68 hj68 => ?_)
    · exact A_iret hC dX11_bestOfTown_68
    refine A_if_ne (tgt := 62) hC dX11_bestOfTown_55 (by decide) ?_ ?_
    · refine A_aload_n hC dX11_bestOfTown_62 rfl ?_
      refine A_iload_n hC dX11_bestOfTown_63 rfl ?_
      refine A_iload_n hC dX11_bestOfTown_64 rfl ?_
      refine A_callVi (As := [.int a2, .int a3]) (st := []) hC (fun l => mX11_bestOf l g hL a2 a3 D2) (lM_0 hL) rfl (Nat.le_of_ble_eq_true rfl) yc_X11_347 rfl rfl ⟨by decide, by decide⟩ (Nat.le_of_ble_eq_true rfl) rfl dX11_bestOfTown_65 (fun x3 D4 => ?_)
      exact A_to (hj68 x3 D4) (trivial)
    · refine A_iconst (v := -1) hC dX11_bestOfTown_58 (by decide) ?_
      refine A_goto (tgt := 68) hC dX11_bestOfTown_59 (by decide) ?_
      exact A_to (hj68 (-1 : Int32) D2) (trivial)
  refine A_join (fun (J : Int32 → ADD → Option (Int32 × ADD)) => ∀ (x4 : Int32) (D5 : ADD), AT aVi g b 3 [some (.ref (g.1 + 0)), some (.int a1), some (.int a2), some (.int a3), some (.int x4)] [] D5 (J x4 D5)) (aFix_all (fun (J : Int32 → ADD → Option (Int32 × ADD)) => ∀ (x4 : Int32) (D5 : ADD), AT aVi g b 3 [some (.ref (g.1 + 0)), some (.int a1), some (.int a2), some (.int a3), some (.int x4)] [] D5 (J x4 D5)) (fun _ _ => A_none) (fun L3 hL3 x4 D5 => ?_) _) (fun j3 hj3 => ?_)
  · unfold lX11_bestOfTown_3
    refine A_iload hC dX11_bestOfTown_3 rfl ?_
    refine A_aload_n hC dX11_bestOfTown_5 rfl ?_
    refine A_geti (kf := 41) hC kX11 (lM_0 hL) rfl (by decide) (by decide) rfl w_1044 dX11_bestOfTown_6 ?_
    refine A_icmp_ge (tgt := 51) hC dX11_bestOfTown_9 (by decide) ?_ ?_
    · exact A_to (hj51 D5) (And.intro rfl (And.intro rfl (And.intro rfl (trivial))))
    · refine A_aload_n hC dX11_bestOfTown_12 rfl ?_
      refine A_getr (kf := 46) hC kX11 (lM_0 hL) rfl (by decide) (by decide) rfl rfl w_1049 dX11_bestOfTown_13 ?_
      refine A_iload hC dX11_bestOfTown_16 rfl ?_
      refine A_aload_n hC dX11_bestOfTown_18 rfl ?_
      refine A_getr (kf := 49) hC kX11 (lM_0 hL) rfl (by decide) (by decide) rfl rfl w_1052 dX11_bestOfTown_19 ?_
      refine A_iload hC dX11_bestOfTown_22 rfl ?_
      refine A_zald hC (lM_38 hL) dX11_bestOfTown_24 ?_
      refine A_join (fun (J : Int32 → ADD → Option (Int32 × ADD)) => ∀ (x5 : Int32) (D6 : ADD), AT aVi g b 44 [some (.ref (g.1 + 0)), some (.int a1), some (.int a2), some (.int a3), some (.int x4)] [.int x5, .int x4, .ref (g.1 + 35)] D6 (J x5 D6)) (fun x5 D6 => ?_) (fun j44 hj44 => ?_)
      · refine A_zast hC (lM_35 hL) dX11_bestOfTown_44 (fun D7 => ?_)
        refine A_iincL (z := (1 : Int32)) (lv2 := fun x6 => [some (.ref (g.1 + 0)), some (.int a1), some (.int a2), some (.int a3), some (.int x6)]) hC dX11_bestOfTown_45 rfl (by decide) (Nat.le_of_ble_eq_true rfl) rfl (fun _ => rfl) (fun x6 => ?_)
        refine A_goto (tgt := 3) hC dX11_bestOfTown_48 (by decide) ?_
        exact A_to (hL3 x6 D7) (And.intro rfl (And.intro rfl (And.intro rfl (And.intro rfl (And.intro rfl (trivial))))))
      refine A_join (fun (J : ADD → Option (Int32 × ADD)) => ∀ (D8 : ADD), AT aVi g b 43 [some (.ref (g.1 + 0)), some (.int a1), some (.int a2), some (.int a3), some (.int x4)] [.int x4, .ref (g.1 + 35)] D8 (J D8)) (fun D8 => ?_) (fun j43 hj43 => ?_)
      · refine A_iconst (v := 0) hC dX11_bestOfTown_43 (by decide) ?_
        exact A_to (hj44 (0 : Int32) D8) (And.intro rfl (And.intro rfl (And.intro rfl (And.intro rfl (And.intro rfl (trivial))))))
      refine A_if_eq (tgt := 43) hC dX11_bestOfTown_25 (by decide) ?_ ?_
      · exact A_to (hj43 D5) (And.intro rfl (And.intro rfl (And.intro rfl (And.intro rfl (And.intro rfl (trivial))))))
      · refine A_aload_n hC dX11_bestOfTown_28 rfl ?_
        refine A_iload hC dX11_bestOfTown_29 rfl ?_
        refine A_iconst (v := 4) hC dX11_bestOfTown_31 (by decide) ?_
        refine A_callVi (As := [.int x4, .int (4 : Int32)]) (st := [.int x4, .ref (g.1 + 35)]) hC (fun l => mX11_f l g hL x4 (4 : Int32) D5) (lM_0 hL) rfl (Nat.le_of_ble_eq_true rfl) yc_X11_291 rfl rfl ⟨by decide, by decide⟩ (Nat.le_of_ble_eq_true rfl) rfl dX11_bestOfTown_32 (fun x7 D9 => ?_)
        refine A_iload_n hC dX11_bestOfTown_35 rfl ?_
        refine A_icmp_ne (tgt := 43) hC dX11_bestOfTown_36 (by decide) ?_ ?_
        · exact A_to (hj43 D9) (And.intro rfl (And.intro rfl (And.intro rfl (And.intro rfl (And.intro rfl (trivial))))))
        · refine A_iconst (v := 1) hC dX11_bestOfTown_39 (by decide) ?_
          refine A_goto (tgt := 44) hC dX11_bestOfTown_40 (by decide) ?_
          exact A_to (hj44 (1 : Int32) D9) (And.intro rfl (And.intro rfl (And.intro rfl (And.intro rfl (And.intro rfl (trivial))))))
  exact A_to (hj3 (0 : Int32) D) (And.intro rfl (And.intro rfl (And.intro rfl (And.intro rfl (And.intro rfl (trivial))))))
def lX11_drift_110 (a1 : Int32) (j159 : ADD → Option (Int32 × ADD)) (L110 : Int32 → ADD → Option (Int32 × ADD)) (x9 : Int32) (D16 : ADD) : Option (Int32 × ADD) := (if (D16.1 0 41) ≤ x9 then j159 D16 else aIn x9 32 (aLet (fun (x10 : Int32) (D17 : ADD) => aIn x9 32 (aLet (aSI D17 35 x9.toNatClampNeg x10) (fun D18 => aLet (x9 + (1 : Int32)) (fun x11 => L110 x11 D18)))) (fun (j152 : Int32 → ADD → Option (Int32 × ADD)) => aLet (fun (D19 : ADD) => j152 (0 : Int32) D19) (fun (j151 : ADD → Option (Int32 × ADD)) => (if (aBz (D16.1 38 x9.toNatClampNeg)) = 0 then j151 D16 else aBind (fX11_f x9 (6 : Int32) D16) (fun x12 D20 => (if a1 ≤ x12 then j151 D20 else j152 (1 : Int32) D20)))))))
def lX11_drift_40 (a1 : Int32) (j88 : ADD → Option (Int32 × ADD)) (L40 : Int32 → ADD → Option (Int32 × ADD)) (x14 : Int32) (D22 : ADD) : Option (Int32 × ADD) := (if (D22.1 0 41) ≤ x14 then j88 D22 else aIn x14 32 (aLet (fun (x15 : Int32) (D23 : ADD) => aIn x14 32 (aLet (aSI D23 35 x14.toNatClampNeg x15) (fun D24 => aLet (x14 + (1 : Int32)) (fun x16 => L40 x16 D24)))) (fun (j81 : Int32 → ADD → Option (Int32 × ADD)) => aLet (fun (D25 : ADD) => j81 (0 : Int32) D25) (fun (j80 : ADD → Option (Int32 × ADD)) => (if (aBz (D22.1 38 x14.toNatClampNeg)) = 0 then j80 D22 else aBind (fX11_f x14 (5 : Int32) D22) (fun x17 D26 => (if x17 < a1 then j80 D26 else j81 (1 : Int32) D26)))))))
def fX11_drift (a1 : Int32) (a2 : Int32) (a3 : Int32) (D : ADD) : Option (Int32 × ADD) := aLet (aSI D 0 0 (0 : Int32)) (fun D1 => aBind (fX11_is a1 (-3000 : Int32) (1900 : Int32) D1) (fun x1 D2 => aLet (fun (D3 : ADD) => some ((-100000 : Int32), D3)) (fun (j26 : ADD → Option (Int32 × ADD)) => (if x1 = 0 then j26 D2 else aBind (fX11_areUnits a2 a3 D2) (fun x2 D4 => (if x2 = 0 then j26 D4 else aBind (fX11_look D4) (fun _ D5 => aBind (fX11_keepChosen D5) (fun _ D6 => aLet (fun (D7 : ADD) => aBind (fX11_those D7) (fun x3 D8 => aLet (fun (x4 : Int32) (D9 : ADD) => aLet (fun (D10 : ADD) => aBind (fX11_those D10) (fun x5 D11 => aLet (fun (x6 : Int32) (D12 : ADD) => aLet (fun (x7 : Int32) (D13 : ADD) => some (x7, D13)) (fun (j200 : Int32 → ADD → Option (Int32 × ADD)) => aLet (fun (D14 : ADD) => j200 (-100000 : Int32) D14) (fun (j190 : ADD → Option (Int32 × ADD)) => (if x4 = (-1 : Int32) then j190 D12 else (if x6 = (-1 : Int32) then j190 D12 else j200 (x4 - x6) D12))))) (fun (j176 : Int32 → ADD → Option (Int32 × ADD)) => (if x5 = 0 then j176 (-1 : Int32) D11 else aBind (fX11_bestOf a2 a3 D11) (fun x8 D15 => j176 x8 D15))))) (fun (j159 : ADD → Option (Int32 × ADD)) => aLet (aFix aFuel (lX11_drift_110 a1 j159) (fun _ _ => none)) (fun j110 => j110 (0 : Int32) D9))) (fun (j105 : Int32 → ADD → Option (Int32 × ADD)) => (if x3 = 0 then j105 (-1 : Int32) D8 else aBind (fX11_bestOf a2 a3 D8) (fun x13 D21 => j105 x13 D21))))) (fun (j88 : ADD → Option (Int32 × ADD)) => aLet (aFix aFuel (lX11_drift_40 a1 j88) (fun _ _ => none)) (fun j40 => j40 (0 : Int32) D6))))))))))
set_option maxHeartbeats 4000000 in
set_option maxRecDepth 100000 in
theorem mX11_drift (l : Launch) (g : AGl) (hL : aLM g) (a1 : Int32) (a2 : Int32) (a3 : Int32) (D : ADD) : AM aVi l yX11_drift cX11_drift 6 (some .int) 6 g [.ref (g.1 + 0), .int a1, .int a2, .int a3] D (fX11_drift a1 a2 a3 D) := by
  refine AM_of (lv0 := [some (.ref (g.1 + 0)), some (.int a1), some (.int a2), some (.int a3), none, none]) (own := RX11) (by decide +kernel) rfl (Nat.le_of_ble_eq_true rfl) rfl (fun b hC => ?_)
  unfold fX11_drift
  refine A_aload_n hC dX11_drift_0 rfl ?_
  refine A_iconst (v := 0) hC dX11_drift_1 (by decide) ?_
  refine A_puti (kf := 0) hC kX11 (lM_0 hL) rfl (by decide) (by decide) rfl rfl rfl w_1003 dX11_drift_2 (fun D1 => ?_)
  refine A_iload_n hC dX11_drift_5 rfl ?_
  refine A_sipush (v := -3000) hC dX11_drift_6 (by decide) ?_
  refine A_sipush (v := 1900) hC dX11_drift_9 (by decide) ?_
  refine A_callSi (As := [.int a1, .int (-3000 : Int32), .int (1900 : Int32)]) (st := []) hC (fun l => mX11_is l g a1 (-3000 : Int32) (1900 : Int32) D1) yc_X11_138 rfl rfl ⟨by decide, by decide⟩ (Nat.le_of_ble_eq_true rfl) rfl dX11_drift_12 (fun x1 D2 => ?_)
  refine A_join (fun (J : ADD → Option (Int32 × ADD)) => ∀ (D3 : ADD), AT aVi g b 26 [none, none, none, none, none, none] [] D3 (J D3)) (fun D3 => ?_) (fun j26 hj26 => ?_)
  · refine A_ldc hC dX11_drift_26 w_1200 ?_
    exact A_iret hC dX11_drift_28
  refine A_if_eq (tgt := 26) hC dX11_drift_15 (by decide) ?_ ?_
  · exact A_to (hj26 D2) (trivial)
  · refine A_iload_n hC dX11_drift_18 rfl ?_
    refine A_iload_n hC dX11_drift_19 rfl ?_
    refine A_callSi (As := [.int a2, .int a3]) (st := []) hC (fun l => mX11_areUnits l g a2 a3 D2) yc_X11_340 rfl rfl ⟨by decide, by decide⟩ (Nat.le_of_ble_eq_true rfl) rfl dX11_drift_20 (fun x2 D4 => ?_)
    refine A_if_ne (tgt := 29) hC dX11_drift_23 (by decide) ?_ ?_
    · refine A_aload_n hC dX11_drift_29 rfl ?_
      refine A_callVv (As := []) (st := []) hC (fun l => mX11_look l g hL D4) (lM_0 hL) rfl (Nat.le_of_ble_eq_true rfl) yc_X11_311 rfl rfl ⟨by decide, by decide⟩ (Nat.le_of_ble_eq_true rfl) rfl dX11_drift_30 (fun _ D5 => ?_)
      refine A_aload_n hC dX11_drift_33 rfl ?_
      refine A_callVv (As := []) (st := []) hC (fun l => mX11_keepChosen l g hL D5) (lM_0 hL) rfl (Nat.le_of_ble_eq_true rfl) yc_X11_397 rfl rfl ⟨by decide, by decide⟩ (Nat.le_of_ble_eq_true rfl) rfl dX11_drift_34 (fun _ D6 => ?_)
      refine A_iconst (v := 0) hC dX11_drift_37 (by decide) ?_
      refine A_istore (lv2 := [some (.ref (g.1 + 0)), some (.int a1), some (.int a2), some (.int a3), some (.int (0 : Int32)), none]) hC dX11_drift_38 (Nat.le_of_ble_eq_true rfl) rfl rfl ?_
      refine A_join (fun (J : ADD → Option (Int32 × ADD)) => ∀ (D7 : ADD), AT aVi g b 88 [some (.ref (g.1 + 0)), some (.int a1), some (.int a2), some (.int a3), none, none] [] D7 (J D7)) (fun D7 => ?_) (fun j88 hj88 => ?_)
      · refine A_aload_n hC dX11_drift_88 rfl ?_
        refine A_callVi (As := []) (st := []) hC (fun l => mX11_those l g hL D7) (lM_0 hL) rfl (Nat.le_of_ble_eq_true rfl) yc_X11_344 rfl rfl ⟨by decide, by decide⟩ (Nat.le_of_ble_eq_true rfl) rfl dX11_drift_89 (fun x3 D8 => ?_)
        refine A_join (fun (J : Int32 → ADD → Option (Int32 × ADD)) => ∀ (x4 : Int32) (D9 : ADD), AT aVi g b 105 [some (.ref (g.1 + 0)), some (.int a1), some (.int a2), some (.int a3), none, none] [.int x4] D9 (J x4 D9)) (fun x4 D9 => ?_) (fun j105 hj105 => ?_)
        · refine A_istore (lv2 := [some (.ref (g.1 + 0)), some (.int a1), some (.int a2), some (.int a3), some (.int x4), none]) hC dX11_drift_105 (Nat.le_of_ble_eq_true rfl) rfl rfl ?_
          refine A_iconst (v := 0) hC dX11_drift_107 (by decide) ?_
          refine A_istore (lv2 := [some (.ref (g.1 + 0)), some (.int a1), some (.int a2), some (.int a3), some (.int x4), some (.int (0 : Int32))]) hC dX11_drift_108 (Nat.le_of_ble_eq_true rfl) rfl rfl ?_
          refine A_join (fun (J : ADD → Option (Int32 × ADD)) => ∀ (D10 : ADD), AT aVi g b 159 [some (.ref (g.1 + 0)), none, some (.int a2), some (.int a3), some (.int x4), none] [] D10 (J D10)) (fun D10 => ?_) (fun j159 hj159 => ?_)
          · refine A_aload_n hC dX11_drift_159 rfl ?_
            refine A_callVi (As := []) (st := []) hC (fun l => mX11_those l g hL D10) (lM_0 hL) rfl (Nat.le_of_ble_eq_true rfl) yc_X11_344 rfl rfl ⟨by decide, by decide⟩ (Nat.le_of_ble_eq_true rfl) rfl dX11_drift_160 (fun x5 D11 => ?_)
            refine A_join (fun (J : Int32 → ADD → Option (Int32 × ADD)) => ∀ (x6 : Int32) (D12 : ADD), AT aVi g b 176 [none, none, none, none, some (.int x4), none] [.int x6] D12 (J x6 D12)) (fun x6 D12 => ?_) (fun j176 hj176 => ?_)
            · refine A_istore (lv2 := [none, none, none, none, some (.int x4), some (.int x6)]) hC dX11_drift_176 (Nat.le_of_ble_eq_true rfl) rfl rfl ?_
              refine A_iload hC dX11_drift_178 rfl ?_
              refine A_iconst (v := -1) hC dX11_drift_180 (by decide) ?_
              refine A_join (fun (J : Int32 → ADD → Option (Int32 × ADD)) => ∀ (x7 : Int32) (D13 : ADD), AT aVi g b 200 [none, none, none, none, none, none] [.int x7] D13 (J x7 D13)) (fun x7 D13 => ?_) (fun j200 hj200 => ?_)
              · exact A_iret hC dX11_drift_200
              refine A_join (fun (J : ADD → Option (Int32 × ADD)) => ∀ (D14 : ADD), AT aVi g b 190 [none, none, none, none, none, none] [] D14 (J D14)) (fun D14 => ?_) (fun j190 hj190 => ?_)
              · refine A_ldc hC dX11_drift_190 w_1200 ?_
                refine A_goto (tgt := 200) hC dX11_drift_192 (by decide) ?_
                exact A_to (hj200 (-100000 : Int32) D14) (trivial)
              refine A_icmp_eq (tgt := 190) hC dX11_drift_181 (by decide) ?_ ?_
              · exact A_to (hj190 D12) (trivial)
              · refine A_iload hC dX11_drift_184 rfl ?_
                refine A_iconst (v := -1) hC dX11_drift_186 (by decide) ?_
                refine A_icmp_ne (tgt := 195) hC dX11_drift_187 (by decide) ?_ ?_
                · refine A_iload hC dX11_drift_195 rfl ?_
                  refine A_iload hC dX11_drift_197 rfl ?_
                  refine A_isub hC dX11_drift_199 ?_
                  exact A_to (hj200 (x4 - x6) D12) (trivial)
                · exact A_to (hj190 D12) (trivial)
            refine A_if_ne (tgt := 170) hC dX11_drift_163 (by decide) ?_ ?_
            · refine A_aload_n hC dX11_drift_170 rfl ?_
              refine A_iload_n hC dX11_drift_171 rfl ?_
              refine A_iload_n hC dX11_drift_172 rfl ?_
              refine A_callVi (As := [.int a2, .int a3]) (st := []) hC (fun l => mX11_bestOf l g hL a2 a3 D11) (lM_0 hL) rfl (Nat.le_of_ble_eq_true rfl) yc_X11_347 rfl rfl ⟨by decide, by decide⟩ (Nat.le_of_ble_eq_true rfl) rfl dX11_drift_173 (fun x8 D15 => ?_)
              exact A_to (hj176 x8 D15) (And.intro rfl (trivial))
            · refine A_iconst (v := -1) hC dX11_drift_166 (by decide) ?_
              refine A_goto (tgt := 176) hC dX11_drift_167 (by decide) ?_
              exact A_to (hj176 (-1 : Int32) D11) (And.intro rfl (trivial))
          refine A_join (fun (J : Int32 → ADD → Option (Int32 × ADD)) => ∀ (x9 : Int32) (D16 : ADD), AT aVi g b 110 [some (.ref (g.1 + 0)), some (.int a1), some (.int a2), some (.int a3), some (.int x4), some (.int x9)] [] D16 (J x9 D16)) (aFix_all (fun (J : Int32 → ADD → Option (Int32 × ADD)) => ∀ (x9 : Int32) (D16 : ADD), AT aVi g b 110 [some (.ref (g.1 + 0)), some (.int a1), some (.int a2), some (.int a3), some (.int x4), some (.int x9)] [] D16 (J x9 D16)) (fun _ _ => A_none) (fun L110 hL110 x9 D16 => ?_) _) (fun j110 hj110 => ?_)
          · unfold lX11_drift_110
            refine A_iload hC dX11_drift_110 rfl ?_
            refine A_aload_n hC dX11_drift_112 rfl ?_
            refine A_geti (kf := 41) hC kX11 (lM_0 hL) rfl (by decide) (by decide) rfl w_1044 dX11_drift_113 ?_
            refine A_icmp_ge (tgt := 159) hC dX11_drift_116 (by decide) ?_ ?_
            · exact A_to (hj159 D16) (And.intro rfl (And.intro rfl (And.intro rfl (And.intro rfl (trivial)))))
            · refine A_aload_n hC dX11_drift_119 rfl ?_
              refine A_getr (kf := 46) hC kX11 (lM_0 hL) rfl (by decide) (by decide) rfl rfl w_1049 dX11_drift_120 ?_
              refine A_iload hC dX11_drift_123 rfl ?_
              refine A_aload_n hC dX11_drift_125 rfl ?_
              refine A_getr (kf := 49) hC kX11 (lM_0 hL) rfl (by decide) (by decide) rfl rfl w_1052 dX11_drift_126 ?_
              refine A_iload hC dX11_drift_129 rfl ?_
              refine A_zald hC (lM_38 hL) dX11_drift_131 ?_
              refine A_join (fun (J : Int32 → ADD → Option (Int32 × ADD)) => ∀ (x10 : Int32) (D17 : ADD), AT aVi g b 152 [some (.ref (g.1 + 0)), some (.int a1), some (.int a2), some (.int a3), some (.int x4), some (.int x9)] [.int x10, .int x9, .ref (g.1 + 35)] D17 (J x10 D17)) (fun x10 D17 => ?_) (fun j152 hj152 => ?_)
              · refine A_zast hC (lM_35 hL) dX11_drift_152 (fun D18 => ?_)
                refine A_iincL (z := (1 : Int32)) (lv2 := fun x11 => [some (.ref (g.1 + 0)), some (.int a1), some (.int a2), some (.int a3), some (.int x4), some (.int x11)]) hC dX11_drift_153 rfl (by decide) (Nat.le_of_ble_eq_true rfl) rfl (fun _ => rfl) (fun x11 => ?_)
                refine A_goto (tgt := 110) hC dX11_drift_156 (by decide) ?_
                exact A_to (hL110 x11 D18) (And.intro rfl (And.intro rfl (And.intro rfl (And.intro rfl (And.intro rfl (And.intro rfl (trivial)))))))
              refine A_join (fun (J : ADD → Option (Int32 × ADD)) => ∀ (D19 : ADD), AT aVi g b 151 [some (.ref (g.1 + 0)), some (.int a1), some (.int a2), some (.int a3), some (.int x4), some (.int x9)] [.int x9, .ref (g.1 + 35)] D19 (J D19)) (fun D19 => ?_) (fun j151 hj151 => ?_)
              · refine A_iconst (v := 0) hC dX11_drift_151 (by decide) ?_
                exact A_to (hj152 (0 : Int32) D19) (And.intro rfl (And.intro rfl (And.intro rfl (And.intro rfl (And.intro rfl (And.intro rfl (trivial)))))))
              refine A_if_eq (tgt := 151) hC dX11_drift_132 (by decide) ?_ ?_
              · exact A_to (hj151 D16) (And.intro rfl (And.intro rfl (And.intro rfl (And.intro rfl (And.intro rfl (And.intro rfl (trivial)))))))
              · refine A_aload_n hC dX11_drift_135 rfl ?_
                refine A_iload hC dX11_drift_136 rfl ?_
                refine A_bipush (v := 6) hC dX11_drift_138 (by decide) ?_
                refine A_callVi (As := [.int x9, .int (6 : Int32)]) (st := [.int x9, .ref (g.1 + 35)]) hC (fun l => mX11_f l g hL x9 (6 : Int32) D16) (lM_0 hL) rfl (Nat.le_of_ble_eq_true rfl) yc_X11_291 rfl rfl ⟨by decide, by decide⟩ (Nat.le_of_ble_eq_true rfl) rfl dX11_drift_140 (fun x12 D20 => ?_)
                refine A_iload_n hC dX11_drift_143 rfl ?_
                refine A_icmp_ge (tgt := 151) hC dX11_drift_144 (by decide) ?_ ?_
                · exact A_to (hj151 D20) (And.intro rfl (And.intro rfl (And.intro rfl (And.intro rfl (And.intro rfl (And.intro rfl (trivial)))))))
                · refine A_iconst (v := 1) hC dX11_drift_147 (by decide) ?_
                  refine A_goto (tgt := 152) hC dX11_drift_148 (by decide) ?_
                  exact A_to (hj152 (1 : Int32) D20) (And.intro rfl (And.intro rfl (And.intro rfl (And.intro rfl (And.intro rfl (And.intro rfl (trivial)))))))
          exact A_to (hj110 (0 : Int32) D9) (And.intro rfl (And.intro rfl (And.intro rfl (And.intro rfl (And.intro rfl (And.intro rfl (trivial)))))))
        refine A_if_ne (tgt := 99) hC dX11_drift_92 (by decide) ?_ ?_
        · refine A_aload_n hC dX11_drift_99 rfl ?_
          refine A_iload_n hC dX11_drift_100 rfl ?_
          refine A_iload_n hC dX11_drift_101 rfl ?_
          refine A_callVi (As := [.int a2, .int a3]) (st := []) hC (fun l => mX11_bestOf l g hL a2 a3 D8) (lM_0 hL) rfl (Nat.le_of_ble_eq_true rfl) yc_X11_347 rfl rfl ⟨by decide, by decide⟩ (Nat.le_of_ble_eq_true rfl) rfl dX11_drift_102 (fun x13 D21 => ?_)
          exact A_to (hj105 x13 D21) (And.intro rfl (And.intro rfl (And.intro rfl (And.intro rfl (trivial)))))
        · refine A_iconst (v := -1) hC dX11_drift_95 (by decide) ?_
          refine A_goto (tgt := 105) hC dX11_drift_96 (by decide) ?_
          exact A_to (hj105 (-1 : Int32) D8) (And.intro rfl (And.intro rfl (And.intro rfl (And.intro rfl (trivial)))))
      refine A_join (fun (J : Int32 → ADD → Option (Int32 × ADD)) => ∀ (x14 : Int32) (D22 : ADD), AT aVi g b 40 [some (.ref (g.1 + 0)), some (.int a1), some (.int a2), some (.int a3), some (.int x14), none] [] D22 (J x14 D22)) (aFix_all (fun (J : Int32 → ADD → Option (Int32 × ADD)) => ∀ (x14 : Int32) (D22 : ADD), AT aVi g b 40 [some (.ref (g.1 + 0)), some (.int a1), some (.int a2), some (.int a3), some (.int x14), none] [] D22 (J x14 D22)) (fun _ _ => A_none) (fun L40 hL40 x14 D22 => ?_) _) (fun j40 hj40 => ?_)
      · unfold lX11_drift_40
        refine A_iload hC dX11_drift_40 rfl ?_
        refine A_aload_n hC dX11_drift_42 rfl ?_
        refine A_geti (kf := 41) hC kX11 (lM_0 hL) rfl (by decide) (by decide) rfl w_1044 dX11_drift_43 ?_
        refine A_icmp_ge (tgt := 88) hC dX11_drift_46 (by decide) ?_ ?_
        · exact A_to (hj88 D22) (And.intro rfl (And.intro rfl (And.intro rfl (And.intro rfl (trivial)))))
        · refine A_aload_n hC dX11_drift_49 rfl ?_
          refine A_getr (kf := 46) hC kX11 (lM_0 hL) rfl (by decide) (by decide) rfl rfl w_1049 dX11_drift_50 ?_
          refine A_iload hC dX11_drift_53 rfl ?_
          refine A_aload_n hC dX11_drift_55 rfl ?_
          refine A_getr (kf := 49) hC kX11 (lM_0 hL) rfl (by decide) (by decide) rfl rfl w_1052 dX11_drift_56 ?_
          refine A_iload hC dX11_drift_59 rfl ?_
          refine A_zald hC (lM_38 hL) dX11_drift_61 ?_
          refine A_join (fun (J : Int32 → ADD → Option (Int32 × ADD)) => ∀ (x15 : Int32) (D23 : ADD), AT aVi g b 81 [some (.ref (g.1 + 0)), some (.int a1), some (.int a2), some (.int a3), some (.int x14), none] [.int x15, .int x14, .ref (g.1 + 35)] D23 (J x15 D23)) (fun x15 D23 => ?_) (fun j81 hj81 => ?_)
          · refine A_zast hC (lM_35 hL) dX11_drift_81 (fun D24 => ?_)
            refine A_iincL (z := (1 : Int32)) (lv2 := fun x16 => [some (.ref (g.1 + 0)), some (.int a1), some (.int a2), some (.int a3), some (.int x16), none]) hC dX11_drift_82 rfl (by decide) (Nat.le_of_ble_eq_true rfl) rfl (fun _ => rfl) (fun x16 => ?_)
            refine A_goto (tgt := 40) hC dX11_drift_85 (by decide) ?_
            exact A_to (hL40 x16 D24) (And.intro rfl (And.intro rfl (And.intro rfl (And.intro rfl (And.intro rfl (trivial))))))
          refine A_join (fun (J : ADD → Option (Int32 × ADD)) => ∀ (D25 : ADD), AT aVi g b 80 [some (.ref (g.1 + 0)), some (.int a1), some (.int a2), some (.int a3), some (.int x14), none] [.int x14, .ref (g.1 + 35)] D25 (J D25)) (fun D25 => ?_) (fun j80 hj80 => ?_)
          · refine A_iconst (v := 0) hC dX11_drift_80 (by decide) ?_
            exact A_to (hj81 (0 : Int32) D25) (And.intro rfl (And.intro rfl (And.intro rfl (And.intro rfl (And.intro rfl (trivial))))))
          refine A_if_eq (tgt := 80) hC dX11_drift_62 (by decide) ?_ ?_
          · exact A_to (hj80 D22) (And.intro rfl (And.intro rfl (And.intro rfl (And.intro rfl (And.intro rfl (trivial))))))
          · refine A_aload_n hC dX11_drift_65 rfl ?_
            refine A_iload hC dX11_drift_66 rfl ?_
            refine A_iconst (v := 5) hC dX11_drift_68 (by decide) ?_
            refine A_callVi (As := [.int x14, .int (5 : Int32)]) (st := [.int x14, .ref (g.1 + 35)]) hC (fun l => mX11_f l g hL x14 (5 : Int32) D22) (lM_0 hL) rfl (Nat.le_of_ble_eq_true rfl) yc_X11_291 rfl rfl ⟨by decide, by decide⟩ (Nat.le_of_ble_eq_true rfl) rfl dX11_drift_69 (fun x17 D26 => ?_)
            refine A_iload_n hC dX11_drift_72 rfl ?_
            refine A_icmp_lt (tgt := 80) hC dX11_drift_73 (by decide) ?_ ?_
            · exact A_to (hj80 D26) (And.intro rfl (And.intro rfl (And.intro rfl (And.intro rfl (And.intro rfl (trivial))))))
            · refine A_iconst (v := 1) hC dX11_drift_76 (by decide) ?_
              refine A_goto (tgt := 81) hC dX11_drift_77 (by decide) ?_
              exact A_to (hj81 (1 : Int32) D26) (And.intro rfl (And.intro rfl (And.intro rfl (And.intro rfl (And.intro rfl (trivial))))))
      exact A_to (hj40 (0 : Int32) D6) (And.intro rfl (And.intro rfl (And.intro rfl (And.intro rfl (And.intro rfl (trivial))))))
    · exact A_to (hj26 D4) (trivial)
def lX11_verdict_38 (j78 : ADD → Option (Int32 × ADD)) (L38 : Int32 → ADD → Option (Int32 × ADD)) (x3 : Int32) (D8 : ADD) : Option (Int32 × ADD) := aIn (1 : Int32) 8 ((if (D8.1 15 (1 : Int32).toNatClampNeg) ≤ x3 then j78 D8 else aBind (fX11_holds ((16 : Int32) + x3) D8) (fun x4 D9 => (if x4 = 0 then aLet (x3 + (1 : Int32)) (fun x5 => L38 x5 D9) else aIn ((16 : Int32) + x3) 128 (some ((D9.1 20 ((16 : Int32) + x3).toNatClampNeg), D9))))))
def fX11_verdict (a1 : Int32) (a2 : Int32) (a3 : Int32) (D : ADD) : Option (Int32 × ADD) := aLet (aSI D 0 0 (0 : Int32)) (fun D1 => aBind (fX11_areUnits a2 a3 D1) (fun x1 D2 => aLet (fun (D3 : ADD) => some ((-1 : Int32), D3)) (fun (j22 : ADD → Option (Int32 × ADD)) => (if x1 = 0 then j22 D2 else aBind (fX11_is a1 a2 a3 D2) (fun x2 D4 => (if x2 = 0 then j22 D4 else aBind (fX11_look D4) (fun _ D5 => aBind (fX11_findProof a1 a2 a3 D5) (fun _ D6 => aLet (fun (D7 : ADD) => some ((2 : Int32), D7)) (fun (j78 : ADD → Option (Int32 × ADD)) => aLet (aFix aFuel (lX11_verdict_38 j78) (fun _ _ => none)) (fun j38 => j38 (0 : Int32) D6))))))))))
set_option maxHeartbeats 4000000 in
set_option maxRecDepth 100000 in
theorem mX11_verdict (l : Launch) (g : AGl) (hL : aLM g) (a1 : Int32) (a2 : Int32) (a3 : Int32) (D : ADD) : AM aVi l yX11_verdict cX11_verdict 5 (some .int) 6 g [.ref (g.1 + 0), .int a1, .int a2, .int a3] D (fX11_verdict a1 a2 a3 D) := by
  refine AM_of (lv0 := [some (.ref (g.1 + 0)), some (.int a1), some (.int a2), some (.int a3), none]) (own := RX11) (by decide +kernel) rfl (Nat.le_of_ble_eq_true rfl) rfl (fun b hC => ?_)
  unfold fX11_verdict
  refine A_aload_n hC dX11_verdict_0 rfl ?_
  refine A_iconst (v := 0) hC dX11_verdict_1 (by decide) ?_
  refine A_puti (kf := 0) hC kX11 (lM_0 hL) rfl (by decide) (by decide) rfl rfl rfl w_1003 dX11_verdict_2 (fun D1 => ?_)
  refine A_iload_n hC dX11_verdict_5 rfl ?_
  refine A_iload_n hC dX11_verdict_6 rfl ?_
  refine A_callSi (As := [.int a2, .int a3]) (st := []) hC (fun l => mX11_areUnits l g a2 a3 D1) yc_X11_340 rfl rfl ⟨by decide, by decide⟩ (Nat.le_of_ble_eq_true rfl) rfl dX11_verdict_7 (fun x1 D2 => ?_)
  refine A_join (fun (J : ADD → Option (Int32 × ADD)) => ∀ (D3 : ADD), AT aVi g b 22 [none, none, none, none, none] [] D3 (J D3)) (fun D3 => ?_) (fun j22 hj22 => ?_)
  · refine A_iconst (v := -1) hC dX11_verdict_22 (by decide) ?_
    exact A_iret hC dX11_verdict_23
  refine A_if_eq (tgt := 22) hC dX11_verdict_10 (by decide) ?_ ?_
  · exact A_to (hj22 D2) (trivial)
  · refine A_iload_n hC dX11_verdict_13 rfl ?_
    refine A_iload_n hC dX11_verdict_14 rfl ?_
    refine A_iload_n hC dX11_verdict_15 rfl ?_
    refine A_callSi (As := [.int a1, .int a2, .int a3]) (st := []) hC (fun l => mX11_is l g a1 a2 a3 D2) yc_X11_138 rfl rfl ⟨by decide, by decide⟩ (Nat.le_of_ble_eq_true rfl) rfl dX11_verdict_16 (fun x2 D4 => ?_)
    refine A_if_ne (tgt := 24) hC dX11_verdict_19 (by decide) ?_ ?_
    · refine A_aload_n hC dX11_verdict_24 rfl ?_
      refine A_callVv (As := []) (st := []) hC (fun l => mX11_look l g hL D4) (lM_0 hL) rfl (Nat.le_of_ble_eq_true rfl) yc_X11_311 rfl rfl ⟨by decide, by decide⟩ (Nat.le_of_ble_eq_true rfl) rfl dX11_verdict_25 (fun _ D5 => ?_)
      refine A_aload_n hC dX11_verdict_28 rfl ?_
      refine A_iload_n hC dX11_verdict_29 rfl ?_
      refine A_iload_n hC dX11_verdict_30 rfl ?_
      refine A_iload_n hC dX11_verdict_31 rfl ?_
      refine A_callVv (As := [.int a1, .int a2, .int a3]) (st := []) hC (fun l => mX11_findProof l g hL a1 a2 a3 D5) (lM_0 hL) rfl (Nat.le_of_ble_eq_true rfl) yc_X11_391 rfl rfl ⟨by decide, by decide⟩ (Nat.le_of_ble_eq_true rfl) rfl dX11_verdict_32 (fun _ D6 => ?_)
      refine A_iconst (v := 0) hC dX11_verdict_35 (by decide) ?_
      refine A_istore (lv2 := [some (.ref (g.1 + 0)), some (.int a1), some (.int a2), some (.int a3), some (.int (0 : Int32))]) hC dX11_verdict_36 (Nat.le_of_ble_eq_true rfl) rfl rfl ?_
      refine A_join (fun (J : ADD → Option (Int32 × ADD)) => ∀ (D7 : ADD), AT aVi g b 78 [none, none, none, none, none] [] D7 (J D7)) (fun D7 => ?_) (fun j78 hj78 => ?_)
      · refine A_iconst (v := 2) hC dX11_verdict_78 (by decide) ?_
        exact A_iret hC dX11_verdict_79
      refine A_join (fun (J : Int32 → ADD → Option (Int32 × ADD)) => ∀ (x3 : Int32) (D8 : ADD), AT aVi g b 38 [some (.ref (g.1 + 0)), none, none, none, some (.int x3)] [] D8 (J x3 D8)) (aFix_all (fun (J : Int32 → ADD → Option (Int32 × ADD)) => ∀ (x3 : Int32) (D8 : ADD), AT aVi g b 38 [some (.ref (g.1 + 0)), none, none, none, some (.int x3)] [] D8 (J x3 D8)) (fun _ _ => A_none) (fun L38 hL38 x3 D8 => ?_) _) (fun j38 hj38 => ?_)
      · unfold lX11_verdict_38
        refine A_iload hC dX11_verdict_38 rfl ?_
        refine A_aload_n hC dX11_verdict_40 rfl ?_
        refine A_getr (kf := 15) hC kX11 (lM_0 hL) rfl (by decide) (by decide) rfl rfl w_1018 dX11_verdict_41 ?_
        refine A_iconst (v := 1) hC dX11_verdict_44 (by decide) ?_
        refine A_iald hC (lM_15 hL) dX11_verdict_45 ?_
        refine A_icmp_ge (tgt := 78) hC dX11_verdict_46 (by decide) ?_ ?_
        · exact A_to (hj78 D8) (trivial)
        · refine A_aload_n hC dX11_verdict_49 rfl ?_
          refine A_bipush (v := 16) hC dX11_verdict_50 (by decide) ?_
          refine A_iload hC dX11_verdict_52 rfl ?_
          refine A_iadd hC dX11_verdict_54 ?_
          refine A_callVi (As := [.int ((16 : Int32) + x3)]) (st := []) hC (fun l => mX11_holds l g hL ((16 : Int32) + x3) D8) (lM_0 hL) rfl (Nat.le_of_ble_eq_true rfl) yc_X11_295 rfl rfl ⟨by decide, by decide⟩ (Nat.le_of_ble_eq_true rfl) rfl dX11_verdict_55 (fun x4 D9 => ?_)
          refine A_if_eq (tgt := 72) hC dX11_verdict_58 (by decide) ?_ ?_
          · refine A_iincL (z := (1 : Int32)) (lv2 := fun x5 => [some (.ref (g.1 + 0)), none, none, none, some (.int x5)]) hC dX11_verdict_72 rfl (by decide) (Nat.le_of_ble_eq_true rfl) rfl (fun _ => rfl) (fun x5 => ?_)
            refine A_goto (tgt := 38) hC dX11_verdict_75 (by decide) ?_
            exact A_to (hL38 x5 D9) (And.intro rfl (And.intro rfl (trivial)))
          · refine A_aload_n hC dX11_verdict_61 rfl ?_
            refine A_getr (kf := 20) hC kX11 (lM_0 hL) rfl (by decide) (by decide) rfl rfl w_1023 dX11_verdict_62 ?_
            refine A_bipush (v := 16) hC dX11_verdict_65 (by decide) ?_
            refine A_iload hC dX11_verdict_67 rfl ?_
            refine A_iadd hC dX11_verdict_69 ?_
            refine A_iald hC (lM_20 hL) dX11_verdict_70 ?_
            exact A_iret hC dX11_verdict_71
      exact A_to (hj38 (0 : Int32) D6) (And.intro rfl (And.intro rfl (trivial)))
    · exact A_to (hj22 D4) (trivial)
def fX11_worthOf (a1 : Int32) (a2 : Int32) (a3 : Int32) (D : ADD) : Option (Int32 × ADD) := aIn a1 32 (aLet (D.1 33 a1.toNatClampNeg) (fun x1 => aIn a1 32 (aLet (D.1 34 a1.toNatClampNeg) (fun x2 => aIn a1 32 (aLet (aSI D 34 a1.toNatClampNeg x1) (fun D1 => aBind (fX11_bestOf a2 a3 D1) (fun x3 D2 => aIn a1 32 (aLet (aSI D2 33 a1.toNatClampNeg x2) (fun D3 => aIn a1 32 (aLet (aSI D3 34 a1.toNatClampNeg x2) (fun D4 => aBind (fX11_bestOf a2 a3 D4) (fun x4 D5 => aIn a1 32 (aLet (aSI D5 33 a1.toNatClampNeg x1) (fun D6 => aLet (fun (x5 : Int32) (D7 : ADD) => some (x5, D7)) (fun (j84 : Int32 → ADD → Option (Int32 × ADD)) => (if x4 ≤ x3 then j84 (x3 - x4) D6 else j84 (x4 - x3) D6))))))))))))))))
set_option maxHeartbeats 4000000 in
set_option maxRecDepth 100000 in
theorem mX11_worthOf (l : Launch) (g : AGl) (hL : aLM g) (a1 : Int32) (a2 : Int32) (a3 : Int32) (D : ADD) : AM aVi l yX11_worthOf cX11_worthOf 8 (some .int) 6 g [.ref (g.1 + 0), .int a1, .int a2, .int a3] D (fX11_worthOf a1 a2 a3 D) := by
  refine AM_of (lv0 := [some (.ref (g.1 + 0)), some (.int a1), some (.int a2), some (.int a3), none, none, none, none]) (own := RX11) (by decide +kernel) rfl (Nat.le_of_ble_eq_true rfl) rfl (fun b hC => ?_)
  unfold fX11_worthOf
  refine A_aload_n hC dX11_worthOf_0 rfl ?_
  refine A_getr (kf := 44) hC kX11 (lM_0 hL) rfl (by decide) (by decide) rfl rfl w_1047 dX11_worthOf_1 ?_
  refine A_iload_n hC dX11_worthOf_4 rfl ?_
  refine A_iald hC (lM_33 hL) dX11_worthOf_5 ?_
  refine A_topi (fun x1 => ?_)
  refine A_istore (lv2 := [some (.ref (g.1 + 0)), some (.int a1), some (.int a2), some (.int a3), some (.int x1), none, none, none]) hC dX11_worthOf_6 (Nat.le_of_ble_eq_true rfl) rfl rfl ?_
  refine A_aload_n hC dX11_worthOf_8 rfl ?_
  refine A_getr (kf := 45) hC kX11 (lM_0 hL) rfl (by decide) (by decide) rfl rfl w_1048 dX11_worthOf_9 ?_
  refine A_iload_n hC dX11_worthOf_12 rfl ?_
  refine A_iald hC (lM_34 hL) dX11_worthOf_13 ?_
  refine A_topi (fun x2 => ?_)
  refine A_istore (lv2 := [some (.ref (g.1 + 0)), some (.int a1), some (.int a2), some (.int a3), some (.int x1), some (.int x2), none, none]) hC dX11_worthOf_14 (Nat.le_of_ble_eq_true rfl) rfl rfl ?_
  refine A_aload_n hC dX11_worthOf_16 rfl ?_
  refine A_getr (kf := 45) hC kX11 (lM_0 hL) rfl (by decide) (by decide) rfl rfl w_1048 dX11_worthOf_17 ?_
  refine A_iload_n hC dX11_worthOf_20 rfl ?_
  refine A_iload hC dX11_worthOf_21 rfl ?_
  refine A_iast hC (lM_34 hL) dX11_worthOf_23 (fun D1 => ?_)
  refine A_aload_n hC dX11_worthOf_24 rfl ?_
  refine A_iload_n hC dX11_worthOf_25 rfl ?_
  refine A_iload_n hC dX11_worthOf_26 rfl ?_
  refine A_callVi (As := [.int a2, .int a3]) (st := []) hC (fun l => mX11_bestOf l g hL a2 a3 D1) (lM_0 hL) rfl (Nat.le_of_ble_eq_true rfl) yc_X11_347 rfl rfl ⟨by decide, by decide⟩ (Nat.le_of_ble_eq_true rfl) rfl dX11_worthOf_27 (fun x3 D2 => ?_)
  refine A_istore (lv2 := [some (.ref (g.1 + 0)), some (.int a1), some (.int a2), some (.int a3), some (.int x1), some (.int x2), some (.int x3), none]) hC dX11_worthOf_30 (Nat.le_of_ble_eq_true rfl) rfl rfl ?_
  refine A_aload_n hC dX11_worthOf_32 rfl ?_
  refine A_getr (kf := 44) hC kX11 (lM_0 hL) rfl (by decide) (by decide) rfl rfl w_1047 dX11_worthOf_33 ?_
  refine A_iload_n hC dX11_worthOf_36 rfl ?_
  refine A_iload hC dX11_worthOf_37 rfl ?_
  refine A_iast hC (lM_33 hL) dX11_worthOf_39 (fun D3 => ?_)
  refine A_aload_n hC dX11_worthOf_40 rfl ?_
  refine A_getr (kf := 45) hC kX11 (lM_0 hL) rfl (by decide) (by decide) rfl rfl w_1048 dX11_worthOf_41 ?_
  refine A_iload_n hC dX11_worthOf_44 rfl ?_
  refine A_iload hC dX11_worthOf_45 rfl ?_
  refine A_iast hC (lM_34 hL) dX11_worthOf_47 (fun D4 => ?_)
  refine A_aload_n hC dX11_worthOf_48 rfl ?_
  refine A_iload_n hC dX11_worthOf_49 rfl ?_
  refine A_iload_n hC dX11_worthOf_50 rfl ?_
  refine A_callVi (As := [.int a2, .int a3]) (st := []) hC (fun l => mX11_bestOf l g hL a2 a3 D4) (lM_0 hL) rfl (Nat.le_of_ble_eq_true rfl) yc_X11_347 rfl rfl ⟨by decide, by decide⟩ (Nat.le_of_ble_eq_true rfl) rfl dX11_worthOf_51 (fun x4 D5 => ?_)
  refine A_istore (lv2 := [some (.ref (g.1 + 0)), some (.int a1), some (.int a2), some (.int a3), some (.int x1), some (.int x2), some (.int x3), some (.int x4)]) hC dX11_worthOf_54 (Nat.le_of_ble_eq_true rfl) rfl rfl ?_
  refine A_aload_n hC dX11_worthOf_56 rfl ?_
  refine A_getr (kf := 44) hC kX11 (lM_0 hL) rfl (by decide) (by decide) rfl rfl w_1047 dX11_worthOf_57 ?_
  refine A_iload_n hC dX11_worthOf_60 rfl ?_
  refine A_iload hC dX11_worthOf_61 rfl ?_
  refine A_iast hC (lM_33 hL) dX11_worthOf_63 (fun D6 => ?_)
  refine A_iload hC dX11_worthOf_64 rfl ?_
  refine A_iload hC dX11_worthOf_66 rfl ?_
  refine A_join (fun (J : Int32 → ADD → Option (Int32 × ADD)) => ∀ (x5 : Int32) (D7 : ADD), AT aVi g b 84 [none, none, none, none, none, none, none, none] [.int x5] D7 (J x5 D7)) (fun x5 D7 => ?_) (fun j84 hj84 => ?_)
  · exact A_iret hC dX11_worthOf_84
  refine A_icmp_ge (tgt := 79) hC dX11_worthOf_68 (by decide) ?_ ?_
  · refine A_iload hC dX11_worthOf_79 rfl ?_
    refine A_iload hC dX11_worthOf_81 rfl ?_
    refine A_isub hC dX11_worthOf_83 ?_
    exact A_to (hj84 (x3 - x4) D6) (trivial)
  · refine A_iload hC dX11_worthOf_71 rfl ?_
    refine A_iload hC dX11_worthOf_73 rfl ?_
    refine A_isub hC dX11_worthOf_75 ?_
    refine A_goto (tgt := 84) hC dX11_worthOf_76 (by decide) ?_
    exact A_to (hj84 (x4 - x3) D6) (trivial)
def lX11_anew_27 (a1 : Int32) (a2 : Int32) (j76 : Int32 → ADD → Option (Int32 × ADD)) (L27 : Int32 → Int32 → Int32 → ADD → Option (Int32 × ADD)) (x3 : Int32) (x4 : Int32) (x5 : Int32) (D5 : ADD) : Option (Int32 × ADD) := (if (D5.1 0 41) ≤ x5 then j76 x3 D5 else aIn x5 32 (aLet (fun (x6 : Int32) (x7 : Int32) (D6 : ADD) => aLet (x5 + (1 : Int32)) (fun x8 => L27 x6 x7 x8 D6)) (fun (j70 : Int32 → Int32 → ADD → Option (Int32 × ADD)) => (if (aBz (D5.1 35 x5.toNatClampNeg)) = 0 then j70 x3 x4 D5 else aBind (fX11_worthOf x5 a1 a2 D5) (fun x9 D7 => (if x9 ≤ x4 then j70 x3 x4 D7 else j70 x5 x9 D7))))))
def fX11_anew (a1 : Int32) (a2 : Int32) (D : ADD) : Option (Int32 × ADD) := aLet (aSI D 0 0 (0 : Int32)) (fun D1 => aBind (fX11_areUnits a1 a2 D1) (fun x1 D2 => (if x1 = 0 then some ((-1 : Int32), D2) else aBind (fX11_look D2) (fun _ D3 => aLet (fun (x2 : Int32) (D4 : ADD) => some (x2, D4)) (fun (j76 : Int32 → ADD → Option (Int32 × ADD)) => aLet (aFix aFuel (lX11_anew_27 a1 a2 j76) (fun _ _ _ _ => none)) (fun j27 => j27 (-1 : Int32) (-1 : Int32) (0 : Int32) D3))))))
set_option maxHeartbeats 4000000 in
set_option maxRecDepth 100000 in
theorem mX11_anew (l : Launch) (g : AGl) (hL : aLM g) (a1 : Int32) (a2 : Int32) (D : ADD) : AM aVi l yX11_anew cX11_anew 7 (some .int) 7 g [.ref (g.1 + 0), .int a1, .int a2] D (fX11_anew a1 a2 D) := by
  refine AM_of (lv0 := [some (.ref (g.1 + 0)), some (.int a1), some (.int a2), none, none, none, none]) (own := RX11) (by decide +kernel) rfl (Nat.le_of_ble_eq_true rfl) rfl (fun b hC => ?_)
  unfold fX11_anew
  refine A_aload_n hC dX11_anew_0 rfl ?_
  refine A_iconst (v := 0) hC dX11_anew_1 (by decide) ?_
  refine A_puti (kf := 0) hC kX11 (lM_0 hL) rfl (by decide) (by decide) rfl rfl rfl w_1003 dX11_anew_2 (fun D1 => ?_)
  refine A_iload_n hC dX11_anew_5 rfl ?_
  refine A_iload_n hC dX11_anew_6 rfl ?_
  refine A_callSi (As := [.int a1, .int a2]) (st := []) hC (fun l => mX11_areUnits l g a1 a2 D1) yc_X11_340 rfl rfl ⟨by decide, by decide⟩ (Nat.le_of_ble_eq_true rfl) rfl dX11_anew_7 (fun x1 D2 => ?_)
  refine A_if_ne (tgt := 15) hC dX11_anew_10 (by decide) ?_ ?_
  · refine A_aload_n hC dX11_anew_15 rfl ?_
    refine A_callVv (As := []) (st := []) hC (fun l => mX11_look l g hL D2) (lM_0 hL) rfl (Nat.le_of_ble_eq_true rfl) yc_X11_311 rfl rfl ⟨by decide, by decide⟩ (Nat.le_of_ble_eq_true rfl) rfl dX11_anew_16 (fun _ D3 => ?_)
    refine A_iconst (v := -1) hC dX11_anew_19 (by decide) ?_
    refine A_istore_n (lv2 := [some (.ref (g.1 + 0)), some (.int a1), some (.int a2), some (.int (-1 : Int32)), none, none, none]) hC dX11_anew_20 (Nat.le_of_ble_eq_true rfl) rfl rfl ?_
    refine A_iconst (v := -1) hC dX11_anew_21 (by decide) ?_
    refine A_istore (lv2 := [some (.ref (g.1 + 0)), some (.int a1), some (.int a2), some (.int (-1 : Int32)), some (.int (-1 : Int32)), none, none]) hC dX11_anew_22 (Nat.le_of_ble_eq_true rfl) rfl rfl ?_
    refine A_iconst (v := 0) hC dX11_anew_24 (by decide) ?_
    refine A_istore (lv2 := [some (.ref (g.1 + 0)), some (.int a1), some (.int a2), some (.int (-1 : Int32)), some (.int (-1 : Int32)), some (.int (0 : Int32)), none]) hC dX11_anew_25 (Nat.le_of_ble_eq_true rfl) rfl rfl ?_
    refine A_join (fun (J : Int32 → ADD → Option (Int32 × ADD)) => ∀ (x2 : Int32) (D4 : ADD), AT aVi g b 76 [none, none, none, some (.int x2), none, none, none] [] D4 (J x2 D4)) (fun x2 D4 => ?_) (fun j76 hj76 => ?_)
    · refine A_iload_n hC dX11_anew_76 rfl ?_
      exact A_iret hC dX11_anew_77
    refine A_join (fun (J : Int32 → Int32 → Int32 → ADD → Option (Int32 × ADD)) => ∀ (x3 : Int32) (x4 : Int32) (x5 : Int32) (D5 : ADD), AT aVi g b 27 [some (.ref (g.1 + 0)), some (.int a1), some (.int a2), some (.int x3), some (.int x4), some (.int x5), none] [] D5 (J x3 x4 x5 D5)) (aFix_all (fun (J : Int32 → Int32 → Int32 → ADD → Option (Int32 × ADD)) => ∀ (x3 : Int32) (x4 : Int32) (x5 : Int32) (D5 : ADD), AT aVi g b 27 [some (.ref (g.1 + 0)), some (.int a1), some (.int a2), some (.int x3), some (.int x4), some (.int x5), none] [] D5 (J x3 x4 x5 D5)) (fun _ _ _ _ => A_none) (fun L27 hL27 x3 x4 x5 D5 => ?_) _) (fun j27 hj27 => ?_)
    · unfold lX11_anew_27
      refine A_iload hC dX11_anew_27 rfl ?_
      refine A_aload_n hC dX11_anew_29 rfl ?_
      refine A_geti (kf := 41) hC kX11 (lM_0 hL) rfl (by decide) (by decide) rfl w_1044 dX11_anew_30 ?_
      refine A_icmp_ge (tgt := 76) hC dX11_anew_33 (by decide) ?_ ?_
      · exact A_to (hj76 x3 D5) (And.intro rfl (trivial))
      · refine A_aload_n hC dX11_anew_36 rfl ?_
        refine A_getr (kf := 46) hC kX11 (lM_0 hL) rfl (by decide) (by decide) rfl rfl w_1049 dX11_anew_37 ?_
        refine A_iload hC dX11_anew_40 rfl ?_
        refine A_zald hC (lM_35 hL) dX11_anew_42 ?_
        refine A_join (fun (J : Int32 → Int32 → ADD → Option (Int32 × ADD)) => ∀ (x6 : Int32) (x7 : Int32) (D6 : ADD), AT aVi g b 70 [some (.ref (g.1 + 0)), some (.int a1), some (.int a2), some (.int x6), some (.int x7), some (.int x5), none] [] D6 (J x6 x7 D6)) (fun x6 x7 D6 => ?_) (fun j70 hj70 => ?_)
        · refine A_iincL (z := (1 : Int32)) (lv2 := fun x8 => [some (.ref (g.1 + 0)), some (.int a1), some (.int a2), some (.int x6), some (.int x7), some (.int x8), none]) hC dX11_anew_70 rfl (by decide) (Nat.le_of_ble_eq_true rfl) rfl (fun _ => rfl) (fun x8 => ?_)
          refine A_goto (tgt := 27) hC dX11_anew_73 (by decide) ?_
          exact A_to (hL27 x6 x7 x8 D6) (And.intro rfl (And.intro rfl (And.intro rfl (And.intro rfl (And.intro rfl (And.intro rfl (trivial)))))))
        refine A_if_eq (tgt := 70) hC dX11_anew_43 (by decide) ?_ ?_
        · exact A_to (hj70 x3 x4 D5) (And.intro rfl (And.intro rfl (And.intro rfl (And.intro rfl (And.intro rfl (And.intro rfl (trivial)))))))
        · refine A_aload_n hC dX11_anew_46 rfl ?_
          refine A_iload hC dX11_anew_47 rfl ?_
          refine A_iload_n hC dX11_anew_49 rfl ?_
          refine A_iload_n hC dX11_anew_50 rfl ?_
          refine A_callVi (As := [.int x5, .int a1, .int a2]) (st := []) hC (fun l => mX11_worthOf l g hL x5 a1 a2 D5) (lM_0 hL) rfl (Nat.le_of_ble_eq_true rfl) yc_X11_409 rfl rfl ⟨by decide, by decide⟩ (Nat.le_of_ble_eq_true rfl) rfl dX11_anew_51 (fun x9 D7 => ?_)
          refine A_istore (lv2 := [some (.ref (g.1 + 0)), some (.int a1), some (.int a2), some (.int x3), some (.int x4), some (.int x5), some (.int x9)]) hC dX11_anew_54 (Nat.le_of_ble_eq_true rfl) rfl rfl ?_
          refine A_iload hC dX11_anew_56 rfl ?_
          refine A_iload hC dX11_anew_58 rfl ?_
          refine A_icmp_le (tgt := 70) hC dX11_anew_60 (by decide) ?_ ?_
          · exact A_to (hj70 x3 x4 D7) (And.intro rfl (And.intro rfl (And.intro rfl (And.intro rfl (And.intro rfl (And.intro rfl (trivial)))))))
          · refine A_iload hC dX11_anew_63 rfl ?_
            refine A_istore (lv2 := [some (.ref (g.1 + 0)), some (.int a1), some (.int a2), some (.int x3), some (.int x9), some (.int x5), some (.int x9)]) hC dX11_anew_65 (Nat.le_of_ble_eq_true rfl) rfl rfl ?_
            refine A_iload hC dX11_anew_67 rfl ?_
            refine A_istore_n (lv2 := [some (.ref (g.1 + 0)), some (.int a1), some (.int a2), some (.int x5), some (.int x9), some (.int x5), some (.int x9)]) hC dX11_anew_69 (Nat.le_of_ble_eq_true rfl) rfl rfl ?_
            exact A_to (hj70 x5 x9 D7) (And.intro rfl (And.intro rfl (And.intro rfl (And.intro rfl (And.intro rfl (And.intro rfl (trivial)))))))
    exact A_to (hj27 (-1 : Int32) (-1 : Int32) (0 : Int32) D3) (And.intro rfl (And.intro rfl (And.intro rfl (And.intro rfl (And.intro rfl (And.intro rfl (trivial)))))))
  · refine A_iconst (v := -1) hC dX11_anew_13 (by decide) ?_
    exact A_iret hC dX11_anew_14
def lX11_rate_106 (a5 : Int32) (x5 : Int32) (x6 : Int32) (x7 : Int32) (j210 : ADD → Option (Int32 × ADD)) (L106 : Int32 → ADD → Option (Int32 × ADD)) (x9 : Int32) (D15 : ADD) : Option (Int32 × ADD) := (if x7 ≤ x9 then j210 D15 else aLet (x7 - x9) (fun x10 => aLet ((x5 * x10) - (x6 * x9)) (fun x11 => aLet (fun (x12 : Int32) (D16 : ADD) => aLet (fun (D17 : ADD) => aLet (x9 + (1 : Int32)) (fun x13 => L106 x13 D17)) (fun (j204 : ADD → Option (Int32 × ADD)) => (if (13 : Int32) ≤ x9 then j204 D16 else (if (13 : Int32) ≤ x10 then j204 D16 else aBind (fX11_gcd x9 x10 D16) (fun x14 D18 => (if x14 = (1 : Int32) then (if 0 < (aCmp ((1000 : Int64) * x12.toInt64) ((a5.toInt64 * x6.toInt64) * x9.toInt64)) then j204 D18 else some ((((100 : Int32) * x9) + x10), D18)) else j204 D18)))))) (fun (j146 : Int32 → ADD → Option (Int32 × ADD)) => (if 0 ≤ x11 then j146 x11 D15 else j146 (-x11) D15)))))
def lX11_rate_96 (a5 : Int32) (x5 : Int32) (x6 : Int32) (j216 : ADD → Option (Int32 × ADD)) (L96 : Int32 → ADD → Option (Int32 × ADD)) (x7 : Int32) (D13 : ADD) : Option (Int32 × ADD) := (if (24 : Int32) < x7 then j216 D13 else aLet (fun (D14 : ADD) => aLet (x7 + (1 : Int32)) (fun x8 => L96 x8 D14)) (fun (j210 : ADD → Option (Int32 × ADD)) => aLet (aFix aFuel (lX11_rate_106 a5 x5 x6 x7 j210) (fun _ _ => none)) (fun j106 => j106 (1 : Int32) D13)))
def fX11_rate (a1 : Int32) (a2 : Int32) (a3 : Int32) (a4 : Int32) (a5 : Int32) (D : ADD) : Option (Int32 × ADD) := aLet (aSI D 0 0 (0 : Int32)) (fun D1 => aBind (fX11_is a1 (0 : Int32) (5 : Int32) D1) (fun x1 D2 => aLet (fun (D3 : ADD) => some ((-1 : Int32), D3)) (fun (j49 : ADD → Option (Int32 × ADD)) => (if x1 = 0 then j49 D2 else aBind (fX11_is a2 (0 : Int32) (5 : Int32) D2) (fun x2 D4 => (if x2 = 0 then j49 D4 else (if a1 = a2 then j49 D4 else aBind (fX11_areUnits a3 a4 D4) (fun x3 D5 => (if x3 = 0 then j49 D5 else aBind (fX11_is a5 (0 : Int32) (200 : Int32) D5) (fun x4 D6 => (if x4 = 0 then j49 D6 else aBind (fX11_look D6) (fun _ D7 => aBind (fX11_keepChosen D7) (fun _ D8 => aBind (fX11_bestOfTown a1 a3 a4 D8) (fun x5 D9 => aBind (fX11_bestOfTown a2 a3 a4 D9) (fun x6 D10 => aLet (fun (D11 : ADD) => some ((-1 : Int32), D11)) (fun (j91 : ADD → Option (Int32 × ADD)) => (if x5 = (-1 : Int32) then j91 D10 else (if x6 = (-1 : Int32) then j91 D10 else aLet (fun (D12 : ADD) => some ((-1 : Int32), D12)) (fun (j216 : ADD → Option (Int32 × ADD)) => aLet (aFix aFuel (lX11_rate_96 a5 x5 x6 j216) (fun _ _ => none)) (fun j96 => j96 (2 : Int32) D10))))))))))))))))))))
set_option maxHeartbeats 4000000 in
set_option maxRecDepth 100000 in
theorem mX11_rate (l : Launch) (g : AGl) (hL : aLM g) (a1 : Int32) (a2 : Int32) (a3 : Int32) (a4 : Int32) (a5 : Int32) (D : ADD) : AM aVi l yX11_rate cX11_rate 12 (some .int) 7 g [.ref (g.1 + 0), .int a1, .int a2, .int a3, .int a4, .int a5] D (fX11_rate a1 a2 a3 a4 a5 D) := by
  refine AM_of (lv0 := [some (.ref (g.1 + 0)), some (.int a1), some (.int a2), some (.int a3), some (.int a4), some (.int a5), none, none, none, none, none, none]) (own := RX11) (by decide +kernel) rfl (Nat.le_of_ble_eq_true rfl) rfl (fun b hC => ?_)
  unfold fX11_rate
  refine A_aload_n hC dX11_rate_0 rfl ?_
  refine A_iconst (v := 0) hC dX11_rate_1 (by decide) ?_
  refine A_puti (kf := 0) hC kX11 (lM_0 hL) rfl (by decide) (by decide) rfl rfl rfl w_1003 dX11_rate_2 (fun D1 => ?_)
  refine A_iload_n hC dX11_rate_5 rfl ?_
  refine A_iconst (v := 0) hC dX11_rate_6 (by decide) ?_
  refine A_iconst (v := 5) hC dX11_rate_7 (by decide) ?_
  refine A_callSi (As := [.int a1, .int (0 : Int32), .int (5 : Int32)]) (st := []) hC (fun l => mX11_is l g a1 (0 : Int32) (5 : Int32) D1) yc_X11_138 rfl rfl ⟨by decide, by decide⟩ (Nat.le_of_ble_eq_true rfl) rfl dX11_rate_8 (fun x1 D2 => ?_)
  refine A_join (fun (J : ADD → Option (Int32 × ADD)) => ∀ (D3 : ADD), AT aVi g b 49 [none, none, none, none, none, none, none, none, none, none, none, none] [] D3 (J D3)) (fun D3 => ?_) (fun j49 hj49 => ?_)
  · refine A_iconst (v := -1) hC dX11_rate_49 (by decide) ?_
    exact A_iret hC dX11_rate_50
  refine A_if_eq (tgt := 49) hC dX11_rate_11 (by decide) ?_ ?_
  · exact A_to (hj49 D2) (trivial)
  · refine A_iload_n hC dX11_rate_14 rfl ?_
    refine A_iconst (v := 0) hC dX11_rate_15 (by decide) ?_
    refine A_iconst (v := 5) hC dX11_rate_16 (by decide) ?_
    refine A_callSi (As := [.int a2, .int (0 : Int32), .int (5 : Int32)]) (st := []) hC (fun l => mX11_is l g a2 (0 : Int32) (5 : Int32) D2) yc_X11_138 rfl rfl ⟨by decide, by decide⟩ (Nat.le_of_ble_eq_true rfl) rfl dX11_rate_17 (fun x2 D4 => ?_)
    refine A_if_eq (tgt := 49) hC dX11_rate_20 (by decide) ?_ ?_
    · exact A_to (hj49 D4) (trivial)
    · refine A_iload_n hC dX11_rate_23 rfl ?_
      refine A_iload_n hC dX11_rate_24 rfl ?_
      refine A_icmp_eq (tgt := 49) hC dX11_rate_25 (by decide) ?_ ?_
      · exact A_to (hj49 D4) (trivial)
      · refine A_iload_n hC dX11_rate_28 rfl ?_
        refine A_iload hC dX11_rate_29 rfl ?_
        refine A_callSi (As := [.int a3, .int a4]) (st := []) hC (fun l => mX11_areUnits l g a3 a4 D4) yc_X11_340 rfl rfl ⟨by decide, by decide⟩ (Nat.le_of_ble_eq_true rfl) rfl dX11_rate_31 (fun x3 D5 => ?_)
        refine A_if_eq (tgt := 49) hC dX11_rate_34 (by decide) ?_ ?_
        · exact A_to (hj49 D5) (trivial)
        · refine A_iload hC dX11_rate_37 rfl ?_
          refine A_iconst (v := 0) hC dX11_rate_39 (by decide) ?_
          refine A_sipush (v := 200) hC dX11_rate_40 (by decide) ?_
          refine A_callSi (As := [.int a5, .int (0 : Int32), .int (200 : Int32)]) (st := []) hC (fun l => mX11_is l g a5 (0 : Int32) (200 : Int32) D5) yc_X11_138 rfl rfl ⟨by decide, by decide⟩ (Nat.le_of_ble_eq_true rfl) rfl dX11_rate_43 (fun x4 D6 => ?_)
          refine A_if_ne (tgt := 51) hC dX11_rate_46 (by decide) ?_ ?_
          · refine A_aload_n hC dX11_rate_51 rfl ?_
            refine A_callVv (As := []) (st := []) hC (fun l => mX11_look l g hL D6) (lM_0 hL) rfl (Nat.le_of_ble_eq_true rfl) yc_X11_311 rfl rfl ⟨by decide, by decide⟩ (Nat.le_of_ble_eq_true rfl) rfl dX11_rate_52 (fun _ D7 => ?_)
            refine A_aload_n hC dX11_rate_55 rfl ?_
            refine A_callVv (As := []) (st := []) hC (fun l => mX11_keepChosen l g hL D7) (lM_0 hL) rfl (Nat.le_of_ble_eq_true rfl) yc_X11_397 rfl rfl ⟨by decide, by decide⟩ (Nat.le_of_ble_eq_true rfl) rfl dX11_rate_56 (fun _ D8 => ?_)
            refine A_aload_n hC dX11_rate_59 rfl ?_
            refine A_iload_n hC dX11_rate_60 rfl ?_
            refine A_iload_n hC dX11_rate_61 rfl ?_
            refine A_iload hC dX11_rate_62 rfl ?_
            refine A_callVi (As := [.int a1, .int a3, .int a4]) (st := []) hC (fun l => mX11_bestOfTown l g hL a1 a3 a4 D8) (lM_0 hL) rfl (Nat.le_of_ble_eq_true rfl) yc_X11_400 rfl rfl ⟨by decide, by decide⟩ (Nat.le_of_ble_eq_true rfl) rfl dX11_rate_64 (fun x5 D9 => ?_)
            refine A_istore (lv2 := [some (.ref (g.1 + 0)), some (.int a1), some (.int a2), some (.int a3), some (.int a4), some (.int a5), some (.int x5), none, none, none, none, none]) hC dX11_rate_67 (Nat.le_of_ble_eq_true rfl) rfl rfl ?_
            refine A_aload_n hC dX11_rate_69 rfl ?_
            refine A_iload_n hC dX11_rate_70 rfl ?_
            refine A_iload_n hC dX11_rate_71 rfl ?_
            refine A_iload hC dX11_rate_72 rfl ?_
            refine A_callVi (As := [.int a2, .int a3, .int a4]) (st := []) hC (fun l => mX11_bestOfTown l g hL a2 a3 a4 D9) (lM_0 hL) rfl (Nat.le_of_ble_eq_true rfl) yc_X11_400 rfl rfl ⟨by decide, by decide⟩ (Nat.le_of_ble_eq_true rfl) rfl dX11_rate_74 (fun x6 D10 => ?_)
            refine A_istore (lv2 := [some (.ref (g.1 + 0)), some (.int a1), some (.int a2), some (.int a3), some (.int a4), some (.int a5), some (.int x5), some (.int x6), none, none, none, none]) hC dX11_rate_77 (Nat.le_of_ble_eq_true rfl) rfl rfl ?_
            refine A_iload hC dX11_rate_79 rfl ?_
            refine A_iconst (v := -1) hC dX11_rate_81 (by decide) ?_
            refine A_join (fun (J : ADD → Option (Int32 × ADD)) => ∀ (D11 : ADD), AT aVi g b 91 [none, none, none, none, none, none, none, none, none, none, none, none] [] D11 (J D11)) (fun D11 => ?_) (fun j91 hj91 => ?_)
            · refine A_iconst (v := -1) hC dX11_rate_91 (by decide) ?_
              exact A_iret hC dX11_rate_92
            refine A_icmp_eq (tgt := 91) hC dX11_rate_82 (by decide) ?_ ?_
            · exact A_to (hj91 D10) (trivial)
            · refine A_iload hC dX11_rate_85 rfl ?_
              refine A_iconst (v := -1) hC dX11_rate_87 (by decide) ?_
              refine A_icmp_ne (tgt := 93) hC dX11_rate_88 (by decide) ?_ ?_
              · refine A_iconst (v := 2) hC dX11_rate_93 (by decide) ?_
                refine A_istore (lv2 := [some (.ref (g.1 + 0)), some (.int a1), some (.int a2), some (.int a3), some (.int a4), some (.int a5), some (.int x5), some (.int x6), some (.int (2 : Int32)), none, none, none]) hC dX11_rate_94 (Nat.le_of_ble_eq_true rfl) rfl rfl ?_
                refine A_join (fun (J : ADD → Option (Int32 × ADD)) => ∀ (D12 : ADD), AT aVi g b 216 [none, none, none, none, none, none, none, none, none, none, none, none] [] D12 (J D12)) (fun D12 => ?_) (fun j216 hj216 => ?_)
                · refine A_iconst (v := -1) hC dX11_rate_216 (by decide) ?_
                  exact A_iret hC dX11_rate_217
                refine A_join (fun (J : Int32 → ADD → Option (Int32 × ADD)) => ∀ (x7 : Int32) (D13 : ADD), AT aVi g b 96 [none, none, none, none, none, some (.int a5), some (.int x5), some (.int x6), some (.int x7), none, none, none] [] D13 (J x7 D13)) (aFix_all (fun (J : Int32 → ADD → Option (Int32 × ADD)) => ∀ (x7 : Int32) (D13 : ADD), AT aVi g b 96 [none, none, none, none, none, some (.int a5), some (.int x5), some (.int x6), some (.int x7), none, none, none] [] D13 (J x7 D13)) (fun _ _ => A_none) (fun L96 hL96 x7 D13 => ?_) _) (fun j96 hj96 => ?_)
                · unfold lX11_rate_96
                  refine A_iload hC dX11_rate_96 rfl ?_
                  refine A_bipush (v := 24) hC dX11_rate_98 (by decide) ?_
                  refine A_icmp_gt (tgt := 216) hC dX11_rate_100 (by decide) ?_ ?_
                  · exact A_to (hj216 D13) (trivial)
                  · refine A_iconst (v := 1) hC dX11_rate_103 (by decide) ?_
                    refine A_istore (lv2 := [none, none, none, none, none, some (.int a5), some (.int x5), some (.int x6), some (.int x7), some (.int (1 : Int32)), none, none]) hC dX11_rate_104 (Nat.le_of_ble_eq_true rfl) rfl rfl ?_
                    refine A_join (fun (J : ADD → Option (Int32 × ADD)) => ∀ (D14 : ADD), AT aVi g b 210 [none, none, none, none, none, some (.int a5), some (.int x5), some (.int x6), some (.int x7), none, none, none] [] D14 (J D14)) (fun D14 => ?_) (fun j210 hj210 => ?_)
                    · refine A_iincL (z := (1 : Int32)) (lv2 := fun x8 => [none, none, none, none, none, some (.int a5), some (.int x5), some (.int x6), some (.int x8), none, none, none]) hC dX11_rate_210 rfl (by decide) (Nat.le_of_ble_eq_true rfl) rfl (fun _ => rfl) (fun x8 => ?_)
                      refine A_goto (tgt := 96) hC dX11_rate_213 (by decide) ?_
                      exact A_to (hL96 x8 D14) (And.intro rfl (And.intro rfl (And.intro rfl (And.intro rfl (trivial)))))
                    refine A_join (fun (J : Int32 → ADD → Option (Int32 × ADD)) => ∀ (x9 : Int32) (D15 : ADD), AT aVi g b 106 [none, none, none, none, none, some (.int a5), some (.int x5), some (.int x6), some (.int x7), some (.int x9), none, none] [] D15 (J x9 D15)) (aFix_all (fun (J : Int32 → ADD → Option (Int32 × ADD)) => ∀ (x9 : Int32) (D15 : ADD), AT aVi g b 106 [none, none, none, none, none, some (.int a5), some (.int x5), some (.int x6), some (.int x7), some (.int x9), none, none] [] D15 (J x9 D15)) (fun _ _ => A_none) (fun L106 hL106 x9 D15 => ?_) _) (fun j106 hj106 => ?_)
                    · unfold lX11_rate_106
                      refine A_iload hC dX11_rate_106 rfl ?_
                      refine A_iload hC dX11_rate_108 rfl ?_
                      refine A_icmp_ge (tgt := 210) hC dX11_rate_110 (by decide) ?_ ?_
                      · exact A_to (hj210 D15) (And.intro rfl (And.intro rfl (And.intro rfl (And.intro rfl (trivial)))))
                      · refine A_iload hC dX11_rate_113 rfl ?_
                        refine A_iload hC dX11_rate_115 rfl ?_
                        refine A_isub hC dX11_rate_117 ?_
                        refine A_topi (fun x10 => ?_)
                        refine A_istore (lv2 := [none, none, none, none, none, some (.int a5), some (.int x5), some (.int x6), some (.int x7), some (.int x9), some (.int x10), none]) hC dX11_rate_118 (Nat.le_of_ble_eq_true rfl) rfl rfl ?_
                        refine A_iload hC dX11_rate_120 rfl ?_
                        refine A_iload hC dX11_rate_122 rfl ?_
                        refine A_imul hC dX11_rate_124 ?_
                        refine A_iload hC dX11_rate_125 rfl ?_
                        refine A_iload hC dX11_rate_127 rfl ?_
                        refine A_imul hC dX11_rate_129 ?_
                        refine A_isub hC dX11_rate_130 ?_
                        refine A_topi (fun x11 => ?_)
                        refine A_istore (lv2 := [none, none, none, none, none, some (.int a5), some (.int x5), some (.int x6), some (.int x7), some (.int x9), some (.int x10), some (.int x11)]) hC dX11_rate_131 (Nat.le_of_ble_eq_true rfl) rfl rfl ?_
                        refine A_iload hC dX11_rate_133 rfl ?_
                        refine A_join (fun (J : Int32 → ADD → Option (Int32 × ADD)) => ∀ (x12 : Int32) (D16 : ADD), AT aVi g b 146 [none, none, none, none, none, some (.int a5), some (.int x5), some (.int x6), some (.int x7), some (.int x9), some (.int x10), none] [.int x12] D16 (J x12 D16)) (fun x12 D16 => ?_) (fun j146 hj146 => ?_)
                        · refine A_istore (lv2 := [none, none, none, none, none, some (.int a5), some (.int x5), some (.int x6), some (.int x7), some (.int x9), some (.int x10), some (.int x12)]) hC dX11_rate_146 (Nat.le_of_ble_eq_true rfl) rfl rfl ?_
                          refine A_iload hC dX11_rate_148 rfl ?_
                          refine A_bipush (v := 13) hC dX11_rate_150 (by decide) ?_
                          refine A_join (fun (J : ADD → Option (Int32 × ADD)) => ∀ (D17 : ADD), AT aVi g b 204 [none, none, none, none, none, some (.int a5), some (.int x5), some (.int x6), some (.int x7), some (.int x9), none, none] [] D17 (J D17)) (fun D17 => ?_) (fun j204 hj204 => ?_)
                          · refine A_iincL (z := (1 : Int32)) (lv2 := fun x13 => [none, none, none, none, none, some (.int a5), some (.int x5), some (.int x6), some (.int x7), some (.int x13), none, none]) hC dX11_rate_204 rfl (by decide) (Nat.le_of_ble_eq_true rfl) rfl (fun _ => rfl) (fun x13 => ?_)
                            refine A_goto (tgt := 106) hC dX11_rate_207 (by decide) ?_
                            exact A_to (hL106 x13 D17) (And.intro rfl (And.intro rfl (And.intro rfl (And.intro rfl (And.intro rfl (trivial))))))
                          refine A_icmp_ge (tgt := 204) hC dX11_rate_152 (by decide) ?_ ?_
                          · exact A_to (hj204 D16) (And.intro rfl (And.intro rfl (And.intro rfl (And.intro rfl (And.intro rfl (trivial))))))
                          · refine A_iload hC dX11_rate_155 rfl ?_
                            refine A_bipush (v := 13) hC dX11_rate_157 (by decide) ?_
                            refine A_icmp_ge (tgt := 204) hC dX11_rate_159 (by decide) ?_ ?_
                            · exact A_to (hj204 D16) (And.intro rfl (And.intro rfl (And.intro rfl (And.intro rfl (And.intro rfl (trivial))))))
                            · refine A_iload hC dX11_rate_162 rfl ?_
                              refine A_iload hC dX11_rate_164 rfl ?_
                              refine A_callSi (As := [.int x9, .int x10]) (st := []) hC (fun l => mX11_gcd l g x9 x10 D16) yc_X11_403 rfl rfl ⟨by decide, by decide⟩ (Nat.le_of_ble_eq_true rfl) rfl dX11_rate_166 (fun x14 D18 => ?_)
                              refine A_iconst (v := 1) hC dX11_rate_169 (by decide) ?_
                              refine A_icmp_ne (tgt := 204) hC dX11_rate_170 (by decide) ?_ ?_
                              · exact A_to (hj204 D18) (And.intro rfl (And.intro rfl (And.intro rfl (And.intro rfl (And.intro rfl (trivial))))))
                              · refine A_ldc2 hC dX11_rate_173 w_1445 ?_
                                refine A_iload hC dX11_rate_176 rfl ?_
                                refine A_i2l hC dX11_rate_178 ?_
                                refine A_lmul hC dX11_rate_179 ?_
                                refine A_iload hC dX11_rate_180 rfl ?_
                                refine A_i2l hC dX11_rate_182 ?_
                                refine A_iload hC dX11_rate_183 rfl ?_
                                refine A_i2l hC dX11_rate_185 ?_
                                refine A_lmul hC dX11_rate_186 ?_
                                refine A_iload hC dX11_rate_187 rfl ?_
                                refine A_i2l hC dX11_rate_189 ?_
                                refine A_lmul hC dX11_rate_190 ?_
                                refine A_lcmp hC dX11_rate_191 ?_
                                refine A_if_gt (tgt := 204) hC dX11_rate_192 (by decide) ?_ ?_
                                · exact A_to (hj204 D18) (And.intro rfl (And.intro rfl (And.intro rfl (And.intro rfl (And.intro rfl (trivial))))))
                                · refine A_bipush (v := 100) hC dX11_rate_195 (by decide) ?_
                                  refine A_iload hC dX11_rate_197 rfl ?_
                                  refine A_imul hC dX11_rate_199 ?_
                                  refine A_iload hC dX11_rate_200 rfl ?_
                                  refine A_iadd hC dX11_rate_202 ?_
                                  exact A_iret hC dX11_rate_203
                        refine A_if_ge (tgt := 144) hC dX11_rate_135 (by decide) ?_ ?_
                        · refine A_iload hC dX11_rate_144 rfl ?_
                          exact A_to (hj146 x11 D15) (And.intro rfl (And.intro rfl (And.intro rfl (And.intro rfl (And.intro rfl (And.intro rfl (trivial)))))))
                        · refine A_iload hC dX11_rate_138 rfl ?_
                          refine A_ineg hC dX11_rate_140 ?_
                          refine A_goto (tgt := 146) hC dX11_rate_141 (by decide) ?_
                          exact A_to (hj146 (-x11) D15) (And.intro rfl (And.intro rfl (And.intro rfl (And.intro rfl (And.intro rfl (And.intro rfl (trivial)))))))
                    exact A_to (hj106 (1 : Int32) D13) (And.intro rfl (And.intro rfl (And.intro rfl (And.intro rfl (And.intro rfl (trivial))))))
                exact A_to (hj96 (2 : Int32) D10) (And.intro rfl (And.intro rfl (And.intro rfl (And.intro rfl (trivial)))))
              · exact A_to (hj91 D10) (trivial)
          · exact A_to (hj49 D6) (trivial)
def fX11_worth (a1 : Int32) (a2 : Int32) (a3 : Int32) (D : ADD) : Option (Int32 × ADD) := aLet (aSI D 0 0 (0 : Int32)) (fun D1 => aBind (fX11_isStone a1 D1) (fun x1 D2 => aLet (fun (D3 : ADD) => some ((-1 : Int32), D3)) (fun (j21 : ADD → Option (Int32 × ADD)) => (if x1 = 0 then j21 D2 else aBind (fX11_areUnits a2 a3 D2) (fun x2 D4 => (if x2 = 0 then j21 D4 else aBind (fX11_look D4) (fun _ D5 => aIn a1 32 (aLet (fun (x3 : Int32) (D6 : ADD) => some (x3, D6)) (fun (j47 : Int32 → ADD → Option (Int32 × ADD)) => (if (aBz (D5.1 35 a1.toNatClampNeg)) = 0 then j47 (-1 : Int32) D5 else aBind (fX11_worthOf a1 a2 a3 D5) (fun x4 D7 => j47 x4 D7)))))))))))
set_option maxHeartbeats 4000000 in
set_option maxRecDepth 100000 in
theorem mX11_worth (l : Launch) (g : AGl) (hL : aLM g) (a1 : Int32) (a2 : Int32) (a3 : Int32) (D : ADD) : AM aVi l yX11_worth cX11_worth 4 (some .int) 7 g [.ref (g.1 + 0), .int a1, .int a2, .int a3] D (fX11_worth a1 a2 a3 D) := by
  refine AM_of (lv0 := [some (.ref (g.1 + 0)), some (.int a1), some (.int a2), some (.int a3)]) (own := RX11) (by decide +kernel) rfl (Nat.le_of_ble_eq_true rfl) rfl (fun b hC => ?_)
  unfold fX11_worth
  refine A_aload_n hC dX11_worth_0 rfl ?_
  refine A_iconst (v := 0) hC dX11_worth_1 (by decide) ?_
  refine A_puti (kf := 0) hC kX11 (lM_0 hL) rfl (by decide) (by decide) rfl rfl rfl w_1003 dX11_worth_2 (fun D1 => ?_)
  refine A_aload_n hC dX11_worth_5 rfl ?_
  refine A_iload_n hC dX11_worth_6 rfl ?_
  refine A_callVi (As := [.int a1]) (st := []) hC (fun l => mX11_isStone l g hL a1 D1) (lM_0 hL) rfl (Nat.le_of_ble_eq_true rfl) yc_X11_157 rfl rfl ⟨by decide, by decide⟩ (Nat.le_of_ble_eq_true rfl) rfl dX11_worth_7 (fun x1 D2 => ?_)
  refine A_join (fun (J : ADD → Option (Int32 × ADD)) => ∀ (D3 : ADD), AT aVi g b 21 [none, none, none, none] [] D3 (J D3)) (fun D3 => ?_) (fun j21 hj21 => ?_)
  · refine A_iconst (v := -1) hC dX11_worth_21 (by decide) ?_
    exact A_iret hC dX11_worth_22
  refine A_if_eq (tgt := 21) hC dX11_worth_10 (by decide) ?_ ?_
  · exact A_to (hj21 D2) (trivial)
  · refine A_iload_n hC dX11_worth_13 rfl ?_
    refine A_iload_n hC dX11_worth_14 rfl ?_
    refine A_callSi (As := [.int a2, .int a3]) (st := []) hC (fun l => mX11_areUnits l g a2 a3 D2) yc_X11_340 rfl rfl ⟨by decide, by decide⟩ (Nat.le_of_ble_eq_true rfl) rfl dX11_worth_15 (fun x2 D4 => ?_)
    refine A_if_ne (tgt := 23) hC dX11_worth_18 (by decide) ?_ ?_
    · refine A_aload_n hC dX11_worth_23 rfl ?_
      refine A_callVv (As := []) (st := []) hC (fun l => mX11_look l g hL D4) (lM_0 hL) rfl (Nat.le_of_ble_eq_true rfl) yc_X11_311 rfl rfl ⟨by decide, by decide⟩ (Nat.le_of_ble_eq_true rfl) rfl dX11_worth_24 (fun _ D5 => ?_)
      refine A_aload_n hC dX11_worth_27 rfl ?_
      refine A_getr (kf := 46) hC kX11 (lM_0 hL) rfl (by decide) (by decide) rfl rfl w_1049 dX11_worth_28 ?_
      refine A_iload_n hC dX11_worth_31 rfl ?_
      refine A_zald hC (lM_35 hL) dX11_worth_32 ?_
      refine A_join (fun (J : Int32 → ADD → Option (Int32 × ADD)) => ∀ (x3 : Int32) (D6 : ADD), AT aVi g b 47 [none, none, none, none] [.int x3] D6 (J x3 D6)) (fun x3 D6 => ?_) (fun j47 hj47 => ?_)
      · exact A_iret hC dX11_worth_47
      refine A_if_eq (tgt := 46) hC dX11_worth_33 (by decide) ?_ ?_
      · refine A_iconst (v := -1) hC dX11_worth_46 (by decide) ?_
        exact A_to (hj47 (-1 : Int32) D5) (trivial)
      · refine A_aload_n hC dX11_worth_36 rfl ?_
        refine A_iload_n hC dX11_worth_37 rfl ?_
        refine A_iload_n hC dX11_worth_38 rfl ?_
        refine A_iload_n hC dX11_worth_39 rfl ?_
        refine A_callVi (As := [.int a1, .int a2, .int a3]) (st := []) hC (fun l => mX11_worthOf l g hL a1 a2 a3 D5) (lM_0 hL) rfl (Nat.le_of_ble_eq_true rfl) yc_X11_409 rfl rfl ⟨by decide, by decide⟩ (Nat.le_of_ble_eq_true rfl) rfl dX11_worth_40 (fun x4 D7 => ?_)
        refine A_goto (tgt := 47) hC dX11_worth_43 (by decide) ?_
        exact A_to (hj47 x4 D7) (trivial)
    · exact A_to (hj21 D4) (trivial)
