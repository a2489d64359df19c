def lX10_verdict_72 (j110 : ADD → Option (Int32 × ADD)) (L72 : Int32 → ADD → Option (Int32 × ADD)) (x3 : Int32) (D7 : ADD) : Option (Int32 × ADD) := (if (D7.1 22 0) ≤ x3 then j110 D7 else aBind (fX6_holds 22 57 x3 D7) (fun x4 D8 => (if x4 = 0 then aLet (x3 + (1 : Int32)) (fun x5 => L72 x5 D8) else aBind (fX6_deedOf 22 x3 D8) (fun x6 D9 => some (x6, D9)))))
def fX10_verdict (a1 : Int32) (a2 : Int32) (a3 : Int32) (D : ADD) : Option (Int32 × ADD) := aBind (fX10_isRange a2 a3 (300 : Int32) D) (fun x1 D1 => aLet (fun (D2 : ADD) => some ((-1 : Int32), D2)) (fun (j21 : ADD → Option (Int32 × ADD)) => (if x1 = 0 then j21 D1 else (if a1 < a2 then j21 D1 else (if a1 ≤ a3 then aBind (fX4_gather (0 : Int32) (0 : Int32) D1) (fun x2 D3 => aBind (fX7_scoreUnits a2 a3 D3) (fun _ D4 => aBind (fX10_weighEvidence a1 ((a3 - a2) + (1 : Int32)) D4) (fun _ D5 => aLet (fun (D6 : ADD) => some ((2 : Int32), D6)) (fun (j110 : ADD → Option (Int32 × ADD)) => aLet (aFix aFuel (lX10_verdict_72 j110) (fun _ _ => none)) (fun j72 => j72 (0 : Int32) D5))))) else j21 D1)))))
set_option maxHeartbeats 4000000 in
set_option maxRecDepth 100000 in
theorem mX10_verdict (l : Launch) (g : AGl) (hL : aLX g) (a1 : Int32) (a2 : Int32) (a3 : Int32) (D : ADD) : AM aVi l yX10_verdict cX10_verdict 6 (some .int) 6 g [.ref (g.1 + 0), .int a1, .int a2, .int a3] D (fX10_verdict a1 a2 a3 D) := by
  refine AM_of (lv0 := [some (.ref (g.1 + 0)), some (.int a1), some (.int a2), some (.int a3), none, none]) (own := RX10) (by decide +kernel) rfl (Nat.le_of_ble_eq_true rfl) rfl (fun b hC => ?_)
  unfold fX10_verdict
  refine A_iload_n hC dX10_verdict_0 rfl ?_
  refine A_iload_n hC dX10_verdict_1 rfl ?_
  refine A_sipush (v := 300) hC dX10_verdict_2 (by decide) ?_
  refine A_callSi (As := [.int a2, .int a3, .int (300 : Int32)]) (st := []) hC (fun l => mX10_isRange l g a2 a3 (300 : Int32) D) yc_X10_182 rfl rfl ⟨by decide, by decide⟩ (Nat.le_of_ble_eq_true rfl) rfl dX10_verdict_5 (fun x1 D1 => ?_)
  refine A_join (fun (J : ADD → Option (Int32 × ADD)) => ∀ (D2 : ADD), AT aVi g b 21 [none, none, none, none, none, none] [] D2 (J D2)) (fun D2 => ?_) (fun j21 hj21 => ?_)
  · refine A_iconst (v := -1) hC dX10_verdict_21 (by decide) ?_
    exact A_iret hC dX10_verdict_22
  refine A_if_eq (tgt := 21) hC dX10_verdict_8 (by decide) ?_ ?_
  · exact A_to (hj21 D1) (trivial)
  · refine A_iload_n hC dX10_verdict_11 rfl ?_
    refine A_iload_n hC dX10_verdict_12 rfl ?_
    refine A_icmp_lt (tgt := 21) hC dX10_verdict_13 (by decide) ?_ ?_
    · exact A_to (hj21 D1) (trivial)
    · refine A_iload_n hC dX10_verdict_16 rfl ?_
      refine A_iload_n hC dX10_verdict_17 rfl ?_
      refine A_icmp_le (tgt := 23) hC dX10_verdict_18 (by decide) ?_ ?_
      · refine A_aload_n hC dX10_verdict_23 rfl ?_
        refine A_getr (kf := 3) hC kX10 (lX_0 hL) rfl (by decide) (by decide) rfl rfl w_308 dX10_verdict_24 ?_
        refine A_aload_n hC dX10_verdict_27 rfl ?_
        refine A_getr (kf := 0) hC kX10 (lX_0 hL) rfl (by decide) (by decide) rfl rfl w_305 dX10_verdict_28 ?_
        refine A_iconst (v := 0) hC dX10_verdict_31 (by decide) ?_
        refine A_iconst (v := 0) hC dX10_verdict_32 (by decide) ?_
        refine A_callVi (As := [.ref (g.1 + 1), .int (0 : Int32), .int (0 : Int32)]) (st := []) hC (fun l => mX4_gather l g hL (0 : Int32) (0 : Int32) D1) (lX_43 hL) rfl (Nat.le_of_ble_eq_true rfl) yc_X10_174 rfl rfl ⟨by decide, by decide⟩ (Nat.le_of_ble_eq_true rfl) rfl dX10_verdict_33 (fun x2 D3 => ?_)
        refine A_pop hC dX10_verdict_36 rfl ?_
        refine A_aload_n hC dX10_verdict_37 rfl ?_
        refine A_getr (kf := 4) hC kX10 (lX_0 hL) rfl (by decide) (by decide) rfl rfl w_309 dX10_verdict_38 ?_
        refine A_aload_n hC dX10_verdict_41 rfl ?_
        refine A_getr (kf := 3) hC kX10 (lX_0 hL) rfl (by decide) (by decide) rfl rfl w_308 dX10_verdict_42 ?_
        refine A_iload_n hC dX10_verdict_45 rfl ?_
        refine A_iload_n hC dX10_verdict_46 rfl ?_
        refine A_callVv (As := [.ref (g.1 + 43), .int a2, .int a3]) (st := []) hC (fun l => mX7_scoreUnits l g hL a2 a3 D3) (lX_50 hL) rfl (Nat.le_of_ble_eq_true rfl) yc_X10_189 rfl rfl ⟨by decide, by decide⟩ (Nat.le_of_ble_eq_true rfl) rfl dX10_verdict_47 (fun _ D4 => ?_)
        refine A_aload_n hC dX10_verdict_50 rfl ?_
        refine A_iload_n hC dX10_verdict_51 rfl ?_
        refine A_iload_n hC dX10_verdict_52 rfl ?_
        refine A_iload_n hC dX10_verdict_53 rfl ?_
        refine A_isub hC dX10_verdict_54 ?_
        refine A_iconst (v := 1) hC dX10_verdict_55 (by decide) ?_
        refine A_iadd hC dX10_verdict_56 ?_
        refine A_callVv (As := [.int a1, .int ((a3 - a2) + (1 : Int32))]) (st := []) hC (fun l => mX10_weighEvidence l g hL a1 ((a3 - a2) + (1 : Int32)) D4) (lX_0 hL) rfl (Nat.le_of_ble_eq_true rfl) yc_X10_212 rfl rfl ⟨by decide, by decide⟩ (Nat.le_of_ble_eq_true rfl) rfl dX10_verdict_57 (fun _ D5 => ?_)
        refine A_aload_n hC dX10_verdict_60 rfl ?_
        refine A_getr (kf := 0) hC kX10 (lX_0 hL) rfl (by decide) (by decide) rfl rfl w_305 dX10_verdict_61 ?_
        refine A_getr (kf := 3) hC kX8 (lX_1 hL) rfl (by decide) (by decide) rfl rfl w_171 dX10_verdict_64 ?_
        refine A_astore (lv2 := [some (.ref (g.1 + 0)), some (.int a1), some (.int a2), some (.int a3), some (.ref (g.1 + 22)), none]) hC dX10_verdict_67 (Nat.le_of_ble_eq_true rfl) rfl rfl ?_
        refine A_iconst (v := 0) hC dX10_verdict_69 (by decide) ?_
        refine A_istore (lv2 := [some (.ref (g.1 + 0)), some (.int a1), some (.int a2), some (.int a3), some (.ref (g.1 + 22)), some (.int (0 : Int32))]) hC dX10_verdict_70 (Nat.le_of_ble_eq_true rfl) rfl rfl ?_
        refine A_join (fun (J : ADD → Option (Int32 × ADD)) => ∀ (D6 : ADD), AT aVi g b 110 [none, none, none, none, none, none] [] D6 (J D6)) (fun D6 => ?_) (fun j110 hj110 => ?_)
        · refine A_iconst (v := 2) hC dX10_verdict_110 (by decide) ?_
          exact A_iret hC dX10_verdict_111
        refine A_join (fun (J : Int32 → ADD → Option (Int32 × ADD)) => ∀ (x3 : Int32) (D7 : ADD), AT aVi g b 72 [some (.ref (g.1 + 0)), none, none, none, some (.ref (g.1 + 22)), some (.int x3)] [] D7 (J x3 D7)) (aFix_all (fun (J : Int32 → ADD → Option (Int32 × ADD)) => ∀ (x3 : Int32) (D7 : ADD), AT aVi g b 72 [some (.ref (g.1 + 0)), none, none, none, some (.ref (g.1 + 22)), some (.int x3)] [] D7 (J x3 D7)) (fun _ _ => A_none) (fun L72 hL72 x3 D7 => ?_) _) (fun j72 hj72 => ?_)
        · unfold lX10_verdict_72
          refine A_iload hC dX10_verdict_72 rfl ?_
          refine A_aload hC dX10_verdict_74 rfl ?_
          refine A_geti (kf := 0) hC kX6 (lX_22 hL) rfl (by decide) (by decide) rfl w_110 dX10_verdict_76 ?_
          refine A_icmp_ge (tgt := 110) hC dX10_verdict_79 (by decide) ?_ ?_
          · exact A_to (hj110 D7) (trivial)
          · refine A_aload hC dX10_verdict_82 rfl ?_
            refine A_iload hC dX10_verdict_84 rfl ?_
            refine A_aload_n hC dX10_verdict_86 rfl ?_
            refine A_getr (kf := 6) hC kX10 (lX_0 hL) rfl (by decide) (by decide) rfl rfl w_311 dX10_verdict_87 ?_
            refine A_callVi (As := [.int x3, .ref (g.1 + 57)]) (st := []) hC (fun l => mX6_holds l g 22 57 (lR_22 hL) (lX_57 hL) x3 D7) (lX_22 hL) rfl (Nat.le_of_ble_eq_true rfl) yc_X10_216 rfl rfl ⟨by decide, by decide⟩ (Nat.le_of_ble_eq_true rfl) rfl dX10_verdict_90 (fun x4 D8 => ?_)
            refine A_if_eq (tgt := 104) hC dX10_verdict_93 (by decide) ?_ ?_
            · refine A_iincL (z := (1 : Int32)) (lv2 := fun x5 => [some (.ref (g.1 + 0)), none, none, none, some (.ref (g.1 + 22)), some (.int x5)]) hC dX10_verdict_104 rfl (by decide) (Nat.le_of_ble_eq_true rfl) rfl (fun _ => rfl) (fun x5 => ?_)
              refine A_goto (tgt := 72) hC dX10_verdict_107 (by decide) ?_
              exact A_to (hL72 x5 D8) (And.intro rfl (And.intro rfl (And.intro rfl (trivial))))
            · refine A_aload hC dX10_verdict_96 rfl ?_
              refine A_iload hC dX10_verdict_98 rfl ?_
              refine A_callVi (As := [.int x3]) (st := []) hC (fun l => mX6_deedOf l g 22 (lR_22 hL) x3 D8) (lX_22 hL) rfl (Nat.le_of_ble_eq_true rfl) yc_X10_220 rfl rfl ⟨by decide, by decide⟩ (Nat.le_of_ble_eq_true rfl) rfl dX10_verdict_100 (fun x6 D9 => ?_)
              exact A_iret hC dX10_verdict_103
        exact A_to (hj72 (0 : Int32) D5) (And.intro rfl (And.intro rfl (And.intro rfl (trivial))))
      · exact A_to (hj21 D1) (trivial)
def fX11_best (a1 : Int32) (a2 : Int32) (D : ADD) : Option (Int32 × ADD) := aLet (aSI D 0 0 (0 : Int32)) (fun D1 => aBind (fX11_areUnits a1 a2 D1) (fun x1 D2 => (if x1 = 0 then some ((-1 : Int32), D2) else aBind (fX11_look D2) (fun _ D3 => aBind (fX11_those D3) (fun x2 D4 => aLet (fun (x3 : Int32) (D5 : ADD) => some (x3, D5)) (fun (j36 : Int32 → ADD → Option (Int32 × ADD)) => (if x2 ≤ 0 then j36 (-1 : Int32) D4 else aBind (fX11_bestOf a1 a2 D4) (fun x4 D6 => j36 x4 D6))))))))
set_option maxHeartbeats 4000000 in
set_option maxRecDepth 100000 in
theorem mX11_best (l : Launch) (g : AGl) (hL : aLM g) (a1 : Int32) (a2 : Int32) (D : ADD) : AM aVi l yX11_best cX11_best 3 (some .int) 6 g [.ref (g.1 + 0), .int a1, .int a2] D (fX11_best a1 a2 D) := by
  refine AM_of (lv0 := [some (.ref (g.1 + 0)), some (.int a1), some (.int a2)]) (own := RX11) (by decide +kernel) rfl (Nat.le_of_ble_eq_true rfl) rfl (fun b hC => ?_)
  unfold fX11_best
  refine A_aload_n hC dX11_best_0 rfl ?_
  refine A_iconst (v := 0) hC dX11_best_1 (by decide) ?_
  refine A_puti (kf := 0) hC kX11 (lM_0 hL) rfl (by decide) (by decide) rfl rfl rfl w_1003 dX11_best_2 (fun D1 => ?_)
  refine A_iload_n hC dX11_best_5 rfl ?_
  refine A_iload_n hC dX11_best_6 rfl ?_
  refine A_callSi (As := [.int a1, .int a2]) (st := []) hC (fun l => mX11_areUnits l g a1 a2 D1) yc_X11_340 rfl rfl ⟨by decide, by decide⟩ (Nat.le_of_ble_eq_true rfl) rfl dX11_best_7 (fun x1 D2 => ?_)
  refine A_if_ne (tgt := 15) hC dX11_best_10 (by decide) ?_ ?_
  · refine A_aload_n hC dX11_best_15 rfl ?_
    refine A_callVv (As := []) (st := []) hC (fun l => mX11_look l g hL D2) (lM_0 hL) rfl (Nat.le_of_ble_eq_true rfl) yc_X11_311 rfl rfl ⟨by decide, by decide⟩ (Nat.le_of_ble_eq_true rfl) rfl dX11_best_16 (fun _ D3 => ?_)
    refine A_aload_n hC dX11_best_19 rfl ?_
    refine A_callVi (As := []) (st := []) hC (fun l => mX11_those l g hL D3) (lM_0 hL) rfl (Nat.le_of_ble_eq_true rfl) yc_X11_344 rfl rfl ⟨by decide, by decide⟩ (Nat.le_of_ble_eq_true rfl) rfl dX11_best_20 (fun x2 D4 => ?_)
    refine A_join (fun (J : Int32 → ADD → Option (Int32 × ADD)) => ∀ (x3 : Int32) (D5 : ADD), AT aVi g b 36 [none, none, none] [.int x3] D5 (J x3 D5)) (fun x3 D5 => ?_) (fun j36 hj36 => ?_)
    · exact A_iret hC dX11_best_36
    refine A_if_le (tgt := 35) hC dX11_best_23 (by decide) ?_ ?_
    · refine A_iconst (v := -1) hC dX11_best_35 (by decide) ?_
      exact A_to (hj36 (-1 : Int32) D4) (trivial)
    · refine A_aload_n hC dX11_best_26 rfl ?_
      refine A_iload_n hC dX11_best_27 rfl ?_
      refine A_iload_n hC dX11_best_28 rfl ?_
      refine A_callVi (As := [.int a1, .int a2]) (st := []) hC (fun l => mX11_bestOf l g hL a1 a2 D4) (lM_0 hL) rfl (Nat.le_of_ble_eq_true rfl) yc_X11_347 rfl rfl ⟨by decide, by decide⟩ (Nat.le_of_ble_eq_true rfl) rfl dX11_best_29 (fun x4 D6 => ?_)
      refine A_goto (tgt := 36) hC dX11_best_32 (by decide) ?_
      exact A_to (hj36 x4 D6) (trivial)
  · refine A_iconst (v := -1) hC dX11_best_13 (by decide) ?_
    exact A_iret hC dX11_best_14
def lX11_bestOfTown_3 (a1 : Int32) (j51 : ADD → Option (Int32 × ADD)) (L3 : Int32 → ADD → Option (Int32 × ADD)) (x4 : Int32) (D5 : ADD) : Option (Int32 × ADD) := (if (D5.1 0 41) ≤ x4 then j51 D5 else aIn x4 32 (aLet (fun (x5 : Int32) (D6 : ADD) => aIn x4 32 (aLet (aSI D6 35 x4.toNatClampNeg x5) (fun D7 => aLet (x4 + (1 : Int32)) (fun x6 => L3 x6 D7)))) (fun (j44 : Int32 → ADD → Option (Int32 × ADD)) => aLet (fun (D8 : ADD) => j44 (0 : Int32) D8) (fun (j43 : ADD → Option (Int32 × ADD)) => (if (aBz (D5.1 38 x4.toNatClampNeg)) = 0 then j43 D5 else aBind (fX11_f x4 (4 : Int32) D5) (fun x7 D9 => (if x7 = a1 then j44 (1 : Int32) D9 else j43 D9)))))))
def fX11_bestOfTown (a1 : Int32) (a2 : Int32) (a3 : Int32) (D : ADD) : Option (Int32 × ADD) := aLet (fun (D1 : ADD) => aBind (fX11_those D1) (fun x1 D2 => aLet (fun (x2 : Int32) (D3 : ADD) => some (x2, D3)) (fun (j68 : Int32 → ADD → Option (Int32 × ADD)) => (if x1 = 0 then j68 (-1 : Int32) D2 else aBind (fX11_bestOf a2 a3 D2) (fun x3 D4 => j68 x3 D4))))) (fun (j51 : ADD → Option (Int32 × ADD)) => aLet (aFix aFuel (lX11_bestOfTown_3 a1 j51) (fun _ _ => none)) (fun j3 => j3 (0 : Int32) D))
set_option maxHeartbeats 4000000 in
set_option maxRecDepth 100000 in
theorem mX11_bestOfTown (l : Launch) (g : AGl) (hL : aLM g) (a1 : Int32) (a2 : Int32) (a3 : Int32) (D : ADD) : AM aVi l yX11_bestOfTown cX11_bestOfTown 5 (some .int) 6 g [.ref (g.1 + 0), .int a1, .int a2, .int a3] D (fX11_bestOfTown a1 a2 a3 D) := by
  refine AM_of (lv0 := [some (.ref (g.1 + 0)), some (.int a1), some (.int a2), some (.int a3), none]) (own := RX11) (by decide +kernel) rfl (Nat.le_of_ble_eq_true rfl) rfl (fun b hC => ?_)
  unfold fX11_bestOfTown
  refine A_iconst (v := 0) hC dX11_bestOfTown_0 (by decide) ?_
  refine A_istore (lv2 := [some (.ref (g.1 + 0)), some (.int a1), some (.int a2), some (.int a3), some (.int (0 : Int32))]) hC dX11_bestOfTown_1 (Nat.le_of_ble_eq_true rfl) rfl rfl ?_
  refine A_join (fun (J : ADD → Option (Int32 × ADD)) => ∀ (D1 : ADD), AT aVi g b 51 [some (.ref (g.1 + 0)), none, some (.int a2), some (.int a3), none] [] D1 (J D1)) (fun D1 => ?_) (fun j51 hj51 => ?_)
  · refine A_aload_n hC dX11_bestOfTown_51 rfl ?_
    refine A_callVi (As := []) (st := []) hC (fun l => mX11_those l g hL D1) (lM_0 hL) rfl (Nat.le_of_ble_eq_true rfl) yc_X11_344 rfl rfl ⟨by decide, by decide⟩ (Nat.le_of_ble_eq_true rfl) rfl dX11_bestOfTown_52 (fun x1 D2 => ?_)
    refine A_join (fun (J : Int32 → ADD → Option (Int32 × ADD)) => ∀ (x2 : Int32) (D3 : ADD), AT aVi g b 68 [none, none, none, none, none] [.int x2] D3 (J x2 D3)) (fun x2 D3 => ?_) (fun j68 hj68 => ?_)
    · exact A_iret hC dX11_bestOfTown_68
    refine A_if_ne (tgt := 62) hC dX11_bestOfTown_55 (by decide) ?_ ?_
    · refine A_aload_n hC dX11_bestOfTown_62 rfl ?_
      refine A_iload_n hC dX11_bestOfTown_63 rfl ?_
      refine A_iload_n hC dX11_bestOfTown_64 rfl ?_
      refine A_callVi (As := [.int a2, .int a3]) (st := []) hC (fun l => mX11_bestOf l g hL a2 a3 D2) (lM_0 hL) rfl (Nat.le_of_ble_eq_true rfl) yc_X11_347 rfl rfl ⟨by decide, by decide⟩ (Nat.le_of_ble_eq_true rfl) rfl dX11_bestOfTown_65 (fun x3 D4 => ?_)
      exact A_to (hj68 x3 D4) (trivial)
    · refine A_iconst (v := -1) hC dX11_bestOfTown_58 (by decide) ?_
      refine A_goto (tgt := 68) hC dX11_bestOfTown_59 (by decide) ?_
      exact A_to (hj68 (-1 : Int32) D2) (trivial)
  refine A_join (fun (J : Int32 → ADD → Option (Int32 × ADD)) => ∀ (x4 : Int32) (D5 : ADD), AT aVi g b 3 [some (.ref (g.1 + 0)), some (.int a1), some (.int a2), some (.int a3), some (.int x4)] [] D5 (J x4 D5)) (aFix_all (fun (J : Int32 → ADD → Option (Int32 × ADD)) => ∀ (x4 : Int32) (D5 : ADD), AT aVi g b 3 [some (.ref (g.1 + 0)), some (.int a1), some (.int a2), some (.int a3), some (.int x4)] [] D5 (J x4 D5)) (fun _ _ => A_none) (fun L3 hL3 x4 D5 => ?_) _) (fun j3 hj3 => ?_)
  · unfold lX11_bestOfTown_3
    refine A_iload hC dX11_bestOfTown_3 rfl ?_
    refine A_aload_n hC dX11_bestOfTown_5 rfl ?_
    refine A_geti (kf := 41) hC kX11 (lM_0 hL) rfl (by decide) (by decide) rfl w_1044 dX11_bestOfTown_6 ?_
    refine A_icmp_ge (tgt := 51) hC dX11_bestOfTown_9 (by decide) ?_ ?_
    · exact A_to (hj51 D5) (And.intro rfl (And.intro rfl (And.intro rfl (trivial))))
    · refine A_aload_n hC dX11_bestOfTown_12 rfl ?_
      refine A_getr (kf := 46) hC kX11 (lM_0 hL) rfl (by decide) (by decide) rfl rfl w_1049 dX11_bestOfTown_13 ?_
      refine A_iload hC dX11_bestOfTown_16 rfl ?_
      refine A_aload_n hC dX11_bestOfTown_18 rfl ?_
      refine A_getr (kf := 49) hC kX11 (lM_0 hL) rfl (by decide) (by decide) rfl rfl w_1052 dX11_bestOfTown_19 ?_
      refine A_iload hC dX11_bestOfTown_22 rfl ?_
      refine A_zald hC (lM_38 hL) dX11_bestOfTown_24 ?_
      refine A_join (fun (J : Int32 → ADD → Option (Int32 × ADD)) => ∀ (x5 : Int32) (D6 : ADD), AT aVi g b 44 [some (.ref (g.1 + 0)), some (.int a1), some (.int a2), some (.int a3), some (.int x4)] [.int x5, .int x4, .ref (g.1 + 35)] D6 (J x5 D6)) (fun x5 D6 => ?_) (fun j44 hj44 => ?_)
      · refine A_zast hC (lM_35 hL) dX11_bestOfTown_44 (fun D7 => ?_)
        refine A_iincL (z := (1 : Int32)) (lv2 := fun x6 => [some (.ref (g.1 + 0)), some (.int a1), some (.int a2), some (.int a3), some (.int x6)]) hC dX11_bestOfTown_45 rfl (by decide) (Nat.le_of_ble_eq_true rfl) rfl (fun _ => rfl) (fun x6 => ?_)
        refine A_goto (tgt := 3) hC dX11_bestOfTown_48 (by decide) ?_
        exact A_to (hL3 x6 D7) (And.intro rfl (And.intro rfl (And.intro rfl (And.intro rfl (And.intro rfl (trivial))))))
      refine A_join (fun (J : ADD → Option (Int32 × ADD)) => ∀ (D8 : ADD), AT aVi g b 43 [some (.ref (g.1 + 0)), some (.int a1), some (.int a2), some (.int a3), some (.int x4)] [.int x4, .ref (g.1 + 35)] D8 (J D8)) (fun D8 => ?_) (fun j43 hj43 => ?_)
      · refine A_iconst (v := 0) hC dX11_bestOfTown_43 (by decide) ?_
        exact A_to (hj44 (0 : Int32) D8) (And.intro rfl (And.intro rfl (And.intro rfl (And.intro rfl (And.intro rfl (trivial))))))
      refine A_if_eq (tgt := 43) hC dX11_bestOfTown_25 (by decide) ?_ ?_
      · exact A_to (hj43 D5) (And.intro rfl (And.intro rfl (And.intro rfl (And.intro rfl (And.intro rfl (trivial))))))
      · refine A_aload_n hC dX11_bestOfTown_28 rfl ?_
        refine A_iload hC dX11_bestOfTown_29 rfl ?_
        refine A_iconst (v := 4) hC dX11_bestOfTown_31 (by decide) ?_
        refine A_callVi (As := [.int x4, .int (4 : Int32)]) (st := [.int x4, .ref (g.1 + 35)]) hC (fun l => mX11_f l g hL x4 (4 : Int32) D5) (lM_0 hL) rfl (Nat.le_of_ble_eq_true rfl) yc_X11_291 rfl rfl ⟨by decide, by decide⟩ (Nat.le_of_ble_eq_true rfl) rfl dX11_bestOfTown_32 (fun x7 D9 => ?_)
        refine A_iload_n hC dX11_bestOfTown_35 rfl ?_
        refine A_icmp_ne (tgt := 43) hC dX11_bestOfTown_36 (by decide) ?_ ?_
        · exact A_to (hj43 D9) (And.intro rfl (And.intro rfl (And.intro rfl (And.intro rfl (And.intro rfl (trivial))))))
        · refine A_iconst (v := 1) hC dX11_bestOfTown_39 (by decide) ?_
          refine A_goto (tgt := 44) hC dX11_bestOfTown_40 (by decide) ?_
          exact A_to (hj44 (1 : Int32) D9) (And.intro rfl (And.intro rfl (And.intro rfl (And.intro rfl (And.intro rfl (trivial))))))
  exact A_to (hj3 (0 : Int32) D) (And.intro rfl (And.intro rfl (And.intro rfl (And.intro rfl (And.intro rfl (trivial))))))
def lX11_drift_110 (a1 : Int32) (j159 : ADD → Option (Int32 × ADD)) (L110 : Int32 → ADD → Option (Int32 × ADD)) (x9 : Int32) (D16 : ADD) : Option (Int32 × ADD) := (if (D16.1 0 41) ≤ x9 then j159 D16 else aIn x9 32 (aLet (fun (x10 : Int32) (D17 : ADD) => aIn x9 32 (aLet (aSI D17 35 x9.toNatClampNeg x10) (fun D18 => aLet (x9 + (1 : Int32)) (fun x11 => L110 x11 D18)))) (fun (j152 : Int32 → ADD → Option (Int32 × ADD)) => aLet (fun (D19 : ADD) => j152 (0 : Int32) D19) (fun (j151 : ADD → Option (Int32 × ADD)) => (if (aBz (D16.1 38 x9.toNatClampNeg)) = 0 then j151 D16 else aBind (fX11_f x9 (6 : Int32) D16) (fun x12 D20 => (if a1 ≤ x12 then j151 D20 else j152 (1 : Int32) D20)))))))
def lX11_drift_40 (a1 : Int32) (j88 : ADD → Option (Int32 × ADD)) (L40 : Int32 → ADD → Option (Int32 × ADD)) (x14 : Int32) (D22 : ADD) : Option (Int32 × ADD) := (if (D22.1 0 41) ≤ x14 then j88 D22 else aIn x14 32 (aLet (fun (x15 : Int32) (D23 : ADD) => aIn x14 32 (aLet (aSI D23 35 x14.toNatClampNeg x15) (fun D24 => aLet (x14 + (1 : Int32)) (fun x16 => L40 x16 D24)))) (fun (j81 : Int32 → ADD → Option (Int32 × ADD)) => aLet (fun (D25 : ADD) => j81 (0 : Int32) D25) (fun (j80 : ADD → Option (Int32 × ADD)) => (if (aBz (D22.1 38 x14.toNatClampNeg)) = 0 then j80 D22 else aBind (fX11_f x14 (5 : Int32) D22) (fun x17 D26 => (if x17 < a1 then j80 D26 else j81 (1 : Int32) D26)))))))
def fX11_drift (a1 : Int32) (a2 : Int32) (a3 : Int32) (D : ADD) : Option (Int32 × ADD) := aLet (aSI D 0 0 (0 : Int32)) (fun D1 => aBind (fX11_is a1 (-3000 : Int32) (1900 : Int32) D1) (fun x1 D2 => aLet (fun (D3 : ADD) => some ((-100000 : Int32), D3)) (fun (j26 : ADD → Option (Int32 × ADD)) => (if x1 = 0 then j26 D2 else aBind (fX11_areUnits a2 a3 D2) (fun x2 D4 => (if x2 = 0 then j26 D4 else aBind (fX11_look D4) (fun _ D5 => aBind (fX11_keepChosen D5) (fun _ D6 => aLet (fun (D7 : ADD) => aBind (fX11_those D7) (fun x3 D8 => aLet (fun (x4 : Int32) (D9 : ADD) => aLet (fun (D10 : ADD) => aBind (fX11_those D10) (fun x5 D11 => aLet (fun (x6 : Int32) (D12 : ADD) => aLet (fun (x7 : Int32) (D13 : ADD) => some (x7, D13)) (fun (j200 : Int32 → ADD → Option (Int32 × ADD)) => aLet (fun (D14 : ADD) => j200 (-100000 : Int32) D14) (fun (j190 : ADD → Option (Int32 × ADD)) => (if x4 = (-1 : Int32) then j190 D12 else (if x6 = (-1 : Int32) then j190 D12 else j200 (x4 - x6) D12))))) (fun (j176 : Int32 → ADD → Option (Int32 × ADD)) => (if x5 = 0 then j176 (-1 : Int32) D11 else aBind (fX11_bestOf a2 a3 D11) (fun x8 D15 => j176 x8 D15))))) (fun (j159 : ADD → Option (Int32 × ADD)) => aLet (aFix aFuel (lX11_drift_110 a1 j159) (fun _ _ => none)) (fun j110 => j110 (0 : Int32) D9))) (fun (j105 : Int32 → ADD → Option (Int32 × ADD)) => (if x3 = 0 then j105 (-1 : Int32) D8 else aBind (fX11_bestOf a2 a3 D8) (fun x13 D21 => j105 x13 D21))))) (fun (j88 : ADD → Option (Int32 × ADD)) => aLet (aFix aFuel (lX11_drift_40 a1 j88) (fun _ _ => none)) (fun j40 => j40 (0 : Int32) D6))))))))))
set_option maxHeartbeats 4000000 in
set_option maxRecDepth 100000 in
theorem mX11_drift (l : Launch) (g : AGl) (hL : aLM g) (a1 : Int32) (a2 : Int32) (a3 : Int32) (D : ADD) : AM aVi l yX11_drift cX11_drift 6 (some .int) 6 g [.ref (g.1 + 0), .int a1, .int a2, .int a3] D (fX11_drift a1 a2 a3 D) := by
  refine AM_of (lv0 := [some (.ref (g.1 + 0)), some (.int a1), some (.int a2), some (.int a3), none, none]) (own := RX11) (by decide +kernel) rfl (Nat.le_of_ble_eq_true rfl) rfl (fun b hC => ?_)
  unfold fX11_drift
  refine A_aload_n hC dX11_drift_0 rfl ?_
  refine A_iconst (v := 0) hC dX11_drift_1 (by decide) ?_
  refine A_puti (kf := 0) hC kX11 (lM_0 hL) rfl (by decide) (by decide) rfl rfl rfl w_1003 dX11_drift_2 (fun D1 => ?_)
  refine A_iload_n hC dX11_drift_5 rfl ?_
  refine A_sipush (v := -3000) hC dX11_drift_6 (by decide) ?_
  refine A_sipush (v := 1900) hC dX11_drift_9 (by decide) ?_
  refine A_callSi (As := [.int a1, .int (-3000 : Int32), .int (1900 : Int32)]) (st := []) hC (fun l => mX11_is l g a1 (-3000 : Int32) (1900 : Int32) D1) yc_X11_138 rfl rfl ⟨by decide, by decide⟩ (Nat.le_of_ble_eq_true rfl) rfl dX11_drift_12 (fun x1 D2 => ?_)
  refine A_join (fun (J : ADD → Option (Int32 × ADD)) => ∀ (D3 : ADD), AT aVi g b 26 [none, none, none, none, none, none] [] D3 (J D3)) (fun D3 => ?_) (fun j26 hj26 => ?_)
  · refine A_ldc hC dX11_drift_26 w_1200 ?_
    exact A_iret hC dX11_drift_28
  refine A_if_eq (tgt := 26) hC dX11_drift_15 (by decide) ?_ ?_
  · exact A_to (hj26 D2) (trivial)
  · refine A_iload_n hC dX11_drift_18 rfl ?_
    refine A_iload_n hC dX11_drift_19 rfl ?_
    refine A_callSi (As := [.int a2, .int a3]) (st := []) hC (fun l => mX11_areUnits l g a2 a3 D2) yc_X11_340 rfl rfl ⟨by decide, by decide⟩ (Nat.le_of_ble_eq_true rfl) rfl dX11_drift_20 (fun x2 D4 => ?_)
    refine A_if_ne (tgt := 29) hC dX11_drift_23 (by decide) ?_ ?_
    · refine A_aload_n hC dX11_drift_29 rfl ?_
      refine A_callVv (As := []) (st := []) hC (fun l => mX11_look l g hL D4) (lM_0 hL) rfl (Nat.le_of_ble_eq_true rfl) yc_X11_311 rfl rfl ⟨by decide, by decide⟩ (Nat.le_of_ble_eq_true rfl) rfl dX11_drift_30 (fun _ D5 => ?_)
      refine A_aload_n hC dX11_drift_33 rfl ?_
      refine A_callVv (As := []) (st := []) hC (fun l => mX11_keepChosen l g hL D5) (lM_0 hL) rfl (Nat.le_of_ble_eq_true rfl) yc_X11_397 rfl rfl ⟨by decide, by decide⟩ (Nat.le_of_ble_eq_true rfl) rfl dX11_drift_34 (fun _ D6 => ?_)
      refine A_iconst (v := 0) hC dX11_drift_37 (by decide) ?_
      refine A_istore (lv2 := [some (.ref (g.1 + 0)), some (.int a1), some (.int a2), some (.int a3), some (.int (0 : Int32)), none]) hC dX11_drift_38 (Nat.le_of_ble_eq_true rfl) rfl rfl ?_
      refine A_join (fun (J : ADD → Option (Int32 × ADD)) => ∀ (D7 : ADD), AT aVi g b 88 [some (.ref (g.1 + 0)), some (.int a1), some (.int a2), some (.int a3), none, none] [] D7 (J D7)) (fun D7 => ?_) (fun j88 hj88 => ?_)
      · refine A_aload_n hC dX11_drift_88 rfl ?_
        refine A_callVi (As := []) (st := []) hC (fun l => mX11_those l g hL D7) (lM_0 hL) rfl (Nat.le_of_ble_eq_true rfl) yc_X11_344 rfl rfl ⟨by decide, by decide⟩ (Nat.le_of_ble_eq_true rfl) rfl dX11_drift_89 (fun x3 D8 => ?_)
        refine A_join (fun (J : Int32 → ADD → Option (Int32 × ADD)) => ∀ (x4 : Int32) (D9 : ADD), AT aVi g b 105 [some (.ref (g.1 + 0)), some (.int a1), some (.int a2), some (.int a3), none, none] [.int x4] D9 (J x4 D9)) (fun x4 D9 => ?_) (fun j105 hj105 => ?_)
        · refine A_istore (lv2 := [some (.ref (g.1 + 0)), some (.int a1), some (.int a2), some (.int a3), some (.int x4), none]) hC dX11_drift_105 (Nat.le_of_ble_eq_true rfl) rfl rfl ?_
          refine A_iconst (v := 0) hC dX11_drift_107 (by decide) ?_
          refine A_istore (lv2 := [some (.ref (g.1 + 0)), some (.int a1), some (.int a2), some (.int a3), some (.int x4), some (.int (0 : Int32))]) hC dX11_drift_108 (Nat.le_of_ble_eq_true rfl) rfl rfl ?_
          refine A_join (fun (J : ADD → Option (Int32 × ADD)) => ∀ (D10 : ADD), AT aVi g b 159 [some (.ref (g.1 + 0)), none, some (.int a2), some (.int a3), some (.int x4), none] [] D10 (J D10)) (fun D10 => ?_) (fun j159 hj159 => ?_)
          · refine A_aload_n hC dX11_drift_159 rfl ?_
            refine A_callVi (As := []) (st := []) hC (fun l => mX11_those l g hL D10) (lM_0 hL) rfl (Nat.le_of_ble_eq_true rfl) yc_X11_344 rfl rfl ⟨by decide, by decide⟩ (Nat.le_of_ble_eq_true rfl) rfl dX11_drift_160 (fun x5 D11 => ?_)
            refine A_join (fun (J : Int32 → ADD → Option (Int32 × ADD)) => ∀ (x6 : Int32) (D12 : ADD), AT aVi g b 176 [none, none, none, none, some (.int x4), none] [.int x6] D12 (J x6 D12)) (fun x6 D12 => ?_) (fun j176 hj176 => ?_)
            · refine A_istore (lv2 := [none, none, none, none, some (.int x4), some (.int x6)]) hC dX11_drift_176 (Nat.le_of_ble_eq_true rfl) rfl rfl ?_
              refine A_iload hC dX11_drift_178 rfl ?_
              refine A_iconst (v := -1) hC dX11_drift_180 (by decide) ?_
              refine A_join (fun (J : Int32 → ADD → Option (Int32 × ADD)) => ∀ (x7 : Int32) (D13 : ADD), AT aVi g b 200 [none, none, none, none, none, none] [.int x7] D13 (J x7 D13)) (fun x7 D13 => ?_) (fun j200 hj200 => ?_)
              · exact A_iret hC dX11_drift_200
              refine A_join (fun (J : ADD → Option (Int32 × ADD)) => ∀ (D14 : ADD), AT aVi g b 190 [none, none, none, none, none, none] [] D14 (J D14)) (fun D14 => ?_) (fun j190 hj190 => ?_)
              · refine A_ldc hC dX11_drift_190 w_1200 ?_
                refine A_goto (tgt := 200) hC dX11_drift_192 (by decide) ?_
                exact A_to (hj200 (-100000 : Int32) D14) (trivial)
              refine A_icmp_eq (tgt := 190) hC dX11_drift_181 (by decide) ?_ ?_
              · exact A_to (hj190 D12) (trivial)
              · refine A_iload hC dX11_drift_184 rfl ?_
                refine A_iconst (v := -1) hC dX11_drift_186 (by decide) ?_
                refine A_icmp_ne (tgt := 195) hC dX11_drift_187 (by decide) ?_ ?_
                · refine A_iload hC dX11_drift_195 rfl ?_
                  refine A_iload hC dX11_drift_197 rfl ?_
                  refine A_isub hC dX11_drift_199 ?_
                  exact A_to (hj200 (x4 - x6) D12) (trivial)
                · exact A_to (hj190 D12) (trivial)
            refine A_if_ne (tgt := 170) hC dX11_drift_163 (by decide) ?_ ?_
            · refine A_aload_n hC dX11_drift_170 rfl ?_
              refine A_iload_n hC dX11_drift_171 rfl ?_
              refine A_iload_n hC dX11_drift_172 rfl ?_
              refine A_callVi (As := [.int a2, .int a3]) (st := []) hC (fun l => mX11_bestOf l g hL a2 a3 D11) (lM_0 hL) rfl (Nat.le_of_ble_eq_true rfl) yc_X11_347 rfl rfl ⟨by decide, by decide⟩ (Nat.le_of_ble_eq_true rfl) rfl dX11_drift_173 (fun x8 D15 => ?_)
              exact A_to (hj176 x8 D15) (And.intro rfl (trivial))
            · refine A_iconst (v := -1) hC dX11_drift_166 (by decide) ?_
              refine A_goto (tgt := 176) hC dX11_drift_167 (by decide) ?_
              exact A_to (hj176 (-1 : Int32) D11) (And.intro rfl (trivial))
          refine A_join (fun (J : Int32 → ADD → Option (Int32 × ADD)) => ∀ (x9 : Int32) (D16 : ADD), AT aVi g b 110 [some (.ref (g.1 + 0)), some (.int a1), some (.int a2), some (.int a3), some (.int x4), some (.int x9)] [] D16 (J x9 D16)) (aFix_all (fun (J : Int32 → ADD → Option (Int32 × ADD)) => ∀ (x9 : Int32) (D16 : ADD), AT aVi g b 110 [some (.ref (g.1 + 0)), some (.int a1), some (.int a2), some (.int a3), some (.int x4), some (.int x9)] [] D16 (J x9 D16)) (fun _ _ => A_none) (fun L110 hL110 x9 D16 => ?_) _) (fun j110 hj110 => ?_)
          · unfold lX11_drift_110
            refine A_iload hC dX11_drift_110 rfl ?_
            refine A_aload_n hC dX11_drift_112 rfl ?_
            refine A_geti (kf := 41) hC kX11 (lM_0 hL) rfl (by decide) (by decide) rfl w_1044 dX11_drift_113 ?_
            refine A_icmp_ge (tgt := 159) hC dX11_drift_116 (by decide) ?_ ?_
            · exact A_to (hj159 D16) (And.intro rfl (And.intro rfl (And.intro rfl (And.intro rfl (trivial)))))
            · refine A_aload_n hC dX11_drift_119 rfl ?_
              refine A_getr (kf := 46) hC kX11 (lM_0 hL) rfl (by decide) (by decide) rfl rfl w_1049 dX11_drift_120 ?_
              refine A_iload hC dX11_drift_123 rfl ?_
              refine A_aload_n hC dX11_drift_125 rfl ?_
              refine A_getr (kf := 49) hC kX11 (lM_0 hL) rfl (by decide) (by decide) rfl rfl w_1052 dX11_drift_126 ?_
              refine A_iload hC dX11_drift_129 rfl ?_
              refine A_zald hC (lM_38 hL) dX11_drift_131 ?_
              refine A_join (fun (J : Int32 → ADD → Option (Int32 × ADD)) => ∀ (x10 : Int32) (D17 : ADD), AT aVi g b 152 [some (.ref (g.1 + 0)), some (.int a1), some (.int a2), some (.int a3), some (.int x4), some (.int x9)] [.int x10, .int x9, .ref (g.1 + 35)] D17 (J x10 D17)) (fun x10 D17 => ?_) (fun j152 hj152 => ?_)
              · refine A_zast hC (lM_35 hL) dX11_drift_152 (fun D18 => ?_)
                refine A_iincL (z := (1 : Int32)) (lv2 := fun x11 => [some (.ref (g.1 + 0)), some (.int a1), some (.int a2), some (.int a3), some (.int x4), some (.int x11)]) hC dX11_drift_153 rfl (by decide) (Nat.le_of_ble_eq_true rfl) rfl (fun _ => rfl) (fun x11 => ?_)
                refine A_goto (tgt := 110) hC dX11_drift_156 (by decide) ?_
                exact A_to (hL110 x11 D18) (And.intro rfl (And.intro rfl (And.intro rfl (And.intro rfl (And.intro rfl (And.intro rfl (trivial)))))))
              refine A_join (fun (J : ADD → Option (Int32 × ADD)) => ∀ (D19 : ADD), AT aVi g b 151 [some (.ref (g.1 + 0)), some (.int a1), some (.int a2), some (.int a3), some (.int x4), some (.int x9)] [.int x9, .ref (g.1 + 35)] D19 (J D19)) (fun D19 => ?_) (fun j151 hj151 => ?_)
              · refine A_iconst (v := 0) hC dX11_drift_151 (by decide) ?_
                exact A_to (hj152 (0 : Int32) D19) (And.intro rfl (And.intro rfl (And.intro rfl (And.intro rfl (And.intro rfl (And.intro rfl (trivial)))))))
              refine A_if_eq (tgt := 151) hC dX11_drift_132 (by decide) ?_ ?_
              · exact A_to (hj151 D16) (And.intro rfl (And.intro rfl (And.intro rfl (And.intro rfl (And.intro rfl (And.intro rfl (trivial)))))))
              · refine A_aload_n hC dX11_drift_135 rfl ?_
                refine A_iload hC dX11_drift_136 rfl ?_
                refine A_bipush (v := 6) hC dX11_drift_138 (by decide) ?_
                refine A_callVi (As := [.int x9, .int (6 : Int32)]) (st := [.int x9, .ref (g.1 + 35)]) hC (fun l => mX11_f l g hL x9 (6 : Int32) D16) (lM_0 hL) rfl (Nat.le_of_ble_eq_true rfl) yc_X11_291 rfl rfl ⟨by decide, by decide⟩ (Nat.le_of_ble_eq_true rfl) rfl dX11_drift_140 (fun x12 D20 => ?_)
                refine A_iload_n hC dX11_drift_143 rfl ?_
                refine A_icmp_ge (tgt := 151) hC dX11_drift_144 (by decide) ?_ ?_
                · exact A_to (hj151 D20) (And.intro rfl (And.intro rfl (And.intro rfl (And.intro rfl (And.intro rfl (And.intro rfl (trivial)))))))
                · refine A_iconst (v := 1) hC dX11_drift_147 (by decide) ?_
                  refine A_goto (tgt := 152) hC dX11_drift_148 (by decide) ?_
                  exact A_to (hj152 (1 : Int32) D20) (And.intro rfl (And.intro rfl (And.intro rfl (And.intro rfl (And.intro rfl (And.intro rfl (trivial)))))))
          exact A_to (hj110 (0 : Int32) D9) (And.intro rfl (And.intro rfl (And.intro rfl (And.intro rfl (And.intro rfl (And.intro rfl (trivial)))))))
        refine A_if_ne (tgt := 99) hC dX11_drift_92 (by decide) ?_ ?_
        · refine A_aload_n hC dX11_drift_99 rfl ?_
          refine A_iload_n hC dX11_drift_100 rfl ?_
          refine A_iload_n hC dX11_drift_101 rfl ?_
          refine A_callVi (As := [.int a2, .int a3]) (st := []) hC (fun l => mX11_bestOf l g hL a2 a3 D8) (lM_0 hL) rfl (Nat.le_of_ble_eq_true rfl) yc_X11_347 rfl rfl ⟨by decide, by decide⟩ (Nat.le_of_ble_eq_true rfl) rfl dX11_drift_102 (fun x13 D21 => ?_)
          exact A_to (hj105 x13 D21) (And.intro rfl (And.intro rfl (And.intro rfl (And.intro rfl (trivial)))))
        · refine A_iconst (v := -1) hC dX11_drift_95 (by decide) ?_
          refine A_goto (tgt := 105) hC dX11_drift_96 (by decide) ?_
          exact A_to (hj105 (-1 : Int32) D8) (And.intro rfl (And.intro rfl (And.intro rfl (And.intro rfl (trivial)))))
      refine A_join (fun (J : Int32 → ADD → Option (Int32 × ADD)) => ∀ (x14 : Int32) (D22 : ADD), AT aVi g b 40 [some (.ref (g.1 + 0)), some (.int a1), some (.int a2), some (.int a3), some (.int x14), none] [] D22 (J x14 D22)) (aFix_all (fun (J : Int32 → ADD → Option (Int32 × ADD)) => ∀ (x14 : Int32) (D22 : ADD), AT aVi g b 40 [some (.ref (g.1 + 0)), some (.int a1), some (.int a2), some (.int a3), some (.int x14), none] [] D22 (J x14 D22)) (fun _ _ => A_none) (fun L40 hL40 x14 D22 => ?_) _) (fun j40 hj40 => ?_)
      · unfold lX11_drift_40
        refine A_iload hC dX11_drift_40 rfl ?_
        refine A_aload_n hC dX11_drift_42 rfl ?_
        refine A_geti (kf := 41) hC kX11 (lM_0 hL) rfl (by decide) (by decide) rfl w_1044 dX11_drift_43 ?_
        refine A_icmp_ge (tgt := 88) hC dX11_drift_46 (by decide) ?_ ?_
        · exact A_to (hj88 D22) (And.intro rfl (And.intro rfl (And.intro rfl (And.intro rfl (trivial)))))
        · refine A_aload_n hC dX11_drift_49 rfl ?_
          refine A_getr (kf := 46) hC kX11 (lM_0 hL) rfl (by decide) (by decide) rfl rfl w_1049 dX11_drift_50 ?_
          refine A_iload hC dX11_drift_53 rfl ?_
          refine A_aload_n hC dX11_drift_55 rfl ?_
          refine A_getr (kf := 49) hC kX11 (lM_0 hL) rfl (by decide) (by decide) rfl rfl w_1052 dX11_drift_56 ?_
          refine A_iload hC dX11_drift_59 rfl ?_
          refine A_zald hC (lM_38 hL) dX11_drift_61 ?_
          refine A_join (fun (J : Int32 → ADD → Option (Int32 × ADD)) => ∀ (x15 : Int32) (D23 : ADD), AT aVi g b 81 [some (.ref (g.1 + 0)), some (.int a1), some (.int a2), some (.int a3), some (.int x14), none] [.int x15, .int x14, .ref (g.1 + 35)] D23 (J x15 D23)) (fun x15 D23 => ?_) (fun j81 hj81 => ?_)
          · refine A_zast hC (lM_35 hL) dX11_drift_81 (fun D24 => ?_)
            refine A_iincL (z := (1 : Int32)) (lv2 := fun x16 => [some (.ref (g.1 + 0)), some (.int a1), some (.int a2), some (.int a3), some (.int x16), none]) hC dX11_drift_82 rfl (by decide) (Nat.le_of_ble_eq_true rfl) rfl (fun _ => rfl) (fun x16 => ?_)
            refine A_goto (tgt := 40) hC dX11_drift_85 (by decide) ?_
            exact A_to (hL40 x16 D24) (And.intro rfl (And.intro rfl (And.intro rfl (And.intro rfl (And.intro rfl (trivial))))))
          refine A_join (fun (J : ADD → Option (Int32 × ADD)) => ∀ (D25 : ADD), AT aVi g b 80 [some (.ref (g.1 + 0)), some (.int a1), some (.int a2), some (.int a3), some (.int x14), none] [.int x14, .ref (g.1 + 35)] D25 (J D25)) (fun D25 => ?_) (fun j80 hj80 => ?_)
          · refine A_iconst (v := 0) hC dX11_drift_80 (by decide) ?_
            exact A_to (hj81 (0 : Int32) D25) (And.intro rfl (And.intro rfl (And.intro rfl (And.intro rfl (And.intro rfl (trivial))))))
          refine A_if_eq (tgt := 80) hC dX11_drift_62 (by decide) ?_ ?_
          · exact A_to (hj80 D22) (And.intro rfl (And.intro rfl (And.intro rfl (And.intro rfl (And.intro rfl (trivial))))))
          · refine A_aload_n hC dX11_drift_65 rfl ?_
            refine A_iload hC dX11_drift_66 rfl ?_
            refine A_iconst (v := 5) hC dX11_drift_68 (by decide) ?_
            refine A_callVi (As := [.int x14, .int (5 : Int32)]) (st := [.int x14, .ref (g.1 + 35)]) hC (fun l => mX11_f l g hL x14 (5 : Int32) D22) (lM_0 hL) rfl (Nat.le_of_ble_eq_true rfl) yc_X11_291 rfl rfl ⟨by decide, by decide⟩ (Nat.le_of_ble_eq_true rfl) rfl dX11_drift_69 (fun x17 D26 => ?_)
            refine A_iload_n hC dX11_drift_72 rfl ?_
            refine A_icmp_lt (tgt := 80) hC dX11_drift_73 (by decide) ?_ ?_
            · exact A_to (hj80 D26) (And.intro rfl (And.intro rfl (And.intro rfl (And.intro rfl (And.intro rfl (trivial))))))
            · refine A_iconst (v := 1) hC dX11_drift_76 (by decide) ?_
              refine A_goto (tgt := 81) hC dX11_drift_77 (by decide) ?_
              exact A_to (hj81 (1 : Int32) D26) (And.intro rfl (And.intro rfl (And.intro rfl (And.intro rfl (And.intro rfl (trivial))))))
      exact A_to (hj40 (0 : Int32) D6) (And.intro rfl (And.intro rfl (And.intro rfl (And.intro rfl (And.intro rfl (trivial))))))
    · exact A_to (hj26 D4) (trivial)
def lX11_verdict_38 (j78 : ADD → Option (Int32 × ADD)) (L38 : Int32 → ADD → Option (Int32 × ADD)) (x3 : Int32) (D8 : ADD) : Option (Int32 × ADD) := aIn (1 : Int32) 8 ((if (D8.1 15 (1 : Int32).toNatClampNeg) ≤ x3 then j78 D8 else aBind (fX11_holds ((16 : Int32) + x3) D8) (fun x4 D9 => (if x4 = 0 then aLet (x3 + (1 : Int32)) (fun x5 => L38 x5 D9) else aIn ((16 : Int32) + x3) 128 (some ((D9.1 20 ((16 : Int32) + x3).toNatClampNeg), D9))))))
def fX11_verdict (a1 : Int32) (a2 : Int32) (a3 : Int32) (D : ADD) : Option (Int32 × ADD) := aLet (aSI D 0 0 (0 : Int32)) (fun D1 => aBind (fX11_areUnits a2 a3 D1) (fun x1 D2 => aLet (fun (D3 : ADD) => some ((-1 : Int32), D3)) (fun (j22 : ADD → Option (Int32 × ADD)) => (if x1 = 0 then j22 D2 else aBind (fX11_is a1 a2 a3 D2) (fun x2 D4 => (if x2 = 0 then j22 D4 else aBind (fX11_look D4) (fun _ D5 => aBind (fX11_findProof a1 a2 a3 D5) (fun _ D6 => aLet (fun (D7 : ADD) => some ((2 : Int32), D7)) (fun (j78 : ADD → Option (Int32 × ADD)) => aLet (aFix aFuel (lX11_verdict_38 j78) (fun _ _ => none)) (fun j38 => j38 (0 : Int32) D6))))))))))
set_option maxHeartbeats 4000000 in
set_option maxRecDepth 100000 in
theorem mX11_verdict (l : Launch) (g : AGl) (hL : aLM g) (a1 : Int32) (a2 : Int32) (a3 : Int32) (D : ADD) : AM aVi l yX11_verdict cX11_verdict 5 (some .int) 6 g [.ref (g.1 + 0), .int a1, .int a2, .int a3] D (fX11_verdict a1 a2 a3 D) := by
  refine AM_of (lv0 := [some (.ref (g.1 + 0)), some (.int a1), some (.int a2), some (.int a3), none]) (own := RX11) (by decide +kernel) rfl (Nat.le_of_ble_eq_true rfl) rfl (fun b hC => ?_)
  unfold fX11_verdict
  refine A_aload_n hC dX11_verdict_0 rfl ?_
  refine A_iconst (v := 0) hC dX11_verdict_1 (by decide) ?_
  refine A_puti (kf := 0) hC kX11 (lM_0 hL) rfl (by decide) (by decide) rfl rfl rfl w_1003 dX11_verdict_2 (fun D1 => ?_)
  refine A_iload_n hC dX11_verdict_5 rfl ?_
  refine A_iload_n hC dX11_verdict_6 rfl ?_
  refine A_callSi (As := [.int a2, .int a3]) (st := []) hC (fun l => mX11_areUnits l g a2 a3 D1) yc_X11_340 rfl rfl ⟨by decide, by decide⟩ (Nat.le_of_ble_eq_true rfl) rfl dX11_verdict_7 (fun x1 D2 => ?_)
  refine A_join (fun (J : ADD → Option (Int32 × ADD)) => ∀ (D3 : ADD), AT aVi g b 22 [none, none, none, none, none] [] D3 (J D3)) (fun D3 => ?_) (fun j22 hj22 => ?_)
  · refine A_iconst (v := -1) hC dX11_verdict_22 (by decide) ?_
    exact A_iret hC dX11_verdict_23
  refine A_if_eq (tgt := 22) hC dX11_verdict_10 (by decide) ?_ ?_
  · exact A_to (hj22 D2) (trivial)
  · refine A_iload_n hC dX11_verdict_13 rfl ?_
    refine A_iload_n hC dX11_verdict_14 rfl ?_
    refine A_iload_n hC dX11_verdict_15 rfl ?_
    refine A_callSi (As := [.int a1, .int a2, .int a3]) (st := []) hC (fun l => mX11_is l g a1 a2 a3 D2) yc_X11_138 rfl rfl ⟨by decide, by decide⟩ (Nat.le_of_ble_eq_true rfl) rfl dX11_verdict_16 (fun x2 D4 => ?_)
    refine A_if_ne (tgt := 24) hC dX11_verdict_19 (by decide) ?_ ?_
    · refine A_aload_n hC dX11_verdict_24 rfl ?_
      refine A_callVv (As := []) (st := []) hC (fun l => mX11_look l g hL D4) (lM_0 hL) rfl (Nat.le_of_ble_eq_true rfl) yc_X11_311 rfl rfl ⟨by decide, by decide⟩ (Nat.le_of_ble_eq_true rfl) rfl dX11_verdict_25 (fun _ D5 => ?_)
      refine A_aload_n hC dX11_verdict_28 rfl ?_
      refine A_iload_n hC dX11_verdict_29 rfl ?_
      refine A_iload_n hC dX11_verdict_30 rfl ?_
      refine A_iload_n hC dX11_verdict_31 rfl ?_
      refine A_callVv (As := [.int a1, .int a2, .int a3]) (st := []) hC (fun l => mX11_findProof l g hL a1 a2 a3 D5) (lM_0 hL) rfl (Nat.le_of_ble_eq_true rfl) yc_X11_391 rfl rfl ⟨by decide, by decide⟩ (Nat.le_of_ble_eq_true rfl) rfl dX11_verdict_32 (fun _ D6 => ?_)
      refine A_iconst (v := 0) hC dX11_verdict_35 (by decide) ?_
      refine A_istore (lv2 := [some (.ref (g.1 + 0)), some (.int a1), some (.int a2), some (.int a3), some (.int (0 : Int32))]) hC dX11_verdict_36 (Nat.le_of_ble_eq_true rfl) rfl rfl ?_
      refine A_join (fun (J : ADD → Option (Int32 × ADD)) => ∀ (D7 : ADD), AT aVi g b 78 [none, none, none, none, none] [] D7 (J D7)) (fun D7 => ?_) (fun j78 hj78 => ?_)
      · refine A_iconst (v := 2) hC dX11_verdict_78 (by decide) ?_
        exact A_iret hC dX11_verdict_79
      refine A_join (fun (J : Int32 → ADD → Option (Int32 × ADD)) => ∀ (x3 : Int32) (D8 : ADD), AT aVi g b 38 [some (.ref (g.1 + 0)), none, none, none, some (.int x3)] [] D8 (J x3 D8)) (aFix_all (fun (J : Int32 → ADD → Option (Int32 × ADD)) => ∀ (x3 : Int32) (D8 : ADD), AT aVi g b 38 [some (.ref (g.1 + 0)), none, none, none, some (.int x3)] [] D8 (J x3 D8)) (fun _ _ => A_none) (fun L38 hL38 x3 D8 => ?_) _) (fun j38 hj38 => ?_)
      · unfold lX11_verdict_38
        refine A_iload hC dX11_verdict_38 rfl ?_
        refine A_aload_n hC dX11_verdict_40 rfl ?_
        refine A_getr (kf := 15) hC kX11 (lM_0 hL) rfl (by decide) (by decide) rfl rfl w_1018 dX11_verdict_41 ?_
        refine A_iconst (v := 1) hC dX11_verdict_44 (by decide) ?_
        refine A_iald hC (lM_15 hL) dX11_verdict_45 ?_
        refine A_icmp_ge (tgt := 78) hC dX11_verdict_46 (by decide) ?_ ?_
        · exact A_to (hj78 D8) (trivial)
        · refine A_aload_n hC dX11_verdict_49 rfl ?_
          refine A_bipush (v := 16) hC dX11_verdict_50 (by decide) ?_
          refine A_iload hC dX11_verdict_52 rfl ?_
          refine A_iadd hC dX11_verdict_54 ?_
          refine A_callVi (As := [.int ((16 : Int32) + x3)]) (st := []) hC (fun l => mX11_holds l g hL ((16 : Int32) + x3) D8) (lM_0 hL) rfl (Nat.le_of_ble_eq_true rfl) yc_X11_295 rfl rfl ⟨by decide, by decide⟩ (Nat.le_of_ble_eq_true rfl) rfl dX11_verdict_55 (fun x4 D9 => ?_)
          refine A_if_eq (tgt := 72) hC dX11_verdict_58 (by decide) ?_ ?_
          · refine A_iincL (z := (1 : Int32)) (lv2 := fun x5 => [some (.ref (g.1 + 0)), none, none, none, some (.int x5)]) hC dX11_verdict_72 rfl (by decide) (Nat.le_of_ble_eq_true rfl) rfl (fun _ => rfl) (fun x5 => ?_)
            refine A_goto (tgt := 38) hC dX11_verdict_75 (by decide) ?_
            exact A_to (hL38 x5 D9) (And.intro rfl (And.intro rfl (trivial)))
          · refine A_aload_n hC dX11_verdict_61 rfl ?_
            refine A_getr (kf := 20) hC kX11 (lM_0 hL) rfl (by decide) (by decide) rfl rfl w_1023 dX11_verdict_62 ?_
            refine A_bipush (v := 16) hC dX11_verdict_65 (by decide) ?_
            refine A_iload hC dX11_verdict_67 rfl ?_
            refine A_iadd hC dX11_verdict_69 ?_
            refine A_iald hC (lM_20 hL) dX11_verdict_70 ?_
            exact A_iret hC dX11_verdict_71
      exact A_to (hj38 (0 : Int32) D6) (And.intro rfl (And.intro rfl (trivial)))
    · exact A_to (hj22 D4) (trivial)
def fX11_worthOf (a1 : Int32) (a2 : Int32) (a3 : Int32) (D : ADD) : Option (Int32 × ADD) := aIn a1 32 (aLet (D.1 33 a1.toNatClampNeg) (fun x1 => aIn a1 32 (aLet (D.1 34 a1.toNatClampNeg) (fun x2 => aIn a1 32 (aLet (aSI D 34 a1.toNatClampNeg x1) (fun D1 => aBind (fX11_bestOf a2 a3 D1) (fun x3 D2 => aIn a1 32 (aLet (aSI D2 33 a1.toNatClampNeg x2) (fun D3 => aIn a1 32 (aLet (aSI D3 34 a1.toNatClampNeg x2) (fun D4 => aBind (fX11_bestOf a2 a3 D4) (fun x4 D5 => aIn a1 32 (aLet (aSI D5 33 a1.toNatClampNeg x1) (fun D6 => aLet (fun (x5 : Int32) (D7 : ADD) => some (x5, D7)) (fun (j84 : Int32 → ADD → Option (Int32 × ADD)) => (if x4 ≤ x3 then j84 (x3 - x4) D6 else j84 (x4 - x3) D6))))))))))))))))
set_option maxHeartbeats 4000000 in
set_option maxRecDepth 100000 in
theorem mX11_worthOf (l : Launch) (g : AGl) (hL : aLM g) (a1 : Int32) (a2 : Int32) (a3 : Int32) (D : ADD) : AM aVi l yX11_worthOf cX11_worthOf 8 (some .int) 6 g [.ref (g.1 + 0), .int a1, .int a2, .int a3] D (fX11_worthOf a1 a2 a3 D) := by
  refine AM_of (lv0 := [some (.ref (g.1 + 0)), some (.int a1), some (.int a2), some (.int a3), none, none, none, none]) (own := RX11) (by decide +kernel) rfl (Nat.le_of_ble_eq_true rfl) rfl (fun b hC => ?_)
  unfold fX11_worthOf
  refine A_aload_n hC dX11_worthOf_0 rfl ?_
  refine A_getr (kf := 44) hC kX11 (lM_0 hL) rfl (by decide) (by decide) rfl rfl w_1047 dX11_worthOf_1 ?_
  refine A_iload_n hC dX11_worthOf_4 rfl ?_
  refine A_iald hC (lM_33 hL) dX11_worthOf_5 ?_
  refine A_topi (fun x1 => ?_)
  refine A_istore (lv2 := [some (.ref (g.1 + 0)), some (.int a1), some (.int a2), some (.int a3), some (.int x1), none, none, none]) hC dX11_worthOf_6 (Nat.le_of_ble_eq_true rfl) rfl rfl ?_
  refine A_aload_n hC dX11_worthOf_8 rfl ?_
  refine A_getr (kf := 45) hC kX11 (lM_0 hL) rfl (by decide) (by decide) rfl rfl w_1048 dX11_worthOf_9 ?_
  refine A_iload_n hC dX11_worthOf_12 rfl ?_
  refine A_iald hC (lM_34 hL) dX11_worthOf_13 ?_
  refine A_topi (fun x2 => ?_)
  refine A_istore (lv2 := [some (.ref (g.1 + 0)), some (.int a1), some (.int a2), some (.int a3), some (.int x1), some (.int x2), none, none]) hC dX11_worthOf_14 (Nat.le_of_ble_eq_true rfl) rfl rfl ?_
  refine A_aload_n hC dX11_worthOf_16 rfl ?_
  refine A_getr (kf := 45) hC kX11 (lM_0 hL) rfl (by decide) (by decide) rfl rfl w_1048 dX11_worthOf_17 ?_
  refine A_iload_n hC dX11_worthOf_20 rfl ?_
  refine A_iload hC dX11_worthOf_21 rfl ?_
  refine A_iast hC (lM_34 hL) dX11_worthOf_23 (fun D1 => ?_)
  refine A_aload_n hC dX11_worthOf_24 rfl ?_
  refine A_iload_n hC dX11_worthOf_25 rfl ?_
  refine A_iload_n hC dX11_worthOf_26 rfl ?_
  refine A_callVi (As := [.int a2, .int a3]) (st := []) hC (fun l => mX11_bestOf l g hL a2 a3 D1) (lM_0 hL) rfl (Nat.le_of_ble_eq_true rfl) yc_X11_347 rfl rfl ⟨by decide, by decide⟩ (Nat.le_of_ble_eq_true rfl) rfl dX11_worthOf_27 (fun x3 D2 => ?_)
  refine A_istore (lv2 := [some (.ref (g.1 + 0)), some (.int a1), some (.int a2), some (.int a3), some (.int x1), some (.int x2), some (.int x3), none]) hC dX11_worthOf_30 (Nat.le_of_ble_eq_true rfl) rfl rfl ?_
  refine A_aload_n hC dX11_worthOf_32 rfl ?_
  refine A_getr (kf := 44) hC kX11 (lM_0 hL) rfl (by decide) (by decide) rfl rfl w_1047 dX11_worthOf_33 ?_
  refine A_iload_n hC dX11_worthOf_36 rfl ?_
  refine A_iload hC dX11_worthOf_37 rfl ?_
  refine A_iast hC (lM_33 hL) dX11_worthOf_39 (fun D3 => ?_)
  refine A_aload_n hC dX11_worthOf_40 rfl ?_
  refine A_getr (kf := 45) hC kX11 (lM_0 hL) rfl (by decide) (by decide) rfl rfl w_1048 dX11_worthOf_41 ?_
  refine A_iload_n hC dX11_worthOf_44 rfl ?_
  refine A_iload hC dX11_worthOf_45 rfl ?_
  refine A_iast hC (lM_34 hL) dX11_worthOf_47 (fun D4 => ?_)
  refine A_aload_n hC dX11_worthOf_48 rfl ?_
  refine A_iload_n hC dX11_worthOf_49 rfl ?_
  refine A_iload_n hC dX11_worthOf_50 rfl ?_
  refine A_callVi (As := [.int a2, .int a3]) (st := []) hC (fun l => mX11_bestOf l g hL a2 a3 D4) (lM_0 hL) rfl (Nat.le_of_ble_eq_true rfl) yc_X11_347 rfl rfl ⟨by decide, by decide⟩ (Nat.le_of_ble_eq_true rfl) rfl dX11_worthOf_51 (fun x4 D5 => ?_)
  refine A_istore (lv2 := [some (.ref (g.1 + 0)), some (.int a1), some (.int a2), some (.int a3), some (.int x1), some (.int x2), some (.int x3), some (.int x4)]) hC dX11_worthOf_54 (Nat.le_of_ble_eq_true rfl) rfl rfl ?_
  refine A_aload_n hC dX11_worthOf_56 rfl ?_
  refine A_getr (kf := 44) hC kX11 (lM_0 hL) rfl (by decide) (by decide) rfl rfl w_1047 dX11_worthOf_57 ?_
  refine A_iload_n hC dX11_worthOf_60 rfl ?_
  refine A_iload hC dX11_worthOf_61 rfl ?_
  refine A_iast hC (lM_33 hL) dX11_worthOf_63 (fun D6 => ?_)
  refine A_iload hC dX11_worthOf_64 rfl ?_
  refine A_iload hC dX11_worthOf_66 rfl ?_
  refine A_join (fun (J : Int32 → ADD → Option (Int32 × ADD)) => ∀ (x5 : Int32) (D7 : ADD), AT aVi g b 84 [none, none, none, none, none, none, none, none] [.int x5] D7 (J x5 D7)) (fun x5 D7 => ?_) (fun j84 hj84 => ?_)
  · exact A_iret hC dX11_worthOf_84
  refine A_icmp_ge (tgt := 79) hC dX11_worthOf_68 (by decide) ?_ ?_
  · refine A_iload hC dX11_worthOf_79 rfl ?_
    refine A_iload hC dX11_worthOf_81 rfl ?_
    refine A_isub hC dX11_worthOf_83 ?_
    exact A_to (hj84 (x3 - x4) D6) (trivial)
  · refine A_iload hC dX11_worthOf_71 rfl ?_
    refine A_iload hC dX11_worthOf_73 rfl ?_
    refine A_isub hC dX11_worthOf_75 ?_
    refine A_goto (tgt := 84) hC dX11_worthOf_76 (by decide) ?_
    exact A_to (hj84 (x4 - x3) D6) (trivial)
def lX5_wordIn_23 (si : Nat) (j127 : ADD → Option (Int32 × ADD)) (L23 : Int32 → Int32 → Int32 → Int32 → ADD → Option (Int32 × ADD)) (x2 : Int32) (x3 : Int32) (x4 : Int32) (x5 : Int32) (D2 : ADD) : Option (Int32 × ADD) := aBind (fJ0_length_8abf5 si D2) (fun x6 D3 => (if x6 < x5 then j127 D3 else aBind (fJ0_length_8abf5 si D3) (fun x7 D4 => aLet (fun (x8 : Int32) (x9 : Int32) (x10 : Int32) (D5 : ADD) => aLet (x5 + (1 : Int32)) (fun x11 => L23 x8 x9 x10 x11 D5)) (fun (j121 : Int32 → Int32 → Int32 → ADD → Option (Int32 × ADD)) => aLet (fun (D6 : ADD) => aLet (fun (D7 : ADD) => aLet (x2 + (1 : Int32)) (fun x12 => aLet (D7.1 33 6) (fun x13 => j121 x12 x13 (1 : Int32) D7))) (fun (j67 : ADD → Option (Int32 × ADD)) => (if x4 = 0 then j67 D6 else (if x3 = (D6.1 33 7) then some (x2, D6) else j67 D6)))) (fun (j52 : ADD → Option (Int32 × ADD)) => (if x5 = x7 then j52 D4 else aBind (fJ0_charAt_5068e si x5 D4) (fun x14 D8 => (if x14 = (32 : Int32) then j52 D8 else aLet (fun (x15 : Int32) (D9 : ADD) => aLet (x3 + (1 : Int32)) (fun x16 => j121 x2 x16 x15 D9)) (fun (j116 : Int32 → ADD → Option (Int32 × ADD)) => aLet (fun (D10 : ADD) => j116 (0 : Int32) D10) (fun (j115 : ADD → Option (Int32 × ADD)) => (if x4 = 0 then j115 D8 else (if (D8.1 33 7) ≤ x3 then j115 D8 else aBind (fX9_byteAt x3 D8) (fun x17 D11 => aBind (fJ0_charAt_5068e si x5 D11) (fun x18 D12 => (if x17 = x18 then j116 (1 : Int32) D12 else j115 D12)))))))))))))))
def fX5_wordIn (si : Nat) (D : ADD) : Option (Int32 × ADD) := (if (D.1 33 5) = (1 : Int32) then aLet (D.1 33 6) (fun x1 => aLet (fun (D1 : ADD) => some ((-1 : Int32), D1)) (fun (j127 : ADD → Option (Int32 × ADD)) => aLet (aFix aFuel (lX5_wordIn_23 si j127) (fun _ _ _ _ _ => none)) (fun j23 => j23 (0 : Int32) x1 (1 : Int32) (0 : Int32) D))) else some ((-1 : Int32), D))
set_option maxHeartbeats 4000000 in
set_option maxRecDepth 100000 in
theorem mX5_wordIn (l : Launch) (g : AGl) (hL : aLX g) (si : Nat) (hs : si < 8) (D : ADD) : AM aVi l yX5_wordIn cX5_wordIn 6 (some .int) 6 g [.ref (g.1 + 33), .ref (g.2.2.2.2.1.2.2.1 si)] D (fX5_wordIn si D) := by
  refine AM_of (lv0 := [some (.ref (g.1 + 33)), some (.ref (g.2.2.2.2.1.2.2.1 si)), none, none, none, none]) (own := RX5) (by decide +kernel) rfl (Nat.le_of_ble_eq_true rfl) rfl (fun b hC => ?_)
  unfold fX5_wordIn
  refine A_aload_n hC dX5_wordIn_0 rfl ?_
  refine A_geti (kf := 5) hC kX5 (lX_33 hL) rfl (by decide) (by decide) rfl w_211 dX5_wordIn_1 ?_
  refine A_iconst (v := 1) hC dX5_wordIn_4 (by decide) ?_
  refine A_icmp_eq (tgt := 10) hC dX5_wordIn_5 (by decide) ?_ ?_
  · refine A_iconst (v := 0) hC dX5_wordIn_10 (by decide) ?_
    refine A_istore_n (lv2 := [some (.ref (g.1 + 33)), some (.ref (g.2.2.2.2.1.2.2.1 si)), some (.int (0 : Int32)), none, none, none]) hC dX5_wordIn_11 (Nat.le_of_ble_eq_true rfl) rfl rfl ?_
    refine A_aload_n hC dX5_wordIn_12 rfl ?_
    refine A_geti (kf := 6) hC kX5 (lX_33 hL) rfl (by decide) (by decide) rfl w_212 dX5_wordIn_13 ?_
    refine A_topi (fun x1 => ?_)
    refine A_istore_n (lv2 := [some (.ref (g.1 + 33)), some (.ref (g.2.2.2.2.1.2.2.1 si)), some (.int (0 : Int32)), some (.int x1), none, none]) hC dX5_wordIn_16 (Nat.le_of_ble_eq_true rfl) rfl rfl ?_
    refine A_iconst (v := 1) hC dX5_wordIn_17 (by decide) ?_
    refine A_istore (lv2 := [some (.ref (g.1 + 33)), some (.ref (g.2.2.2.2.1.2.2.1 si)), some (.int (0 : Int32)), some (.int x1), some (.int (1 : Int32)), none]) hC dX5_wordIn_18 (Nat.le_of_ble_eq_true rfl) rfl rfl ?_
    refine A_iconst (v := 0) hC dX5_wordIn_20 (by decide) ?_
    refine A_istore (lv2 := [some (.ref (g.1 + 33)), some (.ref (g.2.2.2.2.1.2.2.1 si)), some (.int (0 : Int32)), some (.int x1), some (.int (1 : Int32)), some (.int (0 : Int32))]) hC dX5_wordIn_21 (Nat.le_of_ble_eq_true rfl) rfl rfl ?_
    refine A_join (fun (J : ADD → Option (Int32 × ADD)) => ∀ (D1 : ADD), AT aVi g b 127 [none, none, none, none, none, none] [] D1 (J D1)) (fun D1 => ?_) (fun j127 hj127 => ?_)
    · refine A_iconst (v := -1) hC dX5_wordIn_127 (by decide) ?_
      exact A_iret hC dX5_wordIn_128
    refine A_join (fun (J : Int32 → Int32 → Int32 → Int32 → ADD → Option (Int32 × ADD)) => ∀ (x2 : Int32) (x3 : Int32) (x4 : Int32) (x5 : Int32) (D2 : ADD), AT aVi g b 23 [some (.ref (g.1 + 33)), some (.ref (g.2.2.2.2.1.2.2.1 si)), some (.int x2), some (.int x3), some (.int x4), some (.int x5)] [] D2 (J x2 x3 x4 x5 D2)) (aFix_all (fun (J : Int32 → Int32 → Int32 → Int32 → ADD → Option (Int32 × ADD)) => ∀ (x2 : Int32) (x3 : Int32) (x4 : Int32) (x5 : Int32) (D2 : ADD), AT aVi g b 23 [some (.ref (g.1 + 33)), some (.ref (g.2.2.2.2.1.2.2.1 si)), some (.int x2), some (.int x3), some (.int x4), some (.int x5)] [] D2 (J x2 x3 x4 x5 D2)) (fun _ _ _ _ _ => A_none) (fun L23 hL23 x2 x3 x4 x5 D2 => ?_) _) (fun j23 hj23 => ?_)
    · unfold lX5_wordIn_23
      refine A_iload hC dX5_wordIn_23 rfl ?_
      refine A_aload_n hC dX5_wordIn_25 rfl ?_
      refine A_callX (As := []) (st := [.int x5]) hC (fun l => mJ0_length_8abf5 l g si hs D2) hs rfl yc_X5_127 rfl rfl ⟨by decide, by decide⟩ (Nat.le_of_ble_eq_true rfl) rfl dX5_wordIn_26 (fun x6 D3 => ?_)
      refine A_icmp_gt (tgt := 127) hC dX5_wordIn_29 (by decide) ?_ ?_
      · exact A_to (hj127 D3) (trivial)
      · refine A_iload hC dX5_wordIn_32 rfl ?_
        refine A_aload_n hC dX5_wordIn_34 rfl ?_
        refine A_callX (As := []) (st := [.int x5]) hC (fun l => mJ0_length_8abf5 l g si hs D3) hs rfl yc_X5_127 rfl rfl ⟨by decide, by decide⟩ (Nat.le_of_ble_eq_true rfl) rfl dX5_wordIn_35 (fun x7 D4 => ?_)
        refine A_join (fun (J : Int32 → Int32 → Int32 → ADD → Option (Int32 × ADD)) => ∀ (x8 : Int32) (x9 : Int32) (x10 : Int32) (D5 : ADD), AT aVi g b 121 [some (.ref (g.1 + 33)), some (.ref (g.2.2.2.2.1.2.2.1 si)), some (.int x8), some (.int x9), some (.int x10), some (.int x5)] [] D5 (J x8 x9 x10 D5)) (fun x8 x9 x10 D5 => ?_) (fun j121 hj121 => ?_)
        · refine A_iincL (z := (1 : Int32)) (lv2 := fun x11 => [some (.ref (g.1 + 33)), some (.ref (g.2.2.2.2.1.2.2.1 si)), some (.int x8), some (.int x9), some (.int x10), some (.int x11)]) hC dX5_wordIn_121 rfl (by decide) (Nat.le_of_ble_eq_true rfl) rfl (fun _ => rfl) (fun x11 => ?_)
          refine A_goto (tgt := 23) hC dX5_wordIn_124 (by decide) ?_
          exact A_to (hL23 x8 x9 x10 x11 D5) (And.intro rfl (And.intro rfl (And.intro rfl (And.intro rfl (And.intro rfl (And.intro rfl (trivial)))))))
        refine A_join (fun (J : ADD → Option (Int32 × ADD)) => ∀ (D6 : ADD), AT aVi g b 52 [some (.ref (g.1 + 33)), some (.ref (g.2.2.2.2.1.2.2.1 si)), some (.int x2), some (.int x3), some (.int x4), some (.int x5)] [] D6 (J D6)) (fun D6 => ?_) (fun j52 hj52 => ?_)
        · refine A_iload hC dX5_wordIn_52 rfl ?_
          refine A_join (fun (J : ADD → Option (Int32 × ADD)) => ∀ (D7 : ADD), AT aVi g b 67 [some (.ref (g.1 + 33)), some (.ref (g.2.2.2.2.1.2.2.1 si)), some (.int x2), none, none, some (.int x5)] [] D7 (J D7)) (fun D7 => ?_) (fun j67 hj67 => ?_)
          · refine A_iincL (z := (1 : Int32)) (lv2 := fun x12 => [some (.ref (g.1 + 33)), some (.ref (g.2.2.2.2.1.2.2.1 si)), some (.int x12), none, none, some (.int x5)]) hC dX5_wordIn_67 rfl (by decide) (Nat.le_of_ble_eq_true rfl) rfl (fun _ => rfl) (fun x12 => ?_)
            refine A_aload_n hC dX5_wordIn_70 rfl ?_
            refine A_geti (kf := 6) hC kX5 (lX_33 hL) rfl (by decide) (by decide) rfl w_212 dX5_wordIn_71 ?_
            refine A_topi (fun x13 => ?_)
            refine A_istore_n (lv2 := [some (.ref (g.1 + 33)), some (.ref (g.2.2.2.2.1.2.2.1 si)), some (.int x12), some (.int x13), none, some (.int x5)]) hC dX5_wordIn_74 (Nat.le_of_ble_eq_true rfl) rfl rfl ?_
            refine A_iconst (v := 1) hC dX5_wordIn_75 (by decide) ?_
            refine A_istore (lv2 := [some (.ref (g.1 + 33)), some (.ref (g.2.2.2.2.1.2.2.1 si)), some (.int x12), some (.int x13), some (.int (1 : Int32)), some (.int x5)]) hC dX5_wordIn_76 (Nat.le_of_ble_eq_true rfl) rfl rfl ?_
            refine A_goto (tgt := 121) hC dX5_wordIn_78 (by decide) ?_
            exact A_to (hj121 x12 x13 (1 : Int32) D7) (And.intro rfl (And.intro rfl (And.intro rfl (And.intro rfl (And.intro rfl (And.intro rfl (trivial)))))))
          refine A_if_eq (tgt := 67) hC dX5_wordIn_54 (by decide) ?_ ?_
          · exact A_to (hj67 D6) (And.intro rfl (And.intro rfl (And.intro rfl (And.intro rfl (trivial)))))
          · refine A_iload_n hC dX5_wordIn_57 rfl ?_
            refine A_aload_n hC dX5_wordIn_58 rfl ?_
            refine A_geti (kf := 7) hC kX5 (lX_33 hL) rfl (by decide) (by decide) rfl w_213 dX5_wordIn_59 ?_
            refine A_icmp_ne (tgt := 67) hC dX5_wordIn_62 (by decide) ?_ ?_
            · exact A_to (hj67 D6) (And.intro rfl (And.intro rfl (And.intro rfl (And.intro rfl (trivial)))))
            · refine A_iload_n hC dX5_wordIn_65 rfl ?_
              exact A_iret hC dX5_wordIn_66
        refine A_icmp_eq (tgt := 52) hC dX5_wordIn_38 (by decide) ?_ ?_
        · exact A_to (hj52 D4) (And.intro rfl (And.intro rfl (And.intro rfl (And.intro rfl (And.intro rfl (And.intro rfl (trivial)))))))
        · refine A_aload_n hC dX5_wordIn_41 rfl ?_
          refine A_iload hC dX5_wordIn_42 rfl ?_
          refine A_callX (As := [.int x5]) (st := []) hC (fun l => mJ0_charAt_5068e l g si hs x5 D4) hs rfl yc_X5_132 rfl rfl ⟨by decide, by decide⟩ (Nat.le_of_ble_eq_true rfl) rfl dX5_wordIn_44 (fun x14 D8 => ?_)
          refine A_bipush (v := 32) hC dX5_wordIn_47 (by decide) ?_
          refine A_icmp_ne (tgt := 81) hC dX5_wordIn_49 (by decide) ?_ ?_
          · refine A_iload hC dX5_wordIn_81 rfl ?_
            refine A_join (fun (J : Int32 → ADD → Option (Int32 × ADD)) => ∀ (x15 : Int32) (D9 : ADD), AT aVi g b 116 [some (.ref (g.1 + 33)), some (.ref (g.2.2.2.2.1.2.2.1 si)), some (.int x2), some (.int x3), none, some (.int x5)] [.int x15] D9 (J x15 D9)) (fun x15 D9 => ?_) (fun j116 hj116 => ?_)
            · refine A_istore (lv2 := [some (.ref (g.1 + 33)), some (.ref (g.2.2.2.2.1.2.2.1 si)), some (.int x2), some (.int x3), some (.int x15), some (.int x5)]) hC dX5_wordIn_116 (Nat.le_of_ble_eq_true rfl) rfl rfl ?_
              refine A_iincL (z := (1 : Int32)) (lv2 := fun x16 => [some (.ref (g.1 + 33)), some (.ref (g.2.2.2.2.1.2.2.1 si)), some (.int x2), some (.int x16), some (.int x15), some (.int x5)]) hC dX5_wordIn_118 rfl (by decide) (Nat.le_of_ble_eq_true rfl) rfl (fun _ => rfl) (fun x16 => ?_)
              exact A_to (hj121 x2 x16 x15 D9) (And.intro rfl (And.intro rfl (And.intro rfl (And.intro rfl (And.intro rfl (And.intro rfl (trivial)))))))
            refine A_join (fun (J : ADD → Option (Int32 × ADD)) => ∀ (D10 : ADD), AT aVi g b 115 [some (.ref (g.1 + 33)), some (.ref (g.2.2.2.2.1.2.2.1 si)), some (.int x2), some (.int x3), none, some (.int x5)] [] D10 (J D10)) (fun D10 => ?_) (fun j115 hj115 => ?_)
            · refine A_iconst (v := 0) hC dX5_wordIn_115 (by decide) ?_
              exact A_to (hj116 (0 : Int32) D10) (And.intro rfl (And.intro rfl (And.intro rfl (And.intro rfl (And.intro rfl (trivial))))))
            refine A_if_eq (tgt := 115) hC dX5_wordIn_83 (by decide) ?_ ?_
            · exact A_to (hj115 D8) (And.intro rfl (And.intro rfl (And.intro rfl (And.intro rfl (And.intro rfl (trivial))))))
            · refine A_iload_n hC dX5_wordIn_86 rfl ?_
              refine A_aload_n hC dX5_wordIn_87 rfl ?_
              refine A_geti (kf := 7) hC kX5 (lX_33 hL) rfl (by decide) (by decide) rfl w_213 dX5_wordIn_88 ?_
              refine A_icmp_ge (tgt := 115) hC dX5_wordIn_91 (by decide) ?_ ?_
              · exact A_to (hj115 D8) (And.intro rfl (And.intro rfl (And.intro rfl (And.intro rfl (And.intro rfl (trivial))))))
              · refine A_aload_n hC dX5_wordIn_94 rfl ?_
                refine A_getr (kf := 3) hC kX5 (lX_33 hL) rfl (by decide) (by decide) rfl rfl w_209 dX5_wordIn_95 ?_
                refine A_iload_n hC dX5_wordIn_98 rfl ?_
                refine A_callVi (As := [.int x3]) (st := []) hC (fun l => mX9_byteAt l g hL x3 D8) (lX_11 hL) rfl (Nat.le_of_ble_eq_true rfl) yc_X5_99 rfl rfl ⟨by decide, by decide⟩ (Nat.le_of_ble_eq_true rfl) rfl dX5_wordIn_99 (fun x17 D11 => ?_)
                refine A_aload_n hC dX5_wordIn_102 rfl ?_
                refine A_iload hC dX5_wordIn_103 rfl ?_
                refine A_callX (As := [.int x5]) (st := [.int x17]) hC (fun l => mJ0_charAt_5068e l g si hs x5 D11) hs rfl yc_X5_132 rfl rfl ⟨by decide, by decide⟩ (Nat.le_of_ble_eq_true rfl) rfl dX5_wordIn_105 (fun x18 D12 => ?_)
                refine A_icmp_ne (tgt := 115) hC dX5_wordIn_108 (by decide) ?_ ?_
                · exact A_to (hj115 D12) (And.intro rfl (And.intro rfl (And.intro rfl (And.intro rfl (And.intro rfl (trivial))))))
                · refine A_iconst (v := 1) hC dX5_wordIn_111 (by decide) ?_
                  refine A_goto (tgt := 116) hC dX5_wordIn_112 (by decide) ?_
                  exact A_to (hj116 (1 : Int32) D12) (And.intro rfl (And.intro rfl (And.intro rfl (And.intro rfl (And.intro rfl (trivial))))))
          · exact A_to (hj52 D8) (And.intro rfl (And.intro rfl (And.intro rfl (And.intro rfl (And.intro rfl (And.intro rfl (trivial)))))))
    exact A_to (hj23 (0 : Int32) x1 (1 : Int32) (0 : Int32) D) (And.intro rfl (And.intro rfl (And.intro rfl (And.intro rfl (And.intro rfl (And.intro rfl (trivial)))))))
  · refine A_iconst (v := -1) hC dX5_wordIn_8 (by decide) ?_
    exact A_iret hC dX5_wordIn_9
def lX11_anew_27 (a1 : Int32) (a2 : Int32) (j76 : Int32 → ADD → Option (Int32 × ADD)) (L27 : Int32 → Int32 → Int32 → ADD → Option (Int32 × ADD)) (x3 : Int32) (x4 : Int32) (x5 : Int32) (D5 : ADD) : Option (Int32 × ADD) := (if (D5.1 0 41) ≤ x5 then j76 x3 D5 else aIn x5 32 (aLet (fun (x6 : Int32) (x7 : Int32) (D6 : ADD) => aLet (x5 + (1 : Int32)) (fun x8 => L27 x6 x7 x8 D6)) (fun (j70 : Int32 → Int32 → ADD → Option (Int32 × ADD)) => (if (aBz (D5.1 35 x5.toNatClampNeg)) = 0 then j70 x3 x4 D5 else aBind (fX11_worthOf x5 a1 a2 D5) (fun x9 D7 => (if x9 ≤ x4 then j70 x3 x4 D7 else j70 x5 x9 D7))))))
def fX11_anew (a1 : Int32) (a2 : Int32) (D : ADD) : Option (Int32 × ADD) := aLet (aSI D 0 0 (0 : Int32)) (fun D1 => aBind (fX11_areUnits a1 a2 D1) (fun x1 D2 => (if x1 = 0 then some ((-1 : Int32), D2) else aBind (fX11_look D2) (fun _ D3 => aLet (fun (x2 : Int32) (D4 : ADD) => some (x2, D4)) (fun (j76 : Int32 → ADD → Option (Int32 × ADD)) => aLet (aFix aFuel (lX11_anew_27 a1 a2 j76) (fun _ _ _ _ => none)) (fun j27 => j27 (-1 : Int32) (-1 : Int32) (0 : Int32) D3))))))
set_option maxHeartbeats 4000000 in
set_option maxRecDepth 100000 in
theorem mX11_anew (l : Launch) (g : AGl) (hL : aLM g) (a1 : Int32) (a2 : Int32) (D : ADD) : AM aVi l yX11_anew cX11_anew 7 (some .int) 7 g [.ref (g.1 + 0), .int a1, .int a2] D (fX11_anew a1 a2 D) := by
  refine AM_of (lv0 := [some (.ref (g.1 + 0)), some (.int a1), some (.int a2), none, none, none, none]) (own := RX11) (by decide +kernel) rfl (Nat.le_of_ble_eq_true rfl) rfl (fun b hC => ?_)
  unfold fX11_anew
  refine A_aload_n hC dX11_anew_0 rfl ?_
  refine A_iconst (v := 0) hC dX11_anew_1 (by decide) ?_
  refine A_puti (kf := 0) hC kX11 (lM_0 hL) rfl (by decide) (by decide) rfl rfl rfl w_1003 dX11_anew_2 (fun D1 => ?_)
  refine A_iload_n hC dX11_anew_5 rfl ?_
  refine A_iload_n hC dX11_anew_6 rfl ?_
  refine A_callSi (As := [.int a1, .int a2]) (st := []) hC (fun l => mX11_areUnits l g a1 a2 D1) yc_X11_340 rfl rfl ⟨by decide, by decide⟩ (Nat.le_of_ble_eq_true rfl) rfl dX11_anew_7 (fun x1 D2 => ?_)
  refine A_if_ne (tgt := 15) hC dX11_anew_10 (by decide) ?_ ?_
  · refine A_aload_n hC dX11_anew_15 rfl ?_
    refine A_callVv (As := []) (st := []) hC (fun l => mX11_look l g hL D2) (lM_0 hL) rfl (Nat.le_of_ble_eq_true rfl) yc_X11_311 rfl rfl ⟨by decide, by decide⟩ (Nat.le_of_ble_eq_true rfl) rfl dX11_anew_16 (fun _ D3 => ?_)
    refine A_iconst (v := -1) hC dX11_anew_19 (by decide) ?_
    refine A_istore_n (lv2 := [some (.ref (g.1 + 0)), some (.int a1), some (.int a2), some (.int (-1 : Int32)), none, none, none]) hC dX11_anew_20 (Nat.le_of_ble_eq_true rfl) rfl rfl ?_
    refine A_iconst (v := -1) hC dX11_anew_21 (by decide) ?_
    refine A_istore (lv2 := [some (.ref (g.1 + 0)), some (.int a1), some (.int a2), some (.int (-1 : Int32)), some (.int (-1 : Int32)), none, none]) hC dX11_anew_22 (Nat.le_of_ble_eq_true rfl) rfl rfl ?_
    refine A_iconst (v := 0) hC dX11_anew_24 (by decide) ?_
    refine A_istore (lv2 := [some (.ref (g.1 + 0)), some (.int a1), some (.int a2), some (.int (-1 : Int32)), some (.int (-1 : Int32)), some (.int (0 : Int32)), none]) hC dX11_anew_25 (Nat.le_of_ble_eq_true rfl) rfl rfl ?_
    refine A_join (fun (J : Int32 → ADD → Option (Int32 × ADD)) => ∀ (x2 : Int32) (D4 : ADD), AT aVi g b 76 [none, none, none, some (.int x2), none, none, none] [] D4 (J x2 D4)) (fun x2 D4 => ?_) (fun j76 hj76 => ?_)
    · refine A_iload_n hC dX11_anew_76 rfl ?_
      exact A_iret hC dX11_anew_77
    refine A_join (fun (J : Int32 → Int32 → Int32 → ADD → Option (Int32 × ADD)) => ∀ (x3 : Int32) (x4 : Int32) (x5 : Int32) (D5 : ADD), AT aVi g b 27 [some (.ref (g.1 + 0)), some (.int a1), some (.int a2), some (.int x3), some (.int x4), some (.int x5), none] [] D5 (J x3 x4 x5 D5)) (aFix_all (fun (J : Int32 → Int32 → Int32 → ADD → Option (Int32 × ADD)) => ∀ (x3 : Int32) (x4 : Int32) (x5 : Int32) (D5 : ADD), AT aVi g b 27 [some (.ref (g.1 + 0)), some (.int a1), some (.int a2), some (.int x3), some (.int x4), some (.int x5), none] [] D5 (J x3 x4 x5 D5)) (fun _ _ _ _ => A_none) (fun L27 hL27 x3 x4 x5 D5 => ?_) _) (fun j27 hj27 => ?_)
    · unfold lX11_anew_27
      refine A_iload hC dX11_anew_27 rfl ?_
      refine A_aload_n hC dX11_anew_29 rfl ?_
      refine A_geti (kf := 41) hC kX11 (lM_0 hL) rfl (by decide) (by decide) rfl w_1044 dX11_anew_30 ?_
      refine A_icmp_ge (tgt := 76) hC dX11_anew_33 (by decide) ?_ ?_
      · exact A_to (hj76 x3 D5) (And.intro rfl (trivial))
      · refine A_aload_n hC dX11_anew_36 rfl ?_
        refine A_getr (kf := 46) hC kX11 (lM_0 hL) rfl (by decide) (by decide) rfl rfl w_1049 dX11_anew_37 ?_
        refine A_iload hC dX11_anew_40 rfl ?_
        refine A_zald hC (lM_35 hL) dX11_anew_42 ?_
        refine A_join (fun (J : Int32 → Int32 → ADD → Option (Int32 × ADD)) => ∀ (x6 : Int32) (x7 : Int32) (D6 : ADD), AT aVi g b 70 [some (.ref (g.1 + 0)), some (.int a1), some (.int a2), some (.int x6), some (.int x7), some (.int x5), none] [] D6 (J x6 x7 D6)) (fun x6 x7 D6 => ?_) (fun j70 hj70 => ?_)
        · refine A_iincL (z := (1 : Int32)) (lv2 := fun x8 => [some (.ref (g.1 + 0)), some (.int a1), some (.int a2), some (.int x6), some (.int x7), some (.int x8), none]) hC dX11_anew_70 rfl (by decide) (Nat.le_of_ble_eq_true rfl) rfl (fun _ => rfl) (fun x8 => ?_)
          refine A_goto (tgt := 27) hC dX11_anew_73 (by decide) ?_
          exact A_to (hL27 x6 x7 x8 D6) (And.intro rfl (And.intro rfl (And.intro rfl (And.intro rfl (And.intro rfl (And.intro rfl (trivial)))))))
        refine A_if_eq (tgt := 70) hC dX11_anew_43 (by decide) ?_ ?_
        · exact A_to (hj70 x3 x4 D5) (And.intro rfl (And.intro rfl (And.intro rfl (And.intro rfl (And.intro rfl (And.intro rfl (trivial)))))))
        · refine A_aload_n hC dX11_anew_46 rfl ?_
          refine A_iload hC dX11_anew_47 rfl ?_
          refine A_iload_n hC dX11_anew_49 rfl ?_
          refine A_iload_n hC dX11_anew_50 rfl ?_
          refine A_callVi (As := [.int x5, .int a1, .int a2]) (st := []) hC (fun l => mX11_worthOf l g hL x5 a1 a2 D5) (lM_0 hL) rfl (Nat.le_of_ble_eq_true rfl) yc_X11_409 rfl rfl ⟨by decide, by decide⟩ (Nat.le_of_ble_eq_true rfl) rfl dX11_anew_51 (fun x9 D7 => ?_)
          refine A_istore (lv2 := [some (.ref (g.1 + 0)), some (.int a1), some (.int a2), some (.int x3), some (.int x4), some (.int x5), some (.int x9)]) hC dX11_anew_54 (Nat.le_of_ble_eq_true rfl) rfl rfl ?_
          refine A_iload hC dX11_anew_56 rfl ?_
          refine A_iload hC dX11_anew_58 rfl ?_
          refine A_icmp_le (tgt := 70) hC dX11_anew_60 (by decide) ?_ ?_
          · exact A_to (hj70 x3 x4 D7) (And.intro rfl (And.intro rfl (And.intro rfl (And.intro rfl (And.intro rfl (And.intro rfl (trivial)))))))
          · refine A_iload hC dX11_anew_63 rfl ?_
            refine A_istore (lv2 := [some (.ref (g.1 + 0)), some (.int a1), some (.int a2), some (.int x3), some (.int x9), some (.int x5), some (.int x9)]) hC dX11_anew_65 (Nat.le_of_ble_eq_true rfl) rfl rfl ?_
            refine A_iload hC dX11_anew_67 rfl ?_
            refine A_istore_n (lv2 := [some (.ref (g.1 + 0)), some (.int a1), some (.int a2), some (.int x5), some (.int x9), some (.int x5), some (.int x9)]) hC dX11_anew_69 (Nat.le_of_ble_eq_true rfl) rfl rfl ?_
            exact A_to (hj70 x5 x9 D7) (And.intro rfl (And.intro rfl (And.intro rfl (And.intro rfl (And.intro rfl (And.intro rfl (trivial)))))))
    exact A_to (hj27 (-1 : Int32) (-1 : Int32) (0 : Int32) D3) (And.intro rfl (And.intro rfl (And.intro rfl (And.intro rfl (And.intro rfl (And.intro rfl (trivial)))))))
  · refine A_iconst (v := -1) hC dX11_anew_13 (by decide) ?_
    exact A_iret hC dX11_anew_14
def lX11_rate_106 (a5 : Int32) (x5 : Int32) (x6 : Int32) (x7 : Int32) (j210 : ADD → Option (Int32 × ADD)) (L106 : Int32 → ADD → Option (Int32 × ADD)) (x9 : Int32) (D15 : ADD) : Option (Int32 × ADD) := (if x7 ≤ x9 then j210 D15 else aLet (x7 - x9) (fun x10 => aLet ((x5 * x10) - (x6 * x9)) (fun x11 => aLet (fun (x12 : Int32) (D16 : ADD) => aLet (fun (D17 : ADD) => aLet (x9 + (1 : Int32)) (fun x13 => L106 x13 D17)) (fun (j204 : ADD → Option (Int32 × ADD)) => (if (13 : Int32) ≤ x9 then j204 D16 else (if (13 : Int32) ≤ x10 then j204 D16 else aBind (fX11_gcd x9 x10 D16) (fun x14 D18 => (if x14 = (1 : Int32) then (if 0 < (aCmp ((1000 : Int64) * x12.toInt64) ((a5.toInt64 * x6.toInt64) * x9.toInt64)) then j204 D18 else some ((((100 : Int32) * x9) + x10), D18)) else j204 D18)))))) (fun (j146 : Int32 → ADD → Option (Int32 × ADD)) => (if 0 ≤ x11 then j146 x11 D15 else j146 (-x11) D15)))))
def lX11_rate_96 (a5 : Int32) (x5 : Int32) (x6 : Int32) (j216 : ADD → Option (Int32 × ADD)) (L96 : Int32 → ADD → Option (Int32 × ADD)) (x7 : Int32) (D13 : ADD) : Option (Int32 × ADD) := (if (24 : Int32) < x7 then j216 D13 else aLet (fun (D14 : ADD) => aLet (x7 + (1 : Int32)) (fun x8 => L96 x8 D14)) (fun (j210 : ADD → Option (Int32 × ADD)) => aLet (aFix aFuel (lX11_rate_106 a5 x5 x6 x7 j210) (fun _ _ => none)) (fun j106 => j106 (1 : Int32) D13)))
def fX11_rate (a1 : Int32) (a2 : Int32) (a3 : Int32) (a4 : Int32) (a5 : Int32) (D : ADD) : Option (Int32 × ADD) := aLet (aSI D 0 0 (0 : Int32)) (fun D1 => aBind (fX11_is a1 (0 : Int32) (5 : Int32) D1) (fun x1 D2 => aLet (fun (D3 : ADD) => some ((-1 : Int32), D3)) (fun (j49 : ADD → Option (Int32 × ADD)) => (if x1 = 0 then j49 D2 else aBind (fX11_is a2 (0 : Int32) (5 : Int32) D2) (fun x2 D4 => (if x2 = 0 then j49 D4 else (if a1 = a2 then j49 D4 else aBind (fX11_areUnits a3 a4 D4) (fun x3 D5 => (if x3 = 0 then j49 D5 else aBind (fX11_is a5 (0 : Int32) (200 : Int32) D5) (fun x4 D6 => (if x4 = 0 then j49 D6 else aBind (fX11_look D6) (fun _ D7 => aBind (fX11_keepChosen D7) (fun _ D8 => aBind (fX11_bestOfTown a1 a3 a4 D8) (fun x5 D9 => aBind (fX11_bestOfTown a2 a3 a4 D9) (fun x6 D10 => aLet (fun (D11 : ADD) => some ((-1 : Int32), D11)) (fun (j91 : ADD → Option (Int32 × ADD)) => (if x5 = (-1 : Int32) then j91 D10 else (if x6 = (-1 : Int32) then j91 D10 else aLet (fun (D12 : ADD) => some ((-1 : Int32), D12)) (fun (j216 : ADD → Option (Int32 × ADD)) => aLet (aFix aFuel (lX11_rate_96 a5 x5 x6 j216) (fun _ _ => none)) (fun j96 => j96 (2 : Int32) D10))))))))))))))))))))
set_option maxHeartbeats 4000000 in
set_option maxRecDepth 100000 in
theorem mX11_rate (l : Launch) (g : AGl) (hL : aLM g) (a1 : Int32) (a2 : Int32) (a3 : Int32) (a4 : Int32) (a5 : Int32) (D : ADD) : AM aVi l yX11_rate cX11_rate 12 (some .int) 7 g [.ref (g.1 + 0), .int a1, .int a2, .int a3, .int a4, .int a5] D (fX11_rate a1 a2 a3 a4 a5 D) := by
  refine AM_of (lv0 := [some (.ref (g.1 + 0)), some (.int a1), some (.int a2), some (.int a3), some (.int a4), some (.int a5), none, none, none, none, none, none]) (own := RX11) (by decide +kernel) rfl (Nat.le_of_ble_eq_true rfl) rfl (fun b hC => ?_)
  unfold fX11_rate
  refine A_aload_n hC dX11_rate_0 rfl ?_
  refine A_iconst (v := 0) hC dX11_rate_1 (by decide) ?_
  refine A_puti (kf := 0) hC kX11 (lM_0 hL) rfl (by decide) (by decide) rfl rfl rfl w_1003 dX11_rate_2 (fun D1 => ?_)
  refine A_iload_n hC dX11_rate_5 rfl ?_
  refine A_iconst (v := 0) hC dX11_rate_6 (by decide) ?_
  refine A_iconst (v := 5) hC dX11_rate_7 (by decide) ?_
  refine A_callSi (As := [.int a1, .int (0 : Int32), .int (5 : Int32)]) (st := []) hC (fun l => mX11_is l g a1 (0 : Int32) (5 : Int32) D1) yc_X11_138 rfl rfl ⟨by decide, by decide⟩ (Nat.le_of_ble_eq_true rfl) rfl dX11_rate_8 (fun x1 D2 => ?_)
  refine A_join (fun (J : ADD → Option (Int32 × ADD)) => ∀ (D3 : ADD), AT aVi g b 49 [none, none, none, none, none, none, none, none, none, none, none, none] [] D3 (J D3)) (fun D3 => ?_) (fun j49 hj49 => ?_)
  · refine A_iconst (v := -1) hC dX11_rate_49 (by decide) ?_
    exact A_iret hC dX11_rate_50
  refine A_if_eq (tgt := 49) hC dX11_rate_11 (by decide) ?_ ?_
  · exact A_to (hj49 D2) (trivial)
  · refine A_iload_n hC dX11_rate_14 rfl ?_
    refine A_iconst (v := 0) hC dX11_rate_15 (by decide) ?_
    refine A_iconst (v := 5) hC dX11_rate_16 (by decide) ?_
    refine A_callSi (As := [.int a2, .int (0 : Int32), .int (5 : Int32)]) (st := []) hC (fun l => mX11_is l g a2 (0 : Int32) (5 : Int32) D2) yc_X11_138 rfl rfl ⟨by decide, by decide⟩ (Nat.le_of_ble_eq_true rfl) rfl dX11_rate_17 (fun x2 D4 => ?_)
    refine A_if_eq (tgt := 49) hC dX11_rate_20 (by decide) ?_ ?_
    · exact A_to (hj49 D4) (trivial)
    · refine A_iload_n hC dX11_rate_23 rfl ?_
      refine A_iload_n hC dX11_rate_24 rfl ?_
      refine A_icmp_eq (tgt := 49) hC dX11_rate_25 (by decide) ?_ ?_
      · exact A_to (hj49 D4) (trivial)
      · refine A_iload_n hC dX11_rate_28 rfl ?_
        refine A_iload hC dX11_rate_29 rfl ?_
        refine A_callSi (As := [.int a3, .int a4]) (st := []) hC (fun l => mX11_areUnits l g a3 a4 D4) yc_X11_340 rfl rfl ⟨by decide, by decide⟩ (Nat.le_of_ble_eq_true rfl) rfl dX11_rate_31 (fun x3 D5 => ?_)
        refine A_if_eq (tgt := 49) hC dX11_rate_34 (by decide) ?_ ?_
        · exact A_to (hj49 D5) (trivial)
        · refine A_iload hC dX11_rate_37 rfl ?_
          refine A_iconst (v := 0) hC dX11_rate_39 (by decide) ?_
          refine A_sipush (v := 200) hC dX11_rate_40 (by decide) ?_
          refine A_callSi (As := [.int a5, .int (0 : Int32), .int (200 : Int32)]) (st := []) hC (fun l => mX11_is l g a5 (0 : Int32) (200 : Int32) D5) yc_X11_138 rfl rfl ⟨by decide, by decide⟩ (Nat.le_of_ble_eq_true rfl) rfl dX11_rate_43 (fun x4 D6 => ?_)
          refine A_if_ne (tgt := 51) hC dX11_rate_46 (by decide) ?_ ?_
          · refine A_aload_n hC dX11_rate_51 rfl ?_
            refine A_callVv (As := []) (st := []) hC (fun l => mX11_look l g hL D6) (lM_0 hL) rfl (Nat.le_of_ble_eq_true rfl) yc_X11_311 rfl rfl ⟨by decide, by decide⟩ (Nat.le_of_ble_eq_true rfl) rfl dX11_rate_52 (fun _ D7 => ?_)
            refine A_aload_n hC dX11_rate_55 rfl ?_
            refine A_callVv (As := []) (st := []) hC (fun l => mX11_keepChosen l g hL D7) (lM_0 hL) rfl (Nat.le_of_ble_eq_true rfl) yc_X11_397 rfl rfl ⟨by decide, by decide⟩ (Nat.le_of_ble_eq_true rfl) rfl dX11_rate_56 (fun _ D8 => ?_)
            refine A_aload_n hC dX11_rate_59 rfl ?_
            refine A_iload_n hC dX11_rate_60 rfl ?_
            refine A_iload_n hC dX11_rate_61 rfl ?_
            refine A_iload hC dX11_rate_62 rfl ?_
            refine A_callVi (As := [.int a1, .int a3, .int a4]) (st := []) hC (fun l => mX11_bestOfTown l g hL a1 a3 a4 D8) (lM_0 hL) rfl (Nat.le_of_ble_eq_true rfl) yc_X11_400 rfl rfl ⟨by decide, by decide⟩ (Nat.le_of_ble_eq_true rfl) rfl dX11_rate_64 (fun x5 D9 => ?_)
            refine A_istore (lv2 := [some (.ref (g.1 + 0)), some (.int a1), some (.int a2), some (.int a3), some (.int a4), some (.int a5), some (.int x5), none, none, none, none, none]) hC dX11_rate_67 (Nat.le_of_ble_eq_true rfl) rfl rfl ?_
            refine A_aload_n hC dX11_rate_69 rfl ?_
            refine A_iload_n hC dX11_rate_70 rfl ?_
            refine A_iload_n hC dX11_rate_71 rfl ?_
            refine A_iload hC dX11_rate_72 rfl ?_
            refine A_callVi (As := [.int a2, .int a3, .int a4]) (st := []) hC (fun l => mX11_bestOfTown l g hL a2 a3 a4 D9) (lM_0 hL) rfl (Nat.le_of_ble_eq_true rfl) yc_X11_400 rfl rfl ⟨by decide, by decide⟩ (Nat.le_of_ble_eq_true rfl) rfl dX11_rate_74 (fun x6 D10 => ?_)
            refine A_istore (lv2 := [some (.ref (g.1 + 0)), some (.int a1), some (.int a2), some (.int a3), some (.int a4), some (.int a5), some (.int x5), some (.int x6), none, none, none, none]) hC dX11_rate_77 (Nat.le_of_ble_eq_true rfl) rfl rfl ?_
            refine A_iload hC dX11_rate_79 rfl ?_
            refine A_iconst (v := -1) hC dX11_rate_81 (by decide) ?_
            refine A_join (fun (J : ADD → Option (Int32 × ADD)) => ∀ (D11 : ADD), AT aVi g b 91 [none, none, none, none, none, none, none, none, none, none, none, none] [] D11 (J D11)) (fun D11 => ?_) (fun j91 hj91 => ?_)
            · refine A_iconst (v := -1) hC dX11_rate_91 (by decide) ?_
              exact A_iret hC dX11_rate_92
            refine A_icmp_eq (tgt := 91) hC dX11_rate_82 (by decide) ?_ ?_
            · exact A_to (hj91 D10) (trivial)
            · refine A_iload hC dX11_rate_85 rfl ?_
              refine A_iconst (v := -1) hC dX11_rate_87 (by decide) ?_
              refine A_icmp_ne (tgt := 93) hC dX11_rate_88 (by decide) ?_ ?_
              · refine A_iconst (v := 2) hC dX11_rate_93 (by decide) ?_
                refine A_istore (lv2 := [some (.ref (g.1 + 0)), some (.int a1), some (.int a2), some (.int a3), some (.int a4), some (.int a5), some (.int x5), some (.int x6), some (.int (2 : Int32)), none, none, none]) hC dX11_rate_94 (Nat.le_of_ble_eq_true rfl) rfl rfl ?_
                refine A_join (fun (J : ADD → Option (Int32 × ADD)) => ∀ (D12 : ADD), AT aVi g b 216 [none, none, none, none, none, none, none, none, none, none, none, none] [] D12 (J D12)) (fun D12 => ?_) (fun j216 hj216 => ?_)
                · refine A_iconst (v := -1) hC dX11_rate_216 (by decide) ?_
                  exact A_iret hC dX11_rate_217
                refine A_join (fun (J : Int32 → ADD → Option (Int32 × ADD)) => ∀ (x7 : Int32) (D13 : ADD), AT aVi g b 96 [none, none, none, none, none, some (.int a5), some (.int x5), some (.int x6), some (.int x7), none, none, none] [] D13 (J x7 D13)) (aFix_all (fun (J : Int32 → ADD → Option (Int32 × ADD)) => ∀ (x7 : Int32) (D13 : ADD), AT aVi g b 96 [none, none, none, none, none, some (.int a5), some (.int x5), some (.int x6), some (.int x7), none, none, none] [] D13 (J x7 D13)) (fun _ _ => A_none) (fun L96 hL96 x7 D13 => ?_) _) (fun j96 hj96 => ?_)
                · unfold lX11_rate_96
                  refine A_iload hC dX11_rate_96 rfl ?_
                  refine A_bipush (v := 24) hC dX11_rate_98 (by decide) ?_
                  refine A_icmp_gt (tgt := 216) hC dX11_rate_100 (by decide) ?_ ?_
                  · exact A_to (hj216 D13) (trivial)
                  · refine A_iconst (v := 1) hC dX11_rate_103 (by decide) ?_
                    refine A_istore (lv2 := [none, none, none, none, none, some (.int a5), some (.int x5), some (.int x6), some (.int x7), some (.int (1 : Int32)), none, none]) hC dX11_rate_104 (Nat.le_of_ble_eq_true rfl) rfl rfl ?_
                    refine A_join (fun (J : ADD → Option (Int32 × ADD)) => ∀ (D14 : ADD), AT aVi g b 210 [none, none, none, none, none, some (.int a5), some (.int x5), some (.int x6), some (.int x7), none, none, none] [] D14 (J D14)) (fun D14 => ?_) (fun j210 hj210 => ?_)
                    · refine A_iincL (z := (1 : Int32)) (lv2 := fun x8 => [none, none, none, none, none, some (.int a5), some (.int x5), some (.int x6), some (.int x8), none, none, none]) hC dX11_rate_210 rfl (by decide) (Nat.le_of_ble_eq_true rfl) rfl (fun _ => rfl) (fun x8 => ?_)
                      refine A_goto (tgt := 96) hC dX11_rate_213 (by decide) ?_
                      exact A_to (hL96 x8 D14) (And.intro rfl (And.intro rfl (And.intro rfl (And.intro rfl (trivial)))))
                    refine A_join (fun (J : Int32 → ADD → Option (Int32 × ADD)) => ∀ (x9 : Int32) (D15 : ADD), AT aVi g b 106 [none, none, none, none, none, some (.int a5), some (.int x5), some (.int x6), some (.int x7), some (.int x9), none, none] [] D15 (J x9 D15)) (aFix_all (fun (J : Int32 → ADD → Option (Int32 × ADD)) => ∀ (x9 : Int32) (D15 : ADD), AT aVi g b 106 [none, none, none, none, none, some (.int a5), some (.int x5), some (.int x6), some (.int x7), some (.int x9), none, none] [] D15 (J x9 D15)) (fun _ _ => A_none) (fun L106 hL106 x9 D15 => ?_) _) (fun j106 hj106 => ?_)
                    · unfold lX11_rate_106
                      refine A_iload hC dX11_rate_106 rfl ?_
                      refine A_iload hC dX11_rate_108 rfl ?_
                      refine A_icmp_ge (tgt := 210) hC dX11_rate_110 (by decide) ?_ ?_
                      · exact A_to (hj210 D15) (And.intro rfl (And.intro rfl (And.intro rfl (And.intro rfl (trivial)))))
                      · refine A_iload hC dX11_rate_113 rfl ?_
                        refine A_iload hC dX11_rate_115 rfl ?_
                        refine A_isub hC dX11_rate_117 ?_
                        refine A_topi (fun x10 => ?_)
                        refine A_istore (lv2 := [none, none, none, none, none, some (.int a5), some (.int x5), some (.int x6), some (.int x7), some (.int x9), some (.int x10), none]) hC dX11_rate_118 (Nat.le_of_ble_eq_true rfl) rfl rfl ?_
                        refine A_iload hC dX11_rate_120 rfl ?_
                        refine A_iload hC dX11_rate_122 rfl ?_
                        refine A_imul hC dX11_rate_124 ?_
                        refine A_iload hC dX11_rate_125 rfl ?_
                        refine A_iload hC dX11_rate_127 rfl ?_
                        refine A_imul hC dX11_rate_129 ?_
                        refine A_isub hC dX11_rate_130 ?_
                        refine A_topi (fun x11 => ?_)
                        refine A_istore (lv2 := [none, none, none, none, none, some (.int a5), some (.int x5), some (.int x6), some (.int x7), some (.int x9), some (.int x10), some (.int x11)]) hC dX11_rate_131 (Nat.le_of_ble_eq_true rfl) rfl rfl ?_
                        refine A_iload hC dX11_rate_133 rfl ?_
                        refine A_join (fun (J : Int32 → ADD → Option (Int32 × ADD)) => ∀ (x12 : Int32) (D16 : ADD), AT aVi g b 146 [none, none, none, none, none, some (.int a5), some (.int x5), some (.int x6), some (.int x7), some (.int x9), some (.int x10), none] [.int x12] D16 (J x12 D16)) (fun x12 D16 => ?_) (fun j146 hj146 => ?_)
                        · refine A_istore (lv2 := [none, none, none, none, none, some (.int a5), some (.int x5), some (.int x6), some (.int x7), some (.int x9), some (.int x10), some (.int x12)]) hC dX11_rate_146 (Nat.le_of_ble_eq_true rfl) rfl rfl ?_
                          refine A_iload hC dX11_rate_148 rfl ?_
                          refine A_bipush (v := 13) hC dX11_rate_150 (by decide) ?_
                          refine A_join (fun (J : ADD → Option (Int32 × ADD)) => ∀ (D17 : ADD), AT aVi g b 204 [none, none, none, none, none, some (.int a5), some (.int x5), some (.int x6), some (.int x7), some (.int x9), none, none] [] D17 (J D17)) (fun D17 => ?_) (fun j204 hj204 => ?_)
                          · refine A_iincL (z := (1 : Int32)) (lv2 := fun x13 => [none, none, none, none, none, some (.int a5), some (.int x5), some (.int x6), some (.int x7), some (.int x13), none, none]) hC dX11_rate_204 rfl (by decide) (Nat.le_of_ble_eq_true rfl) rfl (fun _ => rfl) (fun x13 => ?_)
                            refine A_goto (tgt := 106) hC dX11_rate_207 (by decide) ?_
                            exact A_to (hL106 x13 D17) (And.intro rfl (And.intro rfl (And.intro rfl (And.intro rfl (And.intro rfl (trivial))))))
                          refine A_icmp_ge (tgt := 204) hC dX11_rate_152 (by decide) ?_ ?_
                          · exact A_to (hj204 D16) (And.intro rfl (And.intro rfl (And.intro rfl (And.intro rfl (And.intro rfl (trivial))))))
                          · refine A_iload hC dX11_rate_155 rfl ?_
                            refine A_bipush (v := 13) hC dX11_rate_157 (by decide) ?_
                            refine A_icmp_ge (tgt := 204) hC dX11_rate_159 (by decide) ?_ ?_
                            · exact A_to (hj204 D16) (And.intro rfl (And.intro rfl (And.intro rfl (And.intro rfl (And.intro rfl (trivial))))))
                            · refine A_iload hC dX11_rate_162 rfl ?_
                              refine A_iload hC dX11_rate_164 rfl ?_
                              refine A_callSi (As := [.int x9, .int x10]) (st := []) hC (fun l => mX11_gcd l g x9 x10 D16) yc_X11_403 rfl rfl ⟨by decide, by decide⟩ (Nat.le_of_ble_eq_true rfl) rfl dX11_rate_166 (fun x14 D18 => ?_)
                              refine A_iconst (v := 1) hC dX11_rate_169 (by decide) ?_
                              refine A_icmp_ne (tgt := 204) hC dX11_rate_170 (by decide) ?_ ?_
                              · exact A_to (hj204 D18) (And.intro rfl (And.intro rfl (And.intro rfl (And.intro rfl (And.intro rfl (trivial))))))
                              · refine A_ldc2 hC dX11_rate_173 w_1445 ?_
                                refine A_iload hC dX11_rate_176 rfl ?_
                                refine A_i2l hC dX11_rate_178 ?_
                                refine A_lmul hC dX11_rate_179 ?_
                                refine A_iload hC dX11_rate_180 rfl ?_
                                refine A_i2l hC dX11_rate_182 ?_
                                refine A_iload hC dX11_rate_183 rfl ?_
                                refine A_i2l hC dX11_rate_185 ?_
                                refine A_lmul hC dX11_rate_186 ?_
                                refine A_iload hC dX11_rate_187 rfl ?_
                                refine A_i2l hC dX11_rate_189 ?_
                                refine A_lmul hC dX11_rate_190 ?_
                                refine A_lcmp hC dX11_rate_191 ?_
                                refine A_if_gt (tgt := 204) hC dX11_rate_192 (by decide) ?_ ?_
                                · exact A_to (hj204 D18) (And.intro rfl (And.intro rfl (And.intro rfl (And.intro rfl (And.intro rfl (trivial))))))
                                · refine A_bipush (v := 100) hC dX11_rate_195 (by decide) ?_
                                  refine A_iload hC dX11_rate_197 rfl ?_
                                  refine A_imul hC dX11_rate_199 ?_
                                  refine A_iload hC dX11_rate_200 rfl ?_
                                  refine A_iadd hC dX11_rate_202 ?_
                                  exact A_iret hC dX11_rate_203
                        refine A_if_ge (tgt := 144) hC dX11_rate_135 (by decide) ?_ ?_
                        · refine A_iload hC dX11_rate_144 rfl ?_
                          exact A_to (hj146 x11 D15) (And.intro rfl (And.intro rfl (And.intro rfl (And.intro rfl (And.intro rfl (And.intro rfl (trivial)))))))
                        · refine A_iload hC dX11_rate_138 rfl ?_
                          refine A_ineg hC dX11_rate_140 ?_
                          refine A_goto (tgt := 146) hC dX11_rate_141 (by decide) ?_
                          exact A_to (hj146 (-x11) D15) (And.intro rfl (And.intro rfl (And.intro rfl (And.intro rfl (And.intro rfl (And.intro rfl (trivial)))))))
                    exact A_to (hj106 (1 : Int32) D13) (And.intro rfl (And.intro rfl (And.intro rfl (And.intro rfl (And.intro rfl (trivial))))))
                exact A_to (hj96 (2 : Int32) D10) (And.intro rfl (And.intro rfl (And.intro rfl (And.intro rfl (trivial)))))
              · exact A_to (hj91 D10) (trivial)
          · exact A_to (hj49 D6) (trivial)
def fX11_worth (a1 : Int32) (a2 : Int32) (a3 : Int32) (D : ADD) : Option (Int32 × ADD) := aLet (aSI D 0 0 (0 : Int32)) (fun D1 => aBind (fX11_isStone a1 D1) (fun x1 D2 => aLet (fun (D3 : ADD) => some ((-1 : Int32), D3)) (fun (j21 : ADD → Option (Int32 × ADD)) => (if x1 = 0 then j21 D2 else aBind (fX11_areUnits a2 a3 D2) (fun x2 D4 => (if x2 = 0 then j21 D4 else aBind (fX11_look D4) (fun _ D5 => aIn a1 32 (aLet (fun (x3 : Int32) (D6 : ADD) => some (x3, D6)) (fun (j47 : Int32 → ADD → Option (Int32 × ADD)) => (if (aBz (D5.1 35 a1.toNatClampNeg)) = 0 then j47 (-1 : Int32) D5 else aBind (fX11_worthOf a1 a2 a3 D5) (fun x4 D7 => j47 x4 D7)))))))))))
set_option maxHeartbeats 4000000 in
set_option maxRecDepth 100000 in
theorem mX11_worth (l : Launch) (g : AGl) (hL : aLM g) (a1 : Int32) (a2 : Int32) (a3 : Int32) (D : ADD) : AM aVi l yX11_worth cX11_worth 4 (some .int) 7 g [.ref (g.1 + 0), .int a1, .int a2, .int a3] D (fX11_worth a1 a2 a3 D) := by
  refine AM_of (lv0 := [some (.ref (g.1 + 0)), some (.int a1), some (.int a2), some (.int a3)]) (own := RX11) (by decide +kernel) rfl (Nat.le_of_ble_eq_true rfl) rfl (fun b hC => ?_)
  unfold fX11_worth
  refine A_aload_n hC dX11_worth_0 rfl ?_
  refine A_iconst (v := 0) hC dX11_worth_1 (by decide) ?_
  refine A_puti (kf := 0) hC kX11 (lM_0 hL) rfl (by decide) (by decide) rfl rfl rfl w_1003 dX11_worth_2 (fun D1 => ?_)
  refine A_aload_n hC dX11_worth_5 rfl ?_
  refine A_iload_n hC dX11_worth_6 rfl ?_
  refine A_callVi (As := [.int a1]) (st := []) hC (fun l => mX11_isStone l g hL a1 D1) (lM_0 hL) rfl (Nat.le_of_ble_eq_true rfl) yc_X11_157 rfl rfl ⟨by decide, by decide⟩ (Nat.le_of_ble_eq_true rfl) rfl dX11_worth_7 (fun x1 D2 => ?_)
  refine A_join (fun (J : ADD → Option (Int32 × ADD)) => ∀ (D3 : ADD), AT aVi g b 21 [none, none, none, none] [] D3 (J D3)) (fun D3 => ?_) (fun j21 hj21 => ?_)
  · refine A_iconst (v := -1) hC dX11_worth_21 (by decide) ?_
    exact A_iret hC dX11_worth_22
  refine A_if_eq (tgt := 21) hC dX11_worth_10 (by decide) ?_ ?_
  · exact A_to (hj21 D2) (trivial)
  · refine A_iload_n hC dX11_worth_13 rfl ?_
    refine A_iload_n hC dX11_worth_14 rfl ?_
    refine A_callSi (As := [.int a2, .int a3]) (st := []) hC (fun l => mX11_areUnits l g a2 a3 D2) yc_X11_340 rfl rfl ⟨by decide, by decide⟩ (Nat.le_of_ble_eq_true rfl) rfl dX11_worth_15 (fun x2 D4 => ?_)
    refine A_if_ne (tgt := 23) hC dX11_worth_18 (by decide) ?_ ?_
    · refine A_aload_n hC dX11_worth_23 rfl ?_
      refine A_callVv (As := []) (st := []) hC (fun l => mX11_look l g hL D4) (lM_0 hL) rfl (Nat.le_of_ble_eq_true rfl) yc_X11_311 rfl rfl ⟨by decide, by decide⟩ (Nat.le_of_ble_eq_true rfl) rfl dX11_worth_24 (fun _ D5 => ?_)
      refine A_aload_n hC dX11_worth_27 rfl ?_
      refine A_getr (kf := 46) hC kX11 (lM_0 hL) rfl (by decide) (by decide) rfl rfl w_1049 dX11_worth_28 ?_
      refine A_iload_n hC dX11_worth_31 rfl ?_
      refine A_zald hC (lM_35 hL) dX11_worth_32 ?_
      refine A_join (fun (J : Int32 → ADD → Option (Int32 × ADD)) => ∀ (x3 : Int32) (D6 : ADD), AT aVi g b 47 [none, none, none, none] [.int x3] D6 (J x3 D6)) (fun x3 D6 => ?_) (fun j47 hj47 => ?_)
      · exact A_iret hC dX11_worth_47
      refine A_if_eq (tgt := 46) hC dX11_worth_33 (by decide) ?_ ?_
      · refine A_iconst (v := -1) hC dX11_worth_46 (by decide) ?_
        exact A_to (hj47 (-1 : Int32) D5) (trivial)
      · refine A_aload_n hC dX11_worth_36 rfl ?_
        refine A_iload_n hC dX11_worth_37 rfl ?_
        refine A_iload_n hC dX11_worth_38 rfl ?_
        refine A_iload_n hC dX11_worth_39 rfl ?_
        refine A_callVi (As := [.int a1, .int a2, .int a3]) (st := []) hC (fun l => mX11_worthOf l g hL a1 a2 a3 D5) (lM_0 hL) rfl (Nat.le_of_ble_eq_true rfl) yc_X11_409 rfl rfl ⟨by decide, by decide⟩ (Nat.le_of_ble_eq_true rfl) rfl dX11_worth_40 (fun x4 D7 => ?_)
        refine A_goto (tgt := 47) hC dX11_worth_43 (by decide) ?_
        exact A_to (hj47 x4 D7) (trivial)
    · exact A_to (hj21 D4) (trivial)
def fX5_readAmounts (a1 : Int32) (a2 : Int32) (D : ADD) : Option (Int32 × ADD) := (if (D.1 33 5) = (2 : Int32) then aBind (fX5_number D) (fun x1 D1 => aBind (fX5_advance D1) (fun _ D2 => aBind (fX5_wordIn 7 D2) (fun x2 D3 => aLet (fun (x3 : Int32) (D4 : ADD) => aBind (fX6_setDeed 34 a1 a2 x1 x3 D4) (fun _ D5 => some ((1 : Int32), D5))) (fun (j76 : Int32 → ADD → Option (Int32 × ADD)) => (if x2 = 0 then aBind (fX5_advance D3) (fun _ D6 => (if (D6.1 33 5) = (2 : Int32) then aBind (fX5_number D6) (fun x4 D7 => aLet (fun (D8 : ADD) => aBind (fX5_advance D8) (fun _ D9 => j76 x4 D9)) (fun (j72 : ADD → Option (Int32 × ADD)) => (if x1 ≤ x4 then j72 D7 else aBind (fX5_remark (2 : Int32) (D7.1 33 6) D7) (fun _ D10 => j72 D10)))) else aBind (fX5_refuse D6) (fun x5 D11 => aZ x5 (some (x5, D11))))) else j76 x1 D3))))) else aBind (fX5_refuse D) (fun x6 D12 => aZ x6 (some (x6, D12))))
set_option maxHeartbeats 4000000 in
set_option maxRecDepth 100000 in
theorem mX5_readAmounts (l : Launch) (g : AGl) (hL : aLX g) (a1 : Int32) (a2 : Int32) (D : ADD) : AM aVi l yX5_readAmounts cX5_readAmounts 5 (some .boolean) 7 g [.ref (g.1 + 33), .int a1, .int a2] D (fX5_readAmounts a1 a2 D) := by
  refine AM_of (lv0 := [some (.ref (g.1 + 33)), some (.int a1), some (.int a2), none, none]) (own := RX5) (by decide +kernel) rfl (Nat.le_of_ble_eq_true rfl) rfl (fun b hC => ?_)
  unfold fX5_readAmounts
  refine A_aload_n hC dX5_readAmounts_0 rfl ?_
  refine A_geti (kf := 5) hC kX5 (lX_33 hL) rfl (by decide) (by decide) rfl w_211 dX5_readAmounts_1 ?_
  refine A_iconst (v := 2) hC dX5_readAmounts_4 (by decide) ?_
  refine A_icmp_eq (tgt := 13) hC dX5_readAmounts_5 (by decide) ?_ ?_
  · refine A_aload_n hC dX5_readAmounts_13 rfl ?_
    refine A_callVi (As := []) (st := []) hC (fun l => mX5_number l g hL D) (lX_33 hL) rfl (Nat.le_of_ble_eq_true rfl) yc_X5_105 rfl rfl ⟨by decide, by decide⟩ (Nat.le_of_ble_eq_true rfl) rfl dX5_readAmounts_14 (fun x1 D1 => ?_)
    refine A_istore_n (lv2 := [some (.ref (g.1 + 33)), some (.int a1), some (.int a2), some (.int x1), none]) hC dX5_readAmounts_17 (Nat.le_of_ble_eq_true rfl) rfl rfl ?_
    refine A_iload_n hC dX5_readAmounts_18 rfl ?_
    refine A_istore (lv2 := [some (.ref (g.1 + 33)), some (.int a1), some (.int a2), some (.int x1), some (.int x1)]) hC dX5_readAmounts_19 (Nat.le_of_ble_eq_true rfl) rfl rfl ?_
    refine A_aload_n hC dX5_readAmounts_21 rfl ?_
    refine A_callVv (As := []) (st := []) hC (fun l => mX5_advance l g hL D1) (lX_33 hL) rfl (Nat.le_of_ble_eq_true rfl) yc_X5_45 rfl rfl ⟨by decide, by decide⟩ (Nat.le_of_ble_eq_true rfl) rfl dX5_readAmounts_22 (fun _ D2 => ?_)
    refine A_aload_n hC dX5_readAmounts_25 rfl ?_
    refine A_ldcs (i := 7) hC rfl dX5_readAmounts_26 ?_
    refine A_callVi (As := [.ref (g.2.2.2.2.1.2.2.1 7)]) (st := []) hC (fun l => mX5_wordIn l g hL 7 (by decide) D2) (lX_33 hL) rfl (Nat.le_of_ble_eq_true rfl) yc_X5_68 rfl rfl ⟨by decide, by decide⟩ (Nat.le_of_ble_eq_true rfl) rfl dX5_readAmounts_28 (fun x2 D3 => ?_)
    refine A_join (fun (J : Int32 → ADD → Option (Int32 × ADD)) => ∀ (x3 : Int32) (D4 : ADD), AT aVi g b 76 [some (.ref (g.1 + 33)), some (.int a1), some (.int a2), some (.int x1), some (.int x3)] [] D4 (J x3 D4)) (fun x3 D4 => ?_) (fun j76 hj76 => ?_)
    · refine A_aload_n hC dX5_readAmounts_76 rfl ?_
      refine A_getr (kf := 0) hC kX5 (lX_33 hL) rfl (by decide) (by decide) rfl rfl w_203 dX5_readAmounts_77 ?_
      refine A_iload_n hC dX5_readAmounts_80 rfl ?_
      refine A_iload_n hC dX5_readAmounts_81 rfl ?_
      refine A_iload_n hC dX5_readAmounts_82 rfl ?_
      refine A_iload hC dX5_readAmounts_83 rfl ?_
      refine A_callVv (As := [.int a1, .int a2, .int x1, .int x3]) (st := []) hC (fun l => mX6_setDeed l g 34 (lR_34 hL) a1 a2 x1 x3 D4) (lX_34 hL) rfl (Nat.le_of_ble_eq_true rfl) yc_X5_117 rfl rfl ⟨by decide, by decide⟩ (Nat.le_of_ble_eq_true rfl) rfl dX5_readAmounts_85 (fun _ D5 => ?_)
      refine A_iconst (v := 1) hC dX5_readAmounts_88 (by decide) ?_
      exact A_zret hC dX5_readAmounts_89 (Or.inr rfl)
    refine A_if_ne (tgt := 76) hC dX5_readAmounts_31 (by decide) ?_ ?_
    · exact A_to (hj76 x1 D3) (And.intro rfl (And.intro rfl (And.intro rfl (And.intro rfl (And.intro rfl (trivial))))))
    · refine A_aload_n hC dX5_readAmounts_34 rfl ?_
      refine A_callVv (As := []) (st := []) hC (fun l => mX5_advance l g hL D3) (lX_33 hL) rfl (Nat.le_of_ble_eq_true rfl) yc_X5_45 rfl rfl ⟨by decide, by decide⟩ (Nat.le_of_ble_eq_true rfl) rfl dX5_readAmounts_35 (fun _ D6 => ?_)
      refine A_aload_n hC dX5_readAmounts_38 rfl ?_
      refine A_geti (kf := 5) hC kX5 (lX_33 hL) rfl (by decide) (by decide) rfl w_211 dX5_readAmounts_39 ?_
      refine A_iconst (v := 2) hC dX5_readAmounts_42 (by decide) ?_
      refine A_icmp_eq (tgt := 51) hC dX5_readAmounts_43 (by decide) ?_ ?_
      · refine A_aload_n hC dX5_readAmounts_51 rfl ?_
        refine A_callVi (As := []) (st := []) hC (fun l => mX5_number l g hL D6) (lX_33 hL) rfl (Nat.le_of_ble_eq_true rfl) yc_X5_105 rfl rfl ⟨by decide, by decide⟩ (Nat.le_of_ble_eq_true rfl) rfl dX5_readAmounts_52 (fun x4 D7 => ?_)
        refine A_istore (lv2 := [some (.ref (g.1 + 33)), some (.int a1), some (.int a2), some (.int x1), some (.int x4)]) hC dX5_readAmounts_55 (Nat.le_of_ble_eq_true rfl) rfl rfl ?_
        refine A_iload hC dX5_readAmounts_57 rfl ?_
        refine A_iload_n hC dX5_readAmounts_59 rfl ?_
        refine A_join (fun (J : ADD → Option (Int32 × ADD)) => ∀ (D8 : ADD), AT aVi g b 72 [some (.ref (g.1 + 33)), some (.int a1), some (.int a2), some (.int x1), some (.int x4)] [] D8 (J D8)) (fun D8 => ?_) (fun j72 hj72 => ?_)
        · refine A_aload_n hC dX5_readAmounts_72 rfl ?_
          refine A_callVv (As := []) (st := []) hC (fun l => mX5_advance l g hL D8) (lX_33 hL) rfl (Nat.le_of_ble_eq_true rfl) yc_X5_45 rfl rfl ⟨by decide, by decide⟩ (Nat.le_of_ble_eq_true rfl) rfl dX5_readAmounts_73 (fun _ D9 => ?_)
          exact A_to (hj76 x4 D9) (And.intro rfl (And.intro rfl (And.intro rfl (And.intro rfl (And.intro rfl (trivial))))))
        refine A_icmp_ge (tgt := 72) hC dX5_readAmounts_60 (by decide) ?_ ?_
        · exact A_to (hj72 D7) (And.intro rfl (And.intro rfl (And.intro rfl (And.intro rfl (And.intro rfl (trivial))))))
        · refine A_aload_n hC dX5_readAmounts_63 rfl ?_
          refine A_iconst (v := 2) hC dX5_readAmounts_64 (by decide) ?_
          refine A_aload_n hC dX5_readAmounts_65 rfl ?_
          refine A_geti (kf := 6) hC kX5 (lX_33 hL) rfl (by decide) (by decide) rfl w_212 dX5_readAmounts_66 ?_
          refine A_callVv (As := [.int (2 : Int32), .int (D7.1 33 6)]) (st := []) hC (fun l => mX5_remark l g hL (2 : Int32) (D7.1 33 6) D7) (lX_33 hL) rfl (Nat.le_of_ble_eq_true rfl) yc_X5_48 rfl rfl ⟨by decide, by decide⟩ (Nat.le_of_ble_eq_true rfl) rfl dX5_readAmounts_69 (fun _ D10 => ?_)
          exact A_to (hj72 D10) (And.intro rfl (And.intro rfl (And.intro rfl (And.intro rfl (And.intro rfl (trivial))))))
      · refine A_aload_n hC dX5_readAmounts_46 rfl ?_
        refine A_callVi (As := []) (st := []) hC (fun l => mX5_refuse l g hL D6) (lX_33 hL) rfl (Nat.le_of_ble_eq_true rfl) yc_X5_92 rfl rfl ⟨by decide, by decide⟩ (Nat.le_of_ble_eq_true rfl) rfl dX5_readAmounts_47 (fun x5 D11 => ?_)
        exact A_zretc hC dX5_readAmounts_50
  · refine A_aload_n hC dX5_readAmounts_8 rfl ?_
    refine A_callVi (As := []) (st := []) hC (fun l => mX5_refuse l g hL D) (lX_33 hL) rfl (Nat.le_of_ble_eq_true rfl) yc_X5_92 rfl rfl ⟨by decide, by decide⟩ (Nat.le_of_ble_eq_true rfl) rfl dX5_readAmounts_9 (fun x6 D12 => ?_)
    exact A_zretc hC dX5_readAmounts_12
def fX5_readTest (a1 : Int32) (D : ADD) : Option (Int32 × ADD) := aBind (fX5_wordIn 1 D) (fun x1 D1 => aLet (fun (x2 : Int32) (D2 : ADD) => aLet (fun (D3 : ADD) => (if (D3.1 33 4) = 0 then aBind (fX5_wordIn 3 D3) (fun x3 D4 => (if x3 = (-1 : Int32) then aBind (fX5_refuse D4) (fun x11 D17 => aZ x11 (some (x11, D17))) else aBind (fX5_advance D4) (fun _ D5 => aBind (fX5_isSign (60 : Int32) D5) (fun x4 D6 => aLet (fun (D7 : ADD) => aBind (fX9_byteAt (D7.1 33 6) D7) (fun x5 D8 => aBind (fX5_advance D8) (fun _ D9 => (if (D9.1 33 5) = (2 : Int32) then aBind (fX5_number D9) (fun x6 D10 => aBind (fX6_addTest 34 a1 x2 x3 x5 x6 D10) (fun _ D11 => aBind (fX5_advance D11) (fun _ D12 => some ((1 : Int32), D12)))) else aBind (fX5_refuse D9) (fun x7 D13 => aZ x7 (some (x7, D13))))))) (fun (j88 : ADD → Option (Int32 × ADD)) => (if x4 = 0 then aBind (fX5_isSign (62 : Int32) D6) (fun x8 D14 => (if x8 = 0 then aBind (fX5_isSign (61 : Int32) D14) (fun x9 D15 => (if x9 = 0 then aBind (fX5_refuse D15) (fun x10 D16 => aZ x10 (some (x10, D16))) else j88 D15)) else j88 D14)) else j88 D6)))))) else aBind (fX5_wordIn 2 D3) (fun x12 D18 => (if x12 = (-1 : Int32) then aBind (fX5_refuse D18) (fun x20 D31 => aZ x20 (some (x20, D31))) else aBind (fX5_advance D18) (fun _ D19 => aBind (fX5_isSign (60 : Int32) D19) (fun x13 D20 => aLet (fun (D21 : ADD) => aBind (fX9_byteAt (D21.1 33 6) D21) (fun x14 D22 => aBind (fX5_advance D22) (fun _ D23 => (if (D23.1 33 5) = (2 : Int32) then aBind (fX5_number D23) (fun x15 D24 => aBind (fX6_addTest 34 a1 x2 x12 x14 x15 D24) (fun _ D25 => aBind (fX5_advance D25) (fun _ D26 => some ((1 : Int32), D26)))) else aBind (fX5_refuse D23) (fun x16 D27 => aZ x16 (some (x16, D27))))))) (fun (j88 : ADD → Option (Int32 × ADD)) => (if x13 = 0 then aBind (fX5_isSign (62 : Int32) D20) (fun x17 D28 => (if x17 = 0 then aBind (fX5_isSign (61 : Int32) D28) (fun x18 D29 => (if x18 = 0 then aBind (fX5_refuse D29) (fun x19 D30 => aZ x19 (some (x19, D30))) else j88 D29)) else j88 D28)) else j88 D20)))))))) (fun (j23 : ADD → Option (Int32 × ADD)) => (if x2 = 0 then j23 D2 else aBind (fX5_advance D2) (fun _ D32 => j23 D32)))) (fun (j14 : Int32 → ADD → Option (Int32 × ADD)) => (if x1 = 0 then j14 (1 : Int32) D1 else j14 (0 : Int32) D1)))
set_option maxHeartbeats 4000000 in
set_option maxRecDepth 100000 in
theorem mX5_readTest (l : Launch) (g : AGl) (hL : aLX g) (a1 : Int32) (D : ADD) : AM aVi l yX5_readTest cX5_readTest 5 (some .boolean) 7 g [.ref (g.1 + 33), .int a1] D (fX5_readTest a1 D) := by
  refine AM_of (lv0 := [some (.ref (g.1 + 33)), some (.int a1), none, none, none]) (own := RX5) (by decide +kernel) rfl (Nat.le_of_ble_eq_true rfl) rfl (fun b hC => ?_)
  unfold fX5_readTest
  refine A_aload_n hC dX5_readTest_0 rfl ?_
  refine A_ldcs (i := 1) hC rfl dX5_readTest_1 ?_
  refine A_callVi (As := [.ref (g.2.2.2.2.1.2.2.1 1)]) (st := []) hC (fun l => mX5_wordIn l g hL 1 (by decide) D) (lX_33 hL) rfl (Nat.le_of_ble_eq_true rfl) yc_X5_68 rfl rfl ⟨by decide, by decide⟩ (Nat.le_of_ble_eq_true rfl) rfl dX5_readTest_3 (fun x1 D1 => ?_)
  refine A_join (fun (J : Int32 → ADD → Option (Int32 × ADD)) => ∀ (x2 : Int32) (D2 : ADD), AT aVi g b 14 [some (.ref (g.1 + 33)), some (.int a1), none, none, none] [.int x2] D2 (J x2 D2)) (fun x2 D2 => ?_) (fun j14 hj14 => ?_)
  · refine A_istore_n (lv2 := [some (.ref (g.1 + 33)), some (.int a1), some (.int x2), none, none]) hC dX5_readTest_14 (Nat.le_of_ble_eq_true rfl) rfl rfl ?_
    refine A_iload_n hC dX5_readTest_15 rfl ?_
    refine A_join (fun (J : ADD → Option (Int32 × ADD)) => ∀ (D3 : ADD), AT aVi g b 23 [some (.ref (g.1 + 33)), some (.int a1), some (.int x2), none, none] [] D3 (J D3)) (fun D3 => ?_) (fun j23 hj23 => ?_)
    · refine A_aload_n hC dX5_readTest_23 rfl ?_
      refine A_aload_n hC dX5_readTest_24 rfl ?_
      refine A_geti (kf := 4) hC kX5 (lX_33 hL) rfl (by decide) (by decide) rfl w_210 dX5_readTest_25 ?_
      refine A_if_eq (tgt := 36) hC dX5_readTest_28 (by decide) ?_ ?_
      · refine A_ldcs (i := 3) hC rfl dX5_readTest_36 ?_
        refine A_callVi (As := [.ref (g.2.2.2.2.1.2.2.1 3)]) (st := []) hC (fun l => mX5_wordIn l g hL 3 (by decide) D3) (lX_33 hL) rfl (Nat.le_of_ble_eq_true rfl) yc_X5_68 rfl rfl ⟨by decide, by decide⟩ (Nat.le_of_ble_eq_true rfl) rfl dX5_readTest_38 (fun x3 D4 => ?_)
        refine A_istore_n (lv2 := [some (.ref (g.1 + 33)), some (.int a1), some (.int x2), some (.int x3), none]) hC dX5_readTest_41 (Nat.le_of_ble_eq_true rfl) rfl rfl ?_
        refine A_iload_n hC dX5_readTest_42 rfl ?_
        refine A_iconst (v := -1) hC dX5_readTest_43 (by decide) ?_
        refine A_icmp_ne (tgt := 52) hC dX5_readTest_44 (by decide) ?_ ?_
        · refine A_aload_n hC dX5_readTest_52 rfl ?_
          refine A_callVv (As := []) (st := []) hC (fun l => mX5_advance l g hL D4) (lX_33 hL) rfl (Nat.le_of_ble_eq_true rfl) yc_X5_45 rfl rfl ⟨by decide, by decide⟩ (Nat.le_of_ble_eq_true rfl) rfl dX5_readTest_53 (fun _ D5 => ?_)
          refine A_aload_n hC dX5_readTest_56 rfl ?_
          refine A_bipush (v := 60) hC dX5_readTest_57 (by decide) ?_
          refine A_callVi (As := [.int (60 : Int32)]) (st := []) hC (fun l => mX5_isSign l g hL (60 : Int32) D5) (lX_33 hL) rfl (Nat.le_of_ble_eq_true rfl) yc_X5_96 rfl rfl ⟨by decide, by decide⟩ (Nat.le_of_ble_eq_true rfl) rfl dX5_readTest_59 (fun x4 D6 => ?_)
          refine A_join (fun (J : ADD → Option (Int32 × ADD)) => ∀ (D7 : ADD), AT aVi g b 88 [some (.ref (g.1 + 33)), some (.int a1), some (.int x2), some (.int x3), none] [] D7 (J D7)) (fun D7 => ?_) (fun j88 hj88 => ?_)
          · refine A_aload_n hC dX5_readTest_88 rfl ?_
            refine A_getr (kf := 3) hC kX5 (lX_33 hL) rfl (by decide) (by decide) rfl rfl w_209 dX5_readTest_89 ?_
            refine A_aload_n hC dX5_readTest_92 rfl ?_
            refine A_geti (kf := 6) hC kX5 (lX_33 hL) rfl (by decide) (by decide) rfl w_212 dX5_readTest_93 ?_
            refine A_callVi (As := [.int (D7.1 33 6)]) (st := []) hC (fun l => mX9_byteAt l g hL (D7.1 33 6) D7) (lX_11 hL) rfl (Nat.le_of_ble_eq_true rfl) yc_X5_99 rfl rfl ⟨by decide, by decide⟩ (Nat.le_of_ble_eq_true rfl) rfl dX5_readTest_96 (fun x5 D8 => ?_)
            refine A_istore (lv2 := [some (.ref (g.1 + 33)), some (.int a1), some (.int x2), some (.int x3), some (.int x5)]) hC dX5_readTest_99 (Nat.le_of_ble_eq_true rfl) rfl rfl ?_
            refine A_aload_n hC dX5_readTest_101 rfl ?_
            refine A_callVv (As := []) (st := []) hC (fun l => mX5_advance l g hL D8) (lX_33 hL) rfl (Nat.le_of_ble_eq_true rfl) yc_X5_45 rfl rfl ⟨by decide, by decide⟩ (Nat.le_of_ble_eq_true rfl) rfl dX5_readTest_102 (fun _ D9 => ?_)
            refine A_aload_n hC dX5_readTest_105 rfl ?_
            refine A_geti (kf := 5) hC kX5 (lX_33 hL) rfl (by decide) (by decide) rfl w_211 dX5_readTest_106 ?_
            refine A_iconst (v := 2) hC dX5_readTest_109 (by decide) ?_
            refine A_icmp_eq (tgt := 118) hC dX5_readTest_110 (by decide) ?_ ?_
            · refine A_aload_n hC dX5_readTest_118 rfl ?_
              refine A_getr (kf := 0) hC kX5 (lX_33 hL) rfl (by decide) (by decide) rfl rfl w_203 dX5_readTest_119 ?_
              refine A_iload_n hC dX5_readTest_122 rfl ?_
              refine A_iload_n hC dX5_readTest_123 rfl ?_
              refine A_iload_n hC dX5_readTest_124 rfl ?_
              refine A_iload hC dX5_readTest_125 rfl ?_
              refine A_aload_n hC dX5_readTest_127 rfl ?_
              refine A_callVi (As := []) (st := [.int x5, .int x3, .int x2, .int a1, .ref (g.1 + 34)]) hC (fun l => mX5_number l g hL D9) (lX_33 hL) rfl (Nat.le_of_ble_eq_true rfl) yc_X5_105 rfl rfl ⟨by decide, by decide⟩ (Nat.le_of_ble_eq_true rfl) rfl dX5_readTest_128 (fun x6 D10 => ?_)
              refine A_callVv (As := [.int a1, .int x2, .int x3, .int x5, .int x6]) (st := []) hC (fun l => mX6_addTest l g 34 (lR_34 hL) a1 x2 x3 x5 x6 D10) (lX_34 hL) rfl (Nat.le_of_ble_eq_true rfl) yc_X5_109 rfl rfl ⟨by decide, by decide⟩ (Nat.le_of_ble_eq_true rfl) rfl dX5_readTest_131 (fun _ D11 => ?_)
              refine A_aload_n hC dX5_readTest_134 rfl ?_
              refine A_callVv (As := []) (st := []) hC (fun l => mX5_advance l g hL D11) (lX_33 hL) rfl (Nat.le_of_ble_eq_true rfl) yc_X5_45 rfl rfl ⟨by decide, by decide⟩ (Nat.le_of_ble_eq_true rfl) rfl dX5_readTest_135 (fun _ D12 => ?_)
              refine A_iconst (v := 1) hC dX5_readTest_138 (by decide) ?_
              exact A_zret hC dX5_readTest_139 (Or.inr rfl)
            · refine A_aload_n hC dX5_readTest_113 rfl ?_
              refine A_callVi (As := []) (st := []) hC (fun l => mX5_refuse l g hL D9) (lX_33 hL) rfl (Nat.le_of_ble_eq_true rfl) yc_X5_92 rfl rfl ⟨by decide, by decide⟩ (Nat.le_of_ble_eq_true rfl) rfl dX5_readTest_114 (fun x7 D13 => ?_)
              exact A_zretc hC dX5_readTest_117
          refine A_if_ne (tgt := 88) hC dX5_readTest_62 (by decide) ?_ ?_
          · exact A_to (hj88 D6) (And.intro rfl (And.intro rfl (And.intro rfl (And.intro rfl (trivial)))))
          · refine A_aload_n hC dX5_readTest_65 rfl ?_
            refine A_bipush (v := 62) hC dX5_readTest_66 (by decide) ?_
            refine A_callVi (As := [.int (62 : Int32)]) (st := []) hC (fun l => mX5_isSign l g hL (62 : Int32) D6) (lX_33 hL) rfl (Nat.le_of_ble_eq_true rfl) yc_X5_96 rfl rfl ⟨by decide, by decide⟩ (Nat.le_of_ble_eq_true rfl) rfl dX5_readTest_68 (fun x8 D14 => ?_)
            refine A_if_ne (tgt := 88) hC dX5_readTest_71 (by decide) ?_ ?_
            · exact A_to (hj88 D14) (And.intro rfl (And.intro rfl (And.intro rfl (And.intro rfl (trivial)))))
            · refine A_aload_n hC dX5_readTest_74 rfl ?_
              refine A_bipush (v := 61) hC dX5_readTest_75 (by decide) ?_
              refine A_callVi (As := [.int (61 : Int32)]) (st := []) hC (fun l => mX5_isSign l g hL (61 : Int32) D14) (lX_33 hL) rfl (Nat.le_of_ble_eq_true rfl) yc_X5_96 rfl rfl ⟨by decide, by decide⟩ (Nat.le_of_ble_eq_true rfl) rfl dX5_readTest_77 (fun x9 D15 => ?_)
              refine A_if_ne (tgt := 88) hC dX5_readTest_80 (by decide) ?_ ?_
              · exact A_to (hj88 D15) (And.intro rfl (And.intro rfl (And.intro rfl (And.intro rfl (trivial)))))
              · refine A_aload_n hC dX5_readTest_83 rfl ?_
                refine A_callVi (As := []) (st := []) hC (fun l => mX5_refuse l g hL D15) (lX_33 hL) rfl (Nat.le_of_ble_eq_true rfl) yc_X5_92 rfl rfl ⟨by decide, by decide⟩ (Nat.le_of_ble_eq_true rfl) rfl dX5_readTest_84 (fun x10 D16 => ?_)
                exact A_zretc hC dX5_readTest_87
        · refine A_aload_n hC dX5_readTest_47 rfl ?_
          refine A_callVi (As := []) (st := []) hC (fun l => mX5_refuse l g hL D4) (lX_33 hL) rfl (Nat.le_of_ble_eq_true rfl) yc_X5_92 rfl rfl ⟨by decide, by decide⟩ (Nat.le_of_ble_eq_true rfl) rfl dX5_readTest_48 (fun x11 D17 => ?_)
          exact A_zretc hC dX5_readTest_51
      · refine A_ldcs (i := 2) hC rfl dX5_readTest_31 ?_
        refine A_goto (tgt := 38) hC dX5_readTest_33 (by decide) ?_
        refine A_callVi (As := [.ref (g.2.2.2.2.1.2.2.1 2)]) (st := []) hC (fun l => mX5_wordIn l g hL 2 (by decide) D3) (lX_33 hL) rfl (Nat.le_of_ble_eq_true rfl) yc_X5_68 rfl rfl ⟨by decide, by decide⟩ (Nat.le_of_ble_eq_true rfl) rfl dX5_readTest_38 (fun x12 D18 => ?_)
        refine A_istore_n (lv2 := [some (.ref (g.1 + 33)), some (.int a1), some (.int x2), some (.int x12), none]) hC dX5_readTest_41 (Nat.le_of_ble_eq_true rfl) rfl rfl ?_
        refine A_iload_n hC dX5_readTest_42 rfl ?_
        refine A_iconst (v := -1) hC dX5_readTest_43 (by decide) ?_
        refine A_icmp_ne (tgt := 52) hC dX5_readTest_44 (by decide) ?_ ?_
        · refine A_aload_n hC dX5_readTest_52 rfl ?_
          refine A_callVv (As := []) (st := []) hC (fun l => mX5_advance l g hL D18) (lX_33 hL) rfl (Nat.le_of_ble_eq_true rfl) yc_X5_45 rfl rfl ⟨by decide, by decide⟩ (Nat.le_of_ble_eq_true rfl) rfl dX5_readTest_53 (fun _ D19 => ?_)
          refine A_aload_n hC dX5_readTest_56 rfl ?_
          refine A_bipush (v := 60) hC dX5_readTest_57 (by decide) ?_
          refine A_callVi (As := [.int (60 : Int32)]) (st := []) hC (fun l => mX5_isSign l g hL (60 : Int32) D19) (lX_33 hL) rfl (Nat.le_of_ble_eq_true rfl) yc_X5_96 rfl rfl ⟨by decide, by decide⟩ (Nat.le_of_ble_eq_true rfl) rfl dX5_readTest_59 (fun x13 D20 => ?_)
          refine A_join (fun (J : ADD → Option (Int32 × ADD)) => ∀ (D21 : ADD), AT aVi g b 88 [some (.ref (g.1 + 33)), some (.int a1), some (.int x2), some (.int x12), none] [] D21 (J D21)) (fun D21 => ?_) (fun j88 hj88 => ?_)
          · refine A_aload_n hC dX5_readTest_88 rfl ?_
            refine A_getr (kf := 3) hC kX5 (lX_33 hL) rfl (by decide) (by decide) rfl rfl w_209 dX5_readTest_89 ?_
            refine A_aload_n hC dX5_readTest_92 rfl ?_
            refine A_geti (kf := 6) hC kX5 (lX_33 hL) rfl (by decide) (by decide) rfl w_212 dX5_readTest_93 ?_
            refine A_callVi (As := [.int (D21.1 33 6)]) (st := []) hC (fun l => mX9_byteAt l g hL (D21.1 33 6) D21) (lX_11 hL) rfl (Nat.le_of_ble_eq_true rfl) yc_X5_99 rfl rfl ⟨by decide, by decide⟩ (Nat.le_of_ble_eq_true rfl) rfl dX5_readTest_96 (fun x14 D22 => ?_)
            refine A_istore (lv2 := [some (.ref (g.1 + 33)), some (.int a1), some (.int x2), some (.int x12), some (.int x14)]) hC dX5_readTest_99 (Nat.le_of_ble_eq_true rfl) rfl rfl ?_
            refine A_aload_n hC dX5_readTest_101 rfl ?_
            refine A_callVv (As := []) (st := []) hC (fun l => mX5_advance l g hL D22) (lX_33 hL) rfl (Nat.le_of_ble_eq_true rfl) yc_X5_45 rfl rfl ⟨by decide, by decide⟩ (Nat.le_of_ble_eq_true rfl) rfl dX5_readTest_102 (fun _ D23 => ?_)
            refine A_aload_n hC dX5_readTest_105 rfl ?_
            refine A_geti (kf := 5) hC kX5 (lX_33 hL) rfl (by decide) (by decide) rfl w_211 dX5_readTest_106 ?_
            refine A_iconst (v := 2) hC dX5_readTest_109 (by decide) ?_
            refine A_icmp_eq (tgt := 118) hC dX5_readTest_110 (by decide) ?_ ?_
            · refine A_aload_n hC dX5_readTest_118 rfl ?_
              refine A_getr (kf := 0) hC kX5 (lX_33 hL) rfl (by decide) (by decide) rfl rfl w_203 dX5_readTest_119 ?_
              refine A_iload_n hC dX5_readTest_122 rfl ?_
              refine A_iload_n hC dX5_readTest_123 rfl ?_
              refine A_iload_n hC dX5_readTest_124 rfl ?_
              refine A_iload hC dX5_readTest_125 rfl ?_
              refine A_aload_n hC dX5_readTest_127 rfl ?_
              refine A_callVi (As := []) (st := [.int x14, .int x12, .int x2, .int a1, .ref (g.1 + 34)]) hC (fun l => mX5_number l g hL D23) (lX_33 hL) rfl (Nat.le_of_ble_eq_true rfl) yc_X5_105 rfl rfl ⟨by decide, by decide⟩ (Nat.le_of_ble_eq_true rfl) rfl dX5_readTest_128 (fun x15 D24 => ?_)
              refine A_callVv (As := [.int a1, .int x2, .int x12, .int x14, .int x15]) (st := []) hC (fun l => mX6_addTest l g 34 (lR_34 hL) a1 x2 x12 x14 x15 D24) (lX_34 hL) rfl (Nat.le_of_ble_eq_true rfl) yc_X5_109 rfl rfl ⟨by decide, by decide⟩ (Nat.le_of_ble_eq_true rfl) rfl dX5_readTest_131 (fun _ D25 => ?_)
              refine A_aload_n hC dX5_readTest_134 rfl ?_
              refine A_callVv (As := []) (st := []) hC (fun l => mX5_advance l g hL D25) (lX_33 hL) rfl (Nat.le_of_ble_eq_true rfl) yc_X5_45 rfl rfl ⟨by decide, by decide⟩ (Nat.le_of_ble_eq_true rfl) rfl dX5_readTest_135 (fun _ D26 => ?_)
              refine A_iconst (v := 1) hC dX5_readTest_138 (by decide) ?_
              exact A_zret hC dX5_readTest_139 (Or.inr rfl)
            · refine A_aload_n hC dX5_readTest_113 rfl ?_
              refine A_callVi (As := []) (st := []) hC (fun l => mX5_refuse l g hL D23) (lX_33 hL) rfl (Nat.le_of_ble_eq_true rfl) yc_X5_92 rfl rfl ⟨by decide, by decide⟩ (Nat.le_of_ble_eq_true rfl) rfl dX5_readTest_114 (fun x16 D27 => ?_)
              exact A_zretc hC dX5_readTest_117
          refine A_if_ne (tgt := 88) hC dX5_readTest_62 (by decide) ?_ ?_
          · exact A_to (hj88 D20) (And.intro rfl (And.intro rfl (And.intro rfl (And.intro rfl (trivial)))))
          · refine A_aload_n hC dX5_readTest_65 rfl ?_
            refine A_bipush (v := 62) hC dX5_readTest_66 (by decide) ?_
            refine A_callVi (As := [.int (62 : Int32)]) (st := []) hC (fun l => mX5_isSign l g hL (62 : Int32) D20) (lX_33 hL) rfl (Nat.le_of_ble_eq_true rfl) yc_X5_96 rfl rfl ⟨by decide, by decide⟩ (Nat.le_of_ble_eq_true rfl) rfl dX5_readTest_68 (fun x17 D28 => ?_)
            refine A_if_ne (tgt := 88) hC dX5_readTest_71 (by decide) ?_ ?_
            · exact A_to (hj88 D28) (And.intro rfl (And.intro rfl (And.intro rfl (And.intro rfl (trivial)))))
            · refine A_aload_n hC dX5_readTest_74 rfl ?_
              refine A_bipush (v := 61) hC dX5_readTest_75 (by decide) ?_
              refine A_callVi (As := [.int (61 : Int32)]) (st := []) hC (fun l => mX5_isSign l g hL (61 : Int32) D28) (lX_33 hL) rfl (Nat.le_of_ble_eq_true rfl) yc_X5_96 rfl rfl ⟨by decide, by decide⟩ (Nat.le_of_ble_eq_true rfl) rfl dX5_readTest_77 (fun x18 D29 => ?_)
              refine A_if_ne (tgt := 88) hC dX5_readTest_80 (by decide) ?_ ?_
              · exact A_to (hj88 D29) (And.intro rfl (And.intro rfl (And.intro rfl (And.intro rfl (trivial)))))
              · refine A_aload_n hC dX5_readTest_83 rfl ?_
                refine A_callVi (As := []) (st := []) hC (fun l => mX5_refuse l g hL D29) (lX_33 hL) rfl (Nat.le_of_ble_eq_true rfl) yc_X5_92 rfl rfl ⟨by decide, by decide⟩ (Nat.le_of_ble_eq_true rfl) rfl dX5_readTest_84 (fun x19 D30 => ?_)
                exact A_zretc hC dX5_readTest_87
        · refine A_aload_n hC dX5_readTest_47 rfl ?_
          refine A_callVi (As := []) (st := []) hC (fun l => mX5_refuse l g hL D18) (lX_33 hL) rfl (Nat.le_of_ble_eq_true rfl) yc_X5_92 rfl rfl ⟨by decide, by decide⟩ (Nat.le_of_ble_eq_true rfl) rfl dX5_readTest_48 (fun x20 D31 => ?_)
          exact A_zretc hC dX5_readTest_51
    refine A_if_eq (tgt := 23) hC dX5_readTest_16 (by decide) ?_ ?_
    · exact A_to (hj23 D2) (And.intro rfl (And.intro rfl (And.intro rfl (trivial))))
    · refine A_aload_n hC dX5_readTest_19 rfl ?_
      refine A_callVv (As := []) (st := []) hC (fun l => mX5_advance l g hL D2) (lX_33 hL) rfl (Nat.le_of_ble_eq_true rfl) yc_X5_45 rfl rfl ⟨by decide, by decide⟩ (Nat.le_of_ble_eq_true rfl) rfl dX5_readTest_20 (fun _ D32 => ?_)
      exact A_to (hj23 D32) (And.intro rfl (And.intro rfl (And.intro rfl (trivial))))
  refine A_if_ne (tgt := 13) hC dX5_readTest_6 (by decide) ?_ ?_
  · refine A_iconst (v := 0) hC dX5_readTest_13 (by decide) ?_
    exact A_to (hj14 (0 : Int32) D1) (And.intro rfl (And.intro rfl (trivial)))
  · refine A_iconst (v := 1) hC dX5_readTest_9 (by decide) ?_
    refine A_goto (tgt := 14) hC dX5_readTest_10 (by decide) ?_
    exact A_to (hj14 (1 : Int32) D1) (And.intro rfl (And.intro rfl (trivial)))
def fX5_readDeed (a1 : Int32) (D : ADD) : Option (Int32 × ADD) := (if (D.1 33 4) = 0 then aBind (fX5_wordIn 6 D) (fun x1 D1 => (if x1 = (-1 : Int32) then aBind (fX5_refuse D1) (fun x3 D6 => aZ x3 (some (x3, D6))) else aBind (fX5_advance D1) (fun _ D2 => aLet (fun (D3 : ADD) => aBind (fX6_setDeed 34 a1 x1 (0 : Int32) (0 : Int32) D3) (fun _ D4 => some ((1 : Int32), D4))) (fun (j45 : ADD → Option (Int32 × ADD)) => (if (D2.1 33 4) = 0 then (if x1 = (2 : Int32) then j45 D2 else aBind (fX5_readAmounts a1 x1 D2) (fun x2 D5 => aZ x2 (some (x2, D5)))) else j45 D2))))) else aBind (fX5_wordIn 5 D) (fun x4 D7 => (if x4 = (-1 : Int32) then aBind (fX5_refuse D7) (fun x6 D12 => aZ x6 (some (x6, D12))) else aBind (fX5_advance D7) (fun _ D8 => aLet (fun (D9 : ADD) => aBind (fX6_setDeed 34 a1 x4 (0 : Int32) (0 : Int32) D9) (fun _ D10 => some ((1 : Int32), D10))) (fun (j45 : ADD → Option (Int32 × ADD)) => (if (D8.1 33 4) = 0 then (if x4 = (2 : Int32) then j45 D8 else aBind (fX5_readAmounts a1 x4 D8) (fun x5 D11 => aZ x5 (some (x5, D11)))) else j45 D8))))))
set_option maxHeartbeats 4000000 in
set_option maxRecDepth 100000 in
theorem mX5_readDeed (l : Launch) (g : AGl) (hL : aLX g) (a1 : Int32) (D : ADD) : AM aVi l yX5_readDeed cX5_readDeed 3 (some .boolean) 8 g [.ref (g.1 + 33), .int a1] D (fX5_readDeed a1 D) := by
  refine AM_of (lv0 := [some (.ref (g.1 + 33)), some (.int a1), none]) (own := RX5) (by decide +kernel) rfl (Nat.le_of_ble_eq_true rfl) rfl (fun b hC => ?_)
  unfold fX5_readDeed
  refine A_aload_n hC dX5_readDeed_0 rfl ?_
  refine A_aload_n hC dX5_readDeed_1 rfl ?_
  refine A_geti (kf := 4) hC kX5 (lX_33 hL) rfl (by decide) (by decide) rfl w_210 dX5_readDeed_2 ?_
  refine A_if_eq (tgt := 13) hC dX5_readDeed_5 (by decide) ?_ ?_
  · refine A_ldcs (i := 6) hC rfl dX5_readDeed_13 ?_
    refine A_callVi (As := [.ref (g.2.2.2.2.1.2.2.1 6)]) (st := []) hC (fun l => mX5_wordIn l g hL 6 (by decide) D) (lX_33 hL) rfl (Nat.le_of_ble_eq_true rfl) yc_X5_68 rfl rfl ⟨by decide, by decide⟩ (Nat.le_of_ble_eq_true rfl) rfl dX5_readDeed_15 (fun x1 D1 => ?_)
    refine A_istore_n (lv2 := [some (.ref (g.1 + 33)), some (.int a1), some (.int x1)]) hC dX5_readDeed_18 (Nat.le_of_ble_eq_true rfl) rfl rfl ?_
    refine A_iload_n hC dX5_readDeed_19 rfl ?_
    refine A_iconst (v := -1) hC dX5_readDeed_20 (by decide) ?_
    refine A_icmp_ne (tgt := 29) hC dX5_readDeed_21 (by decide) ?_ ?_
    · refine A_aload_n hC dX5_readDeed_29 rfl ?_
      refine A_callVv (As := []) (st := []) hC (fun l => mX5_advance l g hL D1) (lX_33 hL) rfl (Nat.le_of_ble_eq_true rfl) yc_X5_45 rfl rfl ⟨by decide, by decide⟩ (Nat.le_of_ble_eq_true rfl) rfl dX5_readDeed_30 (fun _ D2 => ?_)
      refine A_aload_n hC dX5_readDeed_33 rfl ?_
      refine A_geti (kf := 4) hC kX5 (lX_33 hL) rfl (by decide) (by decide) rfl w_210 dX5_readDeed_34 ?_
      refine A_join (fun (J : ADD → Option (Int32 × ADD)) => ∀ (D3 : ADD), AT aVi g b 45 [some (.ref (g.1 + 33)), some (.int a1), some (.int x1)] [] D3 (J D3)) (fun D3 => ?_) (fun j45 hj45 => ?_)
      · refine A_aload_n hC dX5_readDeed_45 rfl ?_
        refine A_getr (kf := 0) hC kX5 (lX_33 hL) rfl (by decide) (by decide) rfl rfl w_203 dX5_readDeed_46 ?_
        refine A_iload_n hC dX5_readDeed_49 rfl ?_
        refine A_iload_n hC dX5_readDeed_50 rfl ?_
        refine A_iconst (v := 0) hC dX5_readDeed_51 (by decide) ?_
        refine A_iconst (v := 0) hC dX5_readDeed_52 (by decide) ?_
        refine A_callVv (As := [.int a1, .int x1, .int (0 : Int32), .int (0 : Int32)]) (st := []) hC (fun l => mX6_setDeed l g 34 (lR_34 hL) a1 x1 (0 : Int32) (0 : Int32) D3) (lX_34 hL) rfl (Nat.le_of_ble_eq_true rfl) yc_X5_117 rfl rfl ⟨by decide, by decide⟩ (Nat.le_of_ble_eq_true rfl) rfl dX5_readDeed_53 (fun _ D4 => ?_)
        refine A_iconst (v := 1) hC dX5_readDeed_56 (by decide) ?_
        exact A_zret hC dX5_readDeed_57 (Or.inr rfl)
      refine A_if_ne (tgt := 45) hC dX5_readDeed_37 (by decide) ?_ ?_
      · exact A_to (hj45 D2) (And.intro rfl (And.intro rfl (And.intro rfl (trivial))))
      · refine A_iload_n hC dX5_readDeed_40 rfl ?_
        refine A_iconst (v := 2) hC dX5_readDeed_41 (by decide) ?_
        refine A_icmp_ne (tgt := 58) hC dX5_readDeed_42 (by decide) ?_ ?_
        · refine A_aload_n hC dX5_readDeed_58 rfl ?_
          refine A_iload_n hC dX5_readDeed_59 rfl ?_
          refine A_iload_n hC dX5_readDeed_60 rfl ?_
          refine A_callVi (As := [.int a1, .int x1]) (st := []) hC (fun l => mX5_readAmounts l g hL a1 x1 D2) (lX_33 hL) rfl (Nat.le_of_ble_eq_true rfl) yc_X5_121 rfl rfl ⟨by decide, by decide⟩ (Nat.le_of_ble_eq_true rfl) rfl dX5_readDeed_61 (fun x2 D5 => ?_)
          exact A_zretc hC dX5_readDeed_64
        · exact A_to (hj45 D2) (And.intro rfl (And.intro rfl (And.intro rfl (trivial))))
    · refine A_aload_n hC dX5_readDeed_24 rfl ?_
      refine A_callVi (As := []) (st := []) hC (fun l => mX5_refuse l g hL D1) (lX_33 hL) rfl (Nat.le_of_ble_eq_true rfl) yc_X5_92 rfl rfl ⟨by decide, by decide⟩ (Nat.le_of_ble_eq_true rfl) rfl dX5_readDeed_25 (fun x3 D6 => ?_)
      exact A_zretc hC dX5_readDeed_28
  · refine A_ldcs (i := 5) hC rfl dX5_readDeed_8 ?_
    refine A_goto (tgt := 15) hC dX5_readDeed_10 (by decide) ?_
    refine A_callVi (As := [.ref (g.2.2.2.2.1.2.2.1 5)]) (st := []) hC (fun l => mX5_wordIn l g hL 5 (by decide) D) (lX_33 hL) rfl (Nat.le_of_ble_eq_true rfl) yc_X5_68 rfl rfl ⟨by decide, by decide⟩ (Nat.le_of_ble_eq_true rfl) rfl dX5_readDeed_15 (fun x4 D7 => ?_)
    refine A_istore_n (lv2 := [some (.ref (g.1 + 33)), some (.int a1), some (.int x4)]) hC dX5_readDeed_18 (Nat.le_of_ble_eq_true rfl) rfl rfl ?_
    refine A_iload_n hC dX5_readDeed_19 rfl ?_
    refine A_iconst (v := -1) hC dX5_readDeed_20 (by decide) ?_
    refine A_icmp_ne (tgt := 29) hC dX5_readDeed_21 (by decide) ?_ ?_
    · refine A_aload_n hC dX5_readDeed_29 rfl ?_
      refine A_callVv (As := []) (st := []) hC (fun l => mX5_advance l g hL D7) (lX_33 hL) rfl (Nat.le_of_ble_eq_true rfl) yc_X5_45 rfl rfl ⟨by decide, by decide⟩ (Nat.le_of_ble_eq_true rfl) rfl dX5_readDeed_30 (fun _ D8 => ?_)
      refine A_aload_n hC dX5_readDeed_33 rfl ?_
      refine A_geti (kf := 4) hC kX5 (lX_33 hL) rfl (by decide) (by decide) rfl w_210 dX5_readDeed_34 ?_
      refine A_join (fun (J : ADD → Option (Int32 × ADD)) => ∀ (D9 : ADD), AT aVi g b 45 [some (.ref (g.1 + 33)), some (.int a1), some (.int x4)] [] D9 (J D9)) (fun D9 => ?_) (fun j45 hj45 => ?_)
      · refine A_aload_n hC dX5_readDeed_45 rfl ?_
        refine A_getr (kf := 0) hC kX5 (lX_33 hL) rfl (by decide) (by decide) rfl rfl w_203 dX5_readDeed_46 ?_
        refine A_iload_n hC dX5_readDeed_49 rfl ?_
        refine A_iload_n hC dX5_readDeed_50 rfl ?_
        refine A_iconst (v := 0) hC dX5_readDeed_51 (by decide) ?_
        refine A_iconst (v := 0) hC dX5_readDeed_52 (by decide) ?_
        refine A_callVv (As := [.int a1, .int x4, .int (0 : Int32), .int (0 : Int32)]) (st := []) hC (fun l => mX6_setDeed l g 34 (lR_34 hL) a1 x4 (0 : Int32) (0 : Int32) D9) (lX_34 hL) rfl (Nat.le_of_ble_eq_true rfl) yc_X5_117 rfl rfl ⟨by decide, by decide⟩ (Nat.le_of_ble_eq_true rfl) rfl dX5_readDeed_53 (fun _ D10 => ?_)
        refine A_iconst (v := 1) hC dX5_readDeed_56 (by decide) ?_
        exact A_zret hC dX5_readDeed_57 (Or.inr rfl)
      refine A_if_ne (tgt := 45) hC dX5_readDeed_37 (by decide) ?_ ?_
      · exact A_to (hj45 D8) (And.intro rfl (And.intro rfl (And.intro rfl (trivial))))
      · refine A_iload_n hC dX5_readDeed_40 rfl ?_
        refine A_iconst (v := 2) hC dX5_readDeed_41 (by decide) ?_
        refine A_icmp_ne (tgt := 58) hC dX5_readDeed_42 (by decide) ?_ ?_
        · refine A_aload_n hC dX5_readDeed_58 rfl ?_
          refine A_iload_n hC dX5_readDeed_59 rfl ?_
          refine A_iload_n hC dX5_readDeed_60 rfl ?_
          refine A_callVi (As := [.int a1, .int x4]) (st := []) hC (fun l => mX5_readAmounts l g hL a1 x4 D8) (lX_33 hL) rfl (Nat.le_of_ble_eq_true rfl) yc_X5_121 rfl rfl ⟨by decide, by decide⟩ (Nat.le_of_ble_eq_true rfl) rfl dX5_readDeed_61 (fun x5 D11 => ?_)
          exact A_zretc hC dX5_readDeed_64
        · exact A_to (hj45 D8) (And.intro rfl (And.intro rfl (And.intro rfl (trivial))))
    · refine A_aload_n hC dX5_readDeed_24 rfl ?_
      refine A_callVi (As := []) (st := []) hC (fun l => mX5_refuse l g hL D7) (lX_33 hL) rfl (Nat.le_of_ble_eq_true rfl) yc_X5_92 rfl rfl ⟨by decide, by decide⟩ (Nat.le_of_ble_eq_true rfl) rfl dX5_readDeed_25 (fun x6 D12 => ?_)
      exact A_zretc hC dX5_readDeed_28
def lX5_readTests_2 (a1 : Int32) (j49 : ADD → Option (Int32 × ADD)) (L2 : Int32 → ADD → Option (Int32 × ADD)) (x2 : Int32) (D3 : ADD) : Option (Int32 × ADD) := aBind (fX5_advance D3) (fun _ D4 => aLet (fun (D5 : ADD) => aBind (fX5_readTest a1 D5) (fun x3 D6 => (if x3 = 0 then some ((0 : Int32), D6) else aLet (x2 + (1 : Int32)) (fun x4 => aBind (fX5_wordIn 4 D6) (fun x5 D7 => (if x5 = 0 then (if x4 < (500 : Int32) then L2 x4 D7 else j49 D7) else j49 D7)))))) (fun (j20 : ADD → Option (Int32 × ADD)) => (if x2 = (4 : Int32) then aBind (fX5_remark (3 : Int32) (D4.1 33 6) D4) (fun _ D8 => j20 D8) else j20 D4)))
def fX5_readTests (a1 : Int32) (D : ADD) : Option (Int32 × ADD) := aLet (fun (D1 : ADD) => aBind (fX5_pass (58 : Int32) D1) (fun x1 D2 => aZ x1 (some (x1, D2)))) (fun (j49 : ADD → Option (Int32 × ADD)) => aLet (aFix aFuel (lX5_readTests_2 a1 j49) (fun _ _ => none)) (fun j2 => j2 (0 : Int32) D))
set_option maxHeartbeats 4000000 in
set_option maxRecDepth 100000 in
theorem mX5_readTests (l : Launch) (g : AGl) (hL : aLX g) (a1 : Int32) (D : ADD) : AM aVi l yX5_readTests cX5_readTests 3 (some .boolean) 8 g [.ref (g.1 + 33), .int a1] D (fX5_readTests a1 D) := by
  refine AM_of (lv0 := [some (.ref (g.1 + 33)), some (.int a1), none]) (own := RX5) (by decide +kernel) rfl (Nat.le_of_ble_eq_true rfl) rfl (fun b hC => ?_)
  unfold fX5_readTests
  refine A_iconst (v := 0) hC dX5_readTests_0 (by decide) ?_
  refine A_istore_n (lv2 := [some (.ref (g.1 + 33)), some (.int a1), some (.int (0 : Int32))]) hC dX5_readTests_1 (Nat.le_of_ble_eq_true rfl) rfl rfl ?_
  refine A_join (fun (J : ADD → Option (Int32 × ADD)) => ∀ (D1 : ADD), AT aVi g b 49 [some (.ref (g.1 + 33)), none, none] [] D1 (J D1)) (fun D1 => ?_) (fun j49 hj49 => ?_)
  · refine A_aload_n hC dX5_readTests_49 rfl ?_
    refine A_bipush (v := 58) hC dX5_readTests_50 (by decide) ?_
    refine A_callVi (As := [.int (58 : Int32)]) (st := []) hC (fun l => mX5_pass l g hL (58 : Int32) D1) (lX_33 hL) rfl (Nat.le_of_ble_eq_true rfl) yc_X5_78 rfl rfl ⟨by decide, by decide⟩ (Nat.le_of_ble_eq_true rfl) rfl dX5_readTests_52 (fun x1 D2 => ?_)
    exact A_zretc hC dX5_readTests_55
  refine A_join (fun (J : Int32 → ADD → Option (Int32 × ADD)) => ∀ (x2 : Int32) (D3 : ADD), AT aVi g b 2 [some (.ref (g.1 + 33)), some (.int a1), some (.int x2)] [] D3 (J x2 D3)) (aFix_all (fun (J : Int32 → ADD → Option (Int32 × ADD)) => ∀ (x2 : Int32) (D3 : ADD), AT aVi g b 2 [some (.ref (g.1 + 33)), some (.int a1), some (.int x2)] [] D3 (J x2 D3)) (fun _ _ => A_none) (fun L2 hL2 x2 D3 => ?_) _) (fun j2 hj2 => ?_)
  · unfold lX5_readTests_2
    refine A_aload_n hC dX5_readTests_2 rfl ?_
    refine A_callVv (As := []) (st := []) hC (fun l => mX5_advance l g hL D3) (lX_33 hL) rfl (Nat.le_of_ble_eq_true rfl) yc_X5_45 rfl rfl ⟨by decide, by decide⟩ (Nat.le_of_ble_eq_true rfl) rfl dX5_readTests_3 (fun _ D4 => ?_)
    refine A_iload_n hC dX5_readTests_6 rfl ?_
    refine A_iconst (v := 4) hC dX5_readTests_7 (by decide) ?_
    refine A_join (fun (J : ADD → Option (Int32 × ADD)) => ∀ (D5 : ADD), AT aVi g b 20 [some (.ref (g.1 + 33)), some (.int a1), some (.int x2)] [] D5 (J D5)) (fun D5 => ?_) (fun j20 hj20 => ?_)
    · refine A_aload_n hC dX5_readTests_20 rfl ?_
      refine A_iload_n hC dX5_readTests_21 rfl ?_
      refine A_callVi (As := [.int a1]) (st := []) hC (fun l => mX5_readTest l g hL a1 D5) (lX_33 hL) rfl (Nat.le_of_ble_eq_true rfl) yc_X5_81 rfl rfl ⟨by decide, by decide⟩ (Nat.le_of_ble_eq_true rfl) rfl dX5_readTests_22 (fun x3 D6 => ?_)
      refine A_if_ne (tgt := 30) hC dX5_readTests_25 (by decide) ?_ ?_
      · refine A_iincL (z := (1 : Int32)) (lv2 := fun x4 => [some (.ref (g.1 + 33)), some (.int a1), some (.int x4)]) hC dX5_readTests_30 rfl (by decide) (Nat.le_of_ble_eq_true rfl) rfl (fun _ => rfl) (fun x4 => ?_)
        refine A_aload_n hC dX5_readTests_33 rfl ?_
        refine A_ldcs (i := 4) hC rfl dX5_readTests_34 ?_
        refine A_callVi (As := [.ref (g.2.2.2.2.1.2.2.1 4)]) (st := []) hC (fun l => mX5_wordIn l g hL 4 (by decide) D6) (lX_33 hL) rfl (Nat.le_of_ble_eq_true rfl) yc_X5_68 rfl rfl ⟨by decide, by decide⟩ (Nat.le_of_ble_eq_true rfl) rfl dX5_readTests_36 (fun x5 D7 => ?_)
        refine A_if_ne (tgt := 49) hC dX5_readTests_39 (by decide) ?_ ?_
        · exact A_to (hj49 D7) (And.intro rfl (trivial))
        · refine A_iload_n hC dX5_readTests_42 rfl ?_
          refine A_sipush (v := 500) hC dX5_readTests_43 (by decide) ?_
          refine A_icmp_lt (tgt := 2) hC dX5_readTests_46 (by decide) ?_ ?_
          · exact A_to (hL2 x4 D7) (And.intro rfl (And.intro rfl (And.intro rfl (trivial))))
          · exact A_to (hj49 D7) (And.intro rfl (trivial))
      · refine A_iconst (v := 0) hC dX5_readTests_28 (by decide) ?_
        exact A_zret hC dX5_readTests_29 (Or.inl rfl)
    refine A_icmp_ne (tgt := 20) hC dX5_readTests_8 (by decide) ?_ ?_
    · exact A_to (hj20 D4) (And.intro rfl (And.intro rfl (And.intro rfl (trivial))))
    · refine A_aload_n hC dX5_readTests_11 rfl ?_
      refine A_iconst (v := 3) hC dX5_readTests_12 (by decide) ?_
      refine A_aload_n hC dX5_readTests_13 rfl ?_
      refine A_geti (kf := 6) hC kX5 (lX_33 hL) rfl (by decide) (by decide) rfl w_212 dX5_readTests_14 ?_
      refine A_callVv (As := [.int (3 : Int32), .int (D4.1 33 6)]) (st := []) hC (fun l => mX5_remark l g hL (3 : Int32) (D4.1 33 6) D4) (lX_33 hL) rfl (Nat.le_of_ble_eq_true rfl) yc_X5_48 rfl rfl ⟨by decide, by decide⟩ (Nat.le_of_ble_eq_true rfl) rfl dX5_readTests_17 (fun _ D8 => ?_)
      exact A_to (hj20 D8) (And.intro rfl (And.intro rfl (And.intro rfl (trivial))))
  exact A_to (hj2 (0 : Int32) D) (And.intro rfl (And.intro rfl (And.intro rfl (trivial))))
