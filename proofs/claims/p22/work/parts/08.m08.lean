def lX7_sumOfListed_53 (a1 : Int32) (a3 : Int32) (a4 : Int32) (x1 : Int32) (x2 : Int32) (j106 : Int64 → ADD → Option (Int64 × ADD)) (L53 : Int64 → Int32 → ADD → Option (Int64 × ADD)) (x4 : Int64) (x5 : Int32) (D3 : ADD) : Option (Int64 × ADD) := (if a1 ≤ x5 then j106 x4 D3 else (if (32 : Int32) ≤ x5 then j106 x4 D3 else aIn (x1 + x5) 1312 (aIn (x2 + x5) 1312 (aLet (x4 + (aMin ((D3.1 54 (x1 + x5).toNatClampNeg) * a4) ((D3.1 54 (x2 + x5).toNatClampNeg) * a3)).toInt64) (fun x6 => aLet (x5 + (1 : Int32)) (fun x7 => L53 x6 x7 D3))))))
def fX7_sumOfListed (a1 : Int32) (a2 : Int32) (a3 : Int32) (a4 : Int32) (D : ADD) : Option (Int64 × ADD) := aLet (fun (D1 : ADD) => some ((0 : Int64), D1)) (fun (j28 : ADD → Option (Int64 × ADD)) => (if a3 < a2 then j28 D else (if a4 < a2 then j28 D else (if (40 : Int32) < (a3 - a2) then j28 D else (if (a4 - a2) ≤ (40 : Int32) then aLet ((a3 - a2) * (32 : Int32)) (fun x1 => aLet ((a4 - a2) * (32 : Int32)) (fun x2 => aLet (fun (x3 : Int64) (D2 : ADD) => some ((((a3.toInt64 * a4.toInt64) * a1.toInt64) - ((4 : Int64) * x3)), D2)) (fun (j106 : Int64 → ADD → Option (Int64 × ADD)) => aLet (aFix aFuel (lX7_sumOfListed_53 a1 a3 a4 x1 x2 j106) (fun _ _ _ => none)) (fun j53 => j53 (0 : Int64) (0 : Int32) D)))) else j28 D)))))
set_option maxHeartbeats 4000000 in
set_option maxRecDepth 100000 in
theorem mX7_sumOfListed (l : Launch) (g : AGl) (hL : aLX g) (a1 : Int32) (a2 : Int32) (a3 : Int32) (a4 : Int32) (D : ADD) : AM aVl l yX7_sumOfListed cX7_sumOfListed 10 (some .long) 1 g [.ref (g.1 + 50), .int a1, .int a2, .int a3, .int a4] D (fX7_sumOfListed a1 a2 a3 a4 D) := by
  refine AM_of (lv0 := [some (.ref (g.1 + 50)), some (.int a1), some (.int a2), some (.int a3), some (.int a4), none, none, none, none, none]) (own := RX7) (by decide +kernel) rfl (Nat.le_of_ble_eq_true rfl) rfl (fun b hC => ?_)
  unfold fX7_sumOfListed
  refine A_iload_n hC dX7_sumOfListed_0 rfl ?_
  refine A_iload_n hC dX7_sumOfListed_1 rfl ?_
  refine A_join (fun (J : ADD → Option (Int64 × ADD)) => ∀ (D1 : ADD), AT aVl g b 28 [none, none, none, none, none, none, none, none, none, none] [] D1 (J D1)) (fun D1 => ?_) (fun j28 hj28 => ?_)
  · refine A_lconst (v := 0) hC dX7_sumOfListed_28 (by decide) ?_
    exact A_lret hC dX7_sumOfListed_29
  refine A_icmp_lt (tgt := 28) hC dX7_sumOfListed_2 (by decide) ?_ ?_
  · exact A_to (hj28 D) (trivial)
  · refine A_iload hC dX7_sumOfListed_5 rfl ?_
    refine A_iload_n hC dX7_sumOfListed_7 rfl ?_
    refine A_icmp_lt (tgt := 28) hC dX7_sumOfListed_8 (by decide) ?_ ?_
    · exact A_to (hj28 D) (trivial)
    · refine A_iload_n hC dX7_sumOfListed_11 rfl ?_
      refine A_iload_n hC dX7_sumOfListed_12 rfl ?_
      refine A_isub hC dX7_sumOfListed_13 ?_
      refine A_bipush (v := 40) hC dX7_sumOfListed_14 (by decide) ?_
      refine A_icmp_gt (tgt := 28) hC dX7_sumOfListed_16 (by decide) ?_ ?_
      · exact A_to (hj28 D) (trivial)
      · refine A_iload hC dX7_sumOfListed_19 rfl ?_
        refine A_iload_n hC dX7_sumOfListed_21 rfl ?_
        refine A_isub hC dX7_sumOfListed_22 ?_
        refine A_bipush (v := 40) hC dX7_sumOfListed_23 (by decide) ?_
        refine A_icmp_le (tgt := 30) hC dX7_sumOfListed_25 (by decide) ?_ ?_
        · refine A_iload_n hC dX7_sumOfListed_30 rfl ?_
          refine A_iload_n hC dX7_sumOfListed_31 rfl ?_
          refine A_isub hC dX7_sumOfListed_32 ?_
          refine A_bipush (v := 32) hC dX7_sumOfListed_33 (by decide) ?_
          refine A_imul hC dX7_sumOfListed_35 ?_
          refine A_topi (fun x1 => ?_)
          refine A_istore (lv2 := [some (.ref (g.1 + 50)), some (.int a1), some (.int a2), some (.int a3), some (.int a4), some (.int x1), none, none, none, none]) hC dX7_sumOfListed_36 (Nat.le_of_ble_eq_true rfl) rfl rfl ?_
          refine A_iload hC dX7_sumOfListed_38 rfl ?_
          refine A_iload_n hC dX7_sumOfListed_40 rfl ?_
          refine A_isub hC dX7_sumOfListed_41 ?_
          refine A_bipush (v := 32) hC dX7_sumOfListed_42 (by decide) ?_
          refine A_imul hC dX7_sumOfListed_44 ?_
          refine A_topi (fun x2 => ?_)
          refine A_istore (lv2 := [some (.ref (g.1 + 50)), some (.int a1), some (.int a2), some (.int a3), some (.int a4), some (.int x1), some (.int x2), none, none, none]) hC dX7_sumOfListed_45 (Nat.le_of_ble_eq_true rfl) rfl rfl ?_
          refine A_lconst (v := 0) hC dX7_sumOfListed_47 (by decide) ?_
          refine A_lstore (lv2 := [some (.ref (g.1 + 50)), some (.int a1), some (.int a2), some (.int a3), some (.int a4), some (.int x1), some (.int x2), some (.long (0 : Int64)), none, none]) hC dX7_sumOfListed_48 (Nat.le_of_ble_eq_true rfl) rfl rfl ?_
          refine A_iconst (v := 0) hC dX7_sumOfListed_50 (by decide) ?_
          refine A_istore (lv2 := [some (.ref (g.1 + 50)), some (.int a1), some (.int a2), some (.int a3), some (.int a4), some (.int x1), some (.int x2), some (.long (0 : Int64)), none, some (.int (0 : Int32))]) hC dX7_sumOfListed_51 (Nat.le_of_ble_eq_true rfl) rfl rfl ?_
          refine A_join (fun (J : Int64 → ADD → Option (Int64 × ADD)) => ∀ (x3 : Int64) (D2 : ADD), AT aVl g b 106 [none, some (.int a1), none, some (.int a3), some (.int a4), none, none, some (.long x3), none, none] [] D2 (J x3 D2)) (fun x3 D2 => ?_) (fun j106 hj106 => ?_)
          · refine A_iload_n hC dX7_sumOfListed_106 rfl ?_
            refine A_i2l hC dX7_sumOfListed_107 ?_
            refine A_iload hC dX7_sumOfListed_108 rfl ?_
            refine A_i2l hC dX7_sumOfListed_110 ?_
            refine A_lmul hC dX7_sumOfListed_111 ?_
            refine A_iload_n hC dX7_sumOfListed_112 rfl ?_
            refine A_i2l hC dX7_sumOfListed_113 ?_
            refine A_lmul hC dX7_sumOfListed_114 ?_
            refine A_ldc2 hC dX7_sumOfListed_115 w_773 ?_
            refine A_lload hC dX7_sumOfListed_118 rfl ?_
            refine A_lmul hC dX7_sumOfListed_120 ?_
            refine A_lsub hC dX7_sumOfListed_121 ?_
            exact A_lret hC dX7_sumOfListed_122
          refine A_join (fun (J : Int64 → Int32 → ADD → Option (Int64 × ADD)) => ∀ (x4 : Int64) (x5 : Int32) (D3 : ADD), AT aVl g b 53 [some (.ref (g.1 + 50)), some (.int a1), none, some (.int a3), some (.int a4), some (.int x1), some (.int x2), some (.long x4), none, some (.int x5)] [] D3 (J x4 x5 D3)) (aFix_all (fun (J : Int64 → Int32 → ADD → Option (Int64 × ADD)) => ∀ (x4 : Int64) (x5 : Int32) (D3 : ADD), AT aVl g b 53 [some (.ref (g.1 + 50)), some (.int a1), none, some (.int a3), some (.int a4), some (.int x1), some (.int x2), some (.long x4), none, some (.int x5)] [] D3 (J x4 x5 D3)) (fun _ _ _ => A_none) (fun L53 hL53 x4 x5 D3 => ?_) _) (fun j53 hj53 => ?_)
          · unfold lX7_sumOfListed_53
            refine A_iload hC dX7_sumOfListed_53 rfl ?_
            refine A_iload_n hC dX7_sumOfListed_55 rfl ?_
            refine A_icmp_ge (tgt := 106) hC dX7_sumOfListed_56 (by decide) ?_ ?_
            · exact A_to (hj106 x4 D3) (And.intro rfl (And.intro rfl (And.intro rfl (And.intro rfl (trivial)))))
            · refine A_iload hC dX7_sumOfListed_59 rfl ?_
              refine A_bipush (v := 32) hC dX7_sumOfListed_61 (by decide) ?_
              refine A_icmp_ge (tgt := 106) hC dX7_sumOfListed_63 (by decide) ?_ ?_
              · exact A_to (hj106 x4 D3) (And.intro rfl (And.intro rfl (And.intro rfl (And.intro rfl (trivial)))))
              · refine A_lload hC dX7_sumOfListed_66 rfl ?_
                refine A_aload_n hC dX7_sumOfListed_68 rfl ?_
                refine A_getr (kf := 6) hC kX7 (lX_50 hL) rfl (by decide) (by decide) rfl rfl w_278 dX7_sumOfListed_69 ?_
                refine A_iload hC dX7_sumOfListed_72 rfl ?_
                refine A_iload hC dX7_sumOfListed_74 rfl ?_
                refine A_iadd hC dX7_sumOfListed_76 ?_
                refine A_iald hC (lX_54 hL) dX7_sumOfListed_77 ?_
                refine A_iload hC dX7_sumOfListed_78 rfl ?_
                refine A_imul hC dX7_sumOfListed_80 ?_
                refine A_aload_n hC dX7_sumOfListed_81 rfl ?_
                refine A_getr (kf := 6) hC kX7 (lX_50 hL) rfl (by decide) (by decide) rfl rfl w_278 dX7_sumOfListed_82 ?_
                refine A_iload hC dX7_sumOfListed_85 rfl ?_
                refine A_iload hC dX7_sumOfListed_87 rfl ?_
                refine A_iadd hC dX7_sumOfListed_89 ?_
                refine A_iald hC (lX_54 hL) dX7_sumOfListed_90 ?_
                refine A_iload_n hC dX7_sumOfListed_91 rfl ?_
                refine A_imul hC dX7_sumOfListed_92 ?_
                refine A_mmin hC w_715 w_567 w_16 w_568 rfl (by decide) (Nat.le_of_ble_eq_true rfl) dX7_sumOfListed_93 ?_
                refine A_i2l hC dX7_sumOfListed_96 ?_
                refine A_ladd hC dX7_sumOfListed_97 ?_
                refine A_topl (fun x6 => ?_)
                refine A_lstore (lv2 := [some (.ref (g.1 + 50)), some (.int a1), none, some (.int a3), some (.int a4), some (.int x1), some (.int x2), some (.long x6), none, some (.int x5)]) hC dX7_sumOfListed_98 (Nat.le_of_ble_eq_true rfl) rfl rfl ?_
                refine A_iincL (z := (1 : Int32)) (lv2 := fun x7 => [some (.ref (g.1 + 50)), some (.int a1), none, some (.int a3), some (.int a4), some (.int x1), some (.int x2), some (.long x6), none, some (.int x7)]) hC dX7_sumOfListed_100 rfl (by decide) (Nat.le_of_ble_eq_true rfl) rfl (fun _ => rfl) (fun x7 => ?_)
                refine A_goto (tgt := 53) hC dX7_sumOfListed_103 (by decide) ?_
                exact A_to (hL53 x6 x7 D3) (And.intro rfl (And.intro rfl (And.intro rfl (And.intro rfl (And.intro rfl (And.intro rfl (And.intro rfl (And.intro rfl (trivial)))))))))
          exact A_to (hj53 (0 : Int64) (0 : Int32) D) (And.intro rfl (And.intro rfl (And.intro rfl (And.intro rfl (And.intro rfl (And.intro rfl (And.intro rfl (And.intro rfl (trivial)))))))))
        · exact A_to (hj28 D) (trivial)
def fX9_copyFrom (o : Nat) (p : Nat) (D : ADD) : Option (Unit × ADD) := aLet (aCp D (p + 1) (o + 1) 500) (fun D1 => aLet (aSI D1 o 1 (D1.1 p 1)) (fun D2 => some ((), D2)))
set_option maxHeartbeats 4000000 in
set_option maxRecDepth 100000 in
theorem mX9_copyFrom (l : Launch) (g : AGl) (o : Nat) (p : Nat) (hO : aLT g o) (hP : aLT g p) (D : ADD) : AM aVv l yX9_copyFrom cX9_copyFrom 2 none 1 g [.ref (g.1 + o), .ref (g.1 + p)] D (fX9_copyFrom o p D) := by
  refine AM_of (lv0 := [some (.ref (g.1 + o)), some (.ref (g.1 + p))]) (own := RX9) (by decide +kernel) rfl (Nat.le_of_ble_eq_true rfl) rfl (fun b hC => ?_)
  unfold fX9_copyFrom
  refine A_aload_n hC dX9_copyFrom_0 rfl ?_
  refine A_getr (kf := 0) hC kX9 hP.1 rfl (by decide) (by decide) rfl rfl w_93 dX9_copyFrom_1 ?_
  refine A_iconst (v := 0) hC dX9_copyFrom_4 (by decide) ?_
  refine A_aload_n hC dX9_copyFrom_5 rfl ?_
  refine A_getr (kf := 0) hC kX9 hO.1 rfl (by decide) (by decide) rfl rfl w_93 dX9_copyFrom_6 ?_
  refine A_iconst (v := 0) hC dX9_copyFrom_9 (by decide) ?_
  refine A_sipush (v := 500) hC dX9_copyFrom_10 (by decide) ?_
  refine A_copyb (n := (500 : Int32)) hC hP.2 hO.2 (by decide) (by decide) w_987 w_575 w_574 w_17 rfl (by decide) (Nat.le_of_ble_eq_true rfl) dX9_copyFrom_13 (fun D1 => ?_)
  refine A_aload_n hC dX9_copyFrom_16 rfl ?_
  refine A_aload_n hC dX9_copyFrom_17 rfl ?_
  refine A_geti (kf := 1) hC kX9 hP.1 rfl (by decide) (by decide) rfl w_94 dX9_copyFrom_18 ?_
  refine A_puti (kf := 1) hC kX9 hO.1 rfl (by decide) (by decide) rfl rfl rfl w_94 dX9_copyFrom_21 (fun D2 => ?_)
  exact A_vret hC dX9_copyFrom_24
def lX0_lookFrom_31 (j70 : ADD → Option (Int32 × ADD)) (L31 : Int32 → ADD → Option (Int32 × ADD)) (x1 : Int32) (D5 : ADD) : Option (Int32 × ADD) := (if (D5.1 2 10) ≤ x1 then j70 D5 else (if (400 : Int32) ≤ x1 then j70 D5 else aIn x1 400 (aBind (fX0_isSeen (D5.1 7 x1.toNatClampNeg) D5) (fun x2 D6 => aLet (fun (D7 : ADD) => aLet (x1 + (1 : Int32)) (fun x3 => L31 x3 D7)) (fun (j64 : ADD → Option (Int32 × ADD)) => (if x2 = 0 then j64 D6 else aBind (fX0_see x1 D6) (fun _ D8 => j64 D8)))))))
def fX0_lookFrom (a1 : Int32) (D : ADD) : Option (Int32 × ADD) := aLet (fun (D1 : ADD) => aLet (aSI D1 2 12 a1) (fun D2 => aLet (aSI D2 2 9 (0 : Int32)) (fun D3 => aLet (fun (D4 : ADD) => some ((1 : Int32), D4)) (fun (j70 : ADD → Option (Int32 × ADD)) => aLet (aFix aFuel (lX0_lookFrom_31 j70) (fun _ _ => none)) (fun j31 => j31 (0 : Int32) D3))))) (fun (j19 : ADD → Option (Int32 × ADD)) => (if a1 = (-1 : Int32) then j19 D else aLet (fun (D9 : ADD) => some ((0 : Int32), D9)) (fun (j17 : ADD → Option (Int32 × ADD)) => (if a1 < 0 then j17 D else (if a1 ≤ (D.1 2 11) then j19 D else j17 D)))))
set_option maxHeartbeats 4000000 in
set_option maxRecDepth 100000 in
theorem mX0_lookFrom (l : Launch) (g : AGl) (hL : aLX g) (a1 : Int32) (D : ADD) : AM aVi l yX0_lookFrom cX0_lookFrom 3 (some .boolean) 2 g [.ref (g.1 + 2), .int a1] D (fX0_lookFrom a1 D) := by
  refine AM_of (lv0 := [some (.ref (g.1 + 2)), some (.int a1), none]) (own := RX0) (by decide +kernel) rfl (Nat.le_of_ble_eq_true rfl) rfl (fun b hC => ?_)
  unfold fX0_lookFrom
  refine A_iload_n hC dX0_lookFrom_0 rfl ?_
  refine A_iconst (v := -1) hC dX0_lookFrom_1 (by decide) ?_
  refine A_join (fun (J : ADD → Option (Int32 × ADD)) => ∀ (D1 : ADD), AT aVi g b 19 [some (.ref (g.1 + 2)), some (.int a1), none] [] D1 (J D1)) (fun D1 => ?_) (fun j19 hj19 => ?_)
  · refine A_aload_n hC dX0_lookFrom_19 rfl ?_
    refine A_iload_n hC dX0_lookFrom_20 rfl ?_
    refine A_puti (kf := 12) hC kX0 (lX_2 hL) rfl (by decide) (by decide) rfl rfl rfl w_57 dX0_lookFrom_21 (fun D2 => ?_)
    refine A_aload_n hC dX0_lookFrom_24 rfl ?_
    refine A_iconst (v := 0) hC dX0_lookFrom_25 (by decide) ?_
    refine A_puti (kf := 9) hC kX0 (lX_2 hL) rfl (by decide) (by decide) rfl rfl rfl w_50 dX0_lookFrom_26 (fun D3 => ?_)
    refine A_iconst (v := 0) hC dX0_lookFrom_29 (by decide) ?_
    refine A_istore_n (lv2 := [some (.ref (g.1 + 2)), some (.int a1), some (.int (0 : Int32))]) hC dX0_lookFrom_30 (Nat.le_of_ble_eq_true rfl) rfl rfl ?_
    refine A_join (fun (J : ADD → Option (Int32 × ADD)) => ∀ (D4 : ADD), AT aVi g b 70 [none, none, none] [] D4 (J D4)) (fun D4 => ?_) (fun j70 hj70 => ?_)
    · refine A_iconst (v := 1) hC dX0_lookFrom_70 (by decide) ?_
      exact A_zret hC dX0_lookFrom_71 (Or.inr rfl)
    refine A_join (fun (J : Int32 → ADD → Option (Int32 × ADD)) => ∀ (x1 : Int32) (D5 : ADD), AT aVi g b 31 [some (.ref (g.1 + 2)), none, some (.int x1)] [] D5 (J x1 D5)) (aFix_all (fun (J : Int32 → ADD → Option (Int32 × ADD)) => ∀ (x1 : Int32) (D5 : ADD), AT aVi g b 31 [some (.ref (g.1 + 2)), none, some (.int x1)] [] D5 (J x1 D5)) (fun _ _ => A_none) (fun L31 hL31 x1 D5 => ?_) _) (fun j31 hj31 => ?_)
    · unfold lX0_lookFrom_31
      refine A_iload_n hC dX0_lookFrom_31 rfl ?_
      refine A_aload_n hC dX0_lookFrom_32 rfl ?_
      refine A_geti (kf := 10) hC kX0 (lX_2 hL) rfl (by decide) (by decide) rfl w_53 dX0_lookFrom_33 ?_
      refine A_icmp_ge (tgt := 70) hC dX0_lookFrom_36 (by decide) ?_ ?_
      · exact A_to (hj70 D5) (trivial)
      · refine A_iload_n hC dX0_lookFrom_39 rfl ?_
        refine A_sipush (v := 400) hC dX0_lookFrom_40 (by decide) ?_
        refine A_icmp_ge (tgt := 70) hC dX0_lookFrom_43 (by decide) ?_ ?_
        · exact A_to (hj70 D5) (trivial)
        · refine A_aload_n hC dX0_lookFrom_46 rfl ?_
          refine A_aload_n hC dX0_lookFrom_47 rfl ?_
          refine A_getr (kf := 4) hC kX0 (lX_2 hL) rfl (by decide) (by decide) rfl rfl w_45 dX0_lookFrom_48 ?_
          refine A_iload_n hC dX0_lookFrom_51 rfl ?_
          refine A_iald hC (lX_7 hL) dX0_lookFrom_52 ?_
          refine A_callVi (As := [.int (D5.1 7 x1.toNatClampNeg)]) (st := []) hC (fun l => mX0_isSeen l g hL (D5.1 7 x1.toNatClampNeg) D5) (lX_2 hL) rfl (Nat.le_of_ble_eq_true rfl) yc_X0_64 rfl rfl ⟨by decide, by decide⟩ (Nat.le_of_ble_eq_true rfl) rfl dX0_lookFrom_53 (fun x2 D6 => ?_)
          refine A_join (fun (J : ADD → Option (Int32 × ADD)) => ∀ (D7 : ADD), AT aVi g b 64 [some (.ref (g.1 + 2)), none, some (.int x1)] [] D7 (J D7)) (fun D7 => ?_) (fun j64 hj64 => ?_)
          · refine A_iincL (z := (1 : Int32)) (lv2 := fun x3 => [some (.ref (g.1 + 2)), none, some (.int x3)]) hC dX0_lookFrom_64 rfl (by decide) (Nat.le_of_ble_eq_true rfl) rfl (fun _ => rfl) (fun x3 => ?_)
            refine A_goto (tgt := 31) hC dX0_lookFrom_67 (by decide) ?_
            exact A_to (hL31 x3 D7) (And.intro rfl (And.intro rfl (trivial)))
          refine A_if_eq (tgt := 64) hC dX0_lookFrom_56 (by decide) ?_ ?_
          · exact A_to (hj64 D6) (And.intro rfl (And.intro rfl (trivial)))
          · refine A_aload_n hC dX0_lookFrom_59 rfl ?_
            refine A_iload_n hC dX0_lookFrom_60 rfl ?_
            refine A_callVv (As := [.int x1]) (st := []) hC (fun l => mX0_see l g hL x1 D6) (lX_2 hL) rfl (Nat.le_of_ble_eq_true rfl) yc_X0_68 rfl rfl ⟨by decide, by decide⟩ (Nat.le_of_ble_eq_true rfl) rfl dX0_lookFrom_61 (fun _ D8 => ?_)
            exact A_to (hj64 D8) (And.intro rfl (And.intro rfl (trivial)))
    exact A_to (hj31 (0 : Int32) D3) (And.intro rfl (And.intro rfl (trivial)))
  refine A_icmp_eq (tgt := 19) hC dX0_lookFrom_2 (by decide) ?_ ?_
  · exact A_to (hj19 D) (And.intro rfl (And.intro rfl (trivial)))
  · refine A_iload_n hC dX0_lookFrom_5 rfl ?_
    refine A_join (fun (J : ADD → Option (Int32 × ADD)) => ∀ (D9 : ADD), AT aVi g b 17 [none, none, none] [] D9 (J D9)) (fun D9 => ?_) (fun j17 hj17 => ?_)
    · refine A_iconst (v := 0) hC dX0_lookFrom_17 (by decide) ?_
      exact A_zret hC dX0_lookFrom_18 (Or.inl rfl)
    refine A_if_lt (tgt := 17) hC dX0_lookFrom_6 (by decide) ?_ ?_
    · exact A_to (hj17 D) (trivial)
    · refine A_iload_n hC dX0_lookFrom_9 rfl ?_
      refine A_aload_n hC dX0_lookFrom_10 rfl ?_
      refine A_geti (kf := 11) hC kX0 (lX_2 hL) rfl (by decide) (by decide) rfl w_55 dX0_lookFrom_11 ?_
      refine A_icmp_le (tgt := 19) hC dX0_lookFrom_14 (by decide) ?_ ?_
      · exact A_to (hj19 D) (And.intro rfl (And.intro rfl (trivial)))
      · exact A_to (hj17 D) (trivial)
def fX0_write (a1 : Int32) (a2 : Int32) (a3 : Int32) (D : ADD) : Option (Unit × ADD) := aLet (D.1 2 10) (fun x1 => aLet (fun (D1 : ADD) => some ((), D1)) (fun (j19 : ADD → Option (Unit × ADD)) => (if x1 < 0 then j19 D else (if x1 < (400 : Int32) then aIn x1 400 (aLet (aSI D 7 x1.toNatClampNeg (D.1 2 11)) (fun D2 => aIn x1 400 (aLet (aSI D2 8 x1.toNatClampNeg a1) (fun D3 => aIn x1 400 (aLet (aSI D3 9 x1.toNatClampNeg a2) (fun D4 => aIn x1 400 (aLet (aSI D4 10 x1.toNatClampNeg a3) (fun D5 => aLet (aSI D5 2 10 ((D5.1 2 10) + (1 : Int32))) (fun D6 => aBind (fX0_apply 3 x1 D6) (fun _ D7 => aBind (fX0_isSeen (D7.1 2 11) D7) (fun x2 D8 => aLet (fun (D9 : ADD) => some ((), D9)) (fun (j92 : ADD → Option (Unit × ADD)) => (if x2 = 0 then j92 D8 else aBind (fX0_see x1 D8) (fun _ D10 => j92 D10)))))))))))))) else j19 D))))
set_option maxHeartbeats 4000000 in
set_option maxRecDepth 100000 in
theorem mX0_write (l : Launch) (g : AGl) (hL : aLX g) (a1 : Int32) (a2 : Int32) (a3 : Int32) (D : ADD) : AM aVv l yX0_write cX0_write 5 none 2 g [.ref (g.1 + 2), .int a1, .int a2, .int a3] D (fX0_write a1 a2 a3 D) := by
  refine AM_of (lv0 := [some (.ref (g.1 + 2)), some (.int a1), some (.int a2), some (.int a3), none]) (own := RX0) (by decide +kernel) rfl (Nat.le_of_ble_eq_true rfl) rfl (fun b hC => ?_)
  unfold fX0_write
  refine A_aload_n hC dX0_write_0 rfl ?_
  refine A_geti (kf := 10) hC kX0 (lX_2 hL) rfl (by decide) (by decide) rfl w_53 dX0_write_1 ?_
  refine A_topi (fun x1 => ?_)
  refine A_istore (lv2 := [some (.ref (g.1 + 2)), some (.int a1), some (.int a2), some (.int a3), some (.int x1)]) hC dX0_write_4 (Nat.le_of_ble_eq_true rfl) rfl rfl ?_
  refine A_iload hC dX0_write_6 rfl ?_
  refine A_join (fun (J : ADD → Option (Unit × ADD)) => ∀ (D1 : ADD), AT aVv g b 19 [none, none, none, none, none] [] D1 (J D1)) (fun D1 => ?_) (fun j19 hj19 => ?_)
  · exact A_vret hC dX0_write_19
  refine A_if_lt (tgt := 19) hC dX0_write_8 (by decide) ?_ ?_
  · exact A_to (hj19 D) (trivial)
  · refine A_iload hC dX0_write_11 rfl ?_
    refine A_sipush (v := 400) hC dX0_write_13 (by decide) ?_
    refine A_icmp_lt (tgt := 20) hC dX0_write_16 (by decide) ?_ ?_
    · refine A_aload_n hC dX0_write_20 rfl ?_
      refine A_getr (kf := 4) hC kX0 (lX_2 hL) rfl (by decide) (by decide) rfl rfl w_45 dX0_write_21 ?_
      refine A_iload hC dX0_write_24 rfl ?_
      refine A_aload_n hC dX0_write_26 rfl ?_
      refine A_geti (kf := 11) hC kX0 (lX_2 hL) rfl (by decide) (by decide) rfl w_55 dX0_write_27 ?_
      refine A_iast hC (lX_7 hL) dX0_write_30 (fun D2 => ?_)
      refine A_aload_n hC dX0_write_31 rfl ?_
      refine A_getr (kf := 5) hC kX0 (lX_2 hL) rfl (by decide) (by decide) rfl rfl w_46 dX0_write_32 ?_
      refine A_iload hC dX0_write_35 rfl ?_
      refine A_iload_n hC dX0_write_37 rfl ?_
      refine A_iast hC (lX_8 hL) dX0_write_38 (fun D3 => ?_)
      refine A_aload_n hC dX0_write_39 rfl ?_
      refine A_getr (kf := 6) hC kX0 (lX_2 hL) rfl (by decide) (by decide) rfl rfl w_47 dX0_write_40 ?_
      refine A_iload hC dX0_write_43 rfl ?_
      refine A_iload_n hC dX0_write_45 rfl ?_
      refine A_iast hC (lX_9 hL) dX0_write_46 (fun D4 => ?_)
      refine A_aload_n hC dX0_write_47 rfl ?_
      refine A_getr (kf := 7) hC kX0 (lX_2 hL) rfl (by decide) (by decide) rfl rfl w_48 dX0_write_48 ?_
      refine A_iload hC dX0_write_51 rfl ?_
      refine A_iload_n hC dX0_write_53 rfl ?_
      refine A_iast hC (lX_10 hL) dX0_write_54 (fun D5 => ?_)
      refine A_aload_n hC dX0_write_55 rfl ?_
      refine A_dup hC dX0_write_56 rfl ?_
      refine A_geti (kf := 10) hC kX0 (lX_2 hL) rfl (by decide) (by decide) rfl w_53 dX0_write_57 ?_
      refine A_iconst (v := 1) hC dX0_write_60 (by decide) ?_
      refine A_iadd hC dX0_write_61 ?_
      refine A_puti (kf := 10) hC kX0 (lX_2 hL) rfl (by decide) (by decide) rfl rfl rfl w_53 dX0_write_62 (fun D6 => ?_)
      refine A_aload_n hC dX0_write_65 rfl ?_
      refine A_aload_n hC dX0_write_66 rfl ?_
      refine A_getr (kf := 0) hC kX0 (lX_2 hL) rfl (by decide) (by decide) rfl rfl w_41 dX0_write_67 ?_
      refine A_iload hC dX0_write_70 rfl ?_
      refine A_callVv (As := [.ref (g.1 + 3), .int x1]) (st := []) hC (fun l => mX0_apply l g hL 3 (lX_3 hL) x1 D6) (lX_2 hL) rfl (Nat.le_of_ble_eq_true rfl) yc_X0_85 rfl rfl ⟨by decide, by decide⟩ (Nat.le_of_ble_eq_true rfl) rfl dX0_write_72 (fun _ D7 => ?_)
      refine A_aload_n hC dX0_write_75 rfl ?_
      refine A_aload_n hC dX0_write_76 rfl ?_
      refine A_geti (kf := 11) hC kX0 (lX_2 hL) rfl (by decide) (by decide) rfl w_55 dX0_write_77 ?_
      refine A_callVi (As := [.int (D7.1 2 11)]) (st := []) hC (fun l => mX0_isSeen l g hL (D7.1 2 11) D7) (lX_2 hL) rfl (Nat.le_of_ble_eq_true rfl) yc_X0_64 rfl rfl ⟨by decide, by decide⟩ (Nat.le_of_ble_eq_true rfl) rfl dX0_write_80 (fun x2 D8 => ?_)
      refine A_join (fun (J : ADD → Option (Unit × ADD)) => ∀ (D9 : ADD), AT aVv g b 92 [none, none, none, none, none] [] D9 (J D9)) (fun D9 => ?_) (fun j92 hj92 => ?_)
      · exact A_vret hC dX0_write_92
      refine A_if_eq (tgt := 92) hC dX0_write_83 (by decide) ?_ ?_
      · exact A_to (hj92 D8) (trivial)
      · refine A_aload_n hC dX0_write_86 rfl ?_
        refine A_iload hC dX0_write_87 rfl ?_
        refine A_callVv (As := [.int x1]) (st := []) hC (fun l => mX0_see l g hL x1 D8) (lX_2 hL) rfl (Nat.le_of_ble_eq_true rfl) yc_X0_68 rfl rfl ⟨by decide, by decide⟩ (Nat.le_of_ble_eq_true rfl) rfl dX0_write_89 (fun _ D10 => ?_)
        exact A_to (hj92 D10) (trivial)
    · exact A_to (hj19 D) (trivial)
def fX11_again (a1 : Int32) (D : ADD) : Option (Int32 × ADD) := aLet (aSI D 0 0 (0 : Int32)) (fun D1 => aBind (fX11_is a1 (0 : Int32) (2 : Int32) D1) (fun x1 D2 => aLet (fun (D3 : ADD) => some ((0 : Int32), D3)) (fun (j23 : ADD → Option (Int32 × ADD)) => (if x1 = 0 then j23 D2 else aIn a1 3 ((if (aBz (D2.1 39 a1.toNatClampNeg)) = 0 then j23 D2 else aBind (fX11_copy (a1 + (1 : Int32)) (0 : Int32) D2) (fun _ D4 => some ((1 : Int32), D4))))))))
set_option maxHeartbeats 4000000 in
set_option maxRecDepth 100000 in
theorem mX11_again (l : Launch) (g : AGl) (hL : aLM g) (a1 : Int32) (D : ADD) : AM aVi l yX11_again cX11_again 2 (some .boolean) 2 g [.ref (g.1 + 0), .int a1] D (fX11_again a1 D) := by
  refine AM_of (lv0 := [some (.ref (g.1 + 0)), some (.int a1)]) (own := RX11) (by decide +kernel) rfl (Nat.le_of_ble_eq_true rfl) rfl (fun b hC => ?_)
  unfold fX11_again
  refine A_aload_n hC dX11_again_0 rfl ?_
  refine A_iconst (v := 0) hC dX11_again_1 (by decide) ?_
  refine A_puti (kf := 0) hC kX11 (lM_0 hL) rfl (by decide) (by decide) rfl rfl rfl w_1003 dX11_again_2 (fun D1 => ?_)
  refine A_iload_n hC dX11_again_5 rfl ?_
  refine A_iconst (v := 0) hC dX11_again_6 (by decide) ?_
  refine A_iconst (v := 2) hC dX11_again_7 (by decide) ?_
  refine A_callSi (As := [.int a1, .int (0 : Int32), .int (2 : Int32)]) (st := []) hC (fun l => mX11_is l g a1 (0 : Int32) (2 : Int32) D1) yc_X11_138 rfl rfl ⟨by decide, by decide⟩ (Nat.le_of_ble_eq_true rfl) rfl dX11_again_8 (fun x1 D2 => ?_)
  refine A_join (fun (J : ADD → Option (Int32 × ADD)) => ∀ (D3 : ADD), AT aVi g b 23 [none, none] [] D3 (J D3)) (fun D3 => ?_) (fun j23 hj23 => ?_)
  · refine A_iconst (v := 0) hC dX11_again_23 (by decide) ?_
    exact A_zret hC dX11_again_24 (Or.inl rfl)
  refine A_if_eq (tgt := 23) hC dX11_again_11 (by decide) ?_ ?_
  · exact A_to (hj23 D2) (trivial)
  · refine A_aload_n hC dX11_again_14 rfl ?_
    refine A_getr (kf := 50) hC kX11 (lM_0 hL) rfl (by decide) (by decide) rfl rfl w_1053 dX11_again_15 ?_
    refine A_iload_n hC dX11_again_18 rfl ?_
    refine A_zald hC (lM_39 hL) dX11_again_19 ?_
    refine A_if_ne (tgt := 25) hC dX11_again_20 (by decide) ?_ ?_
    · refine A_aload_n hC dX11_again_25 rfl ?_
      refine A_iload_n hC dX11_again_26 rfl ?_
      refine A_iconst (v := 1) hC dX11_again_27 (by decide) ?_
      refine A_iadd hC dX11_again_28 ?_
      refine A_iconst (v := 0) hC dX11_again_29 (by decide) ?_
      refine A_callVv (As := [.int (a1 + (1 : Int32)), .int (0 : Int32)]) (st := []) hC (fun l => mX11_copy l g hL (a1 + (1 : Int32)) (0 : Int32) D2) (lM_0 hL) rfl (Nat.le_of_ble_eq_true rfl) yc_X11_412 rfl rfl ⟨by decide, by decide⟩ (Nat.le_of_ble_eq_true rfl) rfl dX11_again_30 (fun _ D4 => ?_)
      refine A_iconst (v := 1) hC dX11_again_33 (by decide) ?_
      exact A_zret hC dX11_again_34 (Or.inr rfl)
    · exact A_to (hj23 D2) (trivial)
def fX11_areUnits (a1 : Int32) (a2 : Int32) (D : ADD) : Option (Int32 × ADD) := aBind (fX11_isUnit a1 D) (fun x1 D1 => aLet (fun (x2 : Int32) (D2 : ADD) => aZ x2 (some (x2, D2))) (fun (j32 : Int32 → ADD → Option (Int32 × ADD)) => aLet (fun (D3 : ADD) => j32 (0 : Int32) D3) (fun (j31 : ADD → Option (Int32 × ADD)) => (if x1 = 0 then j31 D1 else aBind (fX11_is a2 a1 (2000 : Int32) D1) (fun x3 D4 => (if x3 = 0 then j31 D4 else (if (300 : Int32) < (a2 - a1) then j31 D4 else j32 (1 : Int32) D4)))))))
set_option maxHeartbeats 4000000 in
set_option maxRecDepth 100000 in
theorem mX11_areUnits (l : Launch) (g : AGl) (a1 : Int32) (a2 : Int32) (D : ADD) : AM aVi l yX11_areUnits cX11_areUnits 2 (some .boolean) 2 g [.int a1, .int a2] D (fX11_areUnits a1 a2 D) := by
  refine AM_of (lv0 := [some (.int a1), some (.int a2)]) (own := RX11) (by decide +kernel) rfl (Nat.le_of_ble_eq_true rfl) rfl (fun b hC => ?_)
  unfold fX11_areUnits
  refine A_iload_n hC dX11_areUnits_0 rfl ?_
  refine A_callSi (As := [.int a1]) (st := []) hC (fun l => mX11_isUnit l g a1 D) yc_X11_314 rfl rfl ⟨by decide, by decide⟩ (Nat.le_of_ble_eq_true rfl) rfl dX11_areUnits_1 (fun x1 D1 => ?_)
  refine A_join (fun (J : Int32 → ADD → Option (Int32 × ADD)) => ∀ (x2 : Int32) (D2 : ADD), AT aVi g b 32 [none, none] [.int x2] D2 (J x2 D2)) (fun x2 D2 => ?_) (fun j32 hj32 => ?_)
  · exact A_zretc hC dX11_areUnits_32
  refine A_join (fun (J : ADD → Option (Int32 × ADD)) => ∀ (D3 : ADD), AT aVi g b 31 [none, none] [] D3 (J D3)) (fun D3 => ?_) (fun j31 hj31 => ?_)
  · refine A_iconst (v := 0) hC dX11_areUnits_31 (by decide) ?_
    exact A_to (hj32 (0 : Int32) D3) (trivial)
  refine A_if_eq (tgt := 31) hC dX11_areUnits_4 (by decide) ?_ ?_
  · exact A_to (hj31 D1) (trivial)
  · refine A_iload_n hC dX11_areUnits_7 rfl ?_
    refine A_iload_n hC dX11_areUnits_8 rfl ?_
    refine A_sipush (v := 2000) hC dX11_areUnits_9 (by decide) ?_
    refine A_callSi (As := [.int a2, .int a1, .int (2000 : Int32)]) (st := []) hC (fun l => mX11_is l g a2 a1 (2000 : Int32) D1) yc_X11_138 rfl rfl ⟨by decide, by decide⟩ (Nat.le_of_ble_eq_true rfl) rfl dX11_areUnits_12 (fun x3 D4 => ?_)
    refine A_if_eq (tgt := 31) hC dX11_areUnits_15 (by decide) ?_ ?_
    · exact A_to (hj31 D4) (trivial)
    · refine A_iload_n hC dX11_areUnits_18 rfl ?_
      refine A_iload_n hC dX11_areUnits_19 rfl ?_
      refine A_isub hC dX11_areUnits_20 ?_
      refine A_sipush (v := 300) hC dX11_areUnits_21 (by decide) ?_
      refine A_icmp_gt (tgt := 31) hC dX11_areUnits_24 (by decide) ?_ ?_
      · exact A_to (hj31 D4) (trivial)
      · refine A_iconst (v := 1) hC dX11_areUnits_27 (by decide) ?_
        refine A_goto (tgt := 32) hC dX11_areUnits_28 (by decide) ?_
        exact A_to (hj32 (1 : Int32) D4) (trivial)
def fX11_fact (a1 : Int32) (a2 : Int32) (D : ADD) : Option (Int32 × ADD) := aLet (aSI D 0 0 (0 : Int32)) (fun D1 => aBind (fX11_isStone a1 D1) (fun x1 D2 => aLet (fun (x2 : Int32) (D3 : ADD) => some (x2, D3)) (fun (j38 : Int32 → ADD → Option (Int32 × ADD)) => aLet (fun (D4 : ADD) => j38 (-100000 : Int32) D4) (fun (j36 : ADD → Option (Int32 × ADD)) => (if x1 = 0 then j36 D2 else aBind (fX11_is a2 (0 : Int32) (10 : Int32) D2) (fun x3 D5 => (if x3 = 0 then j36 D5 else aBind (fX11_dayOfView D5) (fun x4 D6 => aBind (fX11_factOn a1 a2 x4 D6) (fun x5 D7 => j38 x5 D7)))))))))
set_option maxHeartbeats 4000000 in
set_option maxRecDepth 100000 in
theorem mX11_fact (l : Launch) (g : AGl) (hL : aLM g) (a1 : Int32) (a2 : Int32) (D : ADD) : AM aVi l yX11_fact cX11_fact 3 (some .int) 2 g [.ref (g.1 + 0), .int a1, .int a2] D (fX11_fact a1 a2 D) := by
  refine AM_of (lv0 := [some (.ref (g.1 + 0)), some (.int a1), some (.int a2)]) (own := RX11) (by decide +kernel) rfl (Nat.le_of_ble_eq_true rfl) rfl (fun b hC => ?_)
  unfold fX11_fact
  refine A_aload_n hC dX11_fact_0 rfl ?_
  refine A_iconst (v := 0) hC dX11_fact_1 (by decide) ?_
  refine A_puti (kf := 0) hC kX11 (lM_0 hL) rfl (by decide) (by decide) rfl rfl rfl w_1003 dX11_fact_2 (fun D1 => ?_)
  refine A_aload_n hC dX11_fact_5 rfl ?_
  refine A_iload_n hC dX11_fact_6 rfl ?_
  refine A_callVi (As := [.int a1]) (st := []) hC (fun l => mX11_isStone l g hL a1 D1) (lM_0 hL) rfl (Nat.le_of_ble_eq_true rfl) yc_X11_157 rfl rfl ⟨by decide, by decide⟩ (Nat.le_of_ble_eq_true rfl) rfl dX11_fact_7 (fun x1 D2 => ?_)
  refine A_join (fun (J : Int32 → ADD → Option (Int32 × ADD)) => ∀ (x2 : Int32) (D3 : ADD), AT aVi g b 38 [none, none, none] [.int x2] D3 (J x2 D3)) (fun x2 D3 => ?_) (fun j38 hj38 => ?_)
  · exact A_iret hC dX11_fact_38
  refine A_join (fun (J : ADD → Option (Int32 × ADD)) => ∀ (D4 : ADD), AT aVi g b 36 [none, none, none] [] D4 (J D4)) (fun D4 => ?_) (fun j36 hj36 => ?_)
  · refine A_ldc hC dX11_fact_36 w_1200 ?_
    exact A_to (hj38 (-100000 : Int32) D4) (trivial)
  refine A_if_eq (tgt := 36) hC dX11_fact_10 (by decide) ?_ ?_
  · exact A_to (hj36 D2) (trivial)
  · refine A_iload_n hC dX11_fact_13 rfl ?_
    refine A_iconst (v := 0) hC dX11_fact_14 (by decide) ?_
    refine A_bipush (v := 10) hC dX11_fact_15 (by decide) ?_
    refine A_callSi (As := [.int a2, .int (0 : Int32), .int (10 : Int32)]) (st := []) hC (fun l => mX11_is l g a2 (0 : Int32) (10 : Int32) D2) yc_X11_138 rfl rfl ⟨by decide, by decide⟩ (Nat.le_of_ble_eq_true rfl) rfl dX11_fact_17 (fun x3 D5 => ?_)
    refine A_if_eq (tgt := 36) hC dX11_fact_20 (by decide) ?_ ?_
    · exact A_to (hj36 D5) (trivial)
    · refine A_aload_n hC dX11_fact_23 rfl ?_
      refine A_iload_n hC dX11_fact_24 rfl ?_
      refine A_iload_n hC dX11_fact_25 rfl ?_
      refine A_aload_n hC dX11_fact_26 rfl ?_
      refine A_callVi (As := []) (st := [.int a2, .int a1, .ref (g.1 + 0)]) hC (fun l => mX11_dayOfView l g hL D5) (lM_0 hL) rfl (Nat.le_of_ble_eq_true rfl) yc_X11_142 rfl rfl ⟨by decide, by decide⟩ (Nat.le_of_ble_eq_true rfl) rfl dX11_fact_27 (fun x4 D6 => ?_)
      refine A_callVi (As := [.int a1, .int a2, .int x4]) (st := []) hC (fun l => mX11_factOn l g hL a1 a2 x4 D6) (lM_0 hL) rfl (Nat.le_of_ble_eq_true rfl) yc_X11_150 rfl rfl ⟨by decide, by decide⟩ (Nat.le_of_ble_eq_true rfl) rfl dX11_fact_30 (fun x5 D7 => ?_)
      refine A_goto (tgt := 38) hC dX11_fact_33 (by decide) ?_
      exact A_to (hj38 x5 D7) (trivial)
def fX11_image (a1 : Int32) (D : ADD) : Option (Int32 × ADD) := aLet (aSI D 0 0 (0 : Int32)) (fun D1 => aBind (fX11_is a1 (0 : Int32) (2 : Int32) D1) (fun x1 D2 => (if x1 = 0 then some ((0 : Int32), D2) else aBind (fX11_copy (0 : Int32) (a1 + (1 : Int32)) D2) (fun _ D3 => aIn a1 3 (aLet (aSI D3 39 a1.toNatClampNeg (1 : Int32)) (fun D4 => some ((1 : Int32), D4)))))))
set_option maxHeartbeats 4000000 in
set_option maxRecDepth 100000 in
theorem mX11_image (l : Launch) (g : AGl) (hL : aLM g) (a1 : Int32) (D : ADD) : AM aVi l yX11_image cX11_image 2 (some .boolean) 2 g [.ref (g.1 + 0), .int a1] D (fX11_image a1 D) := by
  refine AM_of (lv0 := [some (.ref (g.1 + 0)), some (.int a1)]) (own := RX11) (by decide +kernel) rfl (Nat.le_of_ble_eq_true rfl) rfl (fun b hC => ?_)
  unfold fX11_image
  refine A_aload_n hC dX11_image_0 rfl ?_
  refine A_iconst (v := 0) hC dX11_image_1 (by decide) ?_
  refine A_puti (kf := 0) hC kX11 (lM_0 hL) rfl (by decide) (by decide) rfl rfl rfl w_1003 dX11_image_2 (fun D1 => ?_)
  refine A_iload_n hC dX11_image_5 rfl ?_
  refine A_iconst (v := 0) hC dX11_image_6 (by decide) ?_
  refine A_iconst (v := 2) hC dX11_image_7 (by decide) ?_
  refine A_callSi (As := [.int a1, .int (0 : Int32), .int (2 : Int32)]) (st := []) hC (fun l => mX11_is l g a1 (0 : Int32) (2 : Int32) D1) yc_X11_138 rfl rfl ⟨by decide, by decide⟩ (Nat.le_of_ble_eq_true rfl) rfl dX11_image_8 (fun x1 D2 => ?_)
  refine A_if_ne (tgt := 16) hC dX11_image_11 (by decide) ?_ ?_
  · refine A_aload_n hC dX11_image_16 rfl ?_
    refine A_iconst (v := 0) hC dX11_image_17 (by decide) ?_
    refine A_iload_n hC dX11_image_18 rfl ?_
    refine A_iconst (v := 1) hC dX11_image_19 (by decide) ?_
    refine A_iadd hC dX11_image_20 ?_
    refine A_callVv (As := [.int (0 : Int32), .int (a1 + (1 : Int32))]) (st := []) hC (fun l => mX11_copy l g hL (0 : Int32) (a1 + (1 : Int32)) D2) (lM_0 hL) rfl (Nat.le_of_ble_eq_true rfl) yc_X11_412 rfl rfl ⟨by decide, by decide⟩ (Nat.le_of_ble_eq_true rfl) rfl dX11_image_21 (fun _ D3 => ?_)
    refine A_aload_n hC dX11_image_24 rfl ?_
    refine A_getr (kf := 50) hC kX11 (lM_0 hL) rfl (by decide) (by decide) rfl rfl w_1053 dX11_image_25 ?_
    refine A_iload_n hC dX11_image_28 rfl ?_
    refine A_iconst (v := 1) hC dX11_image_29 (by decide) ?_
    refine A_zast hC (lM_39 hL) dX11_image_30 (fun D4 => ?_)
    refine A_iconst (v := 1) hC dX11_image_31 (by decide) ?_
    exact A_zret hC dX11_image_32 (Or.inr rfl)
  · refine A_iconst (v := 0) hC dX11_image_14 (by decide) ?_
    exact A_zret hC dX11_image_15 (Or.inl rfl)
def lX11_look_288 (j334 : ADD → Option (Unit × ADD)) (L288 : Int32 → ADD → Option (Unit × ADD)) (x2 : Int32) (D6 : ADD) : Option (Unit × ADD) := (if (D6.1 0 41) ≤ x2 then j334 D6 else aIn x2 32 (aLet (aSI D6 35 x2.toNatClampNeg (0 : Int32)) (fun D7 => aIn x2 32 (aLet (fun (D8 : ADD) => aLet (x2 + (1 : Int32)) (fun x3 => L288 x3 D8)) (fun (j328 : ADD → Option (Unit × ADD)) => (if (aBz (D7.1 31 x2.toNatClampNeg)) = 0 then j328 D7 else aBind (fX11_findSpan x2 D7) (fun _ D9 => aBind (fX11_isChosen x2 D9) (fun x4 D10 => aIn x2 32 (aLet (aSI D10 35 x2.toNatClampNeg x4) (fun D11 => j328 D11))))))))))
def lX11_look_203 (x1 : Int32) (j286 : ADD → Option (Unit × ADD)) (L203 : Int32 → ADD → Option (Unit × ADD)) (x5 : Int32) (D12 : ADD) : Option (Unit × ADD) := aIn (0 : Int32) 4 ((if (D12.1 8 (0 : Int32).toNatClampNeg) ≤ x5 then j286 D12 else aLet ((4 : Int32) * x5) (fun x6 => aIn x6 6400 (aLet (fun (D13 : ADD) => aLet (x5 + (1 : Int32)) (fun x7 => L203 x7 D13)) (fun (j280 : ADD → Option (Unit × ADD)) => (if x1 < (D12.1 9 x6.toNatClampNeg) then j280 D12 else aIn (x6 + (2 : Int32)) 6400 (aLet (fun (x8 : Int32) (D14 : ADD) => aIn (x6 + (1 : Int32)) 6400 (aIn (x6 + (3 : Int32)) 6400 (aIn (((11 : Int32) * (D14.1 9 (x6 + (1 : Int32)).toNatClampNeg)) + x8) 352 (aLet (aSI D14 32 (((11 : Int32) * (D14.1 9 (x6 + (1 : Int32)).toNatClampNeg)) + x8).toNatClampNeg (D14.1 9 (x6 + (3 : Int32)).toNatClampNeg)) (fun D15 => j280 D15))))) (fun (j251 : Int32 → ADD → Option (Unit × ADD)) => (if (D12.1 9 (x6 + (2 : Int32)).toNatClampNeg) = (-1 : Int32) then j251 (0 : Int32) D12 else aIn (x6 + (2 : Int32)) 6400 (j251 (D12.1 9 (x6 + (2 : Int32)).toNatClampNeg) D12))))))))))
def lX11_look_17 (x1 : Int32) (j201 : ADD → Option (Unit × ADD)) (L17 : Int32 → ADD → Option (Unit × ADD)) (x9 : Int32) (D16 : ADD) : Option (Unit × ADD) := (if (D16.1 0 41) ≤ x9 then j201 D16 else aIn ((3 : Int32) * x9) 384 (aLet (fun (x10 : Int32) (D17 : ADD) => aIn x9 32 (aLet (aSI D17 31 x9.toNatClampNeg x10) (fun D18 => aIn (((3 : Int32) * x9) + (1 : Int32)) 384 (aIn (((11 : Int32) * x9) + (1 : Int32)) 352 (aLet (aSI D18 32 (((11 : Int32) * x9) + (1 : Int32)).toNatClampNeg (D18.1 10 (((3 : Int32) * x9) + (1 : Int32)).toNatClampNeg)) (fun D19 => aIn (((3 : Int32) * x9) + (2 : Int32)) 384 (aIn (((11 : Int32) * x9) + (4 : Int32)) 352 (aLet (aSI D19 32 (((11 : Int32) * x9) + (4 : Int32)).toNatClampNeg (D19.1 10 (((3 : Int32) * x9) + (2 : Int32)).toNatClampNeg)) (fun D20 => aIn (((11 : Int32) * x9) + (2 : Int32)) 352 (aLet (aSI D20 32 (((11 : Int32) * x9) + (2 : Int32)).toNatClampNeg (0 : Int32)) (fun D21 => aIn (((11 : Int32) * x9) + (3 : Int32)) 352 (aLet (aSI D21 32 (((11 : Int32) * x9) + (3 : Int32)).toNatClampNeg (0 : Int32)) (fun D22 => aIn (((11 : Int32) * x9) + (5 : Int32)) 352 (aLet (aSI D22 32 (((11 : Int32) * x9) + (5 : Int32)).toNatClampNeg (-3000 : Int32)) (fun D23 => aIn (((11 : Int32) * x9) + (6 : Int32)) 352 (aLet (aSI D23 32 (((11 : Int32) * x9) + (6 : Int32)).toNatClampNeg (1900 : Int32)) (fun D24 => aIn (((11 : Int32) * x9) + (7 : Int32)) 352 (aLet (aSI D24 32 (((11 : Int32) * x9) + (7 : Int32)).toNatClampNeg (0 : Int32)) (fun D25 => aIn (((11 : Int32) * x9) + (8 : Int32)) 352 (aLet (aSI D25 32 (((11 : Int32) * x9) + (8 : Int32)).toNatClampNeg (0 : Int32)) (fun D26 => aIn (((11 : Int32) * x9) + (9 : Int32)) 352 (aLet (aSI D26 32 (((11 : Int32) * x9) + (9 : Int32)).toNatClampNeg (1 : Int32)) (fun D27 => aIn (((11 : Int32) * x9) + (10 : Int32)) 352 (aLet (aSI D27 32 (((11 : Int32) * x9) + (10 : Int32)).toNatClampNeg (0 : Int32)) (fun D28 => aLet (x9 + (1 : Int32)) (fun x11 => L17 x11 D28)))))))))))))))))))))))))) (fun (j47 : Int32 → ADD → Option (Unit × ADD)) => (if x1 < (D16.1 10 ((3 : Int32) * x9).toNatClampNeg) then j47 (0 : Int32) D16 else j47 (1 : Int32) D16))))
def fX11_look (D : ADD) : Option (Unit × ADD) := aBind (fX11_dayOfView D) (fun x1 D1 => aIn (0 : Int32) 4 (aLet (aSI D1 0 41 (D1.1 5 (0 : Int32).toNatClampNeg)) (fun D2 => aLet (fun (D3 : ADD) => aLet (fun (D4 : ADD) => aLet (fun (D5 : ADD) => some ((), D5)) (fun (j334 : ADD → Option (Unit × ADD)) => aLet (aFix aFuel (lX11_look_288 j334) (fun _ _ => none)) (fun j288 => j288 (0 : Int32) D4))) (fun (j286 : ADD → Option (Unit × ADD)) => aLet (aFix aFuel (lX11_look_203 x1 j286) (fun _ _ => none)) (fun j203 => j203 (0 : Int32) D3))) (fun (j201 : ADD → Option (Unit × ADD)) => aLet (aFix aFuel (lX11_look_17 x1 j201) (fun _ _ => none)) (fun j17 => j17 (0 : Int32) D2)))))
set_option maxHeartbeats 4000000 in
set_option maxRecDepth 100000 in
theorem mX11_look (l : Launch) (g : AGl) (hL : aLM g) (D : ADD) : AM aVv l yX11_look cX11_look 5 none 2 g [.ref (g.1 + 0)] D (fX11_look D) := by
  refine AM_of (lv0 := [some (.ref (g.1 + 0)), none, none, none, none]) (own := RX11) (by decide +kernel) rfl (Nat.le_of_ble_eq_true rfl) rfl (fun b hC => ?_)
  unfold fX11_look
  refine A_aload_n hC dX11_look_0 rfl ?_
  refine A_callVi (As := []) (st := []) hC (fun l => mX11_dayOfView l g hL D) (lM_0 hL) rfl (Nat.le_of_ble_eq_true rfl) yc_X11_142 rfl rfl ⟨by decide, by decide⟩ (Nat.le_of_ble_eq_true rfl) rfl dX11_look_1 (fun x1 D1 => ?_)
  refine A_istore_n (lv2 := [some (.ref (g.1 + 0)), some (.int x1), none, none, none]) hC dX11_look_4 (Nat.le_of_ble_eq_true rfl) rfl rfl ?_
  refine A_aload_n hC dX11_look_5 rfl ?_
  refine A_aload_n hC dX11_look_6 rfl ?_
  refine A_getr (kf := 5) hC kX11 (lM_0 hL) rfl (by decide) (by decide) rfl rfl w_1008 dX11_look_7 ?_
  refine A_iconst (v := 0) hC dX11_look_10 (by decide) ?_
  refine A_iald hC (lM_5 hL) dX11_look_11 ?_
  refine A_puti (kf := 41) hC kX11 (lM_0 hL) rfl (by decide) (by decide) rfl rfl rfl w_1044 dX11_look_12 (fun D2 => ?_)
  refine A_iconst (v := 0) hC dX11_look_15 (by decide) ?_
  refine A_istore_n (lv2 := [some (.ref (g.1 + 0)), some (.int x1), some (.int (0 : Int32)), none, none]) hC dX11_look_16 (Nat.le_of_ble_eq_true rfl) rfl rfl ?_
  refine A_join (fun (J : ADD → Option (Unit × ADD)) => ∀ (D3 : ADD), AT aVv g b 201 [some (.ref (g.1 + 0)), some (.int x1), none, none, none] [] D3 (J D3)) (fun D3 => ?_) (fun j201 hj201 => ?_)
  · refine A_iconst (v := 0) hC dX11_look_201 (by decide) ?_
    refine A_istore_n (lv2 := [some (.ref (g.1 + 0)), some (.int x1), some (.int (0 : Int32)), none, none]) hC dX11_look_202 (Nat.le_of_ble_eq_true rfl) rfl rfl ?_
    refine A_join (fun (J : ADD → Option (Unit × ADD)) => ∀ (D4 : ADD), AT aVv g b 286 [some (.ref (g.1 + 0)), none, none, none, none] [] D4 (J D4)) (fun D4 => ?_) (fun j286 hj286 => ?_)
    · refine A_iconst (v := 0) hC dX11_look_286 (by decide) ?_
      refine A_istore_n (lv2 := [some (.ref (g.1 + 0)), none, some (.int (0 : Int32)), none, none]) hC dX11_look_287 (Nat.le_of_ble_eq_true rfl) rfl rfl ?_
      refine A_join (fun (J : ADD → Option (Unit × ADD)) => ∀ (D5 : ADD), AT aVv g b 334 [none, none, none, none, none] [] D5 (J D5)) (fun D5 => ?_) (fun j334 hj334 => ?_)
      · exact A_vret hC dX11_look_334
      refine A_join (fun (J : Int32 → ADD → Option (Unit × ADD)) => ∀ (x2 : Int32) (D6 : ADD), AT aVv g b 288 [some (.ref (g.1 + 0)), none, some (.int x2), none, none] [] D6 (J x2 D6)) (aFix_all (fun (J : Int32 → ADD → Option (Unit × ADD)) => ∀ (x2 : Int32) (D6 : ADD), AT aVv g b 288 [some (.ref (g.1 + 0)), none, some (.int x2), none, none] [] D6 (J x2 D6)) (fun _ _ => A_none) (fun L288 hL288 x2 D6 => ?_) _) (fun j288 hj288 => ?_)
      · unfold lX11_look_288
        refine A_iload_n hC dX11_look_288 rfl ?_
        refine A_aload_n hC dX11_look_289 rfl ?_
        refine A_geti (kf := 41) hC kX11 (lM_0 hL) rfl (by decide) (by decide) rfl w_1044 dX11_look_290 ?_
        refine A_icmp_ge (tgt := 334) hC dX11_look_293 (by decide) ?_ ?_
        · exact A_to (hj334 D6) (trivial)
        · refine A_aload_n hC dX11_look_296 rfl ?_
          refine A_getr (kf := 46) hC kX11 (lM_0 hL) rfl (by decide) (by decide) rfl rfl w_1049 dX11_look_297 ?_
          refine A_iload_n hC dX11_look_300 rfl ?_
          refine A_iconst (v := 0) hC dX11_look_301 (by decide) ?_
          refine A_zast hC (lM_35 hL) dX11_look_302 (fun D7 => ?_)
          refine A_aload_n hC dX11_look_303 rfl ?_
          refine A_getr (kf := 42) hC kX11 (lM_0 hL) rfl (by decide) (by decide) rfl rfl w_1045 dX11_look_304 ?_
          refine A_iload_n hC dX11_look_307 rfl ?_
          refine A_zald hC (lM_31 hL) dX11_look_308 ?_
          refine A_join (fun (J : ADD → Option (Unit × ADD)) => ∀ (D8 : ADD), AT aVv g b 328 [some (.ref (g.1 + 0)), none, some (.int x2), none, none] [] D8 (J D8)) (fun D8 => ?_) (fun j328 hj328 => ?_)
          · refine A_iincL (z := (1 : Int32)) (lv2 := fun x3 => [some (.ref (g.1 + 0)), none, some (.int x3), none, none]) hC dX11_look_328 rfl (by decide) (Nat.le_of_ble_eq_true rfl) rfl (fun _ => rfl) (fun x3 => ?_)
            refine A_goto (tgt := 288) hC dX11_look_331 (by decide) ?_
            exact A_to (hL288 x3 D8) (And.intro rfl (And.intro rfl (trivial)))
          refine A_if_eq (tgt := 328) hC dX11_look_309 (by decide) ?_ ?_
          · exact A_to (hj328 D7) (And.intro rfl (And.intro rfl (trivial)))
          · refine A_aload_n hC dX11_look_312 rfl ?_
            refine A_iload_n hC dX11_look_313 rfl ?_
            refine A_callVv (As := [.int x2]) (st := []) hC (fun l => mX11_findSpan l g hL x2 D7) (lM_0 hL) rfl (Nat.le_of_ble_eq_true rfl) yc_X11_305 rfl rfl ⟨by decide, by decide⟩ (Nat.le_of_ble_eq_true rfl) rfl dX11_look_314 (fun _ D9 => ?_)
            refine A_aload_n hC dX11_look_317 rfl ?_
            refine A_getr (kf := 46) hC kX11 (lM_0 hL) rfl (by decide) (by decide) rfl rfl w_1049 dX11_look_318 ?_
            refine A_iload_n hC dX11_look_321 rfl ?_
            refine A_aload_n hC dX11_look_322 rfl ?_
            refine A_iload_n hC dX11_look_323 rfl ?_
            refine A_callVi (As := [.int x2]) (st := [.int x2, .ref (g.1 + 35)]) hC (fun l => mX11_isChosen l g hL x2 D9) (lM_0 hL) rfl (Nat.le_of_ble_eq_true rfl) yc_X11_308 rfl rfl ⟨by decide, by decide⟩ (Nat.le_of_ble_eq_true rfl) rfl dX11_look_324 (fun x4 D10 => ?_)
            refine A_zast hC (lM_35 hL) dX11_look_327 (fun D11 => ?_)
            exact A_to (hj328 D11) (And.intro rfl (And.intro rfl (trivial)))
      exact A_to (hj288 (0 : Int32) D4) (And.intro rfl (And.intro rfl (trivial)))
    refine A_join (fun (J : Int32 → ADD → Option (Unit × ADD)) => ∀ (x5 : Int32) (D12 : ADD), AT aVv g b 203 [some (.ref (g.1 + 0)), some (.int x1), some (.int x5), none, none] [] D12 (J x5 D12)) (aFix_all (fun (J : Int32 → ADD → Option (Unit × ADD)) => ∀ (x5 : Int32) (D12 : ADD), AT aVv g b 203 [some (.ref (g.1 + 0)), some (.int x1), some (.int x5), none, none] [] D12 (J x5 D12)) (fun _ _ => A_none) (fun L203 hL203 x5 D12 => ?_) _) (fun j203 hj203 => ?_)
    · unfold lX11_look_203
      refine A_iload_n hC dX11_look_203 rfl ?_
      refine A_aload_n hC dX11_look_204 rfl ?_
      refine A_getr (kf := 8) hC kX11 (lM_0 hL) rfl (by decide) (by decide) rfl rfl w_1011 dX11_look_205 ?_
      refine A_iconst (v := 0) hC dX11_look_208 (by decide) ?_
      refine A_iald hC (lM_8 hL) dX11_look_209 ?_
      refine A_icmp_ge (tgt := 286) hC dX11_look_210 (by decide) ?_ ?_
      · exact A_to (hj286 D12) (And.intro rfl (trivial))
      · refine A_iconst (v := 4) hC dX11_look_213 (by decide) ?_
        refine A_iload_n hC dX11_look_214 rfl ?_
        refine A_imul hC dX11_look_215 ?_
        refine A_topi (fun x6 => ?_)
        refine A_istore_n (lv2 := [some (.ref (g.1 + 0)), some (.int x1), some (.int x5), some (.int x6), none]) hC dX11_look_216 (Nat.le_of_ble_eq_true rfl) rfl rfl ?_
        refine A_aload_n hC dX11_look_217 rfl ?_
        refine A_getr (kf := 9) hC kX11 (lM_0 hL) rfl (by decide) (by decide) rfl rfl w_1012 dX11_look_218 ?_
        refine A_iload_n hC dX11_look_221 rfl ?_
        refine A_iald hC (lM_9 hL) dX11_look_222 ?_
        refine A_iload_n hC dX11_look_223 rfl ?_
        refine A_join (fun (J : ADD → Option (Unit × ADD)) => ∀ (D13 : ADD), AT aVv g b 280 [some (.ref (g.1 + 0)), some (.int x1), some (.int x5), none, none] [] D13 (J D13)) (fun D13 => ?_) (fun j280 hj280 => ?_)
        · refine A_iincL (z := (1 : Int32)) (lv2 := fun x7 => [some (.ref (g.1 + 0)), some (.int x1), some (.int x7), none, none]) hC dX11_look_280 rfl (by decide) (Nat.le_of_ble_eq_true rfl) rfl (fun _ => rfl) (fun x7 => ?_)
          refine A_goto (tgt := 203) hC dX11_look_283 (by decide) ?_
          exact A_to (hL203 x7 D13) (And.intro rfl (And.intro rfl (And.intro rfl (trivial))))
        refine A_icmp_gt (tgt := 280) hC dX11_look_224 (by decide) ?_ ?_
        · exact A_to (hj280 D12) (And.intro rfl (And.intro rfl (And.intro rfl (trivial))))
        · refine A_aload_n hC dX11_look_227 rfl ?_
          refine A_getr (kf := 9) hC kX11 (lM_0 hL) rfl (by decide) (by decide) rfl rfl w_1012 dX11_look_228 ?_
          refine A_iload_n hC dX11_look_231 rfl ?_
          refine A_iconst (v := 2) hC dX11_look_232 (by decide) ?_
          refine A_iadd hC dX11_look_233 ?_
          refine A_iald hC (lM_9 hL) dX11_look_234 ?_
          refine A_iconst (v := -1) hC dX11_look_235 (by decide) ?_
          refine A_join (fun (J : Int32 → ADD → Option (Unit × ADD)) => ∀ (x8 : Int32) (D14 : ADD), AT aVv g b 251 [some (.ref (g.1 + 0)), some (.int x1), some (.int x5), some (.int x6), none] [.int x8] D14 (J x8 D14)) (fun x8 D14 => ?_) (fun j251 hj251 => ?_)
          · refine A_istore (lv2 := [some (.ref (g.1 + 0)), some (.int x1), some (.int x5), some (.int x6), some (.int x8)]) hC dX11_look_251 (Nat.le_of_ble_eq_true rfl) rfl rfl ?_
            refine A_aload_n hC dX11_look_253 rfl ?_
            refine A_getr (kf := 43) hC kX11 (lM_0 hL) rfl (by decide) (by decide) rfl rfl w_1046 dX11_look_254 ?_
            refine A_bipush (v := 11) hC dX11_look_257 (by decide) ?_
            refine A_aload_n hC dX11_look_259 rfl ?_
            refine A_getr (kf := 9) hC kX11 (lM_0 hL) rfl (by decide) (by decide) rfl rfl w_1012 dX11_look_260 ?_
            refine A_iload_n hC dX11_look_263 rfl ?_
            refine A_iconst (v := 1) hC dX11_look_264 (by decide) ?_
            refine A_iadd hC dX11_look_265 ?_
            refine A_iald hC (lM_9 hL) dX11_look_266 ?_
            refine A_imul hC dX11_look_267 ?_
            refine A_iload hC dX11_look_268 rfl ?_
            refine A_iadd hC dX11_look_270 ?_
            refine A_aload_n hC dX11_look_271 rfl ?_
            refine A_getr (kf := 9) hC kX11 (lM_0 hL) rfl (by decide) (by decide) rfl rfl w_1012 dX11_look_272 ?_
            refine A_iload_n hC dX11_look_275 rfl ?_
            refine A_iconst (v := 3) hC dX11_look_276 (by decide) ?_
            refine A_iadd hC dX11_look_277 ?_
            refine A_iald hC (lM_9 hL) dX11_look_278 ?_
            refine A_iast hC (lM_32 hL) dX11_look_279 (fun D15 => ?_)
            exact A_to (hj280 D15) (And.intro rfl (And.intro rfl (And.intro rfl (trivial))))
          refine A_icmp_ne (tgt := 243) hC dX11_look_236 (by decide) ?_ ?_
          · refine A_aload_n hC dX11_look_243 rfl ?_
            refine A_getr (kf := 9) hC kX11 (lM_0 hL) rfl (by decide) (by decide) rfl rfl w_1012 dX11_look_244 ?_
            refine A_iload_n hC dX11_look_247 rfl ?_
            refine A_iconst (v := 2) hC dX11_look_248 (by decide) ?_
            refine A_iadd hC dX11_look_249 ?_
            refine A_iald hC (lM_9 hL) dX11_look_250 ?_
            exact A_to (hj251 (D12.1 9 (x6 + (2 : Int32)).toNatClampNeg) D12) (And.intro rfl (And.intro rfl (And.intro rfl (And.intro rfl (trivial)))))
          · refine A_iconst (v := 0) hC dX11_look_239 (by decide) ?_
            refine A_goto (tgt := 251) hC dX11_look_240 (by decide) ?_
            exact A_to (hj251 (0 : Int32) D12) (And.intro rfl (And.intro rfl (And.intro rfl (And.intro rfl (trivial)))))
    exact A_to (hj203 (0 : Int32) D3) (And.intro rfl (And.intro rfl (And.intro rfl (trivial))))
  refine A_join (fun (J : Int32 → ADD → Option (Unit × ADD)) => ∀ (x9 : Int32) (D16 : ADD), AT aVv g b 17 [some (.ref (g.1 + 0)), some (.int x1), some (.int x9), none, none] [] D16 (J x9 D16)) (aFix_all (fun (J : Int32 → ADD → Option (Unit × ADD)) => ∀ (x9 : Int32) (D16 : ADD), AT aVv g b 17 [some (.ref (g.1 + 0)), some (.int x1), some (.int x9), none, none] [] D16 (J x9 D16)) (fun _ _ => A_none) (fun L17 hL17 x9 D16 => ?_) _) (fun j17 hj17 => ?_)
  · unfold lX11_look_17
    refine A_iload_n hC dX11_look_17 rfl ?_
    refine A_aload_n hC dX11_look_18 rfl ?_
    refine A_geti (kf := 41) hC kX11 (lM_0 hL) rfl (by decide) (by decide) rfl w_1044 dX11_look_19 ?_
    refine A_icmp_ge (tgt := 201) hC dX11_look_22 (by decide) ?_ ?_
    · exact A_to (hj201 D16) (And.intro rfl (And.intro rfl (trivial)))
    · refine A_aload_n hC dX11_look_25 rfl ?_
      refine A_getr (kf := 42) hC kX11 (lM_0 hL) rfl (by decide) (by decide) rfl rfl w_1045 dX11_look_26 ?_
      refine A_iload_n hC dX11_look_29 rfl ?_
      refine A_aload_n hC dX11_look_30 rfl ?_
      refine A_getr (kf := 10) hC kX11 (lM_0 hL) rfl (by decide) (by decide) rfl rfl w_1013 dX11_look_31 ?_
      refine A_iconst (v := 3) hC dX11_look_34 (by decide) ?_
      refine A_iload_n hC dX11_look_35 rfl ?_
      refine A_imul hC dX11_look_36 ?_
      refine A_iald hC (lM_10 hL) dX11_look_37 ?_
      refine A_iload_n hC dX11_look_38 rfl ?_
      refine A_join (fun (J : Int32 → ADD → Option (Unit × ADD)) => ∀ (x10 : Int32) (D17 : ADD), AT aVv g b 47 [some (.ref (g.1 + 0)), some (.int x1), some (.int x9), none, none] [.int x10, .int x9, .ref (g.1 + 31)] D17 (J x10 D17)) (fun x10 D17 => ?_) (fun j47 hj47 => ?_)
      · refine A_zast hC (lM_31 hL) dX11_look_47 (fun D18 => ?_)
        refine A_aload_n hC dX11_look_48 rfl ?_
        refine A_getr (kf := 43) hC kX11 (lM_0 hL) rfl (by decide) (by decide) rfl rfl w_1046 dX11_look_49 ?_
        refine A_bipush (v := 11) hC dX11_look_52 (by decide) ?_
        refine A_iload_n hC dX11_look_54 rfl ?_
        refine A_imul hC dX11_look_55 ?_
        refine A_iconst (v := 1) hC dX11_look_56 (by decide) ?_
        refine A_iadd hC dX11_look_57 ?_
        refine A_aload_n hC dX11_look_58 rfl ?_
        refine A_getr (kf := 10) hC kX11 (lM_0 hL) rfl (by decide) (by decide) rfl rfl w_1013 dX11_look_59 ?_
        refine A_iconst (v := 3) hC dX11_look_62 (by decide) ?_
        refine A_iload_n hC dX11_look_63 rfl ?_
        refine A_imul hC dX11_look_64 ?_
        refine A_iconst (v := 1) hC dX11_look_65 (by decide) ?_
        refine A_iadd hC dX11_look_66 ?_
        refine A_iald hC (lM_10 hL) dX11_look_67 ?_
        refine A_iast hC (lM_32 hL) dX11_look_68 (fun D19 => ?_)
        refine A_aload_n hC dX11_look_69 rfl ?_
        refine A_getr (kf := 43) hC kX11 (lM_0 hL) rfl (by decide) (by decide) rfl rfl w_1046 dX11_look_70 ?_
        refine A_bipush (v := 11) hC dX11_look_73 (by decide) ?_
        refine A_iload_n hC dX11_look_75 rfl ?_
        refine A_imul hC dX11_look_76 ?_
        refine A_iconst (v := 4) hC dX11_look_77 (by decide) ?_
        refine A_iadd hC dX11_look_78 ?_
        refine A_aload_n hC dX11_look_79 rfl ?_
        refine A_getr (kf := 10) hC kX11 (lM_0 hL) rfl (by decide) (by decide) rfl rfl w_1013 dX11_look_80 ?_
        refine A_iconst (v := 3) hC dX11_look_83 (by decide) ?_
        refine A_iload_n hC dX11_look_84 rfl ?_
        refine A_imul hC dX11_look_85 ?_
        refine A_iconst (v := 2) hC dX11_look_86 (by decide) ?_
        refine A_iadd hC dX11_look_87 ?_
        refine A_iald hC (lM_10 hL) dX11_look_88 ?_
        refine A_iast hC (lM_32 hL) dX11_look_89 (fun D20 => ?_)
        refine A_aload_n hC dX11_look_90 rfl ?_
        refine A_getr (kf := 43) hC kX11 (lM_0 hL) rfl (by decide) (by decide) rfl rfl w_1046 dX11_look_91 ?_
        refine A_bipush (v := 11) hC dX11_look_94 (by decide) ?_
        refine A_iload_n hC dX11_look_96 rfl ?_
        refine A_imul hC dX11_look_97 ?_
        refine A_iconst (v := 2) hC dX11_look_98 (by decide) ?_
        refine A_iadd hC dX11_look_99 ?_
        refine A_iconst (v := 0) hC dX11_look_100 (by decide) ?_
        refine A_iast hC (lM_32 hL) dX11_look_101 (fun D21 => ?_)
        refine A_aload_n hC dX11_look_102 rfl ?_
        refine A_getr (kf := 43) hC kX11 (lM_0 hL) rfl (by decide) (by decide) rfl rfl w_1046 dX11_look_103 ?_
        refine A_bipush (v := 11) hC dX11_look_106 (by decide) ?_
        refine A_iload_n hC dX11_look_108 rfl ?_
        refine A_imul hC dX11_look_109 ?_
        refine A_iconst (v := 3) hC dX11_look_110 (by decide) ?_
        refine A_iadd hC dX11_look_111 ?_
        refine A_iconst (v := 0) hC dX11_look_112 (by decide) ?_
        refine A_iast hC (lM_32 hL) dX11_look_113 (fun D22 => ?_)
        refine A_aload_n hC dX11_look_114 rfl ?_
        refine A_getr (kf := 43) hC kX11 (lM_0 hL) rfl (by decide) (by decide) rfl rfl w_1046 dX11_look_115 ?_
        refine A_bipush (v := 11) hC dX11_look_118 (by decide) ?_
        refine A_iload_n hC dX11_look_120 rfl ?_
        refine A_imul hC dX11_look_121 ?_
        refine A_iconst (v := 5) hC dX11_look_122 (by decide) ?_
        refine A_iadd hC dX11_look_123 ?_
        refine A_sipush (v := -3000) hC dX11_look_124 (by decide) ?_
        refine A_iast hC (lM_32 hL) dX11_look_127 (fun D23 => ?_)
        refine A_aload_n hC dX11_look_128 rfl ?_
        refine A_getr (kf := 43) hC kX11 (lM_0 hL) rfl (by decide) (by decide) rfl rfl w_1046 dX11_look_129 ?_
        refine A_bipush (v := 11) hC dX11_look_132 (by decide) ?_
        refine A_iload_n hC dX11_look_134 rfl ?_
        refine A_imul hC dX11_look_135 ?_
        refine A_bipush (v := 6) hC dX11_look_136 (by decide) ?_
        refine A_iadd hC dX11_look_138 ?_
        refine A_sipush (v := 1900) hC dX11_look_139 (by decide) ?_
        refine A_iast hC (lM_32 hL) dX11_look_142 (fun D24 => ?_)
        refine A_aload_n hC dX11_look_143 rfl ?_
        refine A_getr (kf := 43) hC kX11 (lM_0 hL) rfl (by decide) (by decide) rfl rfl w_1046 dX11_look_144 ?_
        refine A_bipush (v := 11) hC dX11_look_147 (by decide) ?_
        refine A_iload_n hC dX11_look_149 rfl ?_
        refine A_imul hC dX11_look_150 ?_
        refine A_bipush (v := 7) hC dX11_look_151 (by decide) ?_
        refine A_iadd hC dX11_look_153 ?_
        refine A_iconst (v := 0) hC dX11_look_154 (by decide) ?_
        refine A_iast hC (lM_32 hL) dX11_look_155 (fun D25 => ?_)
        refine A_aload_n hC dX11_look_156 rfl ?_
        refine A_getr (kf := 43) hC kX11 (lM_0 hL) rfl (by decide) (by decide) rfl rfl w_1046 dX11_look_157 ?_
        refine A_bipush (v := 11) hC dX11_look_160 (by decide) ?_
        refine A_iload_n hC dX11_look_162 rfl ?_
        refine A_imul hC dX11_look_163 ?_
        refine A_bipush (v := 8) hC dX11_look_164 (by decide) ?_
        refine A_iadd hC dX11_look_166 ?_
        refine A_iconst (v := 0) hC dX11_look_167 (by decide) ?_
        refine A_iast hC (lM_32 hL) dX11_look_168 (fun D26 => ?_)
        refine A_aload_n hC dX11_look_169 rfl ?_
        refine A_getr (kf := 43) hC kX11 (lM_0 hL) rfl (by decide) (by decide) rfl rfl w_1046 dX11_look_170 ?_
        refine A_bipush (v := 11) hC dX11_look_173 (by decide) ?_
        refine A_iload_n hC dX11_look_175 rfl ?_
        refine A_imul hC dX11_look_176 ?_
        refine A_bipush (v := 9) hC dX11_look_177 (by decide) ?_
        refine A_iadd hC dX11_look_179 ?_
        refine A_iconst (v := 1) hC dX11_look_180 (by decide) ?_
        refine A_iast hC (lM_32 hL) dX11_look_181 (fun D27 => ?_)
        refine A_aload_n hC dX11_look_182 rfl ?_
        refine A_getr (kf := 43) hC kX11 (lM_0 hL) rfl (by decide) (by decide) rfl rfl w_1046 dX11_look_183 ?_
        refine A_bipush (v := 11) hC dX11_look_186 (by decide) ?_
        refine A_iload_n hC dX11_look_188 rfl ?_
        refine A_imul hC dX11_look_189 ?_
        refine A_bipush (v := 10) hC dX11_look_190 (by decide) ?_
        refine A_iadd hC dX11_look_192 ?_
        refine A_iconst (v := 0) hC dX11_look_193 (by decide) ?_
        refine A_iast hC (lM_32 hL) dX11_look_194 (fun D28 => ?_)
        refine A_iincL (z := (1 : Int32)) (lv2 := fun x11 => [some (.ref (g.1 + 0)), some (.int x1), some (.int x11), none, none]) hC dX11_look_195 rfl (by decide) (Nat.le_of_ble_eq_true rfl) rfl (fun _ => rfl) (fun x11 => ?_)
        refine A_goto (tgt := 17) hC dX11_look_198 (by decide) ?_
        exact A_to (hL17 x11 D28) (And.intro rfl (And.intro rfl (And.intro rfl (trivial))))
      refine A_icmp_gt (tgt := 46) hC dX11_look_39 (by decide) ?_ ?_
      · refine A_iconst (v := 0) hC dX11_look_46 (by decide) ?_
        exact A_to (hj47 (0 : Int32) D16) (And.intro rfl (And.intro rfl (And.intro rfl (trivial))))
      · refine A_iconst (v := 1) hC dX11_look_42 (by decide) ?_
        refine A_goto (tgt := 47) hC dX11_look_43 (by decide) ?_
        exact A_to (hj47 (1 : Int32) D16) (And.intro rfl (And.intro rfl (And.intro rfl (trivial))))
  exact A_to (hj17 (0 : Int32) D2) (And.intro rfl (And.intro rfl (And.intro rfl (trivial))))
def fX11_need (a1 : Int32) (D : ADD) : Option (Int32 × ADD) := aBind (fX11_isSign a1 D) (fun x1 D1 => (if x1 = 0 then aBind (fX11_wrong D1) (fun x2 D3 => aZ x2 (some (x2, D3))) else aBind (fX11_next D1) (fun _ D2 => some ((1 : Int32), D2))))
set_option maxHeartbeats 4000000 in
set_option maxRecDepth 100000 in
theorem mX11_need (l : Launch) (g : AGl) (hL : aLM g) (a1 : Int32) (D : ADD) : AM aVi l yX11_need cX11_need 2 (some .boolean) 2 g [.ref (g.1 + 0), .int a1] D (fX11_need a1 D) := by
  refine AM_of (lv0 := [some (.ref (g.1 + 0)), some (.int a1)]) (own := RX11) (by decide +kernel) rfl (Nat.le_of_ble_eq_true rfl) rfl (fun b hC => ?_)
  unfold fX11_need
  refine A_aload_n hC dX11_need_0 rfl ?_
  refine A_iload_n hC dX11_need_1 rfl ?_
  refine A_callVi (As := [.int a1]) (st := []) hC (fun l => mX11_isSign l g hL a1 D) (lM_0 hL) rfl (Nat.le_of_ble_eq_true rfl) yc_X11_197 rfl rfl ⟨by decide, by decide⟩ (Nat.le_of_ble_eq_true rfl) rfl dX11_need_2 (fun x1 D1 => ?_)
  refine A_if_ne (tgt := 13) hC dX11_need_5 (by decide) ?_ ?_
  · refine A_aload_n hC dX11_need_13 rfl ?_
    refine A_callVv (As := []) (st := []) hC (fun l => mX11_next l g hL D1) (lM_0 hL) rfl (Nat.le_of_ble_eq_true rfl) yc_X11_204 rfl rfl ⟨by decide, by decide⟩ (Nat.le_of_ble_eq_true rfl) rfl dX11_need_14 (fun _ D2 => ?_)
    refine A_iconst (v := 1) hC dX11_need_17 (by decide) ?_
    exact A_zret hC dX11_need_18 (Or.inr rfl)
  · refine A_aload_n hC dX11_need_8 rfl ?_
    refine A_callVi (As := []) (st := []) hC (fun l => mX11_wrong l g hL D1) (lM_0 hL) rfl (Nat.le_of_ble_eq_true rfl) yc_X11_200 rfl rfl ⟨by decide, by decide⟩ (Nat.le_of_ble_eq_true rfl) rfl dX11_need_9 (fun x2 D3 => ?_)
    exact A_zretc hC dX11_need_12
def fX11_numbers (a1 : Int32) (D : ADD) : Option (Int32 × ADD) := (if (D.1 0 26) = (3 : Int32) then aIn a1 17 (aLet (aSI D 28 a1.toNatClampNeg (D.1 0 27)) (fun D1 => aIn a1 17 (aLet (aSI D1 29 a1.toNatClampNeg (D1.1 0 27)) (fun D2 => aBind (fX11_next D2) (fun _ D3 => aBind (fX11_isWord (29807 : Int64) D3) (fun x1 D4 => aLet (fun (D5 : ADD) => some ((1 : Int32), D5)) (fun (j100 : ADD → Option (Int32 × ADD)) => (if x1 = 0 then j100 D4 else aBind (fX11_next D4) (fun _ D6 => (if (D6.1 0 26) = (3 : Int32) then aIn a1 17 (aLet (fun (D7 : ADD) => aIn a1 17 (aLet (aSI D7 29 a1.toNatClampNeg (D7.1 0 27)) (fun D8 => aBind (fX11_next D8) (fun _ D9 => j100 D9)))) (fun (j86 : ADD → Option (Int32 × ADD)) => (if (D6.1 28 a1.toNatClampNeg) ≤ (D6.1 0 27) then j86 D6 else aBind (fX11_later (2 : Int32) (D6.1 0 25) D6) (fun _ D10 => j86 D10)))) else aBind (fX11_wrong D6) (fun x2 D11 => aZ x2 (some (x2, D11))))))))))))) else aBind (fX11_wrong D) (fun x3 D12 => aZ x3 (some (x3, D12))))
set_option maxHeartbeats 4000000 in
set_option maxRecDepth 100000 in
theorem mX11_numbers (l : Launch) (g : AGl) (hL : aLM g) (a1 : Int32) (D : ADD) : AM aVi l yX11_numbers cX11_numbers 2 (some .boolean) 2 g [.ref (g.1 + 0), .int a1] D (fX11_numbers a1 D) := by
  refine AM_of (lv0 := [some (.ref (g.1 + 0)), some (.int a1)]) (own := RX11) (by decide +kernel) rfl (Nat.le_of_ble_eq_true rfl) rfl (fun b hC => ?_)
  unfold fX11_numbers
  refine A_aload_n hC dX11_numbers_0 rfl ?_
  refine A_geti (kf := 26) hC kX11 (lM_0 hL) rfl (by decide) (by decide) rfl w_1029 dX11_numbers_1 ?_
  refine A_iconst (v := 3) hC dX11_numbers_4 (by decide) ?_
  refine A_icmp_eq (tgt := 13) hC dX11_numbers_5 (by decide) ?_ ?_
  · refine A_aload_n hC dX11_numbers_13 rfl ?_
    refine A_getr (kf := 38) hC kX11 (lM_0 hL) rfl (by decide) (by decide) rfl rfl w_1041 dX11_numbers_14 ?_
    refine A_iload_n hC dX11_numbers_17 rfl ?_
    refine A_aload_n hC dX11_numbers_18 rfl ?_
    refine A_geti (kf := 27) hC kX11 (lM_0 hL) rfl (by decide) (by decide) rfl w_1030 dX11_numbers_19 ?_
    refine A_iast hC (lM_28 hL) dX11_numbers_22 (fun D1 => ?_)
    refine A_aload_n hC dX11_numbers_23 rfl ?_
    refine A_getr (kf := 39) hC kX11 (lM_0 hL) rfl (by decide) (by decide) rfl rfl w_1042 dX11_numbers_24 ?_
    refine A_iload_n hC dX11_numbers_27 rfl ?_
    refine A_aload_n hC dX11_numbers_28 rfl ?_
    refine A_geti (kf := 27) hC kX11 (lM_0 hL) rfl (by decide) (by decide) rfl w_1030 dX11_numbers_29 ?_
    refine A_iast hC (lM_29 hL) dX11_numbers_32 (fun D2 => ?_)
    refine A_aload_n hC dX11_numbers_33 rfl ?_
    refine A_callVv (As := []) (st := []) hC (fun l => mX11_next l g hL D2) (lM_0 hL) rfl (Nat.le_of_ble_eq_true rfl) yc_X11_204 rfl rfl ⟨by decide, by decide⟩ (Nat.le_of_ble_eq_true rfl) rfl dX11_numbers_34 (fun _ D3 => ?_)
    refine A_aload_n hC dX11_numbers_37 rfl ?_
    refine A_ldc2 hC dX11_numbers_38 w_1294 ?_
    refine A_callVi (As := [.long (29807 : Int64)]) (st := []) hC (fun l => mX11_isWord l g hL (29807 : Int64) D3) (lM_0 hL) rfl (Nat.le_of_ble_eq_true rfl) yc_X11_209 rfl rfl ⟨by decide, by decide⟩ (Nat.le_of_ble_eq_true rfl) rfl dX11_numbers_41 (fun x1 D4 => ?_)
    refine A_join (fun (J : ADD → Option (Int32 × ADD)) => ∀ (D5 : ADD), AT aVi g b 100 [none, none] [] D5 (J D5)) (fun D5 => ?_) (fun j100 hj100 => ?_)
    · refine A_iconst (v := 1) hC dX11_numbers_100 (by decide) ?_
      exact A_zret hC dX11_numbers_101 (Or.inr rfl)
    refine A_if_eq (tgt := 100) hC dX11_numbers_44 (by decide) ?_ ?_
    · exact A_to (hj100 D4) (trivial)
    · refine A_aload_n hC dX11_numbers_47 rfl ?_
      refine A_callVv (As := []) (st := []) hC (fun l => mX11_next l g hL D4) (lM_0 hL) rfl (Nat.le_of_ble_eq_true rfl) yc_X11_204 rfl rfl ⟨by decide, by decide⟩ (Nat.le_of_ble_eq_true rfl) rfl dX11_numbers_48 (fun _ D6 => ?_)
      refine A_aload_n hC dX11_numbers_51 rfl ?_
      refine A_geti (kf := 26) hC kX11 (lM_0 hL) rfl (by decide) (by decide) rfl w_1029 dX11_numbers_52 ?_
      refine A_iconst (v := 3) hC dX11_numbers_55 (by decide) ?_
      refine A_icmp_eq (tgt := 64) hC dX11_numbers_56 (by decide) ?_ ?_
      · refine A_aload_n hC dX11_numbers_64 rfl ?_
        refine A_geti (kf := 27) hC kX11 (lM_0 hL) rfl (by decide) (by decide) rfl w_1030 dX11_numbers_65 ?_
        refine A_aload_n hC dX11_numbers_68 rfl ?_
        refine A_getr (kf := 38) hC kX11 (lM_0 hL) rfl (by decide) (by decide) rfl rfl w_1041 dX11_numbers_69 ?_
        refine A_iload_n hC dX11_numbers_72 rfl ?_
        refine A_iald hC (lM_28 hL) dX11_numbers_73 ?_
        refine A_join (fun (J : ADD → Option (Int32 × ADD)) => ∀ (D7 : ADD), AT aVi g b 86 [some (.ref (g.1 + 0)), some (.int a1)] [] D7 (J D7)) (fun D7 => ?_) (fun j86 hj86 => ?_)
        · refine A_aload_n hC dX11_numbers_86 rfl ?_
          refine A_getr (kf := 39) hC kX11 (lM_0 hL) rfl (by decide) (by decide) rfl rfl w_1042 dX11_numbers_87 ?_
          refine A_iload_n hC dX11_numbers_90 rfl ?_
          refine A_aload_n hC dX11_numbers_91 rfl ?_
          refine A_geti (kf := 27) hC kX11 (lM_0 hL) rfl (by decide) (by decide) rfl w_1030 dX11_numbers_92 ?_
          refine A_iast hC (lM_29 hL) dX11_numbers_95 (fun D8 => ?_)
          refine A_aload_n hC dX11_numbers_96 rfl ?_
          refine A_callVv (As := []) (st := []) hC (fun l => mX11_next l g hL D8) (lM_0 hL) rfl (Nat.le_of_ble_eq_true rfl) yc_X11_204 rfl rfl ⟨by decide, by decide⟩ (Nat.le_of_ble_eq_true rfl) rfl dX11_numbers_97 (fun _ D9 => ?_)
          exact A_to (hj100 D9) (trivial)
        refine A_icmp_ge (tgt := 86) hC dX11_numbers_74 (by decide) ?_ ?_
        · exact A_to (hj86 D6) (And.intro rfl (And.intro rfl (trivial)))
        · refine A_aload_n hC dX11_numbers_77 rfl ?_
          refine A_iconst (v := 2) hC dX11_numbers_78 (by decide) ?_
          refine A_aload_n hC dX11_numbers_79 rfl ?_
          refine A_geti (kf := 25) hC kX11 (lM_0 hL) rfl (by decide) (by decide) rfl w_1028 dX11_numbers_80 ?_
          refine A_callVv (As := [.int (2 : Int32), .int (D6.1 0 25)]) (st := []) hC (fun l => mX11_later l g hL (2 : Int32) (D6.1 0 25) D6) (lM_0 hL) rfl (Nat.le_of_ble_eq_true rfl) yc_X11_255 rfl rfl ⟨by decide, by decide⟩ (Nat.le_of_ble_eq_true rfl) rfl dX11_numbers_83 (fun _ D10 => ?_)
          exact A_to (hj86 D10) (And.intro rfl (And.intro rfl (trivial)))
      · refine A_aload_n hC dX11_numbers_59 rfl ?_
        refine A_callVi (As := []) (st := []) hC (fun l => mX11_wrong l g hL D6) (lM_0 hL) rfl (Nat.le_of_ble_eq_true rfl) yc_X11_200 rfl rfl ⟨by decide, by decide⟩ (Nat.le_of_ble_eq_true rfl) rfl dX11_numbers_60 (fun x2 D11 => ?_)
        exact A_zretc hC dX11_numbers_63
  · refine A_aload_n hC dX11_numbers_8 rfl ?_
    refine A_callVi (As := []) (st := []) hC (fun l => mX11_wrong l g hL D) (lM_0 hL) rfl (Nat.le_of_ble_eq_true rfl) yc_X11_200 rfl rfl ⟨by decide, by decide⟩ (Nat.le_of_ble_eq_true rfl) rfl dX11_numbers_9 (fun x3 D12 => ?_)
    exact A_zretc hC dX11_numbers_12
def fX11_off (a1 : Int32) (a2 : Int32) (D : ADD) : Option (Int32 × ADD) := aIn a1 32 (aIn a1 32 (aBind (fX11_timesOf a1 a2 D) (fun x1 D1 => aBind (fX11_far (D.1 33 a1.toNatClampNeg) (D.1 34 a1.toNatClampNeg) (x1 * a2) D1) (fun x2 D2 => aLet (fun (x3 : Int32) (D3 : ADD) => some (x3, D3)) (fun (j34 : Int32 → ADD → Option (Int32 × ADD)) => (if a2 ≤ x2 then j34 a2 D2 else j34 x2 D2))))))
set_option maxHeartbeats 4000000 in
set_option maxRecDepth 100000 in
theorem mX11_off (l : Launch) (g : AGl) (hL : aLM g) (a1 : Int32) (a2 : Int32) (D : ADD) : AM aVi l yX11_off cX11_off 4 (some .int) 2 g [.ref (g.1 + 0), .int a1, .int a2] D (fX11_off a1 a2 D) := by
  refine AM_of (lv0 := [some (.ref (g.1 + 0)), some (.int a1), some (.int a2), none]) (own := RX11) (by decide +kernel) rfl (Nat.le_of_ble_eq_true rfl) rfl (fun b hC => ?_)
  unfold fX11_off
  refine A_aload_n hC dX11_off_0 rfl ?_
  refine A_getr (kf := 44) hC kX11 (lM_0 hL) rfl (by decide) (by decide) rfl rfl w_1047 dX11_off_1 ?_
  refine A_iload_n hC dX11_off_4 rfl ?_
  refine A_iald hC (lM_33 hL) dX11_off_5 ?_
  refine A_aload_n hC dX11_off_6 rfl ?_
  refine A_getr (kf := 45) hC kX11 (lM_0 hL) rfl (by decide) (by decide) rfl rfl w_1048 dX11_off_7 ?_
  refine A_iload_n hC dX11_off_10 rfl ?_
  refine A_iald hC (lM_34 hL) dX11_off_11 ?_
  refine A_aload_n hC dX11_off_12 rfl ?_
  refine A_iload_n hC dX11_off_13 rfl ?_
  refine A_iload_n hC dX11_off_14 rfl ?_
  refine A_callVi (As := [.int a1, .int a2]) (st := [.int (D.1 34 a1.toNatClampNeg), .int (D.1 33 a1.toNatClampNeg)]) hC (fun l => mX11_timesOf l g hL a1 a2 D) (lM_0 hL) rfl (Nat.le_of_ble_eq_true rfl) yc_X11_320 rfl rfl ⟨by decide, by decide⟩ (Nat.le_of_ble_eq_true rfl) rfl dX11_off_15 (fun x1 D1 => ?_)
  refine A_iload_n hC dX11_off_18 rfl ?_
  refine A_imul hC dX11_off_19 ?_
  refine A_callSi (As := [.int (D.1 33 a1.toNatClampNeg), .int (D.1 34 a1.toNatClampNeg), .int (x1 * a2)]) (st := []) hC (fun l => mX11_far l g (D.1 33 a1.toNatClampNeg) (D.1 34 a1.toNatClampNeg) (x1 * a2) D1) yc_X11_317 rfl rfl ⟨by decide, by decide⟩ (Nat.le_of_ble_eq_true rfl) rfl dX11_off_20 (fun x2 D2 => ?_)
  refine A_istore_n (lv2 := [some (.ref (g.1 + 0)), some (.int a1), some (.int a2), some (.int x2)]) hC dX11_off_23 (Nat.le_of_ble_eq_true rfl) rfl rfl ?_
  refine A_iload_n hC dX11_off_24 rfl ?_
  refine A_iload_n hC dX11_off_25 rfl ?_
  refine A_join (fun (J : Int32 → ADD → Option (Int32 × ADD)) => ∀ (x3 : Int32) (D3 : ADD), AT aVi g b 34 [none, none, none, none] [.int x3] D3 (J x3 D3)) (fun x3 D3 => ?_) (fun j34 hj34 => ?_)
  · exact A_iret hC dX11_off_34
  refine A_icmp_ge (tgt := 33) hC dX11_off_26 (by decide) ?_ ?_
  · refine A_iload_n hC dX11_off_33 rfl ?_
    exact A_to (hj34 a2 D2) (trivial)
  · refine A_iload_n hC dX11_off_29 rfl ?_
    refine A_goto (tgt := 34) hC dX11_off_30 (by decide) ?_
    exact A_to (hj34 x2 D2) (trivial)
def lX11_placeOf_20 (a1 : Int32) (a2 : Int32) (a3 : Int32) (j89 : Int32 → ADD → Option (Int32 × ADD)) (L20 : Int32 → Int32 → ADD → Option (Int32 × ADD)) (x3 : Int32) (x4 : Int32) (D3 : ADD) : Option (Int32 × ADD) := (if a2 < x4 then j89 x3 D3 else aBind (fX11_against a1 x4 a3 D3) (fun x5 D4 => aLet (fun (x6 : Int32) (D5 : ADD) => aLet (x3 + x6) (fun x7 => aLet (x4 + (1 : Int32)) (fun x8 => L20 x7 x8 D5))) (fun (j80 : Int32 → ADD → Option (Int32 × ADD)) => aLet (fun (D6 : ADD) => j80 (0 : Int32) D6) (fun (j79 : ADD → Option (Int32 × ADD)) => (if x4 = a3 then j79 D4 else aBind (fX11_isPeak a1 a2 x4 D4) (fun x9 D7 => (if x9 = 0 then j79 D7 else aLet (fun (D8 : ADD) => j80 (1 : Int32) D8) (fun (j75 : ADD → Option (Int32 × ADD)) => (if 0 < (aCmp x5 (0 : Int64)) then j75 D7 else (if (aCmp x5 (0 : Int64)) = 0 then (if x4 ≤ a3 then j79 D7 else j75 D7) else j79 D7))))))))))
def fX11_placeOf (a1 : Int32) (a2 : Int32) (a3 : Int32) (D : ADD) : Option (Int32 × ADD) := aBind (fX11_isPeak a1 a2 a3 D) (fun x1 D1 => (if x1 = 0 then some ((9999 : Int32), D1) else aLet (fun (x2 : Int32) (D2 : ADD) => some (x2, D2)) (fun (j89 : Int32 → ADD → Option (Int32 × ADD)) => aLet (aFix aFuel (lX11_placeOf_20 a1 a2 a3 j89) (fun _ _ _ => none)) (fun j20 => j20 (0 : Int32) a1 D1))))
set_option maxHeartbeats 4000000 in
set_option maxRecDepth 100000 in
theorem mX11_placeOf (l : Launch) (g : AGl) (hL : aLM g) (a1 : Int32) (a2 : Int32) (a3 : Int32) (D : ADD) : AM aVi l yX11_placeOf cX11_placeOf 8 (some .int) 2 g [.ref (g.1 + 0), .int a1, .int a2, .int a3] D (fX11_placeOf a1 a2 a3 D) := by
  refine AM_of (lv0 := [some (.ref (g.1 + 0)), some (.int a1), some (.int a2), some (.int a3), none, none, none, none]) (own := RX11) (by decide +kernel) rfl (Nat.le_of_ble_eq_true rfl) rfl (fun b hC => ?_)
  unfold fX11_placeOf
  refine A_aload_n hC dX11_placeOf_0 rfl ?_
  refine A_iload_n hC dX11_placeOf_1 rfl ?_
  refine A_iload_n hC dX11_placeOf_2 rfl ?_
  refine A_iload_n hC dX11_placeOf_3 rfl ?_
  refine A_callVi (As := [.int a1, .int a2, .int a3]) (st := []) hC (fun l => mX11_isPeak l g hL a1 a2 a3 D) (lM_0 hL) rfl (Nat.le_of_ble_eq_true rfl) yc_X11_350 rfl rfl ⟨by decide, by decide⟩ (Nat.le_of_ble_eq_true rfl) rfl dX11_placeOf_4 (fun x1 D1 => ?_)
  refine A_if_ne (tgt := 14) hC dX11_placeOf_7 (by decide) ?_ ?_
  · refine A_iconst (v := 0) hC dX11_placeOf_14 (by decide) ?_
    refine A_istore (lv2 := [some (.ref (g.1 + 0)), some (.int a1), some (.int a2), some (.int a3), some (.int (0 : Int32)), none, none, none]) hC dX11_placeOf_15 (Nat.le_of_ble_eq_true rfl) rfl rfl ?_
    refine A_iload_n hC dX11_placeOf_17 rfl ?_
    refine A_istore (lv2 := [some (.ref (g.1 + 0)), some (.int a1), some (.int a2), some (.int a3), some (.int (0 : Int32)), some (.int a1), none, none]) hC dX11_placeOf_18 (Nat.le_of_ble_eq_true rfl) rfl rfl ?_
    refine A_join (fun (J : Int32 → ADD → Option (Int32 × ADD)) => ∀ (x2 : Int32) (D2 : ADD), AT aVi g b 89 [none, none, none, none, some (.int x2), none, none, none] [] D2 (J x2 D2)) (fun x2 D2 => ?_) (fun j89 hj89 => ?_)
    · refine A_iload hC dX11_placeOf_89 rfl ?_
      exact A_iret hC dX11_placeOf_91
    refine A_join (fun (J : Int32 → Int32 → ADD → Option (Int32 × ADD)) => ∀ (x3 : Int32) (x4 : Int32) (D3 : ADD), AT aVi g b 20 [some (.ref (g.1 + 0)), some (.int a1), some (.int a2), some (.int a3), some (.int x3), some (.int x4), none, none] [] D3 (J x3 x4 D3)) (aFix_all (fun (J : Int32 → Int32 → ADD → Option (Int32 × ADD)) => ∀ (x3 : Int32) (x4 : Int32) (D3 : ADD), AT aVi g b 20 [some (.ref (g.1 + 0)), some (.int a1), some (.int a2), some (.int a3), some (.int x3), some (.int x4), none, none] [] D3 (J x3 x4 D3)) (fun _ _ _ => A_none) (fun L20 hL20 x3 x4 D3 => ?_) _) (fun j20 hj20 => ?_)
    · unfold lX11_placeOf_20
      refine A_iload hC dX11_placeOf_20 rfl ?_
      refine A_iload_n hC dX11_placeOf_22 rfl ?_
      refine A_icmp_gt (tgt := 89) hC dX11_placeOf_23 (by decide) ?_ ?_
      · exact A_to (hj89 x3 D3) (And.intro rfl (trivial))
      · refine A_aload_n hC dX11_placeOf_26 rfl ?_
        refine A_iload_n hC dX11_placeOf_27 rfl ?_
        refine A_iload hC dX11_placeOf_28 rfl ?_
        refine A_iload_n hC dX11_placeOf_30 rfl ?_
        refine A_callVl (As := [.int a1, .int x4, .int a3]) (st := []) hC (fun l => mX11_against l g hL a1 x4 a3 D3) (lM_0 hL) rfl (Nat.le_of_ble_eq_true rfl) yc_X11_336 rfl rfl ⟨by decide, by decide⟩ (Nat.le_of_ble_eq_true rfl) rfl dX11_placeOf_31 (fun x5 D4 => ?_)
        refine A_lstore (lv2 := [some (.ref (g.1 + 0)), some (.int a1), some (.int a2), some (.int a3), some (.int x3), some (.int x4), some (.long x5), none]) hC dX11_placeOf_34 (Nat.le_of_ble_eq_true rfl) rfl rfl ?_
        refine A_iload hC dX11_placeOf_36 rfl ?_
        refine A_iload hC dX11_placeOf_38 rfl ?_
        refine A_iload_n hC dX11_placeOf_40 rfl ?_
        refine A_join (fun (J : Int32 → ADD → Option (Int32 × ADD)) => ∀ (x6 : Int32) (D5 : ADD), AT aVi g b 80 [some (.ref (g.1 + 0)), some (.int a1), some (.int a2), some (.int a3), none, some (.int x4), none, none] [.int x6, .int x3] D5 (J x6 D5)) (fun x6 D5 => ?_) (fun j80 hj80 => ?_)
        · refine A_iadd hC dX11_placeOf_80 ?_
          refine A_topi (fun x7 => ?_)
          refine A_istore (lv2 := [some (.ref (g.1 + 0)), some (.int a1), some (.int a2), some (.int a3), some (.int x7), some (.int x4), none, none]) hC dX11_placeOf_81 (Nat.le_of_ble_eq_true rfl) rfl rfl ?_
          refine A_iincL (z := (1 : Int32)) (lv2 := fun x8 => [some (.ref (g.1 + 0)), some (.int a1), some (.int a2), some (.int a3), some (.int x7), some (.int x8), none, none]) hC dX11_placeOf_83 rfl (by decide) (Nat.le_of_ble_eq_true rfl) rfl (fun _ => rfl) (fun x8 => ?_)
          refine A_goto (tgt := 20) hC dX11_placeOf_86 (by decide) ?_
          exact A_to (hL20 x7 x8 D5) (And.intro rfl (And.intro rfl (And.intro rfl (And.intro rfl (And.intro rfl (And.intro rfl (trivial)))))))
        refine A_join (fun (J : ADD → Option (Int32 × ADD)) => ∀ (D6 : ADD), AT aVi g b 79 [some (.ref (g.1 + 0)), some (.int a1), some (.int a2), some (.int a3), none, some (.int x4), none, none] [.int x3] D6 (J D6)) (fun D6 => ?_) (fun j79 hj79 => ?_)
        · refine A_iconst (v := 0) hC dX11_placeOf_79 (by decide) ?_
          exact A_to (hj80 (0 : Int32) D6) (And.intro rfl (And.intro rfl (And.intro rfl (And.intro rfl (And.intro rfl (trivial))))))
        refine A_icmp_eq (tgt := 79) hC dX11_placeOf_41 (by decide) ?_ ?_
        · exact A_to (hj79 D4) (And.intro rfl (And.intro rfl (And.intro rfl (And.intro rfl (And.intro rfl (trivial))))))
        · refine A_aload_n hC dX11_placeOf_44 rfl ?_
          refine A_iload_n hC dX11_placeOf_45 rfl ?_
          refine A_iload_n hC dX11_placeOf_46 rfl ?_
          refine A_iload hC dX11_placeOf_47 rfl ?_
          refine A_callVi (As := [.int a1, .int a2, .int x4]) (st := [.int x3]) hC (fun l => mX11_isPeak l g hL a1 a2 x4 D4) (lM_0 hL) rfl (Nat.le_of_ble_eq_true rfl) yc_X11_350 rfl rfl ⟨by decide, by decide⟩ (Nat.le_of_ble_eq_true rfl) rfl dX11_placeOf_49 (fun x9 D7 => ?_)
          refine A_if_eq (tgt := 79) hC dX11_placeOf_52 (by decide) ?_ ?_
          · exact A_to (hj79 D7) (And.intro rfl (And.intro rfl (And.intro rfl (And.intro rfl (And.intro rfl (trivial))))))
          · refine A_lload hC dX11_placeOf_55 rfl ?_
            refine A_lconst (v := 0) hC dX11_placeOf_57 (by decide) ?_
            refine A_lcmp hC dX11_placeOf_58 ?_
            refine A_join (fun (J : ADD → Option (Int32 × ADD)) => ∀ (D8 : ADD), AT aVi g b 75 [some (.ref (g.1 + 0)), some (.int a1), some (.int a2), some (.int a3), none, some (.int x4), none, none] [.int x3] D8 (J D8)) (fun D8 => ?_) (fun j75 hj75 => ?_)
            · refine A_iconst (v := 1) hC dX11_placeOf_75 (by decide) ?_
              refine A_goto (tgt := 80) hC dX11_placeOf_76 (by decide) ?_
              exact A_to (hj80 (1 : Int32) D8) (And.intro rfl (And.intro rfl (And.intro rfl (And.intro rfl (And.intro rfl (trivial))))))
            refine A_if_gt (tgt := 75) hC dX11_placeOf_59 (by decide) ?_ ?_
            · exact A_to (hj75 D7) (And.intro rfl (And.intro rfl (And.intro rfl (And.intro rfl (And.intro rfl (trivial))))))
            · refine A_lload hC dX11_placeOf_62 rfl ?_
              refine A_lconst (v := 0) hC dX11_placeOf_64 (by decide) ?_
              refine A_lcmp hC dX11_placeOf_65 ?_
              refine A_if_ne (tgt := 79) hC dX11_placeOf_66 (by decide) ?_ ?_
              · exact A_to (hj79 D7) (And.intro rfl (And.intro rfl (And.intro rfl (And.intro rfl (And.intro rfl (trivial))))))
              · refine A_iload hC dX11_placeOf_69 rfl ?_
                refine A_iload_n hC dX11_placeOf_71 rfl ?_
                refine A_icmp_le (tgt := 79) hC dX11_placeOf_72 (by decide) ?_ ?_
                · exact A_to (hj79 D7) (And.intro rfl (And.intro rfl (And.intro rfl (And.intro rfl (And.intro rfl (trivial))))))
                · exact A_to (hj75 D7) (And.intro rfl (And.intro rfl (And.intro rfl (And.intro rfl (And.intro rfl (trivial))))))
    exact A_to (hj20 (0 : Int32) a1 D1) (And.intro rfl (And.intro rfl (And.intro rfl (And.intro rfl (And.intro rfl (And.intro rfl (trivial)))))))
  · refine A_sipush (v := 9999) hC dX11_placeOf_10 (by decide) ?_
    exact A_iret hC dX11_placeOf_13
def fX11_tell (a1 : Int32) (a2 : Int32) (a3 : Int32) (D : ADD) : Option (Int32 × ADD) := aLet (aSI D 0 0 (0 : Int32)) (fun D1 => aIn (0 : Int32) 4 (aBind (fX11_is a1 (0 : Int32) ((D1.1 5 (0 : Int32).toNatClampNeg) - (1 : Int32)) D1) (fun x1 D2 => aLet (fun (D3 : ADD) => some ((0 : Int32), D3)) (fun (j43 : ADD → Option (Int32 × ADD)) => (if x1 = 0 then j43 D2 else aIn (0 : Int32) 4 ((if (D2.1 8 (0 : Int32).toNatClampNeg) = (400 : Int32) then j43 D2 else aBind (fX11_canBe a1 a2 a3 D2) (fun x2 D4 => (if x2 = 0 then j43 D4 else aBind (fX11_enter a1 a2 a3 D4) (fun _ D5 => some ((1 : Int32), D5)))))))))))
set_option maxHeartbeats 4000000 in
set_option maxRecDepth 100000 in
theorem mX11_tell (l : Launch) (g : AGl) (hL : aLM g) (a1 : Int32) (a2 : Int32) (a3 : Int32) (D : ADD) : AM aVi l yX11_tell cX11_tell 4 (some .boolean) 2 g [.ref (g.1 + 0), .int a1, .int a2, .int a3] D (fX11_tell a1 a2 a3 D) := by
  refine AM_of (lv0 := [some (.ref (g.1 + 0)), some (.int a1), some (.int a2), some (.int a3)]) (own := RX11) (by decide +kernel) rfl (Nat.le_of_ble_eq_true rfl) rfl (fun b hC => ?_)
  unfold fX11_tell
  refine A_aload_n hC dX11_tell_0 rfl ?_
  refine A_iconst (v := 0) hC dX11_tell_1 (by decide) ?_
  refine A_puti (kf := 0) hC kX11 (lM_0 hL) rfl (by decide) (by decide) rfl rfl rfl w_1003 dX11_tell_2 (fun D1 => ?_)
  refine A_iload_n hC dX11_tell_5 rfl ?_
  refine A_iconst (v := 0) hC dX11_tell_6 (by decide) ?_
  refine A_aload_n hC dX11_tell_7 rfl ?_
  refine A_getr (kf := 5) hC kX11 (lM_0 hL) rfl (by decide) (by decide) rfl rfl w_1008 dX11_tell_8 ?_
  refine A_iconst (v := 0) hC dX11_tell_11 (by decide) ?_
  refine A_iald hC (lM_5 hL) dX11_tell_12 ?_
  refine A_iconst (v := 1) hC dX11_tell_13 (by decide) ?_
  refine A_isub hC dX11_tell_14 ?_
  refine A_callSi (As := [.int a1, .int (0 : Int32), .int ((D1.1 5 (0 : Int32).toNatClampNeg) - (1 : Int32))]) (st := []) hC (fun l => mX11_is l g a1 (0 : Int32) ((D1.1 5 (0 : Int32).toNatClampNeg) - (1 : Int32)) D1) yc_X11_138 rfl rfl ⟨by decide, by decide⟩ (Nat.le_of_ble_eq_true rfl) rfl dX11_tell_15 (fun x1 D2 => ?_)
  refine A_join (fun (J : ADD → Option (Int32 × ADD)) => ∀ (D3 : ADD), AT aVi g b 43 [none, none, none, none] [] D3 (J D3)) (fun D3 => ?_) (fun j43 hj43 => ?_)
  · refine A_iconst (v := 0) hC dX11_tell_43 (by decide) ?_
    exact A_zret hC dX11_tell_44 (Or.inl rfl)
  refine A_if_eq (tgt := 43) hC dX11_tell_18 (by decide) ?_ ?_
  · exact A_to (hj43 D2) (trivial)
  · refine A_aload_n hC dX11_tell_21 rfl ?_
    refine A_getr (kf := 8) hC kX11 (lM_0 hL) rfl (by decide) (by decide) rfl rfl w_1011 dX11_tell_22 ?_
    refine A_iconst (v := 0) hC dX11_tell_25 (by decide) ?_
    refine A_iald hC (lM_8 hL) dX11_tell_26 ?_
    refine A_sipush (v := 400) hC dX11_tell_27 (by decide) ?_
    refine A_icmp_eq (tgt := 43) hC dX11_tell_30 (by decide) ?_ ?_
    · exact A_to (hj43 D2) (trivial)
    · refine A_aload_n hC dX11_tell_33 rfl ?_
      refine A_iload_n hC dX11_tell_34 rfl ?_
      refine A_iload_n hC dX11_tell_35 rfl ?_
      refine A_iload_n hC dX11_tell_36 rfl ?_
      refine A_callVi (As := [.int a1, .int a2, .int a3]) (st := []) hC (fun l => mX11_canBe l g hL a1 a2 a3 D2) (lM_0 hL) rfl (Nat.le_of_ble_eq_true rfl) yc_X11_154 rfl rfl ⟨by decide, by decide⟩ (Nat.le_of_ble_eq_true rfl) rfl dX11_tell_37 (fun x2 D4 => ?_)
      refine A_if_ne (tgt := 45) hC dX11_tell_40 (by decide) ?_ ?_
      · refine A_aload_n hC dX11_tell_45 rfl ?_
        refine A_iload_n hC dX11_tell_46 rfl ?_
        refine A_iload_n hC dX11_tell_47 rfl ?_
        refine A_iload_n hC dX11_tell_48 rfl ?_
        refine A_callVv (As := [.int a1, .int a2, .int a3]) (st := []) hC (fun l => mX11_enter l g hL a1 a2 a3 D4) (lM_0 hL) rfl (Nat.le_of_ble_eq_true rfl) yc_X11_146 rfl rfl ⟨by decide, by decide⟩ (Nat.le_of_ble_eq_true rfl) rfl dX11_tell_49 (fun _ D5 => ?_)
        refine A_iconst (v := 1) hC dX11_tell_52 (by decide) ?_
        exact A_zret hC dX11_tell_53 (Or.inr rfl)
      · exact A_to (hj43 D4) (trivial)
