def lX4_townsNear_4 (a1 : Int32) (j41 : Int32 → ADD → Option (Int32 × ADD)) (L4 : Int32 → Int32 → ADD → Option (Int32 × ADD)) (x3 : Int32) (x4 : Int32) (D3 : ADD) : Option (Int32 × ADD) := (if (D3.1 43 0) ≤ x4 then j41 x3 D3 else aBind (fX4_isNear x4 a1 D3) (fun x5 D4 => aLet (fun (x6 : Int32) (D5 : ADD) => aLet (x3 ||| x6) (fun x7 => aLet (x4 + (1 : Int32)) (fun x8 => L4 x7 x8 D5))) (fun (j33 : Int32 → ADD → Option (Int32 × ADD)) => (if x5 = 0 then j33 (0 : Int32) D4 else aBind (fX4_townOf x4 D4) (fun x9 D6 => j33 ((1 : Int32) <<< (x9 &&& 31)) D6)))))
def fX4_townsNear (a1 : Int32) (D : ADD) : Option (Int32 × ADD) := aLet (fun (x1 : Int32) (D1 : ADD) => aBind (fJ6_bitCount_0f7a4 x1 D1) (fun x2 D2 => some (x2, D2))) (fun (j41 : Int32 → ADD → Option (Int32 × ADD)) => aLet (aFix aFuel (lX4_townsNear_4 a1 j41) (fun _ _ _ => none)) (fun j4 => j4 (0 : Int32) (0 : Int32) D))
set_option maxHeartbeats 4000000 in
set_option maxRecDepth 100000 in
theorem mX4_townsNear (l : Launch) (g : AGl) (hL : aLX g) (a1 : Int32) (D : ADD) : AM aVi l yX4_townsNear cX4_townsNear 4 (some .int) 4 g [.ref (g.1 + 43), .int a1] D (fX4_townsNear a1 D) := by
  refine AM_of (lv0 := [some (.ref (g.1 + 43)), some (.int a1), none, none]) (own := RX4) (by decide +kernel) rfl (Nat.le_of_ble_eq_true rfl) rfl (fun b hC => ?_)
  unfold fX4_townsNear
  refine A_iconst (v := 0) hC dX4_townsNear_0 (by decide) ?_
  refine A_istore_n (lv2 := [some (.ref (g.1 + 43)), some (.int a1), some (.int (0 : Int32)), none]) hC dX4_townsNear_1 (Nat.le_of_ble_eq_true rfl) rfl rfl ?_
  refine A_iconst (v := 0) hC dX4_townsNear_2 (by decide) ?_
  refine A_istore_n (lv2 := [some (.ref (g.1 + 43)), some (.int a1), some (.int (0 : Int32)), some (.int (0 : Int32))]) hC dX4_townsNear_3 (Nat.le_of_ble_eq_true rfl) rfl rfl ?_
  refine A_join (fun (J : Int32 → ADD → Option (Int32 × ADD)) => ∀ (x1 : Int32) (D1 : ADD), AT aVi g b 41 [none, none, some (.int x1), none] [] D1 (J x1 D1)) (fun x1 D1 => ?_) (fun j41 hj41 => ?_)
  · refine A_iload_n hC dX4_townsNear_41 rfl ?_
    refine A_callSi (As := [.int x1]) (st := []) hC (fun l => mJ6_bitCount_0f7a4 l g x1 D1) yc_X4_88 rfl rfl ⟨by decide, by decide⟩ (Nat.le_of_ble_eq_true rfl) rfl dX4_townsNear_42 (fun x2 D2 => ?_)
    exact A_iret hC dX4_townsNear_45
  refine A_join (fun (J : Int32 → Int32 → ADD → Option (Int32 × ADD)) => ∀ (x3 : Int32) (x4 : Int32) (D3 : ADD), AT aVi g b 4 [some (.ref (g.1 + 43)), some (.int a1), some (.int x3), some (.int x4)] [] D3 (J x3 x4 D3)) (aFix_all (fun (J : Int32 → Int32 → ADD → Option (Int32 × ADD)) => ∀ (x3 : Int32) (x4 : Int32) (D3 : ADD), AT aVi g b 4 [some (.ref (g.1 + 43)), some (.int a1), some (.int x3), some (.int x4)] [] D3 (J x3 x4 D3)) (fun _ _ _ => A_none) (fun L4 hL4 x3 x4 D3 => ?_) _) (fun j4 hj4 => ?_)
  · unfold lX4_townsNear_4
    refine A_iload_n hC dX4_townsNear_4 rfl ?_
    refine A_aload_n hC dX4_townsNear_5 rfl ?_
    refine A_geti (kf := 0) hC kX4 (lX_43 hL) rfl (by decide) (by decide) rfl w_237 dX4_townsNear_6 ?_
    refine A_icmp_ge (tgt := 41) hC dX4_townsNear_9 (by decide) ?_ ?_
    · exact A_to (hj41 x3 D3) (And.intro rfl (trivial))
    · refine A_iload_n hC dX4_townsNear_12 rfl ?_
      refine A_aload_n hC dX4_townsNear_13 rfl ?_
      refine A_iload_n hC dX4_townsNear_14 rfl ?_
      refine A_iload_n hC dX4_townsNear_15 rfl ?_
      refine A_callVi (As := [.int x4, .int a1]) (st := [.int x3]) hC (fun l => mX4_isNear l g hL x4 a1 D3) (lX_43 hL) rfl (Nat.le_of_ble_eq_true rfl) yc_X4_81 rfl rfl ⟨by decide, by decide⟩ (Nat.le_of_ble_eq_true rfl) rfl dX4_townsNear_16 (fun x5 D4 => ?_)
      refine A_join (fun (J : Int32 → ADD → Option (Int32 × ADD)) => ∀ (x6 : Int32) (D5 : ADD), AT aVi g b 33 [some (.ref (g.1 + 43)), some (.int a1), none, some (.int x4)] [.int x6, .int x3] D5 (J x6 D5)) (fun x6 D5 => ?_) (fun j33 hj33 => ?_)
      · refine A_ior hC dX4_townsNear_33 ?_
        refine A_topi (fun x7 => ?_)
        refine A_istore_n (lv2 := [some (.ref (g.1 + 43)), some (.int a1), some (.int x7), some (.int x4)]) hC dX4_townsNear_34 (Nat.le_of_ble_eq_true rfl) rfl rfl ?_
        refine A_iincL (z := (1 : Int32)) (lv2 := fun x8 => [some (.ref (g.1 + 43)), some (.int a1), some (.int x7), some (.int x8)]) hC dX4_townsNear_35 rfl (by decide) (Nat.le_of_ble_eq_true rfl) rfl (fun _ => rfl) (fun x8 => ?_)
        refine A_goto (tgt := 4) hC dX4_townsNear_38 (by decide) ?_
        exact A_to (hL4 x7 x8 D5) (And.intro rfl (And.intro rfl (And.intro rfl (And.intro rfl (trivial)))))
      refine A_if_eq (tgt := 32) hC dX4_townsNear_19 (by decide) ?_ ?_
      · refine A_iconst (v := 0) hC dX4_townsNear_32 (by decide) ?_
        exact A_to (hj33 (0 : Int32) D4) (And.intro rfl (And.intro rfl (And.intro rfl (trivial))))
      · refine A_iconst (v := 1) hC dX4_townsNear_22 (by decide) ?_
        refine A_aload_n hC dX4_townsNear_23 rfl ?_
        refine A_iload_n hC dX4_townsNear_24 rfl ?_
        refine A_callVi (As := [.int x4]) (st := [.int (1 : Int32), .int x3]) hC (fun l => mX4_townOf l g hL x4 D4) (lX_43 hL) rfl (Nat.le_of_ble_eq_true rfl) yc_X4_85 rfl rfl ⟨by decide, by decide⟩ (Nat.le_of_ble_eq_true rfl) rfl dX4_townsNear_25 (fun x9 D6 => ?_)
        refine A_ishl hC dX4_townsNear_28 ?_
        refine A_goto (tgt := 33) hC dX4_townsNear_29 (by decide) ?_
        exact A_to (hj33 ((1 : Int32) <<< (x9 &&& 31)) D6) (And.intro rfl (And.intro rfl (And.intro rfl (trivial))))
  exact A_to (hj4 (0 : Int32) (0 : Int32) D) (And.intro rfl (And.intro rfl (And.intro rfl (And.intro rfl (trivial)))))
def lX7_bestPair_44 (a1 : Int32) (x9 : Int32) (j108 : Int32 → Int32 → Int64 → ADD → Option (Int32 × ADD)) (L44 : Int32 → Int32 → Int64 → Int32 → ADD → Option (Int32 × ADD)) (x14 : Int32) (x15 : Int32) (x16 : Int64) (x17 : Int32) (D6 : ADD) : Option (Int32 × ADD) := (if x9 ≤ x17 then j108 x14 x15 x16 D6 else aBind (fX7_sumOfListed (D6.1 43 0) a1 x17 x9 D6) (fun x18 D7 => aLet (fun (x19 : Int32) (x20 : Int32) (x21 : Int64) (D8 : ADD) => aLet (x17 + (1 : Int32)) (fun x22 => L44 x19 x20 x21 x22 D8)) (fun (j102 : Int32 → Int32 → Int64 → ADD → Option (Int32 × ADD)) => (if (aCmp ((x18 * x14.toInt64) * x15.toInt64) ((x16 * x17.toInt64) * x9.toInt64)) < 0 then j102 x14 x15 x16 D7 else j102 x17 x9 x18 D7))))
def lX7_bestPair_35 (a1 : Int32) (a2 : Int32) (j114 : Int32 → Int32 → ADD → Option (Int32 × ADD)) (L35 : Int32 → Int32 → Int64 → Int32 → ADD → Option (Int32 × ADD)) (x6 : Int32) (x7 : Int32) (x8 : Int64) (x9 : Int32) (D4 : ADD) : Option (Int32 × ADD) := (if a2 < x9 then j114 x6 x7 D4 else aLet (fun (x10 : Int32) (x11 : Int32) (x12 : Int64) (D5 : ADD) => aLet (x9 + (1 : Int32)) (fun x13 => L35 x10 x11 x12 x13 D5)) (fun (j108 : Int32 → Int32 → Int64 → ADD → Option (Int32 × ADD)) => aLet (aFix aFuel (lX7_bestPair_44 a1 x9 j108) (fun _ _ _ _ _ => none)) (fun j44 => j44 x6 x7 x8 a1 D4)))
def fX7_bestPair (a1 : Int32) (a2 : Int32) (D : ADD) : Option (Int32 × ADD) := aBind (fX7_listOffs a1 a2 D) (fun _ D1 => aLet (a1 + (1 : Int32)) (fun x1 => aBind (fX7_sumOfListed (D1.1 43 0) a1 a1 x1 D1) (fun x2 D2 => aLet (a1 + (2 : Int32)) (fun x3 => aLet (fun (x4 : Int32) (x5 : Int32) (D3 : ADD) => some ((((10000 : Int32) * x5) + x4), D3)) (fun (j114 : Int32 → Int32 → ADD → Option (Int32 × ADD)) => aLet (aFix aFuel (lX7_bestPair_35 a1 a2 j114) (fun _ _ _ _ _ => none)) (fun j35 => j35 a1 x1 x2 x3 D2))))))
set_option maxHeartbeats 4000000 in
set_option maxRecDepth 100000 in
theorem mX7_bestPair (l : Launch) (g : AGl) (hL : aLX g) (a1 : Int32) (a2 : Int32) (D : ADD) : AM aVi l yX7_bestPair cX7_bestPair 12 (some .int) 4 g [.ref (g.1 + 50), .ref (g.1 + 43), .int a1, .int a2] D (fX7_bestPair a1 a2 D) := by
  refine AM_of (lv0 := [some (.ref (g.1 + 50)), some (.ref (g.1 + 43)), some (.int a1), some (.int a2), none, none, none, none, none, none, none, none]) (own := RX7) (by decide +kernel) rfl (Nat.le_of_ble_eq_true rfl) rfl (fun b hC => ?_)
  unfold fX7_bestPair
  refine A_aload_n hC dX7_bestPair_0 rfl ?_
  refine A_aload_n hC dX7_bestPair_1 rfl ?_
  refine A_iload_n hC dX7_bestPair_2 rfl ?_
  refine A_iload_n hC dX7_bestPair_3 rfl ?_
  refine A_callVv (As := [.ref (g.1 + 43), .int a1, .int a2]) (st := []) hC (fun l => mX7_listOffs l g hL a1 a2 D) (lX_50 hL) rfl (Nat.le_of_ble_eq_true rfl) yc_X7_84 rfl rfl ⟨by decide, by decide⟩ (Nat.le_of_ble_eq_true rfl) rfl dX7_bestPair_4 (fun _ D1 => ?_)
  refine A_iload_n hC dX7_bestPair_7 rfl ?_
  refine A_istore (lv2 := [some (.ref (g.1 + 50)), some (.ref (g.1 + 43)), some (.int a1), some (.int a2), some (.int a1), none, none, none, none, none, none, none]) hC dX7_bestPair_8 (Nat.le_of_ble_eq_true rfl) rfl rfl ?_
  refine A_iload_n hC dX7_bestPair_10 rfl ?_
  refine A_iconst (v := 1) hC dX7_bestPair_11 (by decide) ?_
  refine A_iadd hC dX7_bestPair_12 ?_
  refine A_topi (fun x1 => ?_)
  refine A_istore (lv2 := [some (.ref (g.1 + 50)), some (.ref (g.1 + 43)), some (.int a1), some (.int a2), some (.int a1), some (.int x1), none, none, none, none, none, none]) hC dX7_bestPair_13 (Nat.le_of_ble_eq_true rfl) rfl rfl ?_
  refine A_aload_n hC dX7_bestPair_15 rfl ?_
  refine A_aload_n hC dX7_bestPair_16 rfl ?_
  refine A_geti (kf := 0) hC kX4 (lX_43 hL) rfl (by decide) (by decide) rfl w_239 dX7_bestPair_17 ?_
  refine A_iload_n hC dX7_bestPair_20 rfl ?_
  refine A_iload hC dX7_bestPair_21 rfl ?_
  refine A_iload hC dX7_bestPair_23 rfl ?_
  refine A_callVl (As := [.int (D1.1 43 0), .int a1, .int a1, .int x1]) (st := []) hC (fun l => mX7_sumOfListed l g hL (D1.1 43 0) a1 a1 x1 D1) (lX_50 hL) rfl (Nat.le_of_ble_eq_true rfl) yc_X7_88 rfl rfl ⟨by decide, by decide⟩ (Nat.le_of_ble_eq_true rfl) rfl dX7_bestPair_25 (fun x2 D2 => ?_)
  refine A_lstore (lv2 := [some (.ref (g.1 + 50)), some (.ref (g.1 + 43)), some (.int a1), some (.int a2), some (.int a1), some (.int x1), some (.long x2), none, none, none, none, none]) hC dX7_bestPair_28 (Nat.le_of_ble_eq_true rfl) rfl rfl ?_
  refine A_iload_n hC dX7_bestPair_30 rfl ?_
  refine A_iconst (v := 2) hC dX7_bestPair_31 (by decide) ?_
  refine A_iadd hC dX7_bestPair_32 ?_
  refine A_topi (fun x3 => ?_)
  refine A_istore (lv2 := [some (.ref (g.1 + 50)), some (.ref (g.1 + 43)), some (.int a1), some (.int a2), some (.int a1), some (.int x1), some (.long x2), none, some (.int x3), none, none, none]) hC dX7_bestPair_33 (Nat.le_of_ble_eq_true rfl) rfl rfl ?_
  refine A_join (fun (J : Int32 → Int32 → ADD → Option (Int32 × ADD)) => ∀ (x4 : Int32) (x5 : Int32) (D3 : ADD), AT aVi g b 114 [none, none, none, none, some (.int x4), some (.int x5), none, none, none, none, none, none] [] D3 (J x4 x5 D3)) (fun x4 x5 D3 => ?_) (fun j114 hj114 => ?_)
  · refine A_sipush (v := 10000) hC dX7_bestPair_114 (by decide) ?_
    refine A_iload hC dX7_bestPair_117 rfl ?_
    refine A_imul hC dX7_bestPair_119 ?_
    refine A_iload hC dX7_bestPair_120 rfl ?_
    refine A_iadd hC dX7_bestPair_122 ?_
    exact A_iret hC dX7_bestPair_123
  refine A_join (fun (J : Int32 → Int32 → Int64 → Int32 → ADD → Option (Int32 × ADD)) => ∀ (x6 : Int32) (x7 : Int32) (x8 : Int64) (x9 : Int32) (D4 : ADD), AT aVi g b 35 [some (.ref (g.1 + 50)), some (.ref (g.1 + 43)), some (.int a1), some (.int a2), some (.int x6), some (.int x7), some (.long x8), none, some (.int x9), none, none, none] [] D4 (J x6 x7 x8 x9 D4)) (aFix_all (fun (J : Int32 → Int32 → Int64 → Int32 → ADD → Option (Int32 × ADD)) => ∀ (x6 : Int32) (x7 : Int32) (x8 : Int64) (x9 : Int32) (D4 : ADD), AT aVi g b 35 [some (.ref (g.1 + 50)), some (.ref (g.1 + 43)), some (.int a1), some (.int a2), some (.int x6), some (.int x7), some (.long x8), none, some (.int x9), none, none, none] [] D4 (J x6 x7 x8 x9 D4)) (fun _ _ _ _ _ => A_none) (fun L35 hL35 x6 x7 x8 x9 D4 => ?_) _) (fun j35 hj35 => ?_)
  · unfold lX7_bestPair_35
    refine A_iload hC dX7_bestPair_35 rfl ?_
    refine A_iload_n hC dX7_bestPair_37 rfl ?_
    refine A_icmp_gt (tgt := 114) hC dX7_bestPair_38 (by decide) ?_ ?_
    · exact A_to (hj114 x6 x7 D4) (And.intro rfl (And.intro rfl (trivial)))
    · refine A_iload_n hC dX7_bestPair_41 rfl ?_
      refine A_istore (lv2 := [some (.ref (g.1 + 50)), some (.ref (g.1 + 43)), some (.int a1), some (.int a2), some (.int x6), some (.int x7), some (.long x8), none, some (.int x9), some (.int a1), none, none]) hC dX7_bestPair_42 (Nat.le_of_ble_eq_true rfl) rfl rfl ?_
      refine A_join (fun (J : Int32 → Int32 → Int64 → ADD → Option (Int32 × ADD)) => ∀ (x10 : Int32) (x11 : Int32) (x12 : Int64) (D5 : ADD), AT aVi g b 108 [some (.ref (g.1 + 50)), some (.ref (g.1 + 43)), some (.int a1), some (.int a2), some (.int x10), some (.int x11), some (.long x12), none, some (.int x9), none, none, none] [] D5 (J x10 x11 x12 D5)) (fun x10 x11 x12 D5 => ?_) (fun j108 hj108 => ?_)
      · refine A_iincL (z := (1 : Int32)) (lv2 := fun x13 => [some (.ref (g.1 + 50)), some (.ref (g.1 + 43)), some (.int a1), some (.int a2), some (.int x10), some (.int x11), some (.long x12), none, some (.int x13), none, none, none]) hC dX7_bestPair_108 rfl (by decide) (Nat.le_of_ble_eq_true rfl) rfl (fun _ => rfl) (fun x13 => ?_)
        refine A_goto (tgt := 35) hC dX7_bestPair_111 (by decide) ?_
        exact A_to (hL35 x10 x11 x12 x13 D5) (And.intro rfl (And.intro rfl (And.intro rfl (And.intro rfl (And.intro rfl (And.intro rfl (And.intro rfl (And.intro rfl (trivial)))))))))
      refine A_join (fun (J : Int32 → Int32 → Int64 → Int32 → ADD → Option (Int32 × ADD)) => ∀ (x14 : Int32) (x15 : Int32) (x16 : Int64) (x17 : Int32) (D6 : ADD), AT aVi g b 44 [some (.ref (g.1 + 50)), some (.ref (g.1 + 43)), some (.int a1), some (.int a2), some (.int x14), some (.int x15), some (.long x16), none, some (.int x9), some (.int x17), none, none] [] D6 (J x14 x15 x16 x17 D6)) (aFix_all (fun (J : Int32 → Int32 → Int64 → Int32 → ADD → Option (Int32 × ADD)) => ∀ (x14 : Int32) (x15 : Int32) (x16 : Int64) (x17 : Int32) (D6 : ADD), AT aVi g b 44 [some (.ref (g.1 + 50)), some (.ref (g.1 + 43)), some (.int a1), some (.int a2), some (.int x14), some (.int x15), some (.long x16), none, some (.int x9), some (.int x17), none, none] [] D6 (J x14 x15 x16 x17 D6)) (fun _ _ _ _ _ => A_none) (fun L44 hL44 x14 x15 x16 x17 D6 => ?_) _) (fun j44 hj44 => ?_)
      · unfold lX7_bestPair_44
        refine A_iload hC dX7_bestPair_44 rfl ?_
        refine A_iload hC dX7_bestPair_46 rfl ?_
        refine A_icmp_ge (tgt := 108) hC dX7_bestPair_48 (by decide) ?_ ?_
        · exact A_to (hj108 x14 x15 x16 D6) (And.intro rfl (And.intro rfl (And.intro rfl (And.intro rfl (And.intro rfl (And.intro rfl (And.intro rfl (And.intro rfl (trivial)))))))))
        · refine A_aload_n hC dX7_bestPair_51 rfl ?_
          refine A_aload_n hC dX7_bestPair_52 rfl ?_
          refine A_geti (kf := 0) hC kX4 (lX_43 hL) rfl (by decide) (by decide) rfl w_239 dX7_bestPair_53 ?_
          refine A_iload_n hC dX7_bestPair_56 rfl ?_
          refine A_iload hC dX7_bestPair_57 rfl ?_
          refine A_iload hC dX7_bestPair_59 rfl ?_
          refine A_callVl (As := [.int (D6.1 43 0), .int a1, .int x17, .int x9]) (st := []) hC (fun l => mX7_sumOfListed l g hL (D6.1 43 0) a1 x17 x9 D6) (lX_50 hL) rfl (Nat.le_of_ble_eq_true rfl) yc_X7_88 rfl rfl ⟨by decide, by decide⟩ (Nat.le_of_ble_eq_true rfl) rfl dX7_bestPair_61 (fun x18 D7 => ?_)
          refine A_lstore (lv2 := [some (.ref (g.1 + 50)), some (.ref (g.1 + 43)), some (.int a1), some (.int a2), some (.int x14), some (.int x15), some (.long x16), none, some (.int x9), some (.int x17), some (.long x18), none]) hC dX7_bestPair_64 (Nat.le_of_ble_eq_true rfl) rfl rfl ?_
          refine A_lload hC dX7_bestPair_66 rfl ?_
          refine A_iload hC dX7_bestPair_68 rfl ?_
          refine A_i2l hC dX7_bestPair_70 ?_
          refine A_lmul hC dX7_bestPair_71 ?_
          refine A_iload hC dX7_bestPair_72 rfl ?_
          refine A_i2l hC dX7_bestPair_74 ?_
          refine A_lmul hC dX7_bestPair_75 ?_
          refine A_lload hC dX7_bestPair_76 rfl ?_
          refine A_iload hC dX7_bestPair_78 rfl ?_
          refine A_i2l hC dX7_bestPair_80 ?_
          refine A_lmul hC dX7_bestPair_81 ?_
          refine A_iload hC dX7_bestPair_82 rfl ?_
          refine A_i2l hC dX7_bestPair_84 ?_
          refine A_lmul hC dX7_bestPair_85 ?_
          refine A_lcmp hC dX7_bestPair_86 ?_
          refine A_join (fun (J : Int32 → Int32 → Int64 → ADD → Option (Int32 × ADD)) => ∀ (x19 : Int32) (x20 : Int32) (x21 : Int64) (D8 : ADD), AT aVi g b 102 [some (.ref (g.1 + 50)), some (.ref (g.1 + 43)), some (.int a1), some (.int a2), some (.int x19), some (.int x20), some (.long x21), none, some (.int x9), some (.int x17), none, none] [] D8 (J x19 x20 x21 D8)) (fun x19 x20 x21 D8 => ?_) (fun j102 hj102 => ?_)
          · refine A_iincL (z := (1 : Int32)) (lv2 := fun x22 => [some (.ref (g.1 + 50)), some (.ref (g.1 + 43)), some (.int a1), some (.int a2), some (.int x19), some (.int x20), some (.long x21), none, some (.int x9), some (.int x22), none, none]) hC dX7_bestPair_102 rfl (by decide) (Nat.le_of_ble_eq_true rfl) rfl (fun _ => rfl) (fun x22 => ?_)
            refine A_goto (tgt := 44) hC dX7_bestPair_105 (by decide) ?_
            exact A_to (hL44 x19 x20 x21 x22 D8) (And.intro rfl (And.intro rfl (And.intro rfl (And.intro rfl (And.intro rfl (And.intro rfl (And.intro rfl (And.intro rfl (And.intro rfl (trivial))))))))))
          refine A_if_lt (tgt := 102) hC dX7_bestPair_87 (by decide) ?_ ?_
          · exact A_to (hj102 x14 x15 x16 D7) (And.intro rfl (And.intro rfl (And.intro rfl (And.intro rfl (And.intro rfl (And.intro rfl (And.intro rfl (And.intro rfl (And.intro rfl (trivial))))))))))
          · refine A_lload hC dX7_bestPair_90 rfl ?_
            refine A_lstore (lv2 := [some (.ref (g.1 + 50)), some (.ref (g.1 + 43)), some (.int a1), some (.int a2), some (.int x14), some (.int x15), some (.long x18), none, some (.int x9), some (.int x17), some (.long x18), none]) hC dX7_bestPair_92 (Nat.le_of_ble_eq_true rfl) rfl rfl ?_
            refine A_iload hC dX7_bestPair_94 rfl ?_
            refine A_istore (lv2 := [some (.ref (g.1 + 50)), some (.ref (g.1 + 43)), some (.int a1), some (.int a2), some (.int x17), some (.int x15), some (.long x18), none, some (.int x9), some (.int x17), some (.long x18), none]) hC dX7_bestPair_96 (Nat.le_of_ble_eq_true rfl) rfl rfl ?_
            refine A_iload hC dX7_bestPair_98 rfl ?_
            refine A_istore (lv2 := [some (.ref (g.1 + 50)), some (.ref (g.1 + 43)), some (.int a1), some (.int a2), some (.int x17), some (.int x9), some (.long x18), none, some (.int x9), some (.int x17), some (.long x18), none]) hC dX7_bestPair_100 (Nat.le_of_ble_eq_true rfl) rfl rfl ?_
            exact A_to (hj102 x17 x9 x18 D7) (And.intro rfl (And.intro rfl (And.intro rfl (And.intro rfl (And.intro rfl (And.intro rfl (And.intro rfl (And.intro rfl (And.intro rfl (trivial))))))))))
      exact A_to (hj44 x6 x7 x8 a1 D4) (And.intro rfl (And.intro rfl (And.intro rfl (And.intro rfl (And.intro rfl (And.intro rfl (And.intro rfl (And.intro rfl (And.intro rfl (trivial))))))))))
  exact A_to (hj35 a1 x1 x2 x3 D2) (And.intro rfl (And.intro rfl (And.intro rfl (And.intro rfl (And.intro rfl (And.intro rfl (And.intro rfl (And.intro rfl (trivial)))))))))
def lX7_peakAt_6 (a1 : Int32) (j50 : ADD → Option (Int32 × ADD)) (L6 : Int32 → ADD → Option (Int32 × ADD)) (x1 : Int32) (D3 : ADD) : Option (Int32 × ADD) := (if (D3.1 50 5) ≤ x1 then j50 D3 else (if (Int32.ofNat 301) ≤ x1 then j50 D3 else aIn x1 301 (aBind (fX7_betterPeaks (D3.1 53 x1.toNatClampNeg) D3) (fun x2 D4 => (if x2 = a1 then aIn x1 301 (some ((D4.1 53 x1.toNatClampNeg), D4)) else aLet (x1 + (1 : Int32)) (fun x3 => L6 x3 D4))))))
def fX7_peakAt (a1 : Int32) (D : ADD) : Option (Int32 × ADD) := aBind (fX7_listPeaks D) (fun _ D1 => aLet (fun (D2 : ADD) => some ((-1 : Int32), D2)) (fun (j50 : ADD → Option (Int32 × ADD)) => aLet (aFix aFuel (lX7_peakAt_6 a1 j50) (fun _ _ => none)) (fun j6 => j6 (0 : Int32) D1)))
set_option maxHeartbeats 4000000 in
set_option maxRecDepth 100000 in
theorem mX7_peakAt (l : Launch) (g : AGl) (hL : aLX g) (a1 : Int32) (D : ADD) : AM aVi l yX7_peakAt cX7_peakAt 3 (some .int) 4 g [.ref (g.1 + 50), .int a1] D (fX7_peakAt a1 D) := by
  refine AM_of (lv0 := [some (.ref (g.1 + 50)), some (.int a1), none]) (own := RX7) (by decide +kernel) rfl (Nat.le_of_ble_eq_true rfl) rfl (fun b hC => ?_)
  unfold fX7_peakAt
  refine A_aload_n hC dX7_peakAt_0 rfl ?_
  refine A_callVv (As := []) (st := []) hC (fun l => mX7_listPeaks l g hL D) (lX_50 hL) rfl (Nat.le_of_ble_eq_true rfl) yc_X7_49 rfl rfl ⟨by decide, by decide⟩ (Nat.le_of_ble_eq_true rfl) rfl dX7_peakAt_1 (fun _ D1 => ?_)
  refine A_iconst (v := 0) hC dX7_peakAt_4 (by decide) ?_
  refine A_istore_n (lv2 := [some (.ref (g.1 + 50)), some (.int a1), some (.int (0 : Int32))]) hC dX7_peakAt_5 (Nat.le_of_ble_eq_true rfl) rfl rfl ?_
  refine A_join (fun (J : ADD → Option (Int32 × ADD)) => ∀ (D2 : ADD), AT aVi g b 50 [none, none, none] [] D2 (J D2)) (fun D2 => ?_) (fun j50 hj50 => ?_)
  · refine A_iconst (v := -1) hC dX7_peakAt_50 (by decide) ?_
    exact A_iret hC dX7_peakAt_51
  refine A_join (fun (J : Int32 → ADD → Option (Int32 × ADD)) => ∀ (x1 : Int32) (D3 : ADD), AT aVi g b 6 [some (.ref (g.1 + 50)), some (.int a1), some (.int x1)] [] D3 (J x1 D3)) (aFix_all (fun (J : Int32 → ADD → Option (Int32 × ADD)) => ∀ (x1 : Int32) (D3 : ADD), AT aVi g b 6 [some (.ref (g.1 + 50)), some (.int a1), some (.int x1)] [] D3 (J x1 D3)) (fun _ _ => A_none) (fun L6 hL6 x1 D3 => ?_) _) (fun j6 hj6 => ?_)
  · unfold lX7_peakAt_6
    refine A_iload_n hC dX7_peakAt_6 rfl ?_
    refine A_aload_n hC dX7_peakAt_7 rfl ?_
    refine A_geti (kf := 5) hC kX7 (lX_50 hL) rfl (by decide) (by decide) rfl w_277 dX7_peakAt_8 ?_
    refine A_icmp_ge (tgt := 50) hC dX7_peakAt_11 (by decide) ?_ ?_
    · exact A_to (hj50 D3) (trivial)
    · refine A_iload_n hC dX7_peakAt_14 rfl ?_
      refine A_aload_n hC dX7_peakAt_15 rfl ?_
      refine A_getr (kf := 4) hC kX7 (lX_50 hL) rfl (by decide) (by decide) rfl rfl w_276 dX7_peakAt_16 ?_
      refine A_aleni hC (lX_53 hL) dX7_peakAt_19 ?_
      refine A_icmp_ge (tgt := 50) hC dX7_peakAt_20 (by decide) ?_ ?_
      · exact A_to (hj50 D3) (trivial)
      · refine A_aload_n hC dX7_peakAt_23 rfl ?_
        refine A_aload_n hC dX7_peakAt_24 rfl ?_
        refine A_getr (kf := 4) hC kX7 (lX_50 hL) rfl (by decide) (by decide) rfl rfl w_276 dX7_peakAt_25 ?_
        refine A_iload_n hC dX7_peakAt_28 rfl ?_
        refine A_iald hC (lX_53 hL) dX7_peakAt_29 ?_
        refine A_callVi (As := [.int (D3.1 53 x1.toNatClampNeg)]) (st := []) hC (fun l => mX7_betterPeaks l g hL (D3.1 53 x1.toNatClampNeg) D3) (lX_50 hL) rfl (Nat.le_of_ble_eq_true rfl) yc_X7_52 rfl rfl ⟨by decide, by decide⟩ (Nat.le_of_ble_eq_true rfl) rfl dX7_peakAt_30 (fun x2 D4 => ?_)
        refine A_iload_n hC dX7_peakAt_33 rfl ?_
        refine A_icmp_ne (tgt := 44) hC dX7_peakAt_34 (by decide) ?_ ?_
        · refine A_iincL (z := (1 : Int32)) (lv2 := fun x3 => [some (.ref (g.1 + 50)), some (.int a1), some (.int x3)]) hC dX7_peakAt_44 rfl (by decide) (Nat.le_of_ble_eq_true rfl) rfl (fun _ => rfl) (fun x3 => ?_)
          refine A_goto (tgt := 6) hC dX7_peakAt_47 (by decide) ?_
          exact A_to (hL6 x3 D4) (And.intro rfl (And.intro rfl (And.intro rfl (trivial))))
        · refine A_aload_n hC dX7_peakAt_37 rfl ?_
          refine A_getr (kf := 4) hC kX7 (lX_50 hL) rfl (by decide) (by decide) rfl rfl w_276 dX7_peakAt_38 ?_
          refine A_iload_n hC dX7_peakAt_41 rfl ?_
          refine A_iald hC (lX_53 hL) dX7_peakAt_42 ?_
          exact A_iret hC dX7_peakAt_43
  exact A_to (hj6 (0 : Int32) D1) (And.intro rfl (And.intro rfl (And.intro rfl (trivial))))
def fX7_placeOf (a1 : Int32) (D : ADD) : Option (Int32 × ADD) := aBind (fX7_isPeak a1 D) (fun x1 D1 => (if x1 = 0 then some ((9999 : Int32), D1) else aBind (fX7_listPeaks D1) (fun _ D2 => aBind (fX7_betterPeaks a1 D2) (fun x2 D3 => some (x2, D3)))))
set_option maxHeartbeats 4000000 in
set_option maxRecDepth 100000 in
theorem mX7_placeOf (l : Launch) (g : AGl) (hL : aLX g) (a1 : Int32) (D : ADD) : AM aVi l yX7_placeOf cX7_placeOf 2 (some .int) 4 g [.ref (g.1 + 50), .int a1] D (fX7_placeOf a1 D) := by
  refine AM_of (lv0 := [some (.ref (g.1 + 50)), some (.int a1)]) (own := RX7) (by decide +kernel) rfl (Nat.le_of_ble_eq_true rfl) rfl (fun b hC => ?_)
  unfold fX7_placeOf
  refine A_aload_n hC dX7_placeOf_0 rfl ?_
  refine A_iload_n hC dX7_placeOf_1 rfl ?_
  refine A_callVi (As := [.int a1]) (st := []) hC (fun l => mX7_isPeak l g hL a1 D) (lX_50 hL) rfl (Nat.le_of_ble_eq_true rfl) yc_X7_55 rfl rfl ⟨by decide, by decide⟩ (Nat.le_of_ble_eq_true rfl) rfl dX7_placeOf_2 (fun x1 D1 => ?_)
  refine A_if_ne (tgt := 12) hC dX7_placeOf_5 (by decide) ?_ ?_
  · refine A_aload_n hC dX7_placeOf_12 rfl ?_
    refine A_callVv (As := []) (st := []) hC (fun l => mX7_listPeaks l g hL D1) (lX_50 hL) rfl (Nat.le_of_ble_eq_true rfl) yc_X7_49 rfl rfl ⟨by decide, by decide⟩ (Nat.le_of_ble_eq_true rfl) rfl dX7_placeOf_13 (fun _ D2 => ?_)
    refine A_aload_n hC dX7_placeOf_16 rfl ?_
    refine A_iload_n hC dX7_placeOf_17 rfl ?_
    refine A_callVi (As := [.int a1]) (st := []) hC (fun l => mX7_betterPeaks l g hL a1 D2) (lX_50 hL) rfl (Nat.le_of_ble_eq_true rfl) yc_X7_52 rfl rfl ⟨by decide, by decide⟩ (Nat.le_of_ble_eq_true rfl) rfl dX7_placeOf_18 (fun x2 D3 => ?_)
    exact A_iret hC dX7_placeOf_21
  · refine A_sipush (v := 9999) hC dX7_placeOf_8 (by decide) ?_
    exact A_iret hC dX7_placeOf_11
def lX7_scoreUnits_24 (j57 : ADD → Option (Unit × ADD)) (L24 : Int32 → ADD → Option (Unit × ADD)) (x2 : Int32) (D4 : ADD) : Option (Unit × ADD) := (if (D4.1 50 1) < x2 then j57 D4 else aBind (fX4_scoreBy x2 D4) (fun x3 D5 => aIn (x2 - (D4.1 50 0)) 301 (aLet (aSI D5 51 (x2 - (D4.1 50 0)).toNatClampNeg x3) (fun D6 => aLet (x2 + (1 : Int32)) (fun x4 => L24 x4 D6)))))
def fX7_scoreUnits (a1 : Int32) (a2 : Int32) (D : ADD) : Option (Unit × ADD) := aLet (aSI D 50 0 a1) (fun D1 => aLet (aSI D1 50 1 (aMin a2 (a1 + (300 : Int32)))) (fun D2 => aLet (D2.1 50 0) (fun x1 => aLet (fun (D3 : ADD) => some ((), D3)) (fun (j57 : ADD → Option (Unit × ADD)) => aLet (aFix aFuel (lX7_scoreUnits_24 j57) (fun _ _ => none)) (fun j24 => j24 x1 D2)))))
set_option maxHeartbeats 4000000 in
set_option maxRecDepth 100000 in
theorem mX7_scoreUnits (l : Launch) (g : AGl) (hL : aLX g) (a1 : Int32) (a2 : Int32) (D : ADD) : AM aVv l yX7_scoreUnits cX7_scoreUnits 5 none 4 g [.ref (g.1 + 50), .ref (g.1 + 43), .int a1, .int a2] D (fX7_scoreUnits a1 a2 D) := by
  refine AM_of (lv0 := [some (.ref (g.1 + 50)), some (.ref (g.1 + 43)), some (.int a1), some (.int a2), none]) (own := RX7) (by decide +kernel) rfl (Nat.le_of_ble_eq_true rfl) rfl (fun b hC => ?_)
  unfold fX7_scoreUnits
  refine A_aload_n hC dX7_scoreUnits_0 rfl ?_
  refine A_iload_n hC dX7_scoreUnits_1 rfl ?_
  refine A_puti (kf := 0) hC kX7 (lX_50 hL) rfl (by decide) (by decide) rfl rfl rfl w_272 dX7_scoreUnits_2 (fun D1 => ?_)
  refine A_aload_n hC dX7_scoreUnits_5 rfl ?_
  refine A_iload_n hC dX7_scoreUnits_6 rfl ?_
  refine A_iload_n hC dX7_scoreUnits_7 rfl ?_
  refine A_sipush (v := 300) hC dX7_scoreUnits_8 (by decide) ?_
  refine A_iadd hC dX7_scoreUnits_11 ?_
  refine A_mmin hC w_715 w_567 w_16 w_568 rfl (by decide) (Nat.le_of_ble_eq_true rfl) dX7_scoreUnits_12 ?_
  refine A_puti (kf := 1) hC kX7 (lX_50 hL) rfl (by decide) (by decide) rfl rfl rfl w_273 dX7_scoreUnits_15 (fun D2 => ?_)
  refine A_aload_n hC dX7_scoreUnits_18 rfl ?_
  refine A_geti (kf := 0) hC kX7 (lX_50 hL) rfl (by decide) (by decide) rfl w_272 dX7_scoreUnits_19 ?_
  refine A_topi (fun x1 => ?_)
  refine A_istore (lv2 := [some (.ref (g.1 + 50)), some (.ref (g.1 + 43)), some (.int a1), some (.int a2), some (.int x1)]) hC dX7_scoreUnits_22 (Nat.le_of_ble_eq_true rfl) rfl rfl ?_
  refine A_join (fun (J : ADD → Option (Unit × ADD)) => ∀ (D3 : ADD), AT aVv g b 57 [none, none, none, none, none] [] D3 (J D3)) (fun D3 => ?_) (fun j57 hj57 => ?_)
  · exact A_vret hC dX7_scoreUnits_57
  refine A_join (fun (J : Int32 → ADD → Option (Unit × ADD)) => ∀ (x2 : Int32) (D4 : ADD), AT aVv g b 24 [some (.ref (g.1 + 50)), some (.ref (g.1 + 43)), none, none, some (.int x2)] [] D4 (J x2 D4)) (aFix_all (fun (J : Int32 → ADD → Option (Unit × ADD)) => ∀ (x2 : Int32) (D4 : ADD), AT aVv g b 24 [some (.ref (g.1 + 50)), some (.ref (g.1 + 43)), none, none, some (.int x2)] [] D4 (J x2 D4)) (fun _ _ => A_none) (fun L24 hL24 x2 D4 => ?_) _) (fun j24 hj24 => ?_)
  · unfold lX7_scoreUnits_24
    refine A_iload hC dX7_scoreUnits_24 rfl ?_
    refine A_aload_n hC dX7_scoreUnits_26 rfl ?_
    refine A_geti (kf := 1) hC kX7 (lX_50 hL) rfl (by decide) (by decide) rfl w_273 dX7_scoreUnits_27 ?_
    refine A_icmp_gt (tgt := 57) hC dX7_scoreUnits_30 (by decide) ?_ ?_
    · exact A_to (hj57 D4) (trivial)
    · refine A_aload_n hC dX7_scoreUnits_33 rfl ?_
      refine A_getr (kf := 2) hC kX7 (lX_50 hL) rfl (by decide) (by decide) rfl rfl w_274 dX7_scoreUnits_34 ?_
      refine A_iload hC dX7_scoreUnits_37 rfl ?_
      refine A_aload_n hC dX7_scoreUnits_39 rfl ?_
      refine A_geti (kf := 0) hC kX7 (lX_50 hL) rfl (by decide) (by decide) rfl w_272 dX7_scoreUnits_40 ?_
      refine A_isub hC dX7_scoreUnits_43 ?_
      refine A_aload_n hC dX7_scoreUnits_44 rfl ?_
      refine A_iload hC dX7_scoreUnits_45 rfl ?_
      refine A_callVi (As := [.int x2]) (st := [.int (x2 - (D4.1 50 0)), .ref (g.1 + 51)]) hC (fun l => mX4_scoreBy l g hL x2 D4) (lX_43 hL) rfl (Nat.le_of_ble_eq_true rfl) yc_X7_40 rfl rfl ⟨by decide, by decide⟩ (Nat.le_of_ble_eq_true rfl) rfl dX7_scoreUnits_47 (fun x3 D5 => ?_)
      refine A_iast hC (lX_51 hL) dX7_scoreUnits_50 (fun D6 => ?_)
      refine A_iincL (z := (1 : Int32)) (lv2 := fun x4 => [some (.ref (g.1 + 50)), some (.ref (g.1 + 43)), none, none, some (.int x4)]) hC dX7_scoreUnits_51 rfl (by decide) (Nat.le_of_ble_eq_true rfl) rfl (fun _ => rfl) (fun x4 => ?_)
      refine A_goto (tgt := 24) hC dX7_scoreUnits_54 (by decide) ?_
      exact A_to (hL24 x4 D6) (And.intro rfl (And.intro rfl (And.intro rfl (trivial))))
  exact A_to (hj24 x1 D2) (And.intro rfl (And.intro rfl (And.intro rfl (trivial))))
def fX7_worthOf (a1 : Int32) (D : ADD) : Option (Int32 × ADD) := aLet (fun (D1 : ADD) => some ((0 : Int32), D1)) (fun (j10 : ADD → Option (Int32 × ADD)) => (if a1 < 0 then j10 D else (if a1 < (32 : Int32) then aIn a1 32 (aLet (D.1 44 a1.toNatClampNeg) (fun x1 => aIn a1 32 (aLet (D.1 45 a1.toNatClampNeg) (fun x2 => (if x1 = x2 then some ((0 : Int32), D) else aBind (fX7_setAside a1 D) (fun _ D2 => aBind (fX7_bestIf a1 x1 D2) (fun x3 D3 => aBind (fX7_bestIf a1 x2 D3) (fun x4 D4 => some ((aAbs (x3 - x4)), D4))))))))) else j10 D)))
set_option maxHeartbeats 4000000 in
set_option maxRecDepth 100000 in
theorem mX7_worthOf (l : Launch) (g : AGl) (hL : aLX g) (a1 : Int32) (D : ADD) : AM aVi l yX7_worthOf cX7_worthOf 5 (some .int) 4 g [.ref (g.1 + 50), .ref (g.1 + 43), .int a1] D (fX7_worthOf a1 D) := by
  refine AM_of (lv0 := [some (.ref (g.1 + 50)), some (.ref (g.1 + 43)), some (.int a1), none, none]) (own := RX7) (by decide +kernel) rfl (Nat.le_of_ble_eq_true rfl) rfl (fun b hC => ?_)
  unfold fX7_worthOf
  refine A_iload_n hC dX7_worthOf_0 rfl ?_
  refine A_join (fun (J : ADD → Option (Int32 × ADD)) => ∀ (D1 : ADD), AT aVi g b 10 [none, none, none, none, none] [] D1 (J D1)) (fun D1 => ?_) (fun j10 hj10 => ?_)
  · refine A_iconst (v := 0) hC dX7_worthOf_10 (by decide) ?_
    exact A_iret hC dX7_worthOf_11
  refine A_if_lt (tgt := 10) hC dX7_worthOf_1 (by decide) ?_ ?_
  · exact A_to (hj10 D) (trivial)
  · refine A_iload_n hC dX7_worthOf_4 rfl ?_
    refine A_bipush (v := 32) hC dX7_worthOf_5 (by decide) ?_
    refine A_icmp_lt (tgt := 12) hC dX7_worthOf_7 (by decide) ?_ ?_
    · refine A_aload_n hC dX7_worthOf_12 rfl ?_
      refine A_getr (kf := 1) hC kX4 (lX_43 hL) rfl (by decide) (by decide) rfl rfl w_242 dX7_worthOf_13 ?_
      refine A_iload_n hC dX7_worthOf_16 rfl ?_
      refine A_iald hC (lX_44 hL) dX7_worthOf_17 ?_
      refine A_topi (fun x1 => ?_)
      refine A_istore_n (lv2 := [some (.ref (g.1 + 50)), some (.ref (g.1 + 43)), some (.int a1), some (.int x1), none]) hC dX7_worthOf_18 (Nat.le_of_ble_eq_true rfl) rfl rfl ?_
      refine A_aload_n hC dX7_worthOf_19 rfl ?_
      refine A_getr (kf := 2) hC kX4 (lX_43 hL) rfl (by decide) (by decide) rfl rfl w_245 dX7_worthOf_20 ?_
      refine A_iload_n hC dX7_worthOf_23 rfl ?_
      refine A_iald hC (lX_45 hL) dX7_worthOf_24 ?_
      refine A_topi (fun x2 => ?_)
      refine A_istore (lv2 := [some (.ref (g.1 + 50)), some (.ref (g.1 + 43)), some (.int a1), some (.int x1), some (.int x2)]) hC dX7_worthOf_25 (Nat.le_of_ble_eq_true rfl) rfl rfl ?_
      refine A_iload_n hC dX7_worthOf_27 rfl ?_
      refine A_iload hC dX7_worthOf_28 rfl ?_
      refine A_icmp_ne (tgt := 35) hC dX7_worthOf_30 (by decide) ?_ ?_
      · refine A_aload_n hC dX7_worthOf_35 rfl ?_
        refine A_aload_n hC dX7_worthOf_36 rfl ?_
        refine A_iload_n hC dX7_worthOf_37 rfl ?_
        refine A_callVv (As := [.ref (g.1 + 43), .int a1]) (st := []) hC (fun l => mX7_setAside l g hL a1 D) (lX_50 hL) rfl (Nat.le_of_ble_eq_true rfl) yc_X7_65 rfl rfl ⟨by decide, by decide⟩ (Nat.le_of_ble_eq_true rfl) rfl dX7_worthOf_38 (fun _ D2 => ?_)
        refine A_aload_n hC dX7_worthOf_41 rfl ?_
        refine A_aload_n hC dX7_worthOf_42 rfl ?_
        refine A_iload_n hC dX7_worthOf_43 rfl ?_
        refine A_iload_n hC dX7_worthOf_44 rfl ?_
        refine A_callVi (As := [.ref (g.1 + 43), .int a1, .int x1]) (st := []) hC (fun l => mX7_bestIf l g hL a1 x1 D2) (lX_50 hL) rfl (Nat.le_of_ble_eq_true rfl) yc_X7_69 rfl rfl ⟨by decide, by decide⟩ (Nat.le_of_ble_eq_true rfl) rfl dX7_worthOf_45 (fun x3 D3 => ?_)
        refine A_aload_n hC dX7_worthOf_48 rfl ?_
        refine A_aload_n hC dX7_worthOf_49 rfl ?_
        refine A_iload_n hC dX7_worthOf_50 rfl ?_
        refine A_iload hC dX7_worthOf_51 rfl ?_
        refine A_callVi (As := [.ref (g.1 + 43), .int a1, .int x2]) (st := [.int x3]) hC (fun l => mX7_bestIf l g hL a1 x2 D3) (lX_50 hL) rfl (Nat.le_of_ble_eq_true rfl) yc_X7_69 rfl rfl ⟨by decide, by decide⟩ (Nat.le_of_ble_eq_true rfl) rfl dX7_worthOf_53 (fun x4 D4 => ?_)
        refine A_isub hC dX7_worthOf_56 ?_
        refine A_mabs hC w_960 w_895 w_16 w_896 rfl (by decide) (Nat.le_of_ble_eq_true rfl) dX7_worthOf_57 ?_
        exact A_iret hC dX7_worthOf_60
      · refine A_iconst (v := 0) hC dX7_worthOf_33 (by decide) ?_
        exact A_iret hC dX7_worthOf_34
    · exact A_to (hj10 D) (trivial)
def lX10_anew_50 (j103 : Int32 → ADD → Option (Int32 × ADD)) (L50 : Int32 → Int32 → Int32 → ADD → Option (Int32 × ADD)) (x4 : Int32) (x5 : Int32) (x6 : Int32) (D6 : ADD) : Option (Int32 × ADD) := (if (D6.1 43 0) ≤ x6 then j103 x5 D6 else aBind (fX7_worthOf x6 D6) (fun x7 D7 => aLet (fun (x8 : Int32) (x9 : Int32) (D8 : ADD) => aLet (x6 + (1 : Int32)) (fun x10 => L50 x8 x9 x10 D8)) (fun (j97 : Int32 → Int32 → ADD → Option (Int32 × ADD)) => (if x7 ≤ x4 then j97 x4 x5 D7 else aBind (fX4_numberOf x6 D7) (fun x11 D9 => j97 x7 x11 D9)))))
def fX10_anew (a1 : Int32) (a2 : Int32) (D : ADD) : Option (Int32 × ADD) := aBind (fX10_isRange a1 a2 (300 : Int32) D) (fun x1 D1 => aLet (fun (D2 : ADD) => some ((-1 : Int32), D2)) (fun (j27 : ADD → Option (Int32 × ADD)) => (if x1 = 0 then j27 D1 else aBind (fX4_gather (0 : Int32) (0 : Int32) D1) (fun x2 D3 => (if x2 = 0 then j27 D3 else aBind (fX7_scoreUnits a1 a2 D3) (fun _ D4 => aLet (fun (x3 : Int32) (D5 : ADD) => some (x3, D5)) (fun (j103 : Int32 → ADD → Option (Int32 × ADD)) => aLet (aFix aFuel (lX10_anew_50 j103) (fun _ _ _ _ => none)) (fun j50 => j50 (-1 : Int32) (-1 : Int32) (0 : Int32) D4))))))))
set_option maxHeartbeats 4000000 in
set_option maxRecDepth 100000 in
theorem mX10_anew (l : Launch) (g : AGl) (hL : aLX g) (a1 : Int32) (a2 : Int32) (D : ADD) : AM aVi l yX10_anew cX10_anew 7 (some .int) 5 g [.ref (g.1 + 0), .int a1, .int a2] D (fX10_anew a1 a2 D) := by
  refine AM_of (lv0 := [some (.ref (g.1 + 0)), some (.int a1), some (.int a2), none, none, none, none]) (own := RX10) (by decide +kernel) rfl (Nat.le_of_ble_eq_true rfl) rfl (fun b hC => ?_)
  unfold fX10_anew
  refine A_iload_n hC dX10_anew_0 rfl ?_
  refine A_iload_n hC dX10_anew_1 rfl ?_
  refine A_sipush (v := 300) hC dX10_anew_2 (by decide) ?_
  refine A_callSi (As := [.int a1, .int a2, .int (300 : Int32)]) (st := []) hC (fun l => mX10_isRange l g a1 a2 (300 : Int32) D) yc_X10_182 rfl rfl ⟨by decide, by decide⟩ (Nat.le_of_ble_eq_true rfl) rfl dX10_anew_5 (fun x1 D1 => ?_)
  refine A_join (fun (J : ADD → Option (Int32 × ADD)) => ∀ (D2 : ADD), AT aVi g b 27 [none, none, none, none, none, none, none] [] D2 (J D2)) (fun D2 => ?_) (fun j27 hj27 => ?_)
  · refine A_iconst (v := -1) hC dX10_anew_27 (by decide) ?_
    exact A_iret hC dX10_anew_28
  refine A_if_eq (tgt := 27) hC dX10_anew_8 (by decide) ?_ ?_
  · exact A_to (hj27 D1) (trivial)
  · refine A_aload_n hC dX10_anew_11 rfl ?_
    refine A_getr (kf := 3) hC kX10 (lX_0 hL) rfl (by decide) (by decide) rfl rfl w_308 dX10_anew_12 ?_
    refine A_aload_n hC dX10_anew_15 rfl ?_
    refine A_getr (kf := 0) hC kX10 (lX_0 hL) rfl (by decide) (by decide) rfl rfl w_305 dX10_anew_16 ?_
    refine A_iconst (v := 0) hC dX10_anew_19 (by decide) ?_
    refine A_iconst (v := 0) hC dX10_anew_20 (by decide) ?_
    refine A_callVi (As := [.ref (g.1 + 1), .int (0 : Int32), .int (0 : Int32)]) (st := []) hC (fun l => mX4_gather l g hL (0 : Int32) (0 : Int32) D1) (lX_43 hL) rfl (Nat.le_of_ble_eq_true rfl) yc_X10_174 rfl rfl ⟨by decide, by decide⟩ (Nat.le_of_ble_eq_true rfl) rfl dX10_anew_21 (fun x2 D3 => ?_)
    refine A_if_ne (tgt := 29) hC dX10_anew_24 (by decide) ?_ ?_
    · refine A_aload_n hC dX10_anew_29 rfl ?_
      refine A_getr (kf := 4) hC kX10 (lX_0 hL) rfl (by decide) (by decide) rfl rfl w_309 dX10_anew_30 ?_
      refine A_aload_n hC dX10_anew_33 rfl ?_
      refine A_getr (kf := 3) hC kX10 (lX_0 hL) rfl (by decide) (by decide) rfl rfl w_308 dX10_anew_34 ?_
      refine A_iload_n hC dX10_anew_37 rfl ?_
      refine A_iload_n hC dX10_anew_38 rfl ?_
      refine A_callVv (As := [.ref (g.1 + 43), .int a1, .int a2]) (st := []) hC (fun l => mX7_scoreUnits l g hL a1 a2 D3) (lX_50 hL) rfl (Nat.le_of_ble_eq_true rfl) yc_X10_189 rfl rfl ⟨by decide, by decide⟩ (Nat.le_of_ble_eq_true rfl) rfl dX10_anew_39 (fun _ D4 => ?_)
      refine A_iconst (v := -1) hC dX10_anew_42 (by decide) ?_
      refine A_istore_n (lv2 := [some (.ref (g.1 + 0)), some (.int a1), some (.int a2), some (.int (-1 : Int32)), none, none, none]) hC dX10_anew_43 (Nat.le_of_ble_eq_true rfl) rfl rfl ?_
      refine A_iconst (v := -1) hC dX10_anew_44 (by decide) ?_
      refine A_istore (lv2 := [some (.ref (g.1 + 0)), some (.int a1), some (.int a2), some (.int (-1 : Int32)), some (.int (-1 : Int32)), none, none]) hC dX10_anew_45 (Nat.le_of_ble_eq_true rfl) rfl rfl ?_
      refine A_iconst (v := 0) hC dX10_anew_47 (by decide) ?_
      refine A_istore (lv2 := [some (.ref (g.1 + 0)), some (.int a1), some (.int a2), some (.int (-1 : Int32)), some (.int (-1 : Int32)), some (.int (0 : Int32)), none]) hC dX10_anew_48 (Nat.le_of_ble_eq_true rfl) rfl rfl ?_
      refine A_join (fun (J : Int32 → ADD → Option (Int32 × ADD)) => ∀ (x3 : Int32) (D5 : ADD), AT aVi g b 103 [none, none, none, none, some (.int x3), none, none] [] D5 (J x3 D5)) (fun x3 D5 => ?_) (fun j103 hj103 => ?_)
      · refine A_iload hC dX10_anew_103 rfl ?_
        exact A_iret hC dX10_anew_105
      refine A_join (fun (J : Int32 → Int32 → Int32 → ADD → Option (Int32 × ADD)) => ∀ (x4 : Int32) (x5 : Int32) (x6 : Int32) (D6 : ADD), AT aVi g b 50 [some (.ref (g.1 + 0)), none, none, some (.int x4), some (.int x5), some (.int x6), none] [] D6 (J x4 x5 x6 D6)) (aFix_all (fun (J : Int32 → Int32 → Int32 → ADD → Option (Int32 × ADD)) => ∀ (x4 : Int32) (x5 : Int32) (x6 : Int32) (D6 : ADD), AT aVi g b 50 [some (.ref (g.1 + 0)), none, none, some (.int x4), some (.int x5), some (.int x6), none] [] D6 (J x4 x5 x6 D6)) (fun _ _ _ _ => A_none) (fun L50 hL50 x4 x5 x6 D6 => ?_) _) (fun j50 hj50 => ?_)
      · unfold lX10_anew_50
        refine A_iload hC dX10_anew_50 rfl ?_
        refine A_aload_n hC dX10_anew_52 rfl ?_
        refine A_getr (kf := 3) hC kX10 (lX_0 hL) rfl (by decide) (by decide) rfl rfl w_308 dX10_anew_53 ?_
        refine A_geti (kf := 0) hC kX4 (lX_43 hL) rfl (by decide) (by decide) rfl w_240 dX10_anew_56 ?_
        refine A_icmp_ge (tgt := 103) hC dX10_anew_59 (by decide) ?_ ?_
        · exact A_to (hj103 x5 D6) (And.intro rfl (trivial))
        · refine A_aload_n hC dX10_anew_62 rfl ?_
          refine A_getr (kf := 4) hC kX10 (lX_0 hL) rfl (by decide) (by decide) rfl rfl w_309 dX10_anew_63 ?_
          refine A_aload_n hC dX10_anew_66 rfl ?_
          refine A_getr (kf := 3) hC kX10 (lX_0 hL) rfl (by decide) (by decide) rfl rfl w_308 dX10_anew_67 ?_
          refine A_iload hC dX10_anew_70 rfl ?_
          refine A_callVi (As := [.ref (g.1 + 43), .int x6]) (st := []) hC (fun l => mX7_worthOf l g hL x6 D6) (lX_50 hL) rfl (Nat.le_of_ble_eq_true rfl) yc_X10_255 rfl rfl ⟨by decide, by decide⟩ (Nat.le_of_ble_eq_true rfl) rfl dX10_anew_72 (fun x7 D7 => ?_)
          refine A_istore (lv2 := [some (.ref (g.1 + 0)), none, none, some (.int x4), some (.int x5), some (.int x6), some (.int x7)]) hC dX10_anew_75 (Nat.le_of_ble_eq_true rfl) rfl rfl ?_
          refine A_iload hC dX10_anew_77 rfl ?_
          refine A_iload_n hC dX10_anew_79 rfl ?_
          refine A_join (fun (J : Int32 → Int32 → ADD → Option (Int32 × ADD)) => ∀ (x8 : Int32) (x9 : Int32) (D8 : ADD), AT aVi g b 97 [some (.ref (g.1 + 0)), none, none, some (.int x8), some (.int x9), some (.int x6), none] [] D8 (J x8 x9 D8)) (fun x8 x9 D8 => ?_) (fun j97 hj97 => ?_)
          · refine A_iincL (z := (1 : Int32)) (lv2 := fun x10 => [some (.ref (g.1 + 0)), none, none, some (.int x8), some (.int x9), some (.int x10), none]) hC dX10_anew_97 rfl (by decide) (Nat.le_of_ble_eq_true rfl) rfl (fun _ => rfl) (fun x10 => ?_)
            refine A_goto (tgt := 50) hC dX10_anew_100 (by decide) ?_
            exact A_to (hL50 x8 x9 x10 D8) (And.intro rfl (And.intro rfl (And.intro rfl (And.intro rfl (trivial)))))
          refine A_icmp_le (tgt := 97) hC dX10_anew_80 (by decide) ?_ ?_
          · exact A_to (hj97 x4 x5 D7) (And.intro rfl (And.intro rfl (And.intro rfl (And.intro rfl (trivial)))))
          · refine A_iload hC dX10_anew_83 rfl ?_
            refine A_istore_n (lv2 := [some (.ref (g.1 + 0)), none, none, some (.int x7), some (.int x5), some (.int x6), some (.int x7)]) hC dX10_anew_85 (Nat.le_of_ble_eq_true rfl) rfl rfl ?_
            refine A_aload_n hC dX10_anew_86 rfl ?_
            refine A_getr (kf := 3) hC kX10 (lX_0 hL) rfl (by decide) (by decide) rfl rfl w_308 dX10_anew_87 ?_
            refine A_iload hC dX10_anew_90 rfl ?_
            refine A_callVi (As := [.int x6]) (st := []) hC (fun l => mX4_numberOf l g hL x6 D7) (lX_43 hL) rfl (Nat.le_of_ble_eq_true rfl) yc_X10_259 rfl rfl ⟨by decide, by decide⟩ (Nat.le_of_ble_eq_true rfl) rfl dX10_anew_92 (fun x11 D9 => ?_)
            refine A_istore (lv2 := [some (.ref (g.1 + 0)), none, none, some (.int x7), some (.int x11), some (.int x6), some (.int x7)]) hC dX10_anew_95 (Nat.le_of_ble_eq_true rfl) rfl rfl ?_
            exact A_to (hj97 x7 x11 D9) (And.intro rfl (And.intro rfl (And.intro rfl (And.intro rfl (trivial)))))
      exact A_to (hj50 (-1 : Int32) (-1 : Int32) (0 : Int32) D4) (And.intro rfl (And.intro rfl (And.intro rfl (And.intro rfl (trivial)))))
    · exact A_to (hj27 D3) (trivial)
def fX10_bestAmong (a1 : Int32) (a2 : Int32) (a3 : Int32) (a4 : Int32) (D : ADD) : Option (Int32 × ADD) := aBind (fX4_gather a1 a2 D) (fun x1 D1 => (if x1 = 0 then some ((-1 : Int32), D1) else aBind (fX7_scoreUnits a3 a4 D1) (fun _ D2 => aBind (fX7_bestUnit D2) (fun x2 D3 => some (x2, D3)))))
set_option maxHeartbeats 4000000 in
set_option maxRecDepth 100000 in
theorem mX10_bestAmong (l : Launch) (g : AGl) (hL : aLX g) (a1 : Int32) (a2 : Int32) (a3 : Int32) (a4 : Int32) (D : ADD) : AM aVi l yX10_bestAmong cX10_bestAmong 5 (some .int) 5 g [.ref (g.1 + 0), .int a1, .int a2, .int a3, .int a4] D (fX10_bestAmong a1 a2 a3 a4 D) := by
  refine AM_of (lv0 := [some (.ref (g.1 + 0)), some (.int a1), some (.int a2), some (.int a3), some (.int a4)]) (own := RX10) (by decide +kernel) rfl (Nat.le_of_ble_eq_true rfl) rfl (fun b hC => ?_)
  unfold fX10_bestAmong
  refine A_aload_n hC dX10_bestAmong_0 rfl ?_
  refine A_getr (kf := 3) hC kX10 (lX_0 hL) rfl (by decide) (by decide) rfl rfl w_308 dX10_bestAmong_1 ?_
  refine A_aload_n hC dX10_bestAmong_4 rfl ?_
  refine A_getr (kf := 0) hC kX10 (lX_0 hL) rfl (by decide) (by decide) rfl rfl w_305 dX10_bestAmong_5 ?_
  refine A_iload_n hC dX10_bestAmong_8 rfl ?_
  refine A_iload_n hC dX10_bestAmong_9 rfl ?_
  refine A_callVi (As := [.ref (g.1 + 1), .int a1, .int a2]) (st := []) hC (fun l => mX4_gather l g hL a1 a2 D) (lX_43 hL) rfl (Nat.le_of_ble_eq_true rfl) yc_X10_174 rfl rfl ⟨by decide, by decide⟩ (Nat.le_of_ble_eq_true rfl) rfl dX10_bestAmong_10 (fun x1 D1 => ?_)
  refine A_if_ne (tgt := 18) hC dX10_bestAmong_13 (by decide) ?_ ?_
  · refine A_aload_n hC dX10_bestAmong_18 rfl ?_
    refine A_getr (kf := 4) hC kX10 (lX_0 hL) rfl (by decide) (by decide) rfl rfl w_309 dX10_bestAmong_19 ?_
    refine A_aload_n hC dX10_bestAmong_22 rfl ?_
    refine A_getr (kf := 3) hC kX10 (lX_0 hL) rfl (by decide) (by decide) rfl rfl w_308 dX10_bestAmong_23 ?_
    refine A_iload_n hC dX10_bestAmong_26 rfl ?_
    refine A_iload hC dX10_bestAmong_27 rfl ?_
    refine A_callVv (As := [.ref (g.1 + 43), .int a3, .int a4]) (st := []) hC (fun l => mX7_scoreUnits l g hL a3 a4 D1) (lX_50 hL) rfl (Nat.le_of_ble_eq_true rfl) yc_X10_189 rfl rfl ⟨by decide, by decide⟩ (Nat.le_of_ble_eq_true rfl) rfl dX10_bestAmong_29 (fun _ D2 => ?_)
    refine A_aload_n hC dX10_bestAmong_32 rfl ?_
    refine A_getr (kf := 4) hC kX10 (lX_0 hL) rfl (by decide) (by decide) rfl rfl w_309 dX10_bestAmong_33 ?_
    refine A_callVi (As := []) (st := []) hC (fun l => mX7_bestUnit l g hL D2) (lX_50 hL) rfl (Nat.le_of_ble_eq_true rfl) yc_X10_277 rfl rfl ⟨by decide, by decide⟩ (Nat.le_of_ble_eq_true rfl) rfl dX10_bestAmong_36 (fun x2 D3 => ?_)
    exact A_iret hC dX10_bestAmong_39
  · refine A_iconst (v := -1) hC dX10_bestAmong_16 (by decide) ?_
    exact A_iret hC dX10_bestAmong_17
def fX10_by (a1 : Int32) (a2 : Int32) (a3 : Int32) (D : ADD) : Option (Int32 × ADD) := aBind (fX10_isUnit a2 D) (fun x1 D1 => aLet (fun (D2 : ADD) => some ((-1 : Int32), D2)) (fun (j22 : ADD → Option (Int32 × ADD)) => (if x1 = 0 then j22 D1 else aBind (fX4_takeAlone a1 D1) (fun x2 D3 => (if x2 = 0 then j22 D3 else aTab a3 0 [aBind (fX4_offOf (0 : Int32) a2 D3) (fun x3 D4 => some (x3, D4)), aBind (fX4_isNear (0 : Int32) a2 D3) (fun x4 D5 => aLet (fun (x5 : Int32) (D6 : ADD) => some (x5, D6)) (fun (j83 : Int32 → ADD → Option (Int32 × ADD)) => (if x4 = 0 then j83 (0 : Int32) D5 else j83 (1 : Int32) D5))), aBind (fX4_shortOf (0 : Int32) a2 D3) (fun x6 D7 => some (x6, D7)), aBind (fX4_timesOf (0 : Int32) a2 D3) (fun x7 D8 => some (x7, D8))] (some ((-1 : Int32), D3)))))))
set_option maxHeartbeats 4000000 in
set_option maxRecDepth 100000 in
theorem mX10_by (l : Launch) (g : AGl) (hL : aLX g) (a1 : Int32) (a2 : Int32) (a3 : Int32) (D : ADD) : AM aVi l yX10_by cX10_by 4 (some .int) 5 g [.ref (g.1 + 0), .int a1, .int a2, .int a3] D (fX10_by a1 a2 a3 D) := by
  refine AM_of (lv0 := [some (.ref (g.1 + 0)), some (.int a1), some (.int a2), some (.int a3)]) (own := RX10) (by decide +kernel) rfl (Nat.le_of_ble_eq_true rfl) rfl (fun b hC => ?_)
  unfold fX10_by
  refine A_iload_n hC dX10_by_0 rfl ?_
  refine A_callSi (As := [.int a2]) (st := []) hC (fun l => mX10_isUnit l g a2 D) yc_X10_157 rfl rfl ⟨by decide, by decide⟩ (Nat.le_of_ble_eq_true rfl) rfl dX10_by_1 (fun x1 D1 => ?_)
  refine A_join (fun (J : ADD → Option (Int32 × ADD)) => ∀ (D2 : ADD), AT aVi g b 22 [none, none, none, none] [] D2 (J D2)) (fun D2 => ?_) (fun j22 hj22 => ?_)
  · refine A_iconst (v := -1) hC dX10_by_22 (by decide) ?_
    exact A_iret hC dX10_by_23
  refine A_if_eq (tgt := 22) hC dX10_by_4 (by decide) ?_ ?_
  · exact A_to (hj22 D1) (trivial)
  · refine A_aload_n hC dX10_by_7 rfl ?_
    refine A_getr (kf := 3) hC kX10 (lX_0 hL) rfl (by decide) (by decide) rfl rfl w_308 dX10_by_8 ?_
    refine A_aload_n hC dX10_by_11 rfl ?_
    refine A_getr (kf := 0) hC kX10 (lX_0 hL) rfl (by decide) (by decide) rfl rfl w_305 dX10_by_12 ?_
    refine A_iload_n hC dX10_by_15 rfl ?_
    refine A_callVi (As := [.ref (g.1 + 1), .int a1]) (st := []) hC (fun l => mX4_takeAlone l g hL a1 D1) (lX_43 hL) rfl (Nat.le_of_ble_eq_true rfl) yc_X10_143 rfl rfl ⟨by decide, by decide⟩ (Nat.le_of_ble_eq_true rfl) rfl dX10_by_16 (fun x2 D3 => ?_)
    refine A_if_ne (tgt := 24) hC dX10_by_19 (by decide) ?_ ?_
    · refine A_iload_n hC dX10_by_24 rfl ?_
      refine A_tab (td := 104) hC dX10_by_25 rfl (by decide) ?_ (And.intro (Exists.intro 56 (And.intro (by decide) ?_)) (And.intro (Exists.intro 66 (And.intro (by decide) ?_)) (And.intro (Exists.intro 84 (And.intro (by decide) ?_)) (And.intro (Exists.intro 94 (And.intro (by decide) ?_)) trivial))))
      · refine A_iconst (v := -1) hC dX10_by_104 (by decide) ?_
        exact A_iret hC dX10_by_105
      · refine A_aload_n hC dX10_by_56 rfl ?_
        refine A_getr (kf := 3) hC kX10 (lX_0 hL) rfl (by decide) (by decide) rfl rfl w_308 dX10_by_57 ?_
        refine A_iconst (v := 0) hC dX10_by_60 (by decide) ?_
        refine A_iload_n hC dX10_by_61 rfl ?_
        refine A_callVi (As := [.int (0 : Int32), .int a2]) (st := []) hC (fun l => mX4_offOf l g hL (0 : Int32) a2 D3) (lX_43 hL) rfl (Nat.le_of_ble_eq_true rfl) yc_X10_160 rfl rfl ⟨by decide, by decide⟩ (Nat.le_of_ble_eq_true rfl) rfl dX10_by_62 (fun x3 D4 => ?_)
        exact A_iret hC dX10_by_65
      · refine A_aload_n hC dX10_by_66 rfl ?_
        refine A_getr (kf := 3) hC kX10 (lX_0 hL) rfl (by decide) (by decide) rfl rfl w_308 dX10_by_67 ?_
        refine A_iconst (v := 0) hC dX10_by_70 (by decide) ?_
        refine A_iload_n hC dX10_by_71 rfl ?_
        refine A_callVi (As := [.int (0 : Int32), .int a2]) (st := []) hC (fun l => mX4_isNear l g hL (0 : Int32) a2 D3) (lX_43 hL) rfl (Nat.le_of_ble_eq_true rfl) yc_X10_163 rfl rfl ⟨by decide, by decide⟩ (Nat.le_of_ble_eq_true rfl) rfl dX10_by_72 (fun x4 D5 => ?_)
        refine A_join (fun (J : Int32 → ADD → Option (Int32 × ADD)) => ∀ (x5 : Int32) (D6 : ADD), AT aVi g b 83 [none, none, none, none] [.int x5] D6 (J x5 D6)) (fun x5 D6 => ?_) (fun j83 hj83 => ?_)
        · exact A_iret hC dX10_by_83
        refine A_if_eq (tgt := 82) hC dX10_by_75 (by decide) ?_ ?_
        · refine A_iconst (v := 0) hC dX10_by_82 (by decide) ?_
          exact A_to (hj83 (0 : Int32) D5) (trivial)
        · refine A_iconst (v := 1) hC dX10_by_78 (by decide) ?_
          refine A_goto (tgt := 83) hC dX10_by_79 (by decide) ?_
          exact A_to (hj83 (1 : Int32) D5) (trivial)
      · refine A_aload_n hC dX10_by_84 rfl ?_
        refine A_getr (kf := 3) hC kX10 (lX_0 hL) rfl (by decide) (by decide) rfl rfl w_308 dX10_by_85 ?_
        refine A_iconst (v := 0) hC dX10_by_88 (by decide) ?_
        refine A_iload_n hC dX10_by_89 rfl ?_
        refine A_callVi (As := [.int (0 : Int32), .int a2]) (st := []) hC (fun l => mX4_shortOf l g hL (0 : Int32) a2 D3) (lX_43 hL) rfl (Nat.le_of_ble_eq_true rfl) yc_X10_167 rfl rfl ⟨by decide, by decide⟩ (Nat.le_of_ble_eq_true rfl) rfl dX10_by_90 (fun x6 D7 => ?_)
        exact A_iret hC dX10_by_93
      · refine A_aload_n hC dX10_by_94 rfl ?_
        refine A_getr (kf := 3) hC kX10 (lX_0 hL) rfl (by decide) (by decide) rfl rfl w_308 dX10_by_95 ?_
        refine A_iconst (v := 0) hC dX10_by_98 (by decide) ?_
        refine A_iload_n hC dX10_by_99 rfl ?_
        refine A_callVi (As := [.int (0 : Int32), .int a2]) (st := []) hC (fun l => mX4_timesOf l g hL (0 : Int32) a2 D3) (lX_43 hL) rfl (Nat.le_of_ble_eq_true rfl) yc_X10_170 rfl rfl ⟨by decide, by decide⟩ (Nat.le_of_ble_eq_true rfl) rfl dX10_by_100 (fun x7 D8 => ?_)
        exact A_iret hC dX10_by_103
    · exact A_to (hj22 D3) (trivial)
def fX10_chance (a1 : Int32) (D : ADD) : Option (Int32 × ADD) := aBind (fX10_isUnit a1 D) (fun x1 D1 => (if x1 = 0 then some ((-1 : Int32), D1) else aBind (fX4_gather (0 : Int32) (0 : Int32) D1) (fun x2 D2 => aBind (fX4_nearBy a1 D2) (fun x3 D3 => aBind (fX3_ofNear a1 x3 D3) (fun x4 D4 => some (x4, D4))))))
set_option maxHeartbeats 4000000 in
set_option maxRecDepth 100000 in
theorem mX10_chance (l : Launch) (g : AGl) (hL : aLX g) (a1 : Int32) (D : ADD) : AM aVi l yX10_chance cX10_chance 2 (some .int) 5 g [.ref (g.1 + 0), .int a1] D (fX10_chance a1 D) := by
  refine AM_of (lv0 := [some (.ref (g.1 + 0)), some (.int a1)]) (own := RX10) (by decide +kernel) rfl (Nat.le_of_ble_eq_true rfl) rfl (fun b hC => ?_)
  unfold fX10_chance
  refine A_iload_n hC dX10_chance_0 rfl ?_
  refine A_callSi (As := [.int a1]) (st := []) hC (fun l => mX10_isUnit l g a1 D) yc_X10_157 rfl rfl ⟨by decide, by decide⟩ (Nat.le_of_ble_eq_true rfl) rfl dX10_chance_1 (fun x1 D1 => ?_)
  refine A_if_ne (tgt := 9) hC dX10_chance_4 (by decide) ?_ ?_
  · refine A_aload_n hC dX10_chance_9 rfl ?_
    refine A_getr (kf := 3) hC kX10 (lX_0 hL) rfl (by decide) (by decide) rfl rfl w_308 dX10_chance_10 ?_
    refine A_aload_n hC dX10_chance_13 rfl ?_
    refine A_getr (kf := 0) hC kX10 (lX_0 hL) rfl (by decide) (by decide) rfl rfl w_305 dX10_chance_14 ?_
    refine A_iconst (v := 0) hC dX10_chance_17 (by decide) ?_
    refine A_iconst (v := 0) hC dX10_chance_18 (by decide) ?_
    refine A_callVi (As := [.ref (g.1 + 1), .int (0 : Int32), .int (0 : Int32)]) (st := []) hC (fun l => mX4_gather l g hL (0 : Int32) (0 : Int32) D1) (lX_43 hL) rfl (Nat.le_of_ble_eq_true rfl) yc_X10_174 rfl rfl ⟨by decide, by decide⟩ (Nat.le_of_ble_eq_true rfl) rfl dX10_chance_19 (fun x2 D2 => ?_)
    refine A_pop hC dX10_chance_22 rfl ?_
    refine A_aload_n hC dX10_chance_23 rfl ?_
    refine A_getr (kf := 5) hC kX10 (lX_0 hL) rfl (by decide) (by decide) rfl rfl w_310 dX10_chance_24 ?_
    refine A_aload_n hC dX10_chance_27 rfl ?_
    refine A_getr (kf := 3) hC kX10 (lX_0 hL) rfl (by decide) (by decide) rfl rfl w_308 dX10_chance_28 ?_
    refine A_iload_n hC dX10_chance_31 rfl ?_
    refine A_aload_n hC dX10_chance_32 rfl ?_
    refine A_getr (kf := 3) hC kX10 (lX_0 hL) rfl (by decide) (by decide) rfl rfl w_308 dX10_chance_33 ?_
    refine A_iload_n hC dX10_chance_36 rfl ?_
    refine A_callVi (As := [.int a1]) (st := [.int a1, .ref (g.1 + 43), .ref (g.1 + 55)]) hC (fun l => mX4_nearBy l g hL a1 D2) (lX_43 hL) rfl (Nat.le_of_ble_eq_true rfl) yc_X10_206 rfl rfl ⟨by decide, by decide⟩ (Nat.le_of_ble_eq_true rfl) rfl dX10_chance_37 (fun x3 D3 => ?_)
    refine A_callVi (As := [.ref (g.1 + 43), .int a1, .int x3]) (st := []) hC (fun l => mX3_ofNear l g hL a1 x3 D3) (lX_55 hL) rfl (Nat.le_of_ble_eq_true rfl) yc_X10_209 rfl rfl ⟨by decide, by decide⟩ (Nat.le_of_ble_eq_true rfl) rfl dX10_chance_40 (fun x4 D4 => ?_)
    exact A_iret hC dX10_chance_43
  · refine A_iconst (v := -1) hC dX10_chance_7 (by decide) ?_
    exact A_iret hC dX10_chance_8
def fX10_count (a1 : Int32) (D : ADD) : Option (Int32 × ADD) := aTab a1 0 [some ((D.1 2 9), D), aBind (fX4_gather (0 : Int32) (0 : Int32) D) (fun x1 D1 => some (x1, D1)), some ((D.1 2 10), D), some ((D.1 2 11), D), some ((D.1 2 12), D), some ((D.1 13 0), D), some ((D.1 22 0), D)] (aLet (fun (x2 : Int32) (D2 : ADD) => some (x2, D2)) (fun (j156 : Int32 → ADD → Option (Int32 × ADD)) => aLet (fun (D3 : ADD) => j156 (-1 : Int32) D3) (fun (j155 : ADD → Option (Int32 × ADD)) => (if a1 < (10 : Int32) then j155 D else (if (16 : Int32) ≤ a1 then j155 D else aBind (fX4_gather (1 : Int32) (a1 - (10 : Int32)) D) (fun x3 D4 => j156 x3 D4))))))
set_option maxHeartbeats 4000000 in
set_option maxRecDepth 100000 in
theorem mX10_count (l : Launch) (g : AGl) (hL : aLX g) (a1 : Int32) (D : ADD) : AM aVi l yX10_count cX10_count 2 (some .int) 5 g [.ref (g.1 + 0), .int a1] D (fX10_count a1 D) := by
  refine AM_of (lv0 := [some (.ref (g.1 + 0)), some (.int a1)]) (own := RX10) (by decide +kernel) rfl (Nat.le_of_ble_eq_true rfl) rfl (fun b hC => ?_)
  unfold fX10_count
  refine A_iload_n hC dX10_count_0 rfl ?_
  refine A_tab (td := 124) hC dX10_count_1 rfl (by decide) ?_ (And.intro (Exists.intro 44 (And.intro (by decide) ?_)) (And.intro (Exists.intro 55 (And.intro (by decide) ?_)) (And.intro (Exists.intro 69 (And.intro (by decide) ?_)) (And.intro (Exists.intro 80 (And.intro (by decide) ?_)) (And.intro (Exists.intro 91 (And.intro (by decide) ?_)) (And.intro (Exists.intro 102 (And.intro (by decide) ?_)) (And.intro (Exists.intro 113 (And.intro (by decide) ?_)) trivial)))))))
  · refine A_iload_n hC dX10_count_124 rfl ?_
    refine A_bipush (v := 10) hC dX10_count_125 (by decide) ?_
    refine A_join (fun (J : Int32 → ADD → Option (Int32 × ADD)) => ∀ (x2 : Int32) (D2 : ADD), AT aVi g b 156 [none, none] [.int x2] D2 (J x2 D2)) (fun x2 D2 => ?_) (fun j156 hj156 => ?_)
    · exact A_iret hC dX10_count_156
    refine A_join (fun (J : ADD → Option (Int32 × ADD)) => ∀ (D3 : ADD), AT aVi g b 155 [none, none] [] D3 (J D3)) (fun D3 => ?_) (fun j155 hj155 => ?_)
    · refine A_iconst (v := -1) hC dX10_count_155 (by decide) ?_
      exact A_to (hj156 (-1 : Int32) D3) (trivial)
    refine A_icmp_lt (tgt := 155) hC dX10_count_127 (by decide) ?_ ?_
    · exact A_to (hj155 D) (trivial)
    · refine A_iload_n hC dX10_count_130 rfl ?_
      refine A_bipush (v := 16) hC dX10_count_131 (by decide) ?_
      refine A_icmp_ge (tgt := 155) hC dX10_count_133 (by decide) ?_ ?_
      · exact A_to (hj155 D) (trivial)
      · refine A_aload_n hC dX10_count_136 rfl ?_
        refine A_getr (kf := 3) hC kX10 (lX_0 hL) rfl (by decide) (by decide) rfl rfl w_308 dX10_count_137 ?_
        refine A_aload_n hC dX10_count_140 rfl ?_
        refine A_getr (kf := 0) hC kX10 (lX_0 hL) rfl (by decide) (by decide) rfl rfl w_305 dX10_count_141 ?_
        refine A_iconst (v := 1) hC dX10_count_144 (by decide) ?_
        refine A_iload_n hC dX10_count_145 rfl ?_
        refine A_bipush (v := 10) hC dX10_count_146 (by decide) ?_
        refine A_isub hC dX10_count_148 ?_
        refine A_callVi (As := [.ref (g.1 + 1), .int (1 : Int32), .int (a1 - (10 : Int32))]) (st := []) hC (fun l => mX4_gather l g hL (1 : Int32) (a1 - (10 : Int32)) D) (lX_43 hL) rfl (Nat.le_of_ble_eq_true rfl) yc_X10_174 rfl rfl ⟨by decide, by decide⟩ (Nat.le_of_ble_eq_true rfl) rfl dX10_count_149 (fun x3 D4 => ?_)
        refine A_goto (tgt := 156) hC dX10_count_152 (by decide) ?_
        exact A_to (hj156 x3 D4) (trivial)
  · refine A_aload_n hC dX10_count_44 rfl ?_
    refine A_getr (kf := 0) hC kX10 (lX_0 hL) rfl (by decide) (by decide) rfl rfl w_305 dX10_count_45 ?_
    refine A_getr (kf := 0) hC kX8 (lX_1 hL) rfl (by decide) (by decide) rfl rfl w_163 dX10_count_48 ?_
    refine A_geti (kf := 9) hC kX0 (lX_2 hL) rfl (by decide) (by decide) rfl w_52 dX10_count_51 ?_
    exact A_iret hC dX10_count_54
  · refine A_aload_n hC dX10_count_55 rfl ?_
    refine A_getr (kf := 3) hC kX10 (lX_0 hL) rfl (by decide) (by decide) rfl rfl w_308 dX10_count_56 ?_
    refine A_aload_n hC dX10_count_59 rfl ?_
    refine A_getr (kf := 0) hC kX10 (lX_0 hL) rfl (by decide) (by decide) rfl rfl w_305 dX10_count_60 ?_
    refine A_iconst (v := 0) hC dX10_count_63 (by decide) ?_
    refine A_iconst (v := 0) hC dX10_count_64 (by decide) ?_
    refine A_callVi (As := [.ref (g.1 + 1), .int (0 : Int32), .int (0 : Int32)]) (st := []) hC (fun l => mX4_gather l g hL (0 : Int32) (0 : Int32) D) (lX_43 hL) rfl (Nat.le_of_ble_eq_true rfl) yc_X10_174 rfl rfl ⟨by decide, by decide⟩ (Nat.le_of_ble_eq_true rfl) rfl dX10_count_65 (fun x1 D1 => ?_)
    exact A_iret hC dX10_count_68
  · refine A_aload_n hC dX10_count_69 rfl ?_
    refine A_getr (kf := 0) hC kX10 (lX_0 hL) rfl (by decide) (by decide) rfl rfl w_305 dX10_count_70 ?_
    refine A_getr (kf := 0) hC kX8 (lX_1 hL) rfl (by decide) (by decide) rfl rfl w_163 dX10_count_73 ?_
    refine A_geti (kf := 10) hC kX0 (lX_2 hL) rfl (by decide) (by decide) rfl w_54 dX10_count_76 ?_
    exact A_iret hC dX10_count_79
  · refine A_aload_n hC dX10_count_80 rfl ?_
    refine A_getr (kf := 0) hC kX10 (lX_0 hL) rfl (by decide) (by decide) rfl rfl w_305 dX10_count_81 ?_
    refine A_getr (kf := 0) hC kX8 (lX_1 hL) rfl (by decide) (by decide) rfl rfl w_163 dX10_count_84 ?_
    refine A_geti (kf := 11) hC kX0 (lX_2 hL) rfl (by decide) (by decide) rfl w_56 dX10_count_87 ?_
    exact A_iret hC dX10_count_90
  · refine A_aload_n hC dX10_count_91 rfl ?_
    refine A_getr (kf := 0) hC kX10 (lX_0 hL) rfl (by decide) (by decide) rfl rfl w_305 dX10_count_92 ?_
    refine A_getr (kf := 0) hC kX8 (lX_1 hL) rfl (by decide) (by decide) rfl rfl w_163 dX10_count_95 ?_
    refine A_geti (kf := 12) hC kX0 (lX_2 hL) rfl (by decide) (by decide) rfl w_58 dX10_count_98 ?_
    exact A_iret hC dX10_count_101
  · refine A_aload_n hC dX10_count_102 rfl ?_
    refine A_getr (kf := 0) hC kX10 (lX_0 hL) rfl (by decide) (by decide) rfl rfl w_305 dX10_count_103 ?_
    refine A_getr (kf := 2) hC kX8 (lX_1 hL) rfl (by decide) (by decide) rfl rfl w_168 dX10_count_106 ?_
    refine A_geti (kf := 0) hC kX6 (lX_13 hL) rfl (by decide) (by decide) rfl w_110 dX10_count_109 ?_
    exact A_iret hC dX10_count_112
  · refine A_aload_n hC dX10_count_113 rfl ?_
    refine A_getr (kf := 0) hC kX10 (lX_0 hL) rfl (by decide) (by decide) rfl rfl w_305 dX10_count_114 ?_
    refine A_getr (kf := 3) hC kX8 (lX_1 hL) rfl (by decide) (by decide) rfl rfl w_171 dX10_count_117 ?_
    refine A_geti (kf := 0) hC kX6 (lX_22 hL) rfl (by decide) (by decide) rfl w_110 dX10_count_120 ?_
    exact A_iret hC dX10_count_123
def fX10_heap (a1 : Int32) (a2 : Int32) (D : ADD) : Option (Int32 × ADD) := aLet (fun (D1 : ADD) => some ((-1 : Int32), D1)) (fun (j11 : ADD → Option (Int32 × ADD)) => (if a2 < 0 then j11 D else (if a2 ≤ (500 : Int32) then aBind (fX4_gather (0 : Int32) (0 : Int32) D) (fun x1 D2 => aBind (fX4_indexOf a1 D2) (fun x2 D3 => aLet (fun (x3 : Int32) (D4 : ADD) => some (x3, D4)) (fun (j61 : Int32 → ADD → Option (Int32 × ADD)) => (if x2 = (-1 : Int32) then j61 (-1 : Int32) D3 else aBind (fX4_leastOfHeap x2 a2 D3) (fun x4 D5 => j61 x4 D5))))) else j11 D)))
set_option maxHeartbeats 4000000 in
set_option maxRecDepth 100000 in
theorem mX10_heap (l : Launch) (g : AGl) (hL : aLX g) (a1 : Int32) (a2 : Int32) (D : ADD) : AM aVi l yX10_heap cX10_heap 4 (some .int) 5 g [.ref (g.1 + 0), .int a1, .int a2] D (fX10_heap a1 a2 D) := by
  refine AM_of (lv0 := [some (.ref (g.1 + 0)), some (.int a1), some (.int a2), none]) (own := RX10) (by decide +kernel) rfl (Nat.le_of_ble_eq_true rfl) rfl (fun b hC => ?_)
  unfold fX10_heap
  refine A_iload_n hC dX10_heap_0 rfl ?_
  refine A_join (fun (J : ADD → Option (Int32 × ADD)) => ∀ (D1 : ADD), AT aVi g b 11 [none, none, none, none] [] D1 (J D1)) (fun D1 => ?_) (fun j11 hj11 => ?_)
  · refine A_iconst (v := -1) hC dX10_heap_11 (by decide) ?_
    exact A_iret hC dX10_heap_12
  refine A_if_lt (tgt := 11) hC dX10_heap_1 (by decide) ?_ ?_
  · exact A_to (hj11 D) (trivial)
  · refine A_iload_n hC dX10_heap_4 rfl ?_
    refine A_sipush (v := 500) hC dX10_heap_5 (by decide) ?_
    refine A_icmp_le (tgt := 13) hC dX10_heap_8 (by decide) ?_ ?_
    · refine A_aload_n hC dX10_heap_13 rfl ?_
      refine A_getr (kf := 3) hC kX10 (lX_0 hL) rfl (by decide) (by decide) rfl rfl w_308 dX10_heap_14 ?_
      refine A_aload_n hC dX10_heap_17 rfl ?_
      refine A_getr (kf := 0) hC kX10 (lX_0 hL) rfl (by decide) (by decide) rfl rfl w_305 dX10_heap_18 ?_
      refine A_iconst (v := 0) hC dX10_heap_21 (by decide) ?_
      refine A_iconst (v := 0) hC dX10_heap_22 (by decide) ?_
      refine A_callVi (As := [.ref (g.1 + 1), .int (0 : Int32), .int (0 : Int32)]) (st := []) hC (fun l => mX4_gather l g hL (0 : Int32) (0 : Int32) D) (lX_43 hL) rfl (Nat.le_of_ble_eq_true rfl) yc_X10_174 rfl rfl ⟨by decide, by decide⟩ (Nat.le_of_ble_eq_true rfl) rfl dX10_heap_23 (fun x1 D2 => ?_)
      refine A_pop hC dX10_heap_26 rfl ?_
      refine A_aload_n hC dX10_heap_27 rfl ?_
      refine A_getr (kf := 3) hC kX10 (lX_0 hL) rfl (by decide) (by decide) rfl rfl w_308 dX10_heap_28 ?_
      refine A_iload_n hC dX10_heap_31 rfl ?_
      refine A_callVi (As := [.int a1]) (st := []) hC (fun l => mX4_indexOf l g hL a1 D2) (lX_43 hL) rfl (Nat.le_of_ble_eq_true rfl) yc_X10_248 rfl rfl ⟨by decide, by decide⟩ (Nat.le_of_ble_eq_true rfl) rfl dX10_heap_32 (fun x2 D3 => ?_)
      refine A_istore_n (lv2 := [some (.ref (g.1 + 0)), some (.int a1), some (.int a2), some (.int x2)]) hC dX10_heap_35 (Nat.le_of_ble_eq_true rfl) rfl rfl ?_
      refine A_iload_n hC dX10_heap_36 rfl ?_
      refine A_iconst (v := -1) hC dX10_heap_37 (by decide) ?_
      refine A_join (fun (J : Int32 → ADD → Option (Int32 × ADD)) => ∀ (x3 : Int32) (D4 : ADD), AT aVi g b 61 [none, none, none, none] [.int x3] D4 (J x3 D4)) (fun x3 D4 => ?_) (fun j61 hj61 => ?_)
      · exact A_iret hC dX10_heap_61
      refine A_icmp_ne (tgt := 45) hC dX10_heap_38 (by decide) ?_ ?_
      · refine A_aload_n hC dX10_heap_45 rfl ?_
        refine A_getr (kf := 3) hC kX10 (lX_0 hL) rfl (by decide) (by decide) rfl rfl w_308 dX10_heap_46 ?_
        refine A_aload_n hC dX10_heap_49 rfl ?_
        refine A_getr (kf := 0) hC kX10 (lX_0 hL) rfl (by decide) (by decide) rfl rfl w_305 dX10_heap_50 ?_
        refine A_getr (kf := 0) hC kX8 (lX_1 hL) rfl (by decide) (by decide) rfl rfl w_163 dX10_heap_53 ?_
        refine A_iload_n hC dX10_heap_56 rfl ?_
        refine A_iload_n hC dX10_heap_57 rfl ?_
        refine A_callVi (As := [.ref (g.1 + 2), .int x2, .int a2]) (st := []) hC (fun l => mX4_leastOfHeap l g hL x2 a2 D3) (lX_43 hL) rfl (Nat.le_of_ble_eq_true rfl) yc_X10_251 rfl rfl ⟨by decide, by decide⟩ (Nat.le_of_ble_eq_true rfl) rfl dX10_heap_58 (fun x4 D5 => ?_)
        exact A_to (hj61 x4 D5) (trivial)
      · refine A_iconst (v := -1) hC dX10_heap_41 (by decide) ?_
        refine A_goto (tgt := 61) hC dX10_heap_42 (by decide) ?_
        exact A_to (hj61 (-1 : Int32) D3) (trivial)
    · exact A_to (hj11 D) (trivial)
def fX10_owner (a1 : Int32) (a2 : Int32) (a3 : Int32) (D : ADD) : Option (Int32 × ADD) := aLet (fun (D1 : ADD) => some ((-1 : Int32), D1)) (fun (j18 : ADD → Option (Int32 × ADD)) => (if a1 < (1 : Int32) then j18 D else (if (9 : Int32) < a1 then j18 D else aBind (fX10_isUnit a2 D) (fun x1 D2 => (if x1 = 0 then j18 D2 else aBind (fX4_gather (4 : Int32) a1 D2) (fun x2 D3 => aTab a3 0 [some ((D3.1 43 0), D3), aBind (fX4_shortsBy a2 D3) (fun x3 D4 => some (x3, D4)), aBind (fX4_shortsBy a2 D3) (fun x4 D5 => aBind (fX3_ofShort (D3.1 43 0) x4 D5) (fun x5 D6 => some (x5, D6)))] (some ((-1 : Int32), D3))))))))
set_option maxHeartbeats 4000000 in
set_option maxRecDepth 100000 in
theorem mX10_owner (l : Launch) (g : AGl) (hL : aLX g) (a1 : Int32) (a2 : Int32) (a3 : Int32) (D : ADD) : AM aVi l yX10_owner cX10_owner 4 (some .int) 5 g [.ref (g.1 + 0), .int a1, .int a2, .int a3] D (fX10_owner a1 a2 a3 D) := by
  refine AM_of (lv0 := [some (.ref (g.1 + 0)), some (.int a1), some (.int a2), some (.int a3)]) (own := RX10) (by decide +kernel) rfl (Nat.le_of_ble_eq_true rfl) rfl (fun b hC => ?_)
  unfold fX10_owner
  refine A_iload_n hC dX10_owner_0 rfl ?_
  refine A_iconst (v := 1) hC dX10_owner_1 (by decide) ?_
  refine A_join (fun (J : ADD → Option (Int32 × ADD)) => ∀ (D1 : ADD), AT aVi g b 18 [none, none, none, none] [] D1 (J D1)) (fun D1 => ?_) (fun j18 hj18 => ?_)
  · refine A_iconst (v := -1) hC dX10_owner_18 (by decide) ?_
    exact A_iret hC dX10_owner_19
  refine A_icmp_lt (tgt := 18) hC dX10_owner_2 (by decide) ?_ ?_
  · exact A_to (hj18 D) (trivial)
  · refine A_iload_n hC dX10_owner_5 rfl ?_
    refine A_bipush (v := 9) hC dX10_owner_6 (by decide) ?_
    refine A_icmp_gt (tgt := 18) hC dX10_owner_8 (by decide) ?_ ?_
    · exact A_to (hj18 D) (trivial)
    · refine A_iload_n hC dX10_owner_11 rfl ?_
      refine A_callSi (As := [.int a2]) (st := []) hC (fun l => mX10_isUnit l g a2 D) yc_X10_157 rfl rfl ⟨by decide, by decide⟩ (Nat.le_of_ble_eq_true rfl) rfl dX10_owner_12 (fun x1 D2 => ?_)
      refine A_if_ne (tgt := 20) hC dX10_owner_15 (by decide) ?_ ?_
      · refine A_aload_n hC dX10_owner_20 rfl ?_
        refine A_getr (kf := 3) hC kX10 (lX_0 hL) rfl (by decide) (by decide) rfl rfl w_308 dX10_owner_21 ?_
        refine A_aload_n hC dX10_owner_24 rfl ?_
        refine A_getr (kf := 0) hC kX10 (lX_0 hL) rfl (by decide) (by decide) rfl rfl w_305 dX10_owner_25 ?_
        refine A_iconst (v := 4) hC dX10_owner_28 (by decide) ?_
        refine A_iload_n hC dX10_owner_29 rfl ?_
        refine A_callVi (As := [.ref (g.1 + 1), .int (4 : Int32), .int a1]) (st := []) hC (fun l => mX4_gather l g hL (4 : Int32) a1 D2) (lX_43 hL) rfl (Nat.le_of_ble_eq_true rfl) yc_X10_174 rfl rfl ⟨by decide, by decide⟩ (Nat.le_of_ble_eq_true rfl) rfl dX10_owner_30 (fun x2 D3 => ?_)
        refine A_pop hC dX10_owner_33 rfl ?_
        refine A_iload_n hC dX10_owner_34 rfl ?_
        refine A_tab (td := 100) hC dX10_owner_35 rfl (by decide) ?_ (And.intro (Exists.intro 60 (And.intro (by decide) ?_)) (And.intro (Exists.intro 68 (And.intro (by decide) ?_)) (And.intro (Exists.intro 77 (And.intro (by decide) ?_)) trivial)))
        · refine A_iconst (v := -1) hC dX10_owner_100 (by decide) ?_
          exact A_iret hC dX10_owner_101
        · refine A_aload_n hC dX10_owner_60 rfl ?_
          refine A_getr (kf := 3) hC kX10 (lX_0 hL) rfl (by decide) (by decide) rfl rfl w_308 dX10_owner_61 ?_
          refine A_geti (kf := 0) hC kX4 (lX_43 hL) rfl (by decide) (by decide) rfl w_240 dX10_owner_64 ?_
          exact A_iret hC dX10_owner_67
        · refine A_aload_n hC dX10_owner_68 rfl ?_
          refine A_getr (kf := 3) hC kX10 (lX_0 hL) rfl (by decide) (by decide) rfl rfl w_308 dX10_owner_69 ?_
          refine A_iload_n hC dX10_owner_72 rfl ?_
          refine A_callVi (As := [.int a2]) (st := []) hC (fun l => mX4_shortsBy l g hL a2 D3) (lX_43 hL) rfl (Nat.le_of_ble_eq_true rfl) yc_X10_242 rfl rfl ⟨by decide, by decide⟩ (Nat.le_of_ble_eq_true rfl) rfl dX10_owner_73 (fun x3 D4 => ?_)
          exact A_iret hC dX10_owner_76
        · refine A_aload_n hC dX10_owner_77 rfl ?_
          refine A_getr (kf := 5) hC kX10 (lX_0 hL) rfl (by decide) (by decide) rfl rfl w_310 dX10_owner_78 ?_
          refine A_aload_n hC dX10_owner_81 rfl ?_
          refine A_getr (kf := 3) hC kX10 (lX_0 hL) rfl (by decide) (by decide) rfl rfl w_308 dX10_owner_82 ?_
          refine A_geti (kf := 0) hC kX4 (lX_43 hL) rfl (by decide) (by decide) rfl w_240 dX10_owner_85 ?_
          refine A_aload_n hC dX10_owner_88 rfl ?_
          refine A_getr (kf := 3) hC kX10 (lX_0 hL) rfl (by decide) (by decide) rfl rfl w_308 dX10_owner_89 ?_
          refine A_iload_n hC dX10_owner_92 rfl ?_
          refine A_callVi (As := [.int a2]) (st := [.int (D3.1 43 0), .ref (g.1 + 55)]) hC (fun l => mX4_shortsBy l g hL a2 D3) (lX_43 hL) rfl (Nat.le_of_ble_eq_true rfl) yc_X10_242 rfl rfl ⟨by decide, by decide⟩ (Nat.le_of_ble_eq_true rfl) rfl dX10_owner_93 (fun x4 D5 => ?_)
          refine A_callVi (As := [.int (D3.1 43 0), .int x4]) (st := []) hC (fun l => mX3_ofShort l g hL (D3.1 43 0) x4 D5) (lX_55 hL) rfl (Nat.le_of_ble_eq_true rfl) yc_X10_245 rfl rfl ⟨by decide, by decide⟩ (Nat.le_of_ble_eq_true rfl) rfl dX10_owner_96 (fun x5 D6 => ?_)
          exact A_iret hC dX10_owner_99
      · exact A_to (hj18 D2) (trivial)
def fX10_pair (a1 : Int32) (a2 : Int32) (D : ADD) : Option (Int32 × ADD) := aBind (fX10_isRange a1 a2 (40 : Int32) D) (fun x1 D1 => aLet (fun (D2 : ADD) => some ((-1 : Int32), D2)) (fun (j31 : ADD → Option (Int32 × ADD)) => (if x1 = 0 then j31 D1 else (if a1 = a2 then j31 D1 else aBind (fX4_gather (0 : Int32) (0 : Int32) D1) (fun x2 D3 => (if x2 = 0 then j31 D3 else aBind (fX7_bestPair a1 a2 D3) (fun x3 D4 => some (x3, D4))))))))
set_option maxHeartbeats 4000000 in
set_option maxRecDepth 100000 in
theorem mX10_pair (l : Launch) (g : AGl) (hL : aLX g) (a1 : Int32) (a2 : Int32) (D : ADD) : AM aVi l yX10_pair cX10_pair 3 (some .int) 5 g [.ref (g.1 + 0), .int a1, .int a2] D (fX10_pair a1 a2 D) := by
  refine AM_of (lv0 := [some (.ref (g.1 + 0)), some (.int a1), some (.int a2)]) (own := RX10) (by decide +kernel) rfl (Nat.le_of_ble_eq_true rfl) rfl (fun b hC => ?_)
  unfold fX10_pair
  refine A_iload_n hC dX10_pair_0 rfl ?_
  refine A_iload_n hC dX10_pair_1 rfl ?_
  refine A_bipush (v := 40) hC dX10_pair_2 (by decide) ?_
  refine A_callSi (As := [.int a1, .int a2, .int (40 : Int32)]) (st := []) hC (fun l => mX10_isRange l g a1 a2 (40 : Int32) D) yc_X10_182 rfl rfl ⟨by decide, by decide⟩ (Nat.le_of_ble_eq_true rfl) rfl dX10_pair_4 (fun x1 D1 => ?_)
  refine A_join (fun (J : ADD → Option (Int32 × ADD)) => ∀ (D2 : ADD), AT aVi g b 31 [none, none, none] [] D2 (J D2)) (fun D2 => ?_) (fun j31 hj31 => ?_)
  · refine A_iconst (v := -1) hC dX10_pair_31 (by decide) ?_
    exact A_iret hC dX10_pair_32
  refine A_if_eq (tgt := 31) hC dX10_pair_7 (by decide) ?_ ?_
  · exact A_to (hj31 D1) (trivial)
  · refine A_iload_n hC dX10_pair_10 rfl ?_
    refine A_iload_n hC dX10_pair_11 rfl ?_
    refine A_icmp_eq (tgt := 31) hC dX10_pair_12 (by decide) ?_ ?_
    · exact A_to (hj31 D1) (trivial)
    · refine A_aload_n hC dX10_pair_15 rfl ?_
      refine A_getr (kf := 3) hC kX10 (lX_0 hL) rfl (by decide) (by decide) rfl rfl w_308 dX10_pair_16 ?_
      refine A_aload_n hC dX10_pair_19 rfl ?_
      refine A_getr (kf := 0) hC kX10 (lX_0 hL) rfl (by decide) (by decide) rfl rfl w_305 dX10_pair_20 ?_
      refine A_iconst (v := 0) hC dX10_pair_23 (by decide) ?_
      refine A_iconst (v := 0) hC dX10_pair_24 (by decide) ?_
      refine A_callVi (As := [.ref (g.1 + 1), .int (0 : Int32), .int (0 : Int32)]) (st := []) hC (fun l => mX4_gather l g hL (0 : Int32) (0 : Int32) D1) (lX_43 hL) rfl (Nat.le_of_ble_eq_true rfl) yc_X10_174 rfl rfl ⟨by decide, by decide⟩ (Nat.le_of_ble_eq_true rfl) rfl dX10_pair_25 (fun x2 D3 => ?_)
      refine A_if_ne (tgt := 33) hC dX10_pair_28 (by decide) ?_ ?_
      · refine A_aload_n hC dX10_pair_33 rfl ?_
        refine A_getr (kf := 4) hC kX10 (lX_0 hL) rfl (by decide) (by decide) rfl rfl w_309 dX10_pair_34 ?_
        refine A_aload_n hC dX10_pair_37 rfl ?_
        refine A_getr (kf := 3) hC kX10 (lX_0 hL) rfl (by decide) (by decide) rfl rfl w_308 dX10_pair_38 ?_
        refine A_iload_n hC dX10_pair_41 rfl ?_
        refine A_iload_n hC dX10_pair_42 rfl ?_
        refine A_callVi (As := [.ref (g.1 + 43), .int a1, .int a2]) (st := []) hC (fun l => mX7_bestPair l g hL a1 a2 D3) (lX_50 hL) rfl (Nat.le_of_ble_eq_true rfl) yc_X10_196 rfl rfl ⟨by decide, by decide⟩ (Nat.le_of_ble_eq_true rfl) rfl dX10_pair_43 (fun x3 D4 => ?_)
        exact A_iret hC dX10_pair_46
      · exact A_to (hj31 D3) (trivial)
