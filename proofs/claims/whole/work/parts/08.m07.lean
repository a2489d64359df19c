def fX6_clearTests (o : Nat) (a1 : Int32) (D : ADD) : Option (Unit × ADD) := aBind (fX6_hasLine a1 D) (fun x1 D1 => aLet (fun (D2 : ADD) => some ((), D2)) (fun (j14 : ADD → Option (Unit × ADD)) => (if x1 = 0 then j14 D1 else aIn a1 16 (aLet (aSI D1 (o + 4) a1.toNatClampNeg (0 : Int32)) (fun D3 => j14 D3)))))
set_option maxHeartbeats 4000000 in
set_option maxRecDepth 100000 in
theorem mX6_clearTests (l : Launch) (g : AGl) (o : Nat) (hO : aLR g o) (a1 : Int32) (D : ADD) : AM aVv l yX6_clearTests cX6_clearTests 2 none 1 g [.ref (g.1 + o), .int a1] D (fX6_clearTests o a1 D) := by
  refine AM_of (lv0 := [some (.ref (g.1 + o)), some (.int a1)]) (own := RX6) (by decide +kernel) rfl (Nat.le_of_ble_eq_true rfl) rfl (fun b hC => ?_)
  unfold fX6_clearTests
  refine A_iload_n hC dX6_clearTests_0 rfl ?_
  refine A_callSi (As := [.int a1]) (st := []) hC (fun l => mX6_hasLine l g a1 D) yc_X6_41 rfl rfl ⟨by decide, by decide⟩ (Nat.le_of_ble_eq_true rfl) rfl dX6_clearTests_1 (fun x1 D1 => ?_)
  refine A_join (fun (J : ADD → Option (Unit × ADD)) => ∀ (D2 : ADD), AT aVv g b 14 [none, none] [] D2 (J D2)) (fun D2 => ?_) (fun j14 hj14 => ?_)
  · exact A_vret hC dX6_clearTests_14
  refine A_if_eq (tgt := 14) hC dX6_clearTests_4 (by decide) ?_ ?_
  · exact A_to (hj14 D1) (trivial)
  · refine A_aload_n hC dX6_clearTests_7 rfl ?_
    refine A_getr (kf := 4) hC kX6 hO.1 rfl (by decide) (by decide) rfl rfl w_115 dX6_clearTests_8 ?_
    refine A_iload_n hC dX6_clearTests_11 rfl ?_
    refine A_iconst (v := 0) hC dX6_clearTests_12 (by decide) ?_
    refine A_iast hC hO.2.2.2.2.1 dX6_clearTests_13 (fun D3 => ?_)
    exact A_to (hj14 D3) (trivial)
def fX6_deedOf (o : Nat) (a1 : Int32) (D : ADD) : Option (Int32 × ADD) := aBind (fX6_hasLine a1 D) (fun x1 D1 => aLet (fun (x2 : Int32) (D2 : ADD) => some (x2, D2)) (fun (j17 : Int32 → ADD → Option (Int32 × ADD)) => (if x1 = 0 then j17 (-1 : Int32) D1 else aIn a1 16 (j17 (D1.1 (o + 1) a1.toNatClampNeg) D1))))
set_option maxHeartbeats 4000000 in
set_option maxRecDepth 100000 in
theorem mX6_deedOf (l : Launch) (g : AGl) (o : Nat) (hO : aLR g o) (a1 : Int32) (D : ADD) : AM aVi l yX6_deedOf cX6_deedOf 2 (some .int) 1 g [.ref (g.1 + o), .int a1] D (fX6_deedOf o a1 D) := by
  refine AM_of (lv0 := [some (.ref (g.1 + o)), some (.int a1)]) (own := RX6) (by decide +kernel) rfl (Nat.le_of_ble_eq_true rfl) rfl (fun b hC => ?_)
  unfold fX6_deedOf
  refine A_iload_n hC dX6_deedOf_0 rfl ?_
  refine A_callSi (As := [.int a1]) (st := []) hC (fun l => mX6_hasLine l g a1 D) yc_X6_41 rfl rfl ⟨by decide, by decide⟩ (Nat.le_of_ble_eq_true rfl) rfl dX6_deedOf_1 (fun x1 D1 => ?_)
  refine A_join (fun (J : Int32 → ADD → Option (Int32 × ADD)) => ∀ (x2 : Int32) (D2 : ADD), AT aVi g b 17 [none, none] [.int x2] D2 (J x2 D2)) (fun x2 D2 => ?_) (fun j17 hj17 => ?_)
  · exact A_iret hC dX6_deedOf_17
  refine A_if_eq (tgt := 16) hC dX6_deedOf_4 (by decide) ?_ ?_
  · refine A_iconst (v := -1) hC dX6_deedOf_16 (by decide) ?_
    exact A_to (hj17 (-1 : Int32) D1) (trivial)
  · refine A_aload_n hC dX6_deedOf_7 rfl ?_
    refine A_getr (kf := 1) hC kX6 hO.1 rfl (by decide) (by decide) rfl rfl w_112 dX6_deedOf_8 ?_
    refine A_iload_n hC dX6_deedOf_11 rfl ?_
    refine A_iald hC hO.2.1 dX6_deedOf_12 ?_
    refine A_goto (tgt := 17) hC dX6_deedOf_13 (by decide) ?_
    exact A_to (hj17 (D1.1 (o + 1) a1.toNatClampNeg) D1) (trivial)
def fX6_leastOf (o : Nat) (a1 : Int32) (D : ADD) : Option (Int32 × ADD) := aBind (fX6_hasLine a1 D) (fun x1 D1 => aLet (fun (x2 : Int32) (D2 : ADD) => some (x2, D2)) (fun (j17 : Int32 → ADD → Option (Int32 × ADD)) => (if x1 = 0 then j17 (0 : Int32) D1 else aIn a1 16 (j17 (D1.1 (o + 2) a1.toNatClampNeg) D1))))
set_option maxHeartbeats 4000000 in
set_option maxRecDepth 100000 in
theorem mX6_leastOf (l : Launch) (g : AGl) (o : Nat) (hO : aLR g o) (a1 : Int32) (D : ADD) : AM aVi l yX6_leastOf cX6_leastOf 2 (some .int) 1 g [.ref (g.1 + o), .int a1] D (fX6_leastOf o a1 D) := by
  refine AM_of (lv0 := [some (.ref (g.1 + o)), some (.int a1)]) (own := RX6) (by decide +kernel) rfl (Nat.le_of_ble_eq_true rfl) rfl (fun b hC => ?_)
  unfold fX6_leastOf
  refine A_iload_n hC dX6_leastOf_0 rfl ?_
  refine A_callSi (As := [.int a1]) (st := []) hC (fun l => mX6_hasLine l g a1 D) yc_X6_41 rfl rfl ⟨by decide, by decide⟩ (Nat.le_of_ble_eq_true rfl) rfl dX6_leastOf_1 (fun x1 D1 => ?_)
  refine A_join (fun (J : Int32 → ADD → Option (Int32 × ADD)) => ∀ (x2 : Int32) (D2 : ADD), AT aVi g b 17 [none, none] [.int x2] D2 (J x2 D2)) (fun x2 D2 => ?_) (fun j17 hj17 => ?_)
  · exact A_iret hC dX6_leastOf_17
  refine A_if_eq (tgt := 16) hC dX6_leastOf_4 (by decide) ?_ ?_
  · refine A_iconst (v := 0) hC dX6_leastOf_16 (by decide) ?_
    exact A_to (hj17 (0 : Int32) D1) (trivial)
  · refine A_aload_n hC dX6_leastOf_7 rfl ?_
    refine A_getr (kf := 2) hC kX6 hO.1 rfl (by decide) (by decide) rfl rfl w_113 dX6_leastOf_8 ?_
    refine A_iload_n hC dX6_leastOf_11 rfl ?_
    refine A_iald hC hO.2.2.1 dX6_leastOf_12 ?_
    refine A_goto (tgt := 17) hC dX6_leastOf_13 (by decide) ?_
    exact A_to (hj17 (D1.1 (o + 2) a1.toNatClampNeg) D1) (trivial)
def fX6_mostOf (o : Nat) (a1 : Int32) (D : ADD) : Option (Int32 × ADD) := aBind (fX6_hasLine a1 D) (fun x1 D1 => aLet (fun (x2 : Int32) (D2 : ADD) => some (x2, D2)) (fun (j17 : Int32 → ADD → Option (Int32 × ADD)) => (if x1 = 0 then j17 (0 : Int32) D1 else aIn a1 16 (j17 (D1.1 (o + 3) a1.toNatClampNeg) D1))))
set_option maxHeartbeats 4000000 in
set_option maxRecDepth 100000 in
theorem mX6_mostOf (l : Launch) (g : AGl) (o : Nat) (hO : aLR g o) (a1 : Int32) (D : ADD) : AM aVi l yX6_mostOf cX6_mostOf 2 (some .int) 1 g [.ref (g.1 + o), .int a1] D (fX6_mostOf o a1 D) := by
  refine AM_of (lv0 := [some (.ref (g.1 + o)), some (.int a1)]) (own := RX6) (by decide +kernel) rfl (Nat.le_of_ble_eq_true rfl) rfl (fun b hC => ?_)
  unfold fX6_mostOf
  refine A_iload_n hC dX6_mostOf_0 rfl ?_
  refine A_callSi (As := [.int a1]) (st := []) hC (fun l => mX6_hasLine l g a1 D) yc_X6_41 rfl rfl ⟨by decide, by decide⟩ (Nat.le_of_ble_eq_true rfl) rfl dX6_mostOf_1 (fun x1 D1 => ?_)
  refine A_join (fun (J : Int32 → ADD → Option (Int32 × ADD)) => ∀ (x2 : Int32) (D2 : ADD), AT aVi g b 17 [none, none] [.int x2] D2 (J x2 D2)) (fun x2 D2 => ?_) (fun j17 hj17 => ?_)
  · exact A_iret hC dX6_mostOf_17
  refine A_if_eq (tgt := 16) hC dX6_mostOf_4 (by decide) ?_ ?_
  · refine A_iconst (v := 0) hC dX6_mostOf_16 (by decide) ?_
    exact A_to (hj17 (0 : Int32) D1) (trivial)
  · refine A_aload_n hC dX6_mostOf_7 rfl ?_
    refine A_getr (kf := 3) hC kX6 hO.1 rfl (by decide) (by decide) rfl rfl w_114 dX6_mostOf_8 ?_
    refine A_iload_n hC dX6_mostOf_11 rfl ?_
    refine A_iald hC hO.2.2.2.1 dX6_mostOf_12 ?_
    refine A_goto (tgt := 17) hC dX6_mostOf_13 (by decide) ?_
    exact A_to (hj17 (D1.1 (o + 3) a1.toNatClampNeg) D1) (trivial)
def fX6_setDeed (o : Nat) (a1 : Int32) (a2 : Int32) (a3 : Int32) (a4 : Int32) (D : ADD) : Option (Unit × ADD) := aBind (fX6_hasLine a1 D) (fun x1 D1 => (if x1 = 0 then some ((), D1) else aIn a1 16 (aLet (aSI D1 (o + 1) a1.toNatClampNeg a2) (fun D2 => aIn a1 16 (aLet (aSI D2 (o + 2) a1.toNatClampNeg a3) (fun D3 => aIn a1 16 (aLet (aSI D3 (o + 3) a1.toNatClampNeg a4) (fun D4 => some ((), D4)))))))))
set_option maxHeartbeats 4000000 in
set_option maxRecDepth 100000 in
theorem mX6_setDeed (l : Launch) (g : AGl) (o : Nat) (hO : aLR g o) (a1 : Int32) (a2 : Int32) (a3 : Int32) (a4 : Int32) (D : ADD) : AM aVv l yX6_setDeed cX6_setDeed 5 none 1 g [.ref (g.1 + o), .int a1, .int a2, .int a3, .int a4] D (fX6_setDeed o a1 a2 a3 a4 D) := by
  refine AM_of (lv0 := [some (.ref (g.1 + o)), some (.int a1), some (.int a2), some (.int a3), some (.int a4)]) (own := RX6) (by decide +kernel) rfl (Nat.le_of_ble_eq_true rfl) rfl (fun b hC => ?_)
  unfold fX6_setDeed
  refine A_iload_n hC dX6_setDeed_0 rfl ?_
  refine A_callSi (As := [.int a1]) (st := []) hC (fun l => mX6_hasLine l g a1 D) yc_X6_41 rfl rfl ⟨by decide, by decide⟩ (Nat.le_of_ble_eq_true rfl) rfl dX6_setDeed_1 (fun x1 D1 => ?_)
  refine A_if_ne (tgt := 8) hC dX6_setDeed_4 (by decide) ?_ ?_
  · refine A_aload_n hC dX6_setDeed_8 rfl ?_
    refine A_getr (kf := 1) hC kX6 hO.1 rfl (by decide) (by decide) rfl rfl w_112 dX6_setDeed_9 ?_
    refine A_iload_n hC dX6_setDeed_12 rfl ?_
    refine A_iload_n hC dX6_setDeed_13 rfl ?_
    refine A_iast hC hO.2.1 dX6_setDeed_14 (fun D2 => ?_)
    refine A_aload_n hC dX6_setDeed_15 rfl ?_
    refine A_getr (kf := 2) hC kX6 hO.1 rfl (by decide) (by decide) rfl rfl w_113 dX6_setDeed_16 ?_
    refine A_iload_n hC dX6_setDeed_19 rfl ?_
    refine A_iload_n hC dX6_setDeed_20 rfl ?_
    refine A_iast hC hO.2.2.1 dX6_setDeed_21 (fun D3 => ?_)
    refine A_aload_n hC dX6_setDeed_22 rfl ?_
    refine A_getr (kf := 3) hC kX6 hO.1 rfl (by decide) (by decide) rfl rfl w_114 dX6_setDeed_23 ?_
    refine A_iload_n hC dX6_setDeed_26 rfl ?_
    refine A_iload hC dX6_setDeed_27 rfl ?_
    refine A_iast hC hO.2.2.2.1 dX6_setDeed_29 (fun D4 => ?_)
    exact A_vret hC dX6_setDeed_30
  · exact A_vret hC dX6_setDeed_7
def fX7_compare (a1 : Int32) (a2 : Int32) (D : ADD) : Option (Int32 × ADD) := aBind (fX7_inReach a1 D) (fun x1 D1 => aLet (fun (D2 : ADD) => some ((0 : Int32), D2)) (fun (j16 : ADD → Option (Int32 × ADD)) => (if x1 = 0 then j16 D1 else aBind (fX7_inReach a2 D1) (fun x2 D3 => (if x2 = 0 then j16 D3 else aIn (a1 - (D3.1 50 0)) 301 (aIn (a2 - (D3.1 50 0)) 301 (aBind (fJ13_compare_74951 ((D3.1 51 (a1 - (D3.1 50 0)).toNatClampNeg).toInt64 * a2.toInt64) ((D3.1 51 (a2 - (D3.1 50 0)).toNatClampNeg).toInt64 * a1.toInt64) D3) (fun x3 D4 => some (x3, D4)))))))))
set_option maxHeartbeats 4000000 in
set_option maxRecDepth 100000 in
theorem mX7_compare (l : Launch) (g : AGl) (hL : aLX g) (a1 : Int32) (a2 : Int32) (D : ADD) : AM aVi l yX7_compare cX7_compare 3 (some .int) 1 g [.ref (g.1 + 50), .int a1, .int a2] D (fX7_compare a1 a2 D) := by
  refine AM_of (lv0 := [some (.ref (g.1 + 50)), some (.int a1), some (.int a2)]) (own := RX7) (by decide +kernel) rfl (Nat.le_of_ble_eq_true rfl) rfl (fun b hC => ?_)
  unfold fX7_compare
  refine A_aload_n hC dX7_compare_0 rfl ?_
  refine A_iload_n hC dX7_compare_1 rfl ?_
  refine A_callVi (As := [.int a1]) (st := []) hC (fun l => mX7_inReach l g hL a1 D) (lX_50 hL) rfl (Nat.le_of_ble_eq_true rfl) yc_X7_92 rfl rfl ⟨by decide, by decide⟩ (Nat.le_of_ble_eq_true rfl) rfl dX7_compare_2 (fun x1 D1 => ?_)
  refine A_join (fun (J : ADD → Option (Int32 × ADD)) => ∀ (D2 : ADD), AT aVi g b 16 [none, none, none] [] D2 (J D2)) (fun D2 => ?_) (fun j16 hj16 => ?_)
  · refine A_iconst (v := 0) hC dX7_compare_16 (by decide) ?_
    exact A_iret hC dX7_compare_17
  refine A_if_eq (tgt := 16) hC dX7_compare_5 (by decide) ?_ ?_
  · exact A_to (hj16 D1) (trivial)
  · refine A_aload_n hC dX7_compare_8 rfl ?_
    refine A_iload_n hC dX7_compare_9 rfl ?_
    refine A_callVi (As := [.int a2]) (st := []) hC (fun l => mX7_inReach l g hL a2 D1) (lX_50 hL) rfl (Nat.le_of_ble_eq_true rfl) yc_X7_92 rfl rfl ⟨by decide, by decide⟩ (Nat.le_of_ble_eq_true rfl) rfl dX7_compare_10 (fun x2 D3 => ?_)
    refine A_if_ne (tgt := 18) hC dX7_compare_13 (by decide) ?_ ?_
    · refine A_aload_n hC dX7_compare_18 rfl ?_
      refine A_getr (kf := 2) hC kX7 (lX_50 hL) rfl (by decide) (by decide) rfl rfl w_274 dX7_compare_19 ?_
      refine A_iload_n hC dX7_compare_22 rfl ?_
      refine A_aload_n hC dX7_compare_23 rfl ?_
      refine A_geti (kf := 0) hC kX7 (lX_50 hL) rfl (by decide) (by decide) rfl w_272 dX7_compare_24 ?_
      refine A_isub hC dX7_compare_27 ?_
      refine A_iald hC (lX_51 hL) dX7_compare_28 ?_
      refine A_i2l hC dX7_compare_29 ?_
      refine A_iload_n hC dX7_compare_30 rfl ?_
      refine A_i2l hC dX7_compare_31 ?_
      refine A_lmul hC dX7_compare_32 ?_
      refine A_aload_n hC dX7_compare_33 rfl ?_
      refine A_getr (kf := 2) hC kX7 (lX_50 hL) rfl (by decide) (by decide) rfl rfl w_274 dX7_compare_34 ?_
      refine A_iload_n hC dX7_compare_37 rfl ?_
      refine A_aload_n hC dX7_compare_38 rfl ?_
      refine A_geti (kf := 0) hC kX7 (lX_50 hL) rfl (by decide) (by decide) rfl w_272 dX7_compare_39 ?_
      refine A_isub hC dX7_compare_42 ?_
      refine A_iald hC (lX_51 hL) dX7_compare_43 ?_
      refine A_i2l hC dX7_compare_44 ?_
      refine A_iload_n hC dX7_compare_45 rfl ?_
      refine A_i2l hC dX7_compare_46 ?_
      refine A_lmul hC dX7_compare_47 ?_
      refine A_callSi (As := [.long ((D3.1 51 (a1 - (D3.1 50 0)).toNatClampNeg).toInt64 * a2.toInt64), .long ((D3.1 51 (a2 - (D3.1 50 0)).toNatClampNeg).toInt64 * a1.toInt64)]) (st := []) hC (fun l => mJ13_compare_74951 l g ((D3.1 51 (a1 - (D3.1 50 0)).toNatClampNeg).toInt64 * a2.toInt64) ((D3.1 51 (a2 - (D3.1 50 0)).toNatClampNeg).toInt64 * a1.toInt64) D3) yc_X7_95 rfl rfl ⟨by decide, by decide⟩ (Nat.le_of_ble_eq_true rfl) rfl dX7_compare_48 (fun x3 D4 => ?_)
      exact A_iret hC dX7_compare_51
    · exact A_to (hj16 D3) (trivial)
def lX7_sumOfListed_53 (a1 : Int32) (a3 : Int32) (a4 : Int32) (x1 : Int32) (x2 : Int32) (j106 : Int64 → ADD → Option (Int64 × ADD)) (L53 : Int64 → Int32 → ADD → Option (Int64 × ADD)) (x4 : Int64) (x5 : Int32) (D3 : ADD) : Option (Int64 × ADD) := (if a1 ≤ x5 then j106 x4 D3 else (if (32 : Int32) ≤ x5 then j106 x4 D3 else aIn (x1 + x5) 1312 (aIn (x2 + x5) 1312 (aLet (x4 + (aMin ((D3.1 54 (x1 + x5).toNatClampNeg) * a4) ((D3.1 54 (x2 + x5).toNatClampNeg) * a3)).toInt64) (fun x6 => aLet (x5 + (1 : Int32)) (fun x7 => L53 x6 x7 D3))))))
def fX7_sumOfListed (a1 : Int32) (a2 : Int32) (a3 : Int32) (a4 : Int32) (D : ADD) : Option (Int64 × ADD) := aLet (fun (D1 : ADD) => some ((0 : Int64), D1)) (fun (j28 : ADD → Option (Int64 × ADD)) => (if a3 < a2 then j28 D else (if a4 < a2 then j28 D else (if (40 : Int32) < (a3 - a2) then j28 D else (if (a4 - a2) ≤ (40 : Int32) then aLet ((a3 - a2) * (32 : Int32)) (fun x1 => aLet ((a4 - a2) * (32 : Int32)) (fun x2 => aLet (fun (x3 : Int64) (D2 : ADD) => some ((((a3.toInt64 * a4.toInt64) * a1.toInt64) - ((4 : Int64) * x3)), D2)) (fun (j106 : Int64 → ADD → Option (Int64 × ADD)) => aLet (aFix aFuel (lX7_sumOfListed_53 a1 a3 a4 x1 x2 j106) (fun _ _ _ => none)) (fun j53 => j53 (0 : Int64) (0 : Int32) D)))) else j28 D)))))
set_option maxHeartbeats 4000000 in
set_option maxRecDepth 100000 in
theorem mX7_sumOfListed (l : Launch) (g : AGl) (hL : aLX g) (a1 : Int32) (a2 : Int32) (a3 : Int32) (a4 : Int32) (D : ADD) : AM aVl l yX7_sumOfListed cX7_sumOfListed 10 (some .long) 1 g [.ref (g.1 + 50), .int a1, .int a2, .int a3, .int a4] D (fX7_sumOfListed a1 a2 a3 a4 D) := by
  refine AM_of (lv0 := [some (.ref (g.1 + 50)), some (.int a1), some (.int a2), some (.int a3), some (.int a4), none, none, none, none, none]) (own := RX7) (by decide +kernel) rfl (Nat.le_of_ble_eq_true rfl) rfl (fun b hC => ?_)
  unfold fX7_sumOfListed
  refine A_iload_n hC dX7_sumOfListed_0 rfl ?_
  refine A_iload_n hC dX7_sumOfListed_1 rfl ?_
  refine A_join (fun (J : ADD → Option (Int64 × ADD)) => ∀ (D1 : ADD), AT aVl g b 28 [none, none, none, none, none, none, none, none, none, none] [] D1 (J D1)) (fun D1 => ?_) (fun j28 hj28 => ?_)
  · refine A_lconst (v := 0) hC dX7_sumOfListed_28 (by decide) ?_
    exact A_lret hC dX7_sumOfListed_29
  refine A_icmp_lt (tgt := 28) hC dX7_sumOfListed_2 (by decide) ?_ ?_
  · exact A_to (hj28 D) (trivial)
  · refine A_iload hC dX7_sumOfListed_5 rfl ?_
    refine A_iload_n hC dX7_sumOfListed_7 rfl ?_
    refine A_icmp_lt (tgt := 28) hC dX7_sumOfListed_8 (by decide) ?_ ?_
    · exact A_to (hj28 D) (trivial)
    · refine A_iload_n hC dX7_sumOfListed_11 rfl ?_
      refine A_iload_n hC dX7_sumOfListed_12 rfl ?_
      refine A_isub hC dX7_sumOfListed_13 ?_
      refine A_bipush (v := 40) hC dX7_sumOfListed_14 (by decide) ?_
      refine A_icmp_gt (tgt := 28) hC dX7_sumOfListed_16 (by decide) ?_ ?_
      · exact A_to (hj28 D) (trivial)
      · refine A_iload hC dX7_sumOfListed_19 rfl ?_
        refine A_iload_n hC dX7_sumOfListed_21 rfl ?_
        refine A_isub hC dX7_sumOfListed_22 ?_
        refine A_bipush (v := 40) hC dX7_sumOfListed_23 (by decide) ?_
        refine A_icmp_le (tgt := 30) hC dX7_sumOfListed_25 (by decide) ?_ ?_
        · refine A_iload_n hC dX7_sumOfListed_30 rfl ?_
          refine A_iload_n hC dX7_sumOfListed_31 rfl ?_
          refine A_isub hC dX7_sumOfListed_32 ?_
          refine A_bipush (v := 32) hC dX7_sumOfListed_33 (by decide) ?_
          refine A_imul hC dX7_sumOfListed_35 ?_
          refine A_topi (fun x1 => ?_)
          refine A_istore (lv2 := [some (.ref (g.1 + 50)), some (.int a1), some (.int a2), some (.int a3), some (.int a4), some (.int x1), none, none, none, none]) hC dX7_sumOfListed_36 (Nat.le_of_ble_eq_true rfl) rfl rfl ?_
          refine A_iload hC dX7_sumOfListed_38 rfl ?_
          refine A_iload_n hC dX7_sumOfListed_40 rfl ?_
          refine A_isub hC dX7_sumOfListed_41 ?_
          refine A_bipush (v := 32) hC dX7_sumOfListed_42 (by decide) ?_
          refine A_imul hC dX7_sumOfListed_44 ?_
          refine A_topi (fun x2 => ?_)
          refine A_istore (lv2 := [some (.ref (g.1 + 50)), some (.int a1), some (.int a2), some (.int a3), some (.int a4), some (.int x1), some (.int x2), none, none, none]) hC dX7_sumOfListed_45 (Nat.le_of_ble_eq_true rfl) rfl rfl ?_
          refine A_lconst (v := 0) hC dX7_sumOfListed_47 (by decide) ?_
          refine A_lstore (lv2 := [some (.ref (g.1 + 50)), some (.int a1), some (.int a2), some (.int a3), some (.int a4), some (.int x1), some (.int x2), some (.long (0 : Int64)), none, none]) hC dX7_sumOfListed_48 (Nat.le_of_ble_eq_true rfl) rfl rfl ?_
          refine A_iconst (v := 0) hC dX7_sumOfListed_50 (by decide) ?_
          refine A_istore (lv2 := [some (.ref (g.1 + 50)), some (.int a1), some (.int a2), some (.int a3), some (.int a4), some (.int x1), some (.int x2), some (.long (0 : Int64)), none, some (.int (0 : Int32))]) hC dX7_sumOfListed_51 (Nat.le_of_ble_eq_true rfl) rfl rfl ?_
          refine A_join (fun (J : Int64 → ADD → Option (Int64 × ADD)) => ∀ (x3 : Int64) (D2 : ADD), AT aVl g b 106 [none, some (.int a1), none, some (.int a3), some (.int a4), none, none, some (.long x3), none, none] [] D2 (J x3 D2)) (fun x3 D2 => ?_) (fun j106 hj106 => ?_)
          · refine A_iload_n hC dX7_sumOfListed_106 rfl ?_
            refine A_i2l hC dX7_sumOfListed_107 ?_
            refine A_iload hC dX7_sumOfListed_108 rfl ?_
            refine A_i2l hC dX7_sumOfListed_110 ?_
            refine A_lmul hC dX7_sumOfListed_111 ?_
            refine A_iload_n hC dX7_sumOfListed_112 rfl ?_
            refine A_i2l hC dX7_sumOfListed_113 ?_
            refine A_lmul hC dX7_sumOfListed_114 ?_
            refine A_ldc2 hC dX7_sumOfListed_115 w_773 ?_
            refine A_lload hC dX7_sumOfListed_118 rfl ?_
            refine A_lmul hC dX7_sumOfListed_120 ?_
            refine A_lsub hC dX7_sumOfListed_121 ?_
            exact A_lret hC dX7_sumOfListed_122
          refine A_join (fun (J : Int64 → Int32 → ADD → Option (Int64 × ADD)) => ∀ (x4 : Int64) (x5 : Int32) (D3 : ADD), AT aVl g b 53 [some (.ref (g.1 + 50)), some (.int a1), none, some (.int a3), some (.int a4), some (.int x1), some (.int x2), some (.long x4), none, some (.int x5)] [] D3 (J x4 x5 D3)) (aFix_all (fun (J : Int64 → Int32 → ADD → Option (Int64 × ADD)) => ∀ (x4 : Int64) (x5 : Int32) (D3 : ADD), AT aVl g b 53 [some (.ref (g.1 + 50)), some (.int a1), none, some (.int a3), some (.int a4), some (.int x1), some (.int x2), some (.long x4), none, some (.int x5)] [] D3 (J x4 x5 D3)) (fun _ _ _ => A_none) (fun L53 hL53 x4 x5 D3 => ?_) _) (fun j53 hj53 => ?_)
          · unfold lX7_sumOfListed_53
            refine A_iload hC dX7_sumOfListed_53 rfl ?_
            refine A_iload_n hC dX7_sumOfListed_55 rfl ?_
            refine A_icmp_ge (tgt := 106) hC dX7_sumOfListed_56 (by decide) ?_ ?_
            · exact A_to (hj106 x4 D3) (And.intro rfl (And.intro rfl (And.intro rfl (And.intro rfl (trivial)))))
            · refine A_iload hC dX7_sumOfListed_59 rfl ?_
              refine A_bipush (v := 32) hC dX7_sumOfListed_61 (by decide) ?_
              refine A_icmp_ge (tgt := 106) hC dX7_sumOfListed_63 (by decide) ?_ ?_
              · exact A_to (hj106 x4 D3) (And.intro rfl (And.intro rfl (And.intro rfl (And.intro rfl (trivial)))))
              · refine A_lload hC dX7_sumOfListed_66 rfl ?_
                refine A_aload_n hC dX7_sumOfListed_68 rfl ?_
                refine A_getr (kf := 6) hC kX7 (lX_50 hL) rfl (by decide) (by decide) rfl rfl w_278 dX7_sumOfListed_69 ?_
                refine A_iload hC dX7_sumOfListed_72 rfl ?_
                refine A_iload hC dX7_sumOfListed_74 rfl ?_
                refine A_iadd hC dX7_sumOfListed_76 ?_
                refine A_iald hC (lX_54 hL) dX7_sumOfListed_77 ?_
                refine A_iload hC dX7_sumOfListed_78 rfl ?_
                refine A_imul hC dX7_sumOfListed_80 ?_
                refine A_aload_n hC dX7_sumOfListed_81 rfl ?_
                refine A_getr (kf := 6) hC kX7 (lX_50 hL) rfl (by decide) (by decide) rfl rfl w_278 dX7_sumOfListed_82 ?_
                refine A_iload hC dX7_sumOfListed_85 rfl ?_
                refine A_iload hC dX7_sumOfListed_87 rfl ?_
                refine A_iadd hC dX7_sumOfListed_89 ?_
                refine A_iald hC (lX_54 hL) dX7_sumOfListed_90 ?_
                refine A_iload_n hC dX7_sumOfListed_91 rfl ?_
                refine A_imul hC dX7_sumOfListed_92 ?_
                refine A_mmin hC w_715 w_567 w_16 w_568 rfl (by decide) (Nat.le_of_ble_eq_true rfl) dX7_sumOfListed_93 ?_
                refine A_i2l hC dX7_sumOfListed_96 ?_
                refine A_ladd hC dX7_sumOfListed_97 ?_
                refine A_topl (fun x6 => ?_)
                refine A_lstore (lv2 := [some (.ref (g.1 + 50)), some (.int a1), none, some (.int a3), some (.int a4), some (.int x1), some (.int x2), some (.long x6), none, some (.int x5)]) hC dX7_sumOfListed_98 (Nat.le_of_ble_eq_true rfl) rfl rfl ?_
                refine A_iincL (z := (1 : Int32)) (lv2 := fun x7 => [some (.ref (g.1 + 50)), some (.int a1), none, some (.int a3), some (.int a4), some (.int x1), some (.int x2), some (.long x6), none, some (.int x7)]) hC dX7_sumOfListed_100 rfl (by decide) (Nat.le_of_ble_eq_true rfl) rfl (fun _ => rfl) (fun x7 => ?_)
                refine A_goto (tgt := 53) hC dX7_sumOfListed_103 (by decide) ?_
                exact A_to (hL53 x6 x7 D3) (And.intro rfl (And.intro rfl (And.intro rfl (And.intro rfl (And.intro rfl (And.intro rfl (And.intro rfl (And.intro rfl (trivial)))))))))
          exact A_to (hj53 (0 : Int64) (0 : Int32) D) (And.intro rfl (And.intro rfl (And.intro rfl (And.intro rfl (And.intro rfl (And.intro rfl (And.intro rfl (And.intro rfl (trivial)))))))))
        · exact A_to (hj28 D) (trivial)
def lX0_lookFrom_31 (j70 : ADD → Option (Int32 × ADD)) (L31 : Int32 → ADD → Option (Int32 × ADD)) (x1 : Int32) (D5 : ADD) : Option (Int32 × ADD) := (if (D5.1 2 10) ≤ x1 then j70 D5 else (if (400 : Int32) ≤ x1 then j70 D5 else aIn x1 400 (aBind (fX0_isSeen (D5.1 7 x1.toNatClampNeg) D5) (fun x2 D6 => aLet (fun (D7 : ADD) => aLet (x1 + (1 : Int32)) (fun x3 => L31 x3 D7)) (fun (j64 : ADD → Option (Int32 × ADD)) => (if x2 = 0 then j64 D6 else aBind (fX0_see x1 D6) (fun _ D8 => j64 D8)))))))
def fX0_lookFrom (a1 : Int32) (D : ADD) : Option (Int32 × ADD) := aLet (fun (D1 : ADD) => aLet (aSI D1 2 12 a1) (fun D2 => aLet (aSI D2 2 9 (0 : Int32)) (fun D3 => aLet (fun (D4 : ADD) => some ((1 : Int32), D4)) (fun (j70 : ADD → Option (Int32 × ADD)) => aLet (aFix aFuel (lX0_lookFrom_31 j70) (fun _ _ => none)) (fun j31 => j31 (0 : Int32) D3))))) (fun (j19 : ADD → Option (Int32 × ADD)) => (if a1 = (-1 : Int32) then j19 D else aLet (fun (D9 : ADD) => some ((0 : Int32), D9)) (fun (j17 : ADD → Option (Int32 × ADD)) => (if a1 < 0 then j17 D else (if a1 ≤ (D.1 2 11) then j19 D else j17 D)))))
set_option maxHeartbeats 4000000 in
set_option maxRecDepth 100000 in
theorem mX0_lookFrom (l : Launch) (g : AGl) (hL : aLX g) (a1 : Int32) (D : ADD) : AM aVi l yX0_lookFrom cX0_lookFrom 3 (some .boolean) 2 g [.ref (g.1 + 2), .int a1] D (fX0_lookFrom a1 D) := by
  refine AM_of (lv0 := [some (.ref (g.1 + 2)), some (.int a1), none]) (own := RX0) (by decide +kernel) rfl (Nat.le_of_ble_eq_true rfl) rfl (fun b hC => ?_)
  unfold fX0_lookFrom
  refine A_iload_n hC dX0_lookFrom_0 rfl ?_
  refine A_iconst (v := -1) hC dX0_lookFrom_1 (by decide) ?_
  refine A_join (fun (J : ADD → Option (Int32 × ADD)) => ∀ (D1 : ADD), AT aVi g b 19 [some (.ref (g.1 + 2)), some (.int a1), none] [] D1 (J D1)) (fun D1 => ?_) (fun j19 hj19 => ?_)
  · refine A_aload_n hC dX0_lookFrom_19 rfl ?_
    refine A_iload_n hC dX0_lookFrom_20 rfl ?_
    refine A_puti (kf := 12) hC kX0 (lX_2 hL) rfl (by decide) (by decide) rfl rfl rfl w_57 dX0_lookFrom_21 (fun D2 => ?_)
    refine A_aload_n hC dX0_lookFrom_24 rfl ?_
    refine A_iconst (v := 0) hC dX0_lookFrom_25 (by decide) ?_
    refine A_puti (kf := 9) hC kX0 (lX_2 hL) rfl (by decide) (by decide) rfl rfl rfl w_50 dX0_lookFrom_26 (fun D3 => ?_)
    refine A_iconst (v := 0) hC dX0_lookFrom_29 (by decide) ?_
    refine A_istore_n (lv2 := [some (.ref (g.1 + 2)), some (.int a1), some (.int (0 : Int32))]) hC dX0_lookFrom_30 (Nat.le_of_ble_eq_true rfl) rfl rfl ?_
    refine A_join (fun (J : ADD → Option (Int32 × ADD)) => ∀ (D4 : ADD), AT aVi g b 70 [none, none, none] [] D4 (J D4)) (fun D4 => ?_) (fun j70 hj70 => ?_)
    · refine A_iconst (v := 1) hC dX0_lookFrom_70 (by decide) ?_
      exact A_zret hC dX0_lookFrom_71 (Or.inr rfl)
    refine A_join (fun (J : Int32 → ADD → Option (Int32 × ADD)) => ∀ (x1 : Int32) (D5 : ADD), AT aVi g b 31 [some (.ref (g.1 + 2)), none, some (.int x1)] [] D5 (J x1 D5)) (aFix_all (fun (J : Int32 → ADD → Option (Int32 × ADD)) => ∀ (x1 : Int32) (D5 : ADD), AT aVi g b 31 [some (.ref (g.1 + 2)), none, some (.int x1)] [] D5 (J x1 D5)) (fun _ _ => A_none) (fun L31 hL31 x1 D5 => ?_) _) (fun j31 hj31 => ?_)
    · unfold lX0_lookFrom_31
      refine A_iload_n hC dX0_lookFrom_31 rfl ?_
      refine A_aload_n hC dX0_lookFrom_32 rfl ?_
      refine A_geti (kf := 10) hC kX0 (lX_2 hL) rfl (by decide) (by decide) rfl w_53 dX0_lookFrom_33 ?_
      refine A_icmp_ge (tgt := 70) hC dX0_lookFrom_36 (by decide) ?_ ?_
      · exact A_to (hj70 D5) (trivial)
      · refine A_iload_n hC dX0_lookFrom_39 rfl ?_
        refine A_sipush (v := 400) hC dX0_lookFrom_40 (by decide) ?_
        refine A_icmp_ge (tgt := 70) hC dX0_lookFrom_43 (by decide) ?_ ?_
        · exact A_to (hj70 D5) (trivial)
        · refine A_aload_n hC dX0_lookFrom_46 rfl ?_
          refine A_aload_n hC dX0_lookFrom_47 rfl ?_
          refine A_getr (kf := 4) hC kX0 (lX_2 hL) rfl (by decide) (by decide) rfl rfl w_45 dX0_lookFrom_48 ?_
          refine A_iload_n hC dX0_lookFrom_51 rfl ?_
          refine A_iald hC (lX_7 hL) dX0_lookFrom_52 ?_
          refine A_callVi (As := [.int (D5.1 7 x1.toNatClampNeg)]) (st := []) hC (fun l => mX0_isSeen l g hL (D5.1 7 x1.toNatClampNeg) D5) (lX_2 hL) rfl (Nat.le_of_ble_eq_true rfl) yc_X0_64 rfl rfl ⟨by decide, by decide⟩ (Nat.le_of_ble_eq_true rfl) rfl dX0_lookFrom_53 (fun x2 D6 => ?_)
          refine A_join (fun (J : ADD → Option (Int32 × ADD)) => ∀ (D7 : ADD), AT aVi g b 64 [some (.ref (g.1 + 2)), none, some (.int x1)] [] D7 (J D7)) (fun D7 => ?_) (fun j64 hj64 => ?_)
          · refine A_iincL (z := (1 : Int32)) (lv2 := fun x3 => [some (.ref (g.1 + 2)), none, some (.int x3)]) hC dX0_lookFrom_64 rfl (by decide) (Nat.le_of_ble_eq_true rfl) rfl (fun _ => rfl) (fun x3 => ?_)
            refine A_goto (tgt := 31) hC dX0_lookFrom_67 (by decide) ?_
            exact A_to (hL31 x3 D7) (And.intro rfl (And.intro rfl (trivial)))
          refine A_if_eq (tgt := 64) hC dX0_lookFrom_56 (by decide) ?_ ?_
          · exact A_to (hj64 D6) (And.intro rfl (And.intro rfl (trivial)))
          · refine A_aload_n hC dX0_lookFrom_59 rfl ?_
            refine A_iload_n hC dX0_lookFrom_60 rfl ?_
            refine A_callVv (As := [.int x1]) (st := []) hC (fun l => mX0_see l g hL x1 D6) (lX_2 hL) rfl (Nat.le_of_ble_eq_true rfl) yc_X0_68 rfl rfl ⟨by decide, by decide⟩ (Nat.le_of_ble_eq_true rfl) rfl dX0_lookFrom_61 (fun _ D8 => ?_)
            exact A_to (hj64 D8) (And.intro rfl (And.intro rfl (trivial)))
    exact A_to (hj31 (0 : Int32) D3) (And.intro rfl (And.intro rfl (trivial)))
  refine A_icmp_eq (tgt := 19) hC dX0_lookFrom_2 (by decide) ?_ ?_
  · exact A_to (hj19 D) (And.intro rfl (And.intro rfl (trivial)))
  · refine A_iload_n hC dX0_lookFrom_5 rfl ?_
    refine A_join (fun (J : ADD → Option (Int32 × ADD)) => ∀ (D9 : ADD), AT aVi g b 17 [none, none, none] [] D9 (J D9)) (fun D9 => ?_) (fun j17 hj17 => ?_)
    · refine A_iconst (v := 0) hC dX0_lookFrom_17 (by decide) ?_
      exact A_zret hC dX0_lookFrom_18 (Or.inl rfl)
    refine A_if_lt (tgt := 17) hC dX0_lookFrom_6 (by decide) ?_ ?_
    · exact A_to (hj17 D) (trivial)
    · refine A_iload_n hC dX0_lookFrom_9 rfl ?_
      refine A_aload_n hC dX0_lookFrom_10 rfl ?_
      refine A_geti (kf := 11) hC kX0 (lX_2 hL) rfl (by decide) (by decide) rfl w_55 dX0_lookFrom_11 ?_
      refine A_icmp_le (tgt := 19) hC dX0_lookFrom_14 (by decide) ?_ ?_
      · exact A_to (hj19 D) (And.intro rfl (And.intro rfl (trivial)))
      · exact A_to (hj17 D) (trivial)
def fX0_write (a1 : Int32) (a2 : Int32) (a3 : Int32) (D : ADD) : Option (Unit × ADD) := aLet (D.1 2 10) (fun x1 => aLet (fun (D1 : ADD) => some ((), D1)) (fun (j19 : ADD → Option (Unit × ADD)) => (if x1 < 0 then j19 D else (if x1 < (400 : Int32) then aIn x1 400 (aLet (aSI D 7 x1.toNatClampNeg (D.1 2 11)) (fun D2 => aIn x1 400 (aLet (aSI D2 8 x1.toNatClampNeg a1) (fun D3 => aIn x1 400 (aLet (aSI D3 9 x1.toNatClampNeg a2) (fun D4 => aIn x1 400 (aLet (aSI D4 10 x1.toNatClampNeg a3) (fun D5 => aLet (aSI D5 2 10 ((D5.1 2 10) + (1 : Int32))) (fun D6 => aBind (fX0_apply 3 x1 D6) (fun _ D7 => aBind (fX0_isSeen (D7.1 2 11) D7) (fun x2 D8 => aLet (fun (D9 : ADD) => some ((), D9)) (fun (j92 : ADD → Option (Unit × ADD)) => (if x2 = 0 then j92 D8 else aBind (fX0_see x1 D8) (fun _ D10 => j92 D10)))))))))))))) else j19 D))))
set_option maxHeartbeats 4000000 in
set_option maxRecDepth 100000 in
theorem mX0_write (l : Launch) (g : AGl) (hL : aLX g) (a1 : Int32) (a2 : Int32) (a3 : Int32) (D : ADD) : AM aVv l yX0_write cX0_write 5 none 2 g [.ref (g.1 + 2), .int a1, .int a2, .int a3] D (fX0_write a1 a2 a3 D) := by
  refine AM_of (lv0 := [some (.ref (g.1 + 2)), some (.int a1), some (.int a2), some (.int a3), none]) (own := RX0) (by decide +kernel) rfl (Nat.le_of_ble_eq_true rfl) rfl (fun b hC => ?_)
  unfold fX0_write
  refine A_aload_n hC dX0_write_0 rfl ?_
  refine A_geti (kf := 10) hC kX0 (lX_2 hL) rfl (by decide) (by decide) rfl w_53 dX0_write_1 ?_
  refine A_topi (fun x1 => ?_)
  refine A_istore (lv2 := [some (.ref (g.1 + 2)), some (.int a1), some (.int a2), some (.int a3), some (.int x1)]) hC dX0_write_4 (Nat.le_of_ble_eq_true rfl) rfl rfl ?_
  refine A_iload hC dX0_write_6 rfl ?_
  refine A_join (fun (J : ADD → Option (Unit × ADD)) => ∀ (D1 : ADD), AT aVv g b 19 [none, none, none, none, none] [] D1 (J D1)) (fun D1 => ?_) (fun j19 hj19 => ?_)
  · exact A_vret hC dX0_write_19
  refine A_if_lt (tgt := 19) hC dX0_write_8 (by decide) ?_ ?_
  · exact A_to (hj19 D) (trivial)
  · refine A_iload hC dX0_write_11 rfl ?_
    refine A_sipush (v := 400) hC dX0_write_13 (by decide) ?_
    refine A_icmp_lt (tgt := 20) hC dX0_write_16 (by decide) ?_ ?_
    · refine A_aload_n hC dX0_write_20 rfl ?_
      refine A_getr (kf := 4) hC kX0 (lX_2 hL) rfl (by decide) (by decide) rfl rfl w_45 dX0_write_21 ?_
      refine A_iload hC dX0_write_24 rfl ?_
      refine A_aload_n hC dX0_write_26 rfl ?_
      refine A_geti (kf := 11) hC kX0 (lX_2 hL) rfl (by decide) (by decide) rfl w_55 dX0_write_27 ?_
      refine A_iast hC (lX_7 hL) dX0_write_30 (fun D2 => ?_)
      refine A_aload_n hC dX0_write_31 rfl ?_
      refine A_getr (kf := 5) hC kX0 (lX_2 hL) rfl (by decide) (by decide) rfl rfl w_46 dX0_write_32 ?_
      refine A_iload hC dX0_write_35 rfl ?_
      refine A_iload_n hC dX0_write_37 rfl ?_
      refine A_iast hC (lX_8 hL) dX0_write_38 (fun D3 => ?_)
      refine A_aload_n hC dX0_write_39 rfl ?_
      refine A_getr (kf := 6) hC kX0 (lX_2 hL) rfl (by decide) (by decide) rfl rfl w_47 dX0_write_40 ?_
      refine A_iload hC dX0_write_43 rfl ?_
      refine A_iload_n hC dX0_write_45 rfl ?_
      refine A_iast hC (lX_9 hL) dX0_write_46 (fun D4 => ?_)
      refine A_aload_n hC dX0_write_47 rfl ?_
      refine A_getr (kf := 7) hC kX0 (lX_2 hL) rfl (by decide) (by decide) rfl rfl w_48 dX0_write_48 ?_
      refine A_iload hC dX0_write_51 rfl ?_
      refine A_iload_n hC dX0_write_53 rfl ?_
      refine A_iast hC (lX_10 hL) dX0_write_54 (fun D5 => ?_)
      refine A_aload_n hC dX0_write_55 rfl ?_
      refine A_dup hC dX0_write_56 rfl ?_
      refine A_geti (kf := 10) hC kX0 (lX_2 hL) rfl (by decide) (by decide) rfl w_53 dX0_write_57 ?_
      refine A_iconst (v := 1) hC dX0_write_60 (by decide) ?_
      refine A_iadd hC dX0_write_61 ?_
      refine A_puti (kf := 10) hC kX0 (lX_2 hL) rfl (by decide) (by decide) rfl rfl rfl w_53 dX0_write_62 (fun D6 => ?_)
      refine A_aload_n hC dX0_write_65 rfl ?_
      refine A_aload_n hC dX0_write_66 rfl ?_
      refine A_getr (kf := 0) hC kX0 (lX_2 hL) rfl (by decide) (by decide) rfl rfl w_41 dX0_write_67 ?_
      refine A_iload hC dX0_write_70 rfl ?_
      refine A_callVv (As := [.ref (g.1 + 3), .int x1]) (st := []) hC (fun l => mX0_apply l g hL 3 (lX_3 hL) x1 D6) (lX_2 hL) rfl (Nat.le_of_ble_eq_true rfl) yc_X0_85 rfl rfl ⟨by decide, by decide⟩ (Nat.le_of_ble_eq_true rfl) rfl dX0_write_72 (fun _ D7 => ?_)
      refine A_aload_n hC dX0_write_75 rfl ?_
      refine A_aload_n hC dX0_write_76 rfl ?_
      refine A_geti (kf := 11) hC kX0 (lX_2 hL) rfl (by decide) (by decide) rfl w_55 dX0_write_77 ?_
      refine A_callVi (As := [.int (D7.1 2 11)]) (st := []) hC (fun l => mX0_isSeen l g hL (D7.1 2 11) D7) (lX_2 hL) rfl (Nat.le_of_ble_eq_true rfl) yc_X0_64 rfl rfl ⟨by decide, by decide⟩ (Nat.le_of_ble_eq_true rfl) rfl dX0_write_80 (fun x2 D8 => ?_)
      refine A_join (fun (J : ADD → Option (Unit × ADD)) => ∀ (D9 : ADD), AT aVv g b 92 [none, none, none, none, none] [] D9 (J D9)) (fun D9 => ?_) (fun j92 hj92 => ?_)
      · exact A_vret hC dX0_write_92
      refine A_if_eq (tgt := 92) hC dX0_write_83 (by decide) ?_ ?_
      · exact A_to (hj92 D8) (trivial)
      · refine A_aload_n hC dX0_write_86 rfl ?_
        refine A_iload hC dX0_write_87 rfl ?_
        refine A_callVv (As := [.int x1]) (st := []) hC (fun l => mX0_see l g hL x1 D8) (lX_2 hL) rfl (Nat.le_of_ble_eq_true rfl) yc_X0_68 rfl rfl ⟨by decide, by decide⟩ (Nat.le_of_ble_eq_true rfl) rfl dX0_write_89 (fun _ D10 => ?_)
        exact A_to (hj92 D10) (trivial)
    · exact A_to (hj19 D) (trivial)
def fX11_again (a1 : Int32) (D : ADD) : Option (Int32 × ADD) := aLet (aSI D 0 0 (0 : Int32)) (fun D1 => aBind (fX11_is a1 (0 : Int32) (2 : Int32) D1) (fun x1 D2 => aLet (fun (D3 : ADD) => some ((0 : Int32), D3)) (fun (j23 : ADD → Option (Int32 × ADD)) => (if x1 = 0 then j23 D2 else aIn a1 3 ((if (aBz (D2.1 39 a1.toNatClampNeg)) = 0 then j23 D2 else aBind (fX11_copy (a1 + (1 : Int32)) (0 : Int32) D2) (fun _ D4 => some ((1 : Int32), D4))))))))
set_option maxHeartbeats 4000000 in
set_option maxRecDepth 100000 in
theorem mX11_again (l : Launch) (g : AGl) (hL : aLM g) (a1 : Int32) (D : ADD) : AM aVi l yX11_again cX11_again 2 (some .boolean) 2 g [.ref (g.1 + 0), .int a1] D (fX11_again a1 D) := by
  refine AM_of (lv0 := [some (.ref (g.1 + 0)), some (.int a1)]) (own := RX11) (by decide +kernel) rfl (Nat.le_of_ble_eq_true rfl) rfl (fun b hC => ?_)
  unfold fX11_again
  refine A_aload_n hC dX11_again_0 rfl ?_
  refine A_iconst (v := 0) hC dX11_again_1 (by decide) ?_
  refine A_puti (kf := 0) hC kX11 (lM_0 hL) rfl (by decide) (by decide) rfl rfl rfl w_1003 dX11_again_2 (fun D1 => ?_)
  refine A_iload_n hC dX11_again_5 rfl ?_
  refine A_iconst (v := 0) hC dX11_again_6 (by decide) ?_
  refine A_iconst (v := 2) hC dX11_again_7 (by decide) ?_
  refine A_callSi (As := [.int a1, .int (0 : Int32), .int (2 : Int32)]) (st := []) hC (fun l => mX11_is l g a1 (0 : Int32) (2 : Int32) D1) yc_X11_138 rfl rfl ⟨by decide, by decide⟩ (Nat.le_of_ble_eq_true rfl) rfl dX11_again_8 (fun x1 D2 => ?_)
  refine A_join (fun (J : ADD → Option (Int32 × ADD)) => ∀ (D3 : ADD), AT aVi g b 23 [none, none] [] D3 (J D3)) (fun D3 => ?_) (fun j23 hj23 => ?_)
  · refine A_iconst (v := 0) hC dX11_again_23 (by decide) ?_
    exact A_zret hC dX11_again_24 (Or.inl rfl)
  refine A_if_eq (tgt := 23) hC dX11_again_11 (by decide) ?_ ?_
  · exact A_to (hj23 D2) (trivial)
  · refine A_aload_n hC dX11_again_14 rfl ?_
    refine A_getr (kf := 50) hC kX11 (lM_0 hL) rfl (by decide) (by decide) rfl rfl w_1053 dX11_again_15 ?_
    refine A_iload_n hC dX11_again_18 rfl ?_
    refine A_zald hC (lM_39 hL) dX11_again_19 ?_
    refine A_if_ne (tgt := 25) hC dX11_again_20 (by decide) ?_ ?_
    · refine A_aload_n hC dX11_again_25 rfl ?_
      refine A_iload_n hC dX11_again_26 rfl ?_
      refine A_iconst (v := 1) hC dX11_again_27 (by decide) ?_
      refine A_iadd hC dX11_again_28 ?_
      refine A_iconst (v := 0) hC dX11_again_29 (by decide) ?_
      refine A_callVv (As := [.int (a1 + (1 : Int32)), .int (0 : Int32)]) (st := []) hC (fun l => mX11_copy l g hL (a1 + (1 : Int32)) (0 : Int32) D2) (lM_0 hL) rfl (Nat.le_of_ble_eq_true rfl) yc_X11_412 rfl rfl ⟨by decide, by decide⟩ (Nat.le_of_ble_eq_true rfl) rfl dX11_again_30 (fun _ D4 => ?_)
      refine A_iconst (v := 1) hC dX11_again_33 (by decide) ?_
      exact A_zret hC dX11_again_34 (Or.inr rfl)
    · exact A_to (hj23 D2) (trivial)
def fX11_areUnits (a1 : Int32) (a2 : Int32) (D : ADD) : Option (Int32 × ADD) := aBind (fX11_isUnit a1 D) (fun x1 D1 => aLet (fun (x2 : Int32) (D2 : ADD) => aZ x2 (some (x2, D2))) (fun (j32 : Int32 → ADD → Option (Int32 × ADD)) => aLet (fun (D3 : ADD) => j32 (0 : Int32) D3) (fun (j31 : ADD → Option (Int32 × ADD)) => (if x1 = 0 then j31 D1 else aBind (fX11_is a2 a1 (2000 : Int32) D1) (fun x3 D4 => (if x3 = 0 then j31 D4 else (if (300 : Int32) < (a2 - a1) then j31 D4 else j32 (1 : Int32) D4)))))))
set_option maxHeartbeats 4000000 in
set_option maxRecDepth 100000 in
theorem mX11_areUnits (l : Launch) (g : AGl) (a1 : Int32) (a2 : Int32) (D : ADD) : AM aVi l yX11_areUnits cX11_areUnits 2 (some .boolean) 2 g [.int a1, .int a2] D (fX11_areUnits a1 a2 D) := by
  refine AM_of (lv0 := [some (.int a1), some (.int a2)]) (own := RX11) (by decide +kernel) rfl (Nat.le_of_ble_eq_true rfl) rfl (fun b hC => ?_)
  unfold fX11_areUnits
  refine A_iload_n hC dX11_areUnits_0 rfl ?_
  refine A_callSi (As := [.int a1]) (st := []) hC (fun l => mX11_isUnit l g a1 D) yc_X11_314 rfl rfl ⟨by decide, by decide⟩ (Nat.le_of_ble_eq_true rfl) rfl dX11_areUnits_1 (fun x1 D1 => ?_)
  refine A_join (fun (J : Int32 → ADD → Option (Int32 × ADD)) => ∀ (x2 : Int32) (D2 : ADD), AT aVi g b 32 [none, none] [.int x2] D2 (J x2 D2)) (fun x2 D2 => ?_) (fun j32 hj32 => ?_)
  · exact A_zretc hC dX11_areUnits_32
  refine A_join (fun (J : ADD → Option (Int32 × ADD)) => ∀ (D3 : ADD), AT aVi g b 31 [none, none] [] D3 (J D3)) (fun D3 => ?_) (fun j31 hj31 => ?_)
  · refine A_iconst (v := 0) hC dX11_areUnits_31 (by decide) ?_
    exact A_to (hj32 (0 : Int32) D3) (trivial)
  refine A_if_eq (tgt := 31) hC dX11_areUnits_4 (by decide) ?_ ?_
  · exact A_to (hj31 D1) (trivial)
  · refine A_iload_n hC dX11_areUnits_7 rfl ?_
    refine A_iload_n hC dX11_areUnits_8 rfl ?_
    refine A_sipush (v := 2000) hC dX11_areUnits_9 (by decide) ?_
    refine A_callSi (As := [.int a2, .int a1, .int (2000 : Int32)]) (st := []) hC (fun l => mX11_is l g a2 a1 (2000 : Int32) D1) yc_X11_138 rfl rfl ⟨by decide, by decide⟩ (Nat.le_of_ble_eq_true rfl) rfl dX11_areUnits_12 (fun x3 D4 => ?_)
    refine A_if_eq (tgt := 31) hC dX11_areUnits_15 (by decide) ?_ ?_
    · exact A_to (hj31 D4) (trivial)
    · refine A_iload_n hC dX11_areUnits_18 rfl ?_
      refine A_iload_n hC dX11_areUnits_19 rfl ?_
      refine A_isub hC dX11_areUnits_20 ?_
      refine A_sipush (v := 300) hC dX11_areUnits_21 (by decide) ?_
      refine A_icmp_gt (tgt := 31) hC dX11_areUnits_24 (by decide) ?_ ?_
      · exact A_to (hj31 D4) (trivial)
      · refine A_iconst (v := 1) hC dX11_areUnits_27 (by decide) ?_
        refine A_goto (tgt := 32) hC dX11_areUnits_28 (by decide) ?_
        exact A_to (hj32 (1 : Int32) D4) (trivial)
def fX11_fact (a1 : Int32) (a2 : Int32) (D : ADD) : Option (Int32 × ADD) := aLet (aSI D 0 0 (0 : Int32)) (fun D1 => aBind (fX11_isStone a1 D1) (fun x1 D2 => aLet (fun (x2 : Int32) (D3 : ADD) => some (x2, D3)) (fun (j38 : Int32 → ADD → Option (Int32 × ADD)) => aLet (fun (D4 : ADD) => j38 (-100000 : Int32) D4) (fun (j36 : ADD → Option (Int32 × ADD)) => (if x1 = 0 then j36 D2 else aBind (fX11_is a2 (0 : Int32) (10 : Int32) D2) (fun x3 D5 => (if x3 = 0 then j36 D5 else aBind (fX11_dayOfView D5) (fun x4 D6 => aBind (fX11_factOn a1 a2 x4 D6) (fun x5 D7 => j38 x5 D7)))))))))
set_option maxHeartbeats 4000000 in
set_option maxRecDepth 100000 in
theorem mX11_fact (l : Launch) (g : AGl) (hL : aLM g) (a1 : Int32) (a2 : Int32) (D : ADD) : AM aVi l yX11_fact cX11_fact 3 (some .int) 2 g [.ref (g.1 + 0), .int a1, .int a2] D (fX11_fact a1 a2 D) := by
  refine AM_of (lv0 := [some (.ref (g.1 + 0)), some (.int a1), some (.int a2)]) (own := RX11) (by decide +kernel) rfl (Nat.le_of_ble_eq_true rfl) rfl (fun b hC => ?_)
  unfold fX11_fact
  refine A_aload_n hC dX11_fact_0 rfl ?_
  refine A_iconst (v := 0) hC dX11_fact_1 (by decide) ?_
  refine A_puti (kf := 0) hC kX11 (lM_0 hL) rfl (by decide) (by decide) rfl rfl rfl w_1003 dX11_fact_2 (fun D1 => ?_)
  refine A_aload_n hC dX11_fact_5 rfl ?_
  refine A_iload_n hC dX11_fact_6 rfl ?_
  refine A_callVi (As := [.int a1]) (st := []) hC (fun l => mX11_isStone l g hL a1 D1) (lM_0 hL) rfl (Nat.le_of_ble_eq_true rfl) yc_X11_157 rfl rfl ⟨by decide, by decide⟩ (Nat.le_of_ble_eq_true rfl) rfl dX11_fact_7 (fun x1 D2 => ?_)
  refine A_join (fun (J : Int32 → ADD → Option (Int32 × ADD)) => ∀ (x2 : Int32) (D3 : ADD), AT aVi g b 38 [none, none, none] [.int x2] D3 (J x2 D3)) (fun x2 D3 => ?_) (fun j38 hj38 => ?_)
  · exact A_iret hC dX11_fact_38
  refine A_join (fun (J : ADD → Option (Int32 × ADD)) => ∀ (D4 : ADD), AT aVi g b 36 [none, none, none] [] D4 (J D4)) (fun D4 => ?_) (fun j36 hj36 => ?_)
  · refine A_ldc hC dX11_fact_36 w_1200 ?_
    exact A_to (hj38 (-100000 : Int32) D4) (trivial)
  refine A_if_eq (tgt := 36) hC dX11_fact_10 (by decide) ?_ ?_
  · exact A_to (hj36 D2) (trivial)
  · refine A_iload_n hC dX11_fact_13 rfl ?_
    refine A_iconst (v := 0) hC dX11_fact_14 (by decide) ?_
    refine A_bipush (v := 10) hC dX11_fact_15 (by decide) ?_
    refine A_callSi (As := [.int a2, .int (0 : Int32), .int (10 : Int32)]) (st := []) hC (fun l => mX11_is l g a2 (0 : Int32) (10 : Int32) D2) yc_X11_138 rfl rfl ⟨by decide, by decide⟩ (Nat.le_of_ble_eq_true rfl) rfl dX11_fact_17 (fun x3 D5 => ?_)
    refine A_if_eq (tgt := 36) hC dX11_fact_20 (by decide) ?_ ?_
    · exact A_to (hj36 D5) (trivial)
    · refine A_aload_n hC dX11_fact_23 rfl ?_
      refine A_iload_n hC dX11_fact_24 rfl ?_
      refine A_iload_n hC dX11_fact_25 rfl ?_
      refine A_aload_n hC dX11_fact_26 rfl ?_
      refine A_callVi (As := []) (st := [.int a2, .int a1, .ref (g.1 + 0)]) hC (fun l => mX11_dayOfView l g hL D5) (lM_0 hL) rfl (Nat.le_of_ble_eq_true rfl) yc_X11_142 rfl rfl ⟨by decide, by decide⟩ (Nat.le_of_ble_eq_true rfl) rfl dX11_fact_27 (fun x4 D6 => ?_)
      refine A_callVi (As := [.int a1, .int a2, .int x4]) (st := []) hC (fun l => mX11_factOn l g hL a1 a2 x4 D6) (lM_0 hL) rfl (Nat.le_of_ble_eq_true rfl) yc_X11_150 rfl rfl ⟨by decide, by decide⟩ (Nat.le_of_ble_eq_true rfl) rfl dX11_fact_30 (fun x5 D7 => ?_)
      refine A_goto (tgt := 38) hC dX11_fact_33 (by decide) ?_
      exact A_to (hj38 x5 D7) (trivial)
def fX11_image (a1 : Int32) (D : ADD) : Option (Int32 × ADD) := aLet (aSI D 0 0 (0 : Int32)) (fun D1 => aBind (fX11_is a1 (0 : Int32) (2 : Int32) D1) (fun x1 D2 => (if x1 = 0 then some ((0 : Int32), D2) else aBind (fX11_copy (0 : Int32) (a1 + (1 : Int32)) D2) (fun _ D3 => aIn a1 3 (aLet (aSI D3 39 a1.toNatClampNeg (1 : Int32)) (fun D4 => some ((1 : Int32), D4)))))))
set_option maxHeartbeats 4000000 in
set_option maxRecDepth 100000 in
theorem mX11_image (l : Launch) (g : AGl) (hL : aLM g) (a1 : Int32) (D : ADD) : AM aVi l yX11_image cX11_image 2 (some .boolean) 2 g [.ref (g.1 + 0), .int a1] D (fX11_image a1 D) := by
  refine AM_of (lv0 := [some (.ref (g.1 + 0)), some (.int a1)]) (own := RX11) (by decide +kernel) rfl (Nat.le_of_ble_eq_true rfl) rfl (fun b hC => ?_)
  unfold fX11_image
  refine A_aload_n hC dX11_image_0 rfl ?_
  refine A_iconst (v := 0) hC dX11_image_1 (by decide) ?_
  refine A_puti (kf := 0) hC kX11 (lM_0 hL) rfl (by decide) (by decide) rfl rfl rfl w_1003 dX11_image_2 (fun D1 => ?_)
  refine A_iload_n hC dX11_image_5 rfl ?_
  refine A_iconst (v := 0) hC dX11_image_6 (by decide) ?_
  refine A_iconst (v := 2) hC dX11_image_7 (by decide) ?_
  refine A_callSi (As := [.int a1, .int (0 : Int32), .int (2 : Int32)]) (st := []) hC (fun l => mX11_is l g a1 (0 : Int32) (2 : Int32) D1) yc_X11_138 rfl rfl ⟨by decide, by decide⟩ (Nat.le_of_ble_eq_true rfl) rfl dX11_image_8 (fun x1 D2 => ?_)
  refine A_if_ne (tgt := 16) hC dX11_image_11 (by decide) ?_ ?_
  · refine A_aload_n hC dX11_image_16 rfl ?_
    refine A_iconst (v := 0) hC dX11_image_17 (by decide) ?_
    refine A_iload_n hC dX11_image_18 rfl ?_
    refine A_iconst (v := 1) hC dX11_image_19 (by decide) ?_
    refine A_iadd hC dX11_image_20 ?_
    refine A_callVv (As := [.int (0 : Int32), .int (a1 + (1 : Int32))]) (st := []) hC (fun l => mX11_copy l g hL (0 : Int32) (a1 + (1 : Int32)) D2) (lM_0 hL) rfl (Nat.le_of_ble_eq_true rfl) yc_X11_412 rfl rfl ⟨by decide, by decide⟩ (Nat.le_of_ble_eq_true rfl) rfl dX11_image_21 (fun _ D3 => ?_)
    refine A_aload_n hC dX11_image_24 rfl ?_
    refine A_getr (kf := 50) hC kX11 (lM_0 hL) rfl (by decide) (by decide) rfl rfl w_1053 dX11_image_25 ?_
    refine A_iload_n hC dX11_image_28 rfl ?_
    refine A_iconst (v := 1) hC dX11_image_29 (by decide) ?_
    refine A_zast hC (lM_39 hL) dX11_image_30 (fun D4 => ?_)
    refine A_iconst (v := 1) hC dX11_image_31 (by decide) ?_
    exact A_zret hC dX11_image_32 (Or.inr rfl)
  · refine A_iconst (v := 0) hC dX11_image_14 (by decide) ?_
    exact A_zret hC dX11_image_15 (Or.inl rfl)
def lX11_look_288 (j334 : ADD → Option (Unit × ADD)) (L288 : Int32 → ADD → Option (Unit × ADD)) (x2 : Int32) (D6 : ADD) : Option (Unit × ADD) := (if (D6.1 0 41) ≤ x2 then j334 D6 else aIn x2 32 (aLet (aSI D6 35 x2.toNatClampNeg (0 : Int32)) (fun D7 => aIn x2 32 (aLet (fun (D8 : ADD) => aLet (x2 + (1 : Int32)) (fun x3 => L288 x3 D8)) (fun (j328 : ADD → Option (Unit × ADD)) => (if (aBz (D7.1 31 x2.toNatClampNeg)) = 0 then j328 D7 else aBind (fX11_findSpan x2 D7) (fun _ D9 => aBind (fX11_isChosen x2 D9) (fun x4 D10 => aIn x2 32 (aLet (aSI D10 35 x2.toNatClampNeg x4) (fun D11 => j328 D11))))))))))
def lX11_look_203 (x1 : Int32) (j286 : ADD → Option (Unit × ADD)) (L203 : Int32 → ADD → Option (Unit × ADD)) (x5 : Int32) (D12 : ADD) : Option (Unit × ADD) := aIn (0 : Int32) 4 ((if (D12.1 8 (0 : Int32).toNatClampNeg) ≤ x5 then j286 D12 else aLet ((4 : Int32) * x5) (fun x6 => aIn x6 6400 (aLet (fun (D13 : ADD) => aLet (x5 + (1 : Int32)) (fun x7 => L203 x7 D13)) (fun (j280 : ADD → Option (Unit × ADD)) => (if x1 < (D12.1 9 x6.toNatClampNeg) then j280 D12 else aIn (x6 + (2 : Int32)) 6400 (aLet (fun (x8 : Int32) (D14 : ADD) => aIn (x6 + (1 : Int32)) 6400 (aIn (x6 + (3 : Int32)) 6400 (aIn (((11 : Int32) * (D14.1 9 (x6 + (1 : Int32)).toNatClampNeg)) + x8) 352 (aLet (aSI D14 32 (((11 : Int32) * (D14.1 9 (x6 + (1 : Int32)).toNatClampNeg)) + x8).toNatClampNeg (D14.1 9 (x6 + (3 : Int32)).toNatClampNeg)) (fun D15 => j280 D15))))) (fun (j251 : Int32 → ADD → Option (Unit × ADD)) => (if (D12.1 9 (x6 + (2 : Int32)).toNatClampNeg) = (-1 : Int32) then j251 (0 : Int32) D12 else aIn (x6 + (2 : Int32)) 6400 (j251 (D12.1 9 (x6 + (2 : Int32)).toNatClampNeg) D12))))))))))
def lX11_look_17 (x1 : Int32) (j201 : ADD → Option (Unit × ADD)) (L17 : Int32 → ADD → Option (Unit × ADD)) (x9 : Int32) (D16 : ADD) : Option (Unit × ADD) := (if (D16.1 0 41) ≤ x9 then j201 D16 else aIn ((3 : Int32) * x9) 384 (aLet (fun (x10 : Int32) (D17 : ADD) => aIn x9 32 (aLet (aSI D17 31 x9.toNatClampNeg x10) (fun D18 => aIn (((3 : Int32) * x9) + (1 : Int32)) 384 (aIn (((11 : Int32) * x9) + (1 : Int32)) 352 (aLet (aSI D18 32 (((11 : Int32) * x9) + (1 : Int32)).toNatClampNeg (D18.1 10 (((3 : Int32) * x9) + (1 : Int32)).toNatClampNeg)) (fun D19 => aIn (((3 : Int32) * x9) + (2 : Int32)) 384 (aIn (((11 : Int32) * x9) + (4 : Int32)) 352 (aLet (aSI D19 32 (((11 : Int32) * x9) + (4 : Int32)).toNatClampNeg (D19.1 10 (((3 : Int32) * x9) + (2 : Int32)).toNatClampNeg)) (fun D20 => aIn (((11 : Int32) * x9) + (2 : Int32)) 352 (aLet (aSI D20 32 (((11 : Int32) * x9) + (2 : Int32)).toNatClampNeg (0 : Int32)) (fun D21 => aIn (((11 : Int32) * x9) + (3 : Int32)) 352 (aLet (aSI D21 32 (((11 : Int32) * x9) + (3 : Int32)).toNatClampNeg (0 : Int32)) (fun D22 => aIn (((11 : Int32) * x9) + (5 : Int32)) 352 (aLet (aSI D22 32 (((11 : Int32) * x9) + (5 : Int32)).toNatClampNeg (-3000 : Int32)) (fun D23 => aIn (((11 : Int32) * x9) + (6 : Int32)) 352 (aLet (aSI D23 32 (((11 : Int32) * x9) + (6 : Int32)).toNatClampNeg (1900 : Int32)) (fun D24 => aIn (((11 : Int32) * x9) + (7 : Int32)) 352 (aLet (aSI D24 32 (((11 : Int32) * x9) + (7 : Int32)).toNatClampNeg (0 : Int32)) (fun D25 => aIn (((11 : Int32) * x9) + (8 : Int32)) 352 (aLet (aSI D25 32 (((11 : Int32) * x9) + (8 : Int32)).toNatClampNeg (0 : Int32)) (fun D26 => aIn (((11 : Int32) * x9) + (9 : Int32)) 352 (aLet (aSI D26 32 (((11 : Int32) * x9) + (9 : Int32)).toNatClampNeg (1 : Int32)) (fun D27 => aIn (((11 : Int32) * x9) + (10 : Int32)) 352 (aLet (aSI D27 32 (((11 : Int32) * x9) + (10 : Int32)).toNatClampNeg (0 : Int32)) (fun D28 => aLet (x9 + (1 : Int32)) (fun x11 => L17 x11 D28)))))))))))))))))))))))))) (fun (j47 : Int32 → ADD → Option (Unit × ADD)) => (if x1 < (D16.1 10 ((3 : Int32) * x9).toNatClampNeg) then j47 (0 : Int32) D16 else j47 (1 : Int32) D16))))
def fX11_look (D : ADD) : Option (Unit × ADD) := aBind (fX11_dayOfView D) (fun x1 D1 => aIn (0 : Int32) 4 (aLet (aSI D1 0 41 (D1.1 5 (0 : Int32).toNatClampNeg)) (fun D2 => aLet (fun (D3 : ADD) => aLet (fun (D4 : ADD) => aLet (fun (D5 : ADD) => some ((), D5)) (fun (j334 : ADD → Option (Unit × ADD)) => aLet (aFix aFuel (lX11_look_288 j334) (fun _ _ => none)) (fun j288 => j288 (0 : Int32) D4))) (fun (j286 : ADD → Option (Unit × ADD)) => aLet (aFix aFuel (lX11_look_203 x1 j286) (fun _ _ => none)) (fun j203 => j203 (0 : Int32) D3))) (fun (j201 : ADD → Option (Unit × ADD)) => aLet (aFix aFuel (lX11_look_17 x1 j201) (fun _ _ => none)) (fun j17 => j17 (0 : Int32) D2)))))
set_option maxHeartbeats 4000000 in
set_option maxRecDepth 100000 in
theorem mX11_look (l : Launch) (g : AGl) (hL : aLM g) (D : ADD) : AM aVv l yX11_look cX11_look 5 none 2 g [.ref (g.1 + 0)] D (fX11_look D) := by
  refine AM_of (lv0 := [some (.ref (g.1 + 0)), none, none, none, none]) (own := RX11) (by decide +kernel) rfl (Nat.le_of_ble_eq_true rfl) rfl (fun b hC => ?_)
  unfold fX11_look
  refine A_aload_n hC dX11_look_0 rfl ?_
  refine A_callVi (As := []) (st := []) hC (fun l => mX11_dayOfView l g hL D) (lM_0 hL) rfl (Nat.le_of_ble_eq_true rfl) yc_X11_142 rfl rfl ⟨by decide, by decide⟩ (Nat.le_of_ble_eq_true rfl) rfl dX11_look_1 (fun x1 D1 => ?_)
  refine A_istore_n (lv2 := [some (.ref (g.1 + 0)), some (.int x1), none, none, none]) hC dX11_look_4 (Nat.le_of_ble_eq_true rfl) rfl rfl ?_
  refine A_aload_n hC dX11_look_5 rfl ?_
  refine A_aload_n hC dX11_look_6 rfl ?_
  refine A_getr (kf := 5) hC kX11 (lM_0 hL) rfl (by decide) (by decide) rfl rfl w_1008 dX11_look_7 ?_
  refine A_iconst (v := 0) hC dX11_look_10 (by decide) ?_
  refine A_iald hC (lM_5 hL) dX11_look_11 ?_
  refine A_puti (kf := 41) hC kX11 (lM_0 hL) rfl (by decide) (by decide) rfl rfl rfl w_1044 dX11_look_12 (fun D2 => ?_)
  refine A_iconst (v := 0) hC dX11_look_15 (by decide) ?_
  refine A_istore_n (lv2 := [some (.ref (g.1 + 0)), some (.int x1), some (.int (0 : Int32)), none, none]) hC dX11_look_16 (Nat.le_of_ble_eq_true rfl) rfl rfl ?_
  refine A_join (fun (J : ADD → Option (Unit × ADD)) => ∀ (D3 : ADD), AT aVv g b 201 [some (.ref (g.1 + 0)), some (.int x1), none, none, none] [] D3 (J D3)) (fun D3 => ?_) (fun j201 hj201 => ?_)
  · refine A_iconst (v := 0) hC dX11_look_201 (by decide) ?_
    refine A_istore_n (lv2 := [some (.ref (g.1 + 0)), some (.int x1), some (.int (0 : Int32)), none, none]) hC dX11_look_202 (Nat.le_of_ble_eq_true rfl) rfl rfl ?_
    refine A_join (fun (J : ADD → Option (Unit × ADD)) => ∀ (D4 : ADD), AT aVv g b 286 [some (.ref (g.1 + 0)), none, none, none, none] [] D4 (J D4)) (fun D4 => ?_) (fun j286 hj286 => ?_)
    · refine A_iconst (v := 0) hC dX11_look_286 (by decide) ?_
      refine A_istore_n (lv2 := [some (.ref (g.1 + 0)), none, some (.int (0 : Int32)), none, none]) hC dX11_look_287 (Nat.le_of_ble_eq_true rfl) rfl rfl ?_
      refine A_join (fun (J : ADD → Option (Unit × ADD)) => ∀ (D5 : ADD), AT aVv g b 334 [none, none, none, none, none] [] D5 (J D5)) (fun D5 => ?_) (fun j334 hj334 => ?_)
      · exact A_vret hC dX11_look_334
      refine A_join (fun (J : Int32 → ADD → Option (Unit × ADD)) => ∀ (x2 : Int32) (D6 : ADD), AT aVv g b 288 [some (.ref (g.1 + 0)), none, some (.int x2), none, none] [] D6 (J x2 D6)) (aFix_all (fun (J : Int32 → ADD → Option (Unit × ADD)) => ∀ (x2 : Int32) (D6 : ADD), AT aVv g b 288 [some (.ref (g.1 + 0)), none, some (.int x2), none, none] [] D6 (J x2 D6)) (fun _ _ => A_none) (fun L288 hL288 x2 D6 => ?_) _) (fun j288 hj288 => ?_)
      · unfold lX11_look_288
        refine A_iload_n hC dX11_look_288 rfl ?_
        refine A_aload_n hC dX11_look_289 rfl ?_
        refine A_geti (kf := 41) hC kX11 (lM_0 hL) rfl (by decide) (by decide) rfl w_1044 dX11_look_290 ?_
        refine A_icmp_ge (tgt := 334) hC dX11_look_293 (by decide) ?_ ?_
        · exact A_to (hj334 D6) (trivial)
        · refine A_aload_n hC dX11_look_296 rfl ?_
          refine A_getr (kf := 46) hC kX11 (lM_0 hL) rfl (by decide) (by decide) rfl rfl w_1049 dX11_look_297 ?_
          refine A_iload_n hC dX11_look_300 rfl ?_
          refine A_iconst (v := 0) hC dX11_look_301 (by decide) ?_
          refine A_zast hC (lM_35 hL) dX11_look_302 (fun D7 => ?_)
          refine A_aload_n hC dX11_look_303 rfl ?_
          refine A_getr (kf := 42) hC kX11 (lM_0 hL) rfl (by decide) (by decide) rfl rfl w_1045 dX11_look_304 ?_
          refine A_iload_n hC dX11_look_307 rfl ?_
          refine A_zald hC (lM_31 hL) dX11_look_308 ?_
          refine A_join (fun (J : ADD → Option (Unit × ADD)) => ∀ (D8 : ADD), AT aVv g b 328 [some (.ref (g.1 + 0)), none, some (.int x2), none, none] [] D8 (J D8)) (fun D8 => ?_) (fun j328 hj328 => ?_)
          · refine A_iincL (z := (1 : Int32)) (lv2 := fun x3 => [some (.ref (g.1 + 0)), none, some (.int x3), none, none]) hC dX11_look_328 rfl (by decide) (Nat.le_of_ble_eq_true rfl) rfl (fun _ => rfl) (fun x3 => ?_)
            refine A_goto (tgt := 288) hC dX11_look_331 (by decide) ?_
            exact A_to (hL288 x3 D8) (And.intro rfl (And.intro rfl (trivial)))
          refine A_if_eq (tgt := 328) hC dX11_look_309 (by decide) ?_ ?_
          · exact A_to (hj328 D7) (And.intro rfl (And.intro rfl (trivial)))
          · refine A_aload_n hC dX11_look_312 rfl ?_
            refine A_iload_n hC dX11_look_313 rfl ?_
            refine A_callVv (As := [.int x2]) (st := []) hC (fun l => mX11_findSpan l g hL x2 D7) (lM_0 hL) rfl (Nat.le_of_ble_eq_true rfl) yc_X11_305 rfl rfl ⟨by decide, by decide⟩ (Nat.le_of_ble_eq_true rfl) rfl dX11_look_314 (fun _ D9 => ?_)
            refine A_aload_n hC dX11_look_317 rfl ?_
            refine A_getr (kf := 46) hC kX11 (lM_0 hL) rfl (by decide) (by decide) rfl rfl w_1049 dX11_look_318 ?_
            refine A_iload_n hC dX11_look_321 rfl ?_
            refine A_aload_n hC dX11_look_322 rfl ?_
            refine A_iload_n hC dX11_look_323 rfl ?_
            refine A_callVi (As := [.int x2]) (st := [.int x2, .ref (g.1 + 35)]) hC (fun l => mX11_isChosen l g hL x2 D9) (lM_0 hL) rfl (Nat.le_of_ble_eq_true rfl) yc_X11_308 rfl rfl ⟨by decide, by decide⟩ (Nat.le_of_ble_eq_true rfl) rfl dX11_look_324 (fun x4 D10 => ?_)
            refine A_zast hC (lM_35 hL) dX11_look_327 (fun D11 => ?_)
            exact A_to (hj328 D11) (And.intro rfl (And.intro rfl (trivial)))
      exact A_to (hj288 (0 : Int32) D4) (And.intro rfl (And.intro rfl (trivial)))
    refine A_join (fun (J : Int32 → ADD → Option (Unit × ADD)) => ∀ (x5 : Int32) (D12 : ADD), AT aVv g b 203 [some (.ref (g.1 + 0)), some (.int x1), some (.int x5), none, none] [] D12 (J x5 D12)) (aFix_all (fun (J : Int32 → ADD → Option (Unit × ADD)) => ∀ (x5 : Int32) (D12 : ADD), AT aVv g b 203 [some (.ref (g.1 + 0)), some (.int x1), some (.int x5), none, none] [] D12 (J x5 D12)) (fun _ _ => A_none) (fun L203 hL203 x5 D12 => ?_) _) (fun j203 hj203 => ?_)
    · unfold lX11_look_203
      refine A_iload_n hC dX11_look_203 rfl ?_
      refine A_aload_n hC dX11_look_204 rfl ?_
      refine A_getr (kf := 8) hC kX11 (lM_0 hL) rfl (by decide) (by decide) rfl rfl w_1011 dX11_look_205 ?_
      refine A_iconst (v := 0) hC dX11_look_208 (by decide) ?_
      refine A_iald hC (lM_8 hL) dX11_look_209 ?_
      refine A_icmp_ge (tgt := 286) hC dX11_look_210 (by decide) ?_ ?_
      · exact A_to (hj286 D12) (And.intro rfl (trivial))
      · refine A_iconst (v := 4) hC dX11_look_213 (by decide) ?_
        refine A_iload_n hC dX11_look_214 rfl ?_
        refine A_imul hC dX11_look_215 ?_
        refine A_topi (fun x6 => ?_)
        refine A_istore_n (lv2 := [some (.ref (g.1 + 0)), some (.int x1), some (.int x5), some (.int x6), none]) hC dX11_look_216 (Nat.le_of_ble_eq_true rfl) rfl rfl ?_
        refine A_aload_n hC dX11_look_217 rfl ?_
        refine A_getr (kf := 9) hC kX11 (lM_0 hL) rfl (by decide) (by decide) rfl rfl w_1012 dX11_look_218 ?_
        refine A_iload_n hC dX11_look_221 rfl ?_
        refine A_iald hC (lM_9 hL) dX11_look_222 ?_
        refine A_iload_n hC dX11_look_223 rfl ?_
        refine A_join (fun (J : ADD → Option (Unit × ADD)) => ∀ (D13 : ADD), AT aVv g b 280 [some (.ref (g.1 + 0)), some (.int x1), some (.int x5), none, none] [] D13 (J D13)) (fun D13 => ?_) (fun j280 hj280 => ?_)
        · refine A_iincL (z := (1 : Int32)) (lv2 := fun x7 => [some (.ref (g.1 + 0)), some (.int x1), some (.int x7), none, none]) hC dX11_look_280 rfl (by decide) (Nat.le_of_ble_eq_true rfl) rfl (fun _ => rfl) (fun x7 => ?_)
          refine A_goto (tgt := 203) hC dX11_look_283 (by decide) ?_
          exact A_to (hL203 x7 D13) (And.intro rfl (And.intro rfl (And.intro rfl (trivial))))
        refine A_icmp_gt (tgt := 280) hC dX11_look_224 (by decide) ?_ ?_
        · exact A_to (hj280 D12) (And.intro rfl (And.intro rfl (And.intro rfl (trivial))))
        · refine A_aload_n hC dX11_look_227 rfl ?_
          refine A_getr (kf := 9) hC kX11 (lM_0 hL) rfl (by decide) (by decide) rfl rfl w_1012 dX11_look_228 ?_
          refine A_iload_n hC dX11_look_231 rfl ?_
          refine A_iconst (v := 2) hC dX11_look_232 (by decide) ?_
          refine A_iadd hC dX11_look_233 ?_
          refine A_iald hC (lM_9 hL) dX11_look_234 ?_
          refine A_iconst (v := -1) hC dX11_look_235 (by decide) ?_
          refine A_join (fun (J : Int32 → ADD → Option (Unit × ADD)) => ∀ (x8 : Int32) (D14 : ADD), AT aVv g b 251 [some (.ref (g.1 + 0)), some (.int x1), some (.int x5), some (.int x6), none] [.int x8] D14 (J x8 D14)) (fun x8 D14 => ?_) (fun j251 hj251 => ?_)
          · refine A_istore (lv2 := [some (.ref (g.1 + 0)), some (.int x1), some (.int x5), some (.int x6), some (.int x8)]) hC dX11_look_251 (Nat.le_of_ble_eq_true rfl) rfl rfl ?_
            refine A_aload_n hC dX11_look_253 rfl ?_
            refine A_getr (kf := 43) hC kX11 (lM_0 hL) rfl (by decide) (by decide) rfl rfl w_1046 dX11_look_254 ?_
            refine A_bipush (v := 11) hC dX11_look_257 (by decide) ?_
            refine A_aload_n hC dX11_look_259 rfl ?_
            refine A_getr (kf := 9) hC kX11 (lM_0 hL) rfl (by decide) (by decide) rfl rfl w_1012 dX11_look_260 ?_
            refine A_iload_n hC dX11_look_263 rfl ?_
            refine A_iconst (v := 1) hC dX11_look_264 (by decide) ?_
            refine A_iadd hC dX11_look_265 ?_
            refine A_iald hC (lM_9 hL) dX11_look_266 ?_
            refine A_imul hC dX11_look_267 ?_
            refine A_iload hC dX11_look_268 rfl ?_
            refine A_iadd hC dX11_look_270 ?_
            refine A_aload_n hC dX11_look_271 rfl ?_
            refine A_getr (kf := 9) hC kX11 (lM_0 hL) rfl (by decide) (by decide) rfl rfl w_1012 dX11_look_272 ?_
            refine A_iload_n hC dX11_look_275 rfl ?_
            refine A_iconst (v := 3) hC dX11_look_276 (by decide) ?_
            refine A_iadd hC dX11_look_277 ?_
            refine A_iald hC (lM_9 hL) dX11_look_278 ?_
            refine A_iast hC (lM_32 hL) dX11_look_279 (fun D15 => ?_)
            exact A_to (hj280 D15) (And.intro rfl (And.intro rfl (And.intro rfl (trivial))))
          refine A_icmp_ne (tgt := 243) hC dX11_look_236 (by decide) ?_ ?_
          · refine A_aload_n hC dX11_look_243 rfl ?_
            refine A_getr (kf := 9) hC kX11 (lM_0 hL) rfl (by decide) (by decide) rfl rfl w_1012 dX11_look_244 ?_
            refine A_iload_n hC dX11_look_247 rfl ?_
            refine A_iconst (v := 2) hC dX11_look_248 (by decide) ?_
            refine A_iadd hC dX11_look_249 ?_
            refine A_iald hC (lM_9 hL) dX11_look_250 ?_
            exact A_to (hj251 (D12.1 9 (x6 + (2 : Int32)).toNatClampNeg) D12) (And.intro rfl (And.intro rfl (And.intro rfl (And.intro rfl (trivial)))))
          · refine A_iconst (v := 0) hC dX11_look_239 (by decide) ?_
            refine A_goto (tgt := 251) hC dX11_look_240 (by decide) ?_
            exact A_to (hj251 (0 : Int32) D12) (And.intro rfl (And.intro rfl (And.intro rfl (And.intro rfl (trivial)))))
    exact A_to (hj203 (0 : Int32) D3) (And.intro rfl (And.intro rfl (And.intro rfl (trivial))))
  refine A_join (fun (J : Int32 → ADD → Option (Unit × ADD)) => ∀ (x9 : Int32) (D16 : ADD), AT aVv g b 17 [some (.ref (g.1 + 0)), some (.int x1), some (.int x9), none, none] [] D16 (J x9 D16)) (aFix_all (fun (J : Int32 → ADD → Option (Unit × ADD)) => ∀ (x9 : Int32) (D16 : ADD), AT aVv g b 17 [some (.ref (g.1 + 0)), some (.int x1), some (.int x9), none, none] [] D16 (J x9 D16)) (fun _ _ => A_none) (fun L17 hL17 x9 D16 => ?_) _) (fun j17 hj17 => ?_)
  · unfold lX11_look_17
    refine A_iload_n hC dX11_look_17 rfl ?_
    refine A_aload_n hC dX11_look_18 rfl ?_
    refine A_geti (kf := 41) hC kX11 (lM_0 hL) rfl (by decide) (by decide) rfl w_1044 dX11_look_19 ?_
    refine A_icmp_ge (tgt := 201) hC dX11_look_22 (by decide) ?_ ?_
    · exact A_to (hj201 D16) (And.intro rfl (And.intro rfl (trivial)))
    · refine A_aload_n hC dX11_look_25 rfl ?_
      refine A_getr (kf := 42) hC kX11 (lM_0 hL) rfl (by decide) (by decide) rfl rfl w_1045 dX11_look_26 ?_
      refine A_iload_n hC dX11_look_29 rfl ?_
      refine A_aload_n hC dX11_look_30 rfl ?_
      refine A_getr (kf := 10) hC kX11 (lM_0 hL) rfl (by decide) (by decide) rfl rfl w_1013 dX11_look_31 ?_
      refine A_iconst (v := 3) hC dX11_look_34 (by decide) ?_
      refine A_iload_n hC dX11_look_35 rfl ?_
      refine A_imul hC dX11_look_36 ?_
      refine A_iald hC (lM_10 hL) dX11_look_37 ?_
      refine A_iload_n hC dX11_look_38 rfl ?_
      refine A_join (fun (J : Int32 → ADD → Option (Unit × ADD)) => ∀ (x10 : Int32) (D17 : ADD), AT aVv g b 47 [some (.ref (g.1 + 0)), some (.int x1), some (.int x9), none, none] [.int x10, .int x9, .ref (g.1 + 31)] D17 (J x10 D17)) (fun x10 D17 => ?_) (fun j47 hj47 => ?_)
      · refine A_zast hC (lM_31 hL) dX11_look_47 (fun D18 => ?_)
        refine A_aload_n hC dX11_look_48 rfl ?_
        refine A_getr (kf := 43) hC kX11 (lM_0 hL) rfl (by decide) (by decide) rfl rfl w_1046 dX11_look_49 ?_
        refine A_bipush (v := 11) hC dX11_look_52 (by decide) ?_
        refine A_iload_n hC dX11_look_54 rfl ?_
        refine A_imul hC dX11_look_55 ?_
        refine A_iconst (v := 1) hC dX11_look_56 (by decide) ?_
        refine A_iadd hC dX11_look_57 ?_
        refine A_aload_n hC dX11_look_58 rfl ?_
        refine A_getr (kf := 10) hC kX11 (lM_0 hL) rfl (by decide) (by decide) rfl rfl w_1013 dX11_look_59 ?_
        refine A_iconst (v := 3) hC dX11_look_62 (by decide) ?_
        refine A_iload_n hC dX11_look_63 rfl ?_
        refine A_imul hC dX11_look_64 ?_
        refine A_iconst (v := 1) hC dX11_look_65 (by decide) ?_
        refine A_iadd hC dX11_look_66 ?_
        refine A_iald hC (lM_10 hL) dX11_look_67 ?_
        refine A_iast hC (lM_32 hL) dX11_look_68 (fun D19 => ?_)
        refine A_aload_n hC dX11_look_69 rfl ?_
        refine A_getr (kf := 43) hC kX11 (lM_0 hL) rfl (by decide) (by decide) rfl rfl w_1046 dX11_look_70 ?_
        refine A_bipush (v := 11) hC dX11_look_73 (by decide) ?_
        refine A_iload_n hC dX11_look_75 rfl ?_
        refine A_imul hC dX11_look_76 ?_
        refine A_iconst (v := 4) hC dX11_look_77 (by decide) ?_
        refine A_iadd hC dX11_look_78 ?_
        refine A_aload_n hC dX11_look_79 rfl ?_
        refine A_getr (kf := 10) hC kX11 (lM_0 hL) rfl (by decide) (by decide) rfl rfl w_1013 dX11_look_80 ?_
        refine A_iconst (v := 3) hC dX11_look_83 (by decide) ?_
        refine A_iload_n hC dX11_look_84 rfl ?_
        refine A_imul hC dX11_look_85 ?_
        refine A_iconst (v := 2) hC dX11_look_86 (by decide) ?_
        refine A_iadd hC dX11_look_87 ?_
        refine A_iald hC (lM_10 hL) dX11_look_88 ?_
        refine A_iast hC (lM_32 hL) dX11_look_89 (fun D20 => ?_)
        refine A_aload_n hC dX11_look_90 rfl ?_
        refine A_getr (kf := 43) hC kX11 (lM_0 hL) rfl (by decide) (by decide) rfl rfl w_1046 dX11_look_91 ?_
        refine A_bipush (v := 11) hC dX11_look_94 (by decide) ?_
        refine A_iload_n hC dX11_look_96 rfl ?_
        refine A_imul hC dX11_look_97 ?_
        refine A_iconst (v := 2) hC dX11_look_98 (by decide) ?_
        refine A_iadd hC dX11_look_99 ?_
        refine A_iconst (v := 0) hC dX11_look_100 (by decide) ?_
        refine A_iast hC (lM_32 hL) dX11_look_101 (fun D21 => ?_)
        refine A_aload_n hC dX11_look_102 rfl ?_
        refine A_getr (kf := 43) hC kX11 (lM_0 hL) rfl (by decide) (by decide) rfl rfl w_1046 dX11_look_103 ?_
        refine A_bipush (v := 11) hC dX11_look_106 (by decide) ?_
        refine A_iload_n hC dX11_look_108 rfl ?_
        refine A_imul hC dX11_look_109 ?_
        refine A_iconst (v := 3) hC dX11_look_110 (by decide) ?_
        refine A_iadd hC dX11_look_111 ?_
        refine A_iconst (v := 0) hC dX11_look_112 (by decide) ?_
        refine A_iast hC (lM_32 hL) dX11_look_113 (fun D22 => ?_)
        refine A_aload_n hC dX11_look_114 rfl ?_
        refine A_getr (kf := 43) hC kX11 (lM_0 hL) rfl (by decide) (by decide) rfl rfl w_1046 dX11_look_115 ?_
        refine A_bipush (v := 11) hC dX11_look_118 (by decide) ?_
        refine A_iload_n hC dX11_look_120 rfl ?_
        refine A_imul hC dX11_look_121 ?_
        refine A_iconst (v := 5) hC dX11_look_122 (by decide) ?_
        refine A_iadd hC dX11_look_123 ?_
        refine A_sipush (v := -3000) hC dX11_look_124 (by decide) ?_
        refine A_iast hC (lM_32 hL) dX11_look_127 (fun D23 => ?_)
        refine A_aload_n hC dX11_look_128 rfl ?_
        refine A_getr (kf := 43) hC kX11 (lM_0 hL) rfl (by decide) (by decide) rfl rfl w_1046 dX11_look_129 ?_
        refine A_bipush (v := 11) hC dX11_look_132 (by decide) ?_
        refine A_iload_n hC dX11_look_134 rfl ?_
        refine A_imul hC dX11_look_135 ?_
        refine A_bipush (v := 6) hC dX11_look_136 (by decide) ?_
        refine A_iadd hC dX11_look_138 ?_
        refine A_sipush (v := 1900) hC dX11_look_139 (by decide) ?_
        refine A_iast hC (lM_32 hL) dX11_look_142 (fun D24 => ?_)
        refine A_aload_n hC dX11_look_143 rfl ?_
        refine A_getr (kf := 43) hC kX11 (lM_0 hL) rfl (by decide) (by decide) rfl rfl w_1046 dX11_look_144 ?_
        refine A_bipush (v := 11) hC dX11_look_147 (by decide) ?_
        refine A_iload_n hC dX11_look_149 rfl ?_
        refine A_imul hC dX11_look_150 ?_
        refine A_bipush (v := 7) hC dX11_look_151 (by decide) ?_
        refine A_iadd hC dX11_look_153 ?_
        refine A_iconst (v := 0) hC dX11_look_154 (by decide) ?_
        refine A_iast hC (lM_32 hL) dX11_look_155 (fun D25 => ?_)
        refine A_aload_n hC dX11_look_156 rfl ?_
        refine A_getr (kf := 43) hC kX11 (lM_0 hL) rfl (by decide) (by decide) rfl rfl w_1046 dX11_look_157 ?_
        refine A_bipush (v := 11) hC dX11_look_160 (by decide) ?_
        refine A_iload_n hC dX11_look_162 rfl ?_
        refine A_imul hC dX11_look_163 ?_
        refine A_bipush (v := 8) hC dX11_look_164 (by decide) ?_
        refine A_iadd hC dX11_look_166 ?_
        refine A_iconst (v := 0) hC dX11_look_167 (by decide) ?_
        refine A_iast hC (lM_32 hL) dX11_look_168 (fun D26 => ?_)
        refine A_aload_n hC dX11_look_169 rfl ?_
        refine A_getr (kf := 43) hC kX11 (lM_0 hL) rfl (by decide) (by decide) rfl rfl w_1046 dX11_look_170 ?_
        refine A_bipush (v := 11) hC dX11_look_173 (by decide) ?_
        refine A_iload_n hC dX11_look_175 rfl ?_
        refine A_imul hC dX11_look_176 ?_
        refine A_bipush (v := 9) hC dX11_look_177 (by decide) ?_
        refine A_iadd hC dX11_look_179 ?_
        refine A_iconst (v := 1) hC dX11_look_180 (by decide) ?_
        refine A_iast hC (lM_32 hL) dX11_look_181 (fun D27 => ?_)
        refine A_aload_n hC dX11_look_182 rfl ?_
        refine A_getr (kf := 43) hC kX11 (lM_0 hL) rfl (by decide) (by decide) rfl rfl w_1046 dX11_look_183 ?_
        refine A_bipush (v := 11) hC dX11_look_186 (by decide) ?_
        refine A_iload_n hC dX11_look_188 rfl ?_
        refine A_imul hC dX11_look_189 ?_
        refine A_bipush (v := 10) hC dX11_look_190 (by decide) ?_
        refine A_iadd hC dX11_look_192 ?_
        refine A_iconst (v := 0) hC dX11_look_193 (by decide) ?_
        refine A_iast hC (lM_32 hL) dX11_look_194 (fun D28 => ?_)
        refine A_iincL (z := (1 : Int32)) (lv2 := fun x11 => [some (.ref (g.1 + 0)), some (.int x1), some (.int x11), none, none]) hC dX11_look_195 rfl (by decide) (Nat.le_of_ble_eq_true rfl) rfl (fun _ => rfl) (fun x11 => ?_)
        refine A_goto (tgt := 17) hC dX11_look_198 (by decide) ?_
        exact A_to (hL17 x11 D28) (And.intro rfl (And.intro rfl (And.intro rfl (trivial))))
      refine A_icmp_gt (tgt := 46) hC dX11_look_39 (by decide) ?_ ?_
      · refine A_iconst (v := 0) hC dX11_look_46 (by decide) ?_
        exact A_to (hj47 (0 : Int32) D16) (And.intro rfl (And.intro rfl (And.intro rfl (trivial))))
      · refine A_iconst (v := 1) hC dX11_look_42 (by decide) ?_
        refine A_goto (tgt := 47) hC dX11_look_43 (by decide) ?_
        exact A_to (hj47 (1 : Int32) D16) (And.intro rfl (And.intro rfl (And.intro rfl (trivial))))
  exact A_to (hj17 (0 : Int32) D2) (And.intro rfl (And.intro rfl (And.intro rfl (trivial))))
