def fX2_luckyPlaces (a1 : Int32) (a2 : Int32) (D : ADD) : Option (Int32 × ADD) := aNZ (8 : Int32) (some ((aMin a2 ((((2 : Int32) * (a2 / (8 : Int32))) + (1 : Int32)) + a1)), D))
set_option maxHeartbeats 4000000 in
set_option maxRecDepth 100000 in
theorem mX2_luckyPlaces (l : Launch) (g : AGl) (a1 : Int32) (a2 : Int32) (D : ADD) : AM aVi l yX2_luckyPlaces cX2_luckyPlaces 2 (some .int) 1 g [.int a1, .int a2] D (fX2_luckyPlaces a1 a2 D) := by
  refine AM_of (lv0 := [some (.int a1), some (.int a2)]) (own := RX2) (by decide +kernel) rfl (Nat.le_of_ble_eq_true rfl) rfl (fun b hC => ?_)
  unfold fX2_luckyPlaces
  refine A_iload_n hC dX2_luckyPlaces_0 rfl ?_
  refine A_iconst (v := 2) hC dX2_luckyPlaces_1 (by decide) ?_
  refine A_iload_n hC dX2_luckyPlaces_2 rfl ?_
  refine A_bipush (v := 8) hC dX2_luckyPlaces_3 (by decide) ?_
  refine A_idiv hC dX2_luckyPlaces_5 ?_
  refine A_imul hC dX2_luckyPlaces_6 ?_
  refine A_iconst (v := 1) hC dX2_luckyPlaces_7 (by decide) ?_
  refine A_iadd hC dX2_luckyPlaces_8 ?_
  refine A_iload_n hC dX2_luckyPlaces_9 rfl ?_
  refine A_iadd hC dX2_luckyPlaces_10 ?_
  refine A_mmin hC w_632 w_567 w_16 w_568 rfl (by decide) (Nat.le_of_ble_eq_true rfl) dX2_luckyPlaces_11 ?_
  exact A_iret hC dX2_luckyPlaces_14
def fX2_off (a1 : Int32) (a2 : Int32) (a3 : Int32) (a4 : Int32) (D : ADD) : Option (Int32 × ADD) := aBind (fX2_times a1 a2 a3 a4 D) (fun x1 D1 => aLet (x1 * a4) (fun x2 => aLet (fun (x3 : Int32) (D2 : ADD) => some ((aMin a4 x3), D2)) (fun (j32 : Int32 → ADD → Option (Int32 × ADD)) => (if a1 ≤ x2 then j32 (aMax (0 : Int32) (x2 - a2)) D1 else j32 (a1 - x2) D1))))
set_option maxHeartbeats 4000000 in
set_option maxRecDepth 100000 in
theorem mX2_off (l : Launch) (g : AGl) (a1 : Int32) (a2 : Int32) (a3 : Int32) (a4 : Int32) (D : ADD) : AM aVi l yX2_off cX2_off 6 (some .int) 1 g [.int a1, .int a2, .int a3, .int a4] D (fX2_off a1 a2 a3 a4 D) := by
  refine AM_of (lv0 := [some (.int a1), some (.int a2), some (.int a3), some (.int a4), none, none]) (own := RX2) (by decide +kernel) rfl (Nat.le_of_ble_eq_true rfl) rfl (fun b hC => ?_)
  unfold fX2_off
  refine A_iload_n hC dX2_off_0 rfl ?_
  refine A_iload_n hC dX2_off_1 rfl ?_
  refine A_iload_n hC dX2_off_2 rfl ?_
  refine A_iload_n hC dX2_off_3 rfl ?_
  refine A_callSi (As := [.int a1, .int a2, .int a3, .int a4]) (st := []) hC (fun l => mX2_times l g a1 a2 a3 a4 D) yc_X2_18 rfl rfl ⟨by decide, by decide⟩ (Nat.le_of_ble_eq_true rfl) rfl dX2_off_4 (fun x1 D1 => ?_)
  refine A_iload_n hC dX2_off_7 rfl ?_
  refine A_imul hC dX2_off_8 ?_
  refine A_topi (fun x2 => ?_)
  refine A_istore (lv2 := [some (.int a1), some (.int a2), some (.int a3), some (.int a4), some (.int x2), none]) hC dX2_off_9 (Nat.le_of_ble_eq_true rfl) rfl rfl ?_
  refine A_iload hC dX2_off_11 rfl ?_
  refine A_iload_n hC dX2_off_13 rfl ?_
  refine A_join (fun (J : Int32 → ADD → Option (Int32 × ADD)) => ∀ (x3 : Int32) (D2 : ADD), AT aVi g b 32 [none, none, none, some (.int a4), none, none] [.int x3] D2 (J x3 D2)) (fun x3 D2 => ?_) (fun j32 hj32 => ?_)
  · refine A_istore (lv2 := [none, none, none, some (.int a4), none, some (.int x3)]) hC dX2_off_32 (Nat.le_of_ble_eq_true rfl) rfl rfl ?_
    refine A_iload_n hC dX2_off_34 rfl ?_
    refine A_iload hC dX2_off_35 rfl ?_
    refine A_mmin hC w_632 w_567 w_16 w_568 rfl (by decide) (Nat.le_of_ble_eq_true rfl) dX2_off_37 ?_
    exact A_iret hC dX2_off_40
  refine A_icmp_ge (tgt := 24) hC dX2_off_14 (by decide) ?_ ?_
  · refine A_iconst (v := 0) hC dX2_off_24 (by decide) ?_
    refine A_iload hC dX2_off_25 rfl ?_
    refine A_iload_n hC dX2_off_27 rfl ?_
    refine A_isub hC dX2_off_28 ?_
    refine A_mmax hC w_633 w_634 w_16 w_635 rfl (by decide) (Nat.le_of_ble_eq_true rfl) dX2_off_29 ?_
    exact A_to (hj32 (aMax (0 : Int32) (x2 - a2)) D1) (And.intro rfl (trivial))
  · refine A_iload_n hC dX2_off_17 rfl ?_
    refine A_iload hC dX2_off_18 rfl ?_
    refine A_isub hC dX2_off_20 ?_
    refine A_goto (tgt := 32) hC dX2_off_21 (by decide) ?_
    exact A_to (hj32 (a1 - x2) D1) (And.intro rfl (trivial))
def fX2_shortage (a1 : Int32) (a2 : Int32) (a3 : Int32) (D : ADD) : Option (Int32 × ADD) := aLet (fun (x1 : Int32) (D1 : ADD) => aLet (fun (x2 : Int32) (D2 : ADD) => some ((aMax (0 : Int32) ((x2 * a3) - a1)), D2)) (fun (j31 : Int32 → ADD → Option (Int32 × ADD)) => (if a2 ≤ 0 then j31 (aMax (1 : Int32) x1) D1 else j31 a2 D1))) (fun (j17 : Int32 → ADD → Option (Int32 × ADD)) => (if a3 ≤ 0 then j17 (0 : Int32) D else aNZ ((2 : Int32) * a3) (j17 ((((2 : Int32) * a1) + a3) / ((2 : Int32) * a3)) D)))
set_option maxHeartbeats 4000000 in
set_option maxRecDepth 100000 in
theorem mX2_shortage (l : Launch) (g : AGl) (a1 : Int32) (a2 : Int32) (a3 : Int32) (D : ADD) : AM aVi l yX2_shortage cX2_shortage 5 (some .int) 1 g [.int a1, .int a2, .int a3] D (fX2_shortage a1 a2 a3 D) := by
  refine AM_of (lv0 := [some (.int a1), some (.int a2), some (.int a3), none, none]) (own := RX2) (by decide +kernel) rfl (Nat.le_of_ble_eq_true rfl) rfl (fun b hC => ?_)
  unfold fX2_shortage
  refine A_iload_n hC dX2_shortage_0 rfl ?_
  refine A_join (fun (J : Int32 → ADD → Option (Int32 × ADD)) => ∀ (x1 : Int32) (D1 : ADD), AT aVi g b 17 [some (.int a1), some (.int a2), some (.int a3), none, none] [.int x1] D1 (J x1 D1)) (fun x1 D1 => ?_) (fun j17 hj17 => ?_)
  · refine A_istore_n (lv2 := [some (.int a1), some (.int a2), some (.int a3), some (.int x1), none]) hC dX2_shortage_17 (Nat.le_of_ble_eq_true rfl) rfl rfl ?_
    refine A_iload_n hC dX2_shortage_18 rfl ?_
    refine A_join (fun (J : Int32 → ADD → Option (Int32 × ADD)) => ∀ (x2 : Int32) (D2 : ADD), AT aVi g b 31 [some (.int a1), none, some (.int a3), none, none] [.int x2] D2 (J x2 D2)) (fun x2 D2 => ?_) (fun j31 hj31 => ?_)
    · refine A_istore (lv2 := [some (.int a1), none, some (.int a3), none, some (.int x2)]) hC dX2_shortage_31 (Nat.le_of_ble_eq_true rfl) rfl rfl ?_
      refine A_iconst (v := 0) hC dX2_shortage_33 (by decide) ?_
      refine A_iload hC dX2_shortage_34 rfl ?_
      refine A_iload_n hC dX2_shortage_36 rfl ?_
      refine A_imul hC dX2_shortage_37 ?_
      refine A_iload_n hC dX2_shortage_38 rfl ?_
      refine A_isub hC dX2_shortage_39 ?_
      refine A_mmax hC w_633 w_634 w_16 w_635 rfl (by decide) (Nat.le_of_ble_eq_true rfl) dX2_shortage_40 ?_
      exact A_iret hC dX2_shortage_43
    refine A_if_le (tgt := 26) hC dX2_shortage_19 (by decide) ?_ ?_
    · refine A_iconst (v := 1) hC dX2_shortage_26 (by decide) ?_
      refine A_iload_n hC dX2_shortage_27 rfl ?_
      refine A_mmax hC w_633 w_634 w_16 w_635 rfl (by decide) (Nat.le_of_ble_eq_true rfl) dX2_shortage_28 ?_
      exact A_to (hj31 (aMax (1 : Int32) x1) D1) (And.intro rfl (And.intro rfl (trivial)))
    · refine A_iload_n hC dX2_shortage_22 rfl ?_
      refine A_goto (tgt := 31) hC dX2_shortage_23 (by decide) ?_
      exact A_to (hj31 a2 D1) (And.intro rfl (And.intro rfl (trivial)))
  refine A_if_le (tgt := 16) hC dX2_shortage_1 (by decide) ?_ ?_
  · refine A_iconst (v := 0) hC dX2_shortage_16 (by decide) ?_
    exact A_to (hj17 (0 : Int32) D) (And.intro rfl (And.intro rfl (And.intro rfl (trivial))))
  · refine A_iconst (v := 2) hC dX2_shortage_4 (by decide) ?_
    refine A_iload_n hC dX2_shortage_5 rfl ?_
    refine A_imul hC dX2_shortage_6 ?_
    refine A_iload_n hC dX2_shortage_7 rfl ?_
    refine A_iadd hC dX2_shortage_8 ?_
    refine A_iconst (v := 2) hC dX2_shortage_9 (by decide) ?_
    refine A_iload_n hC dX2_shortage_10 rfl ?_
    refine A_imul hC dX2_shortage_11 ?_
    refine A_idiv hC dX2_shortage_12 ?_
    refine A_goto (tgt := 17) hC dX2_shortage_13 (by decide) ?_
    exact A_to (hj17 ((((2 : Int32) * a1) + a3) / ((2 : Int32) * a3)) D) (And.intro rfl (And.intro rfl (And.intro rfl (trivial))))
def fX2_whenNew (a1 : Int32) (a2 : Int32) (D : ADD) : Option (Int32 × ADD) := aLet (aMax (-500 : Int32) (aMin (1000 : Int32) a2)) (fun x1 => aNZ (1000 : Int32) (some ((aMax (1 : Int32) (a1 + ((a1 * x1) / (1000 : Int32)))), D)))
set_option maxHeartbeats 4000000 in
set_option maxRecDepth 100000 in
theorem mX2_whenNew (l : Launch) (g : AGl) (a1 : Int32) (a2 : Int32) (D : ADD) : AM aVi l yX2_whenNew cX2_whenNew 3 (some .int) 1 g [.int a1, .int a2] D (fX2_whenNew a1 a2 D) := by
  refine AM_of (lv0 := [some (.int a1), some (.int a2), none]) (own := RX2) (by decide +kernel) rfl (Nat.le_of_ble_eq_true rfl) rfl (fun b hC => ?_)
  unfold fX2_whenNew
  refine A_sipush (v := -500) hC dX2_whenNew_0 (by decide) ?_
  refine A_sipush (v := 1000) hC dX2_whenNew_3 (by decide) ?_
  refine A_iload_n hC dX2_whenNew_6 rfl ?_
  refine A_mmin hC w_632 w_567 w_16 w_568 rfl (by decide) (Nat.le_of_ble_eq_true rfl) dX2_whenNew_7 ?_
  refine A_mmax hC w_633 w_634 w_16 w_635 rfl (by decide) (Nat.le_of_ble_eq_true rfl) dX2_whenNew_10 ?_
  refine A_topi (fun x1 => ?_)
  refine A_istore_n (lv2 := [some (.int a1), some (.int a2), some (.int x1)]) hC dX2_whenNew_13 (Nat.le_of_ble_eq_true rfl) rfl rfl ?_
  refine A_iconst (v := 1) hC dX2_whenNew_14 (by decide) ?_
  refine A_iload_n hC dX2_whenNew_15 rfl ?_
  refine A_iload_n hC dX2_whenNew_16 rfl ?_
  refine A_iload_n hC dX2_whenNew_17 rfl ?_
  refine A_imul hC dX2_whenNew_18 ?_
  refine A_sipush (v := 1000) hC dX2_whenNew_19 (by decide) ?_
  refine A_idiv hC dX2_whenNew_22 ?_
  refine A_iadd hC dX2_whenNew_23 ?_
  refine A_mmax hC w_633 w_634 w_16 w_635 rfl (by decide) (Nat.le_of_ble_eq_true rfl) dX2_whenNew_24 ?_
  exact A_iret hC dX2_whenNew_27
def lX3_from_9 (j32 : Int64 → ADD → Option (Int32 × ADD)) (L9 : Int64 → Int32 → ADD → Option (Int32 × ADD)) (x3 : Int64) (x4 : Int32) (D2 : ADD) : Option (Int32 × ADD) := (if (32 : Int32) < x4 then j32 x3 D2 else aIn x4 33 (aLet (x3 + (D2.2 56 x4.toNatClampNeg)) (fun x5 => aLet (x4 + (1 : Int32)) (fun x6 => L9 x5 x6 D2))))
def fX3_from (a1 : Int32) (D : ADD) : Option (Int32 × ADD) := aLet (aMax (0 : Int32) a1) (fun x1 => aLet (fun (x2 : Int64) (D1 : ADD) => some (x2.toInt32, D1)) (fun (j32 : Int64 → ADD → Option (Int32 × ADD)) => aLet (aFix aFuel (lX3_from_9 j32) (fun _ _ _ => none)) (fun j9 => j9 (0 : Int64) x1 D)))
set_option maxHeartbeats 4000000 in
set_option maxRecDepth 100000 in
theorem mX3_from (l : Launch) (g : AGl) (hL : aLX g) (a1 : Int32) (D : ADD) : AM aVi l yX3_from cX3_from 5 (some .int) 1 g [.ref (g.1 + 55), .int a1] D (fX3_from a1 D) := by
  refine AM_of (lv0 := [some (.ref (g.1 + 55)), some (.int a1), none, none, none]) (own := RX3) (by decide +kernel) rfl (Nat.le_of_ble_eq_true rfl) rfl (fun b hC => ?_)
  unfold fX3_from
  refine A_lconst (v := 0) hC dX3_from_0 (by decide) ?_
  refine A_lstore_n (lv2 := [some (.ref (g.1 + 55)), some (.int a1), some (.long (0 : Int64)), none, none]) hC dX3_from_1 (Nat.le_of_ble_eq_true rfl) rfl rfl ?_
  refine A_iconst (v := 0) hC dX3_from_2 (by decide) ?_
  refine A_iload_n hC dX3_from_3 rfl ?_
  refine A_mmax hC w_816 w_634 w_16 w_635 rfl (by decide) (Nat.le_of_ble_eq_true rfl) dX3_from_4 ?_
  refine A_topi (fun x1 => ?_)
  refine A_istore (lv2 := [some (.ref (g.1 + 55)), some (.int a1), some (.long (0 : Int64)), none, some (.int x1)]) hC dX3_from_7 (Nat.le_of_ble_eq_true rfl) rfl rfl ?_
  refine A_join (fun (J : Int64 → ADD → Option (Int32 × ADD)) => ∀ (x2 : Int64) (D1 : ADD), AT aVi g b 32 [none, none, some (.long x2), none, none] [] D1 (J x2 D1)) (fun x2 D1 => ?_) (fun j32 hj32 => ?_)
  · refine A_lload_n hC dX3_from_32 rfl ?_
    refine A_l2i hC dX3_from_33 ?_
    exact A_iret hC dX3_from_34
  refine A_join (fun (J : Int64 → Int32 → ADD → Option (Int32 × ADD)) => ∀ (x3 : Int64) (x4 : Int32) (D2 : ADD), AT aVi g b 9 [some (.ref (g.1 + 55)), none, some (.long x3), none, some (.int x4)] [] D2 (J x3 x4 D2)) (aFix_all (fun (J : Int64 → Int32 → ADD → Option (Int32 × ADD)) => ∀ (x3 : Int64) (x4 : Int32) (D2 : ADD), AT aVi g b 9 [some (.ref (g.1 + 55)), none, some (.long x3), none, some (.int x4)] [] D2 (J x3 x4 D2)) (fun _ _ _ => A_none) (fun L9 hL9 x3 x4 D2 => ?_) _) (fun j9 hj9 => ?_)
  · unfold lX3_from_9
    refine A_iload hC dX3_from_9 rfl ?_
    refine A_bipush (v := 32) hC dX3_from_11 (by decide) ?_
    refine A_icmp_gt (tgt := 32) hC dX3_from_13 (by decide) ?_ ?_
    · exact A_to (hj32 x3 D2) (And.intro rfl (trivial))
    · refine A_lload_n hC dX3_from_16 rfl ?_
      refine A_aload_n hC dX3_from_17 rfl ?_
      refine A_getr (kf := 0) hC kX3 (lX_55 hL) rfl (by decide) (by decide) rfl rfl w_300 dX3_from_18 ?_
      refine A_iload hC dX3_from_21 rfl ?_
      refine A_lald hC (lX_56 hL) dX3_from_23 ?_
      refine A_ladd hC dX3_from_24 ?_
      refine A_topl (fun x5 => ?_)
      refine A_lstore_n (lv2 := [some (.ref (g.1 + 55)), none, some (.long x5), none, some (.int x4)]) hC dX3_from_25 (Nat.le_of_ble_eq_true rfl) rfl rfl ?_
      refine A_iincL (z := (1 : Int32)) (lv2 := fun x6 => [some (.ref (g.1 + 55)), none, some (.long x5), none, some (.int x6)]) hC dX3_from_26 rfl (by decide) (Nat.le_of_ble_eq_true rfl) rfl (fun _ => rfl) (fun x6 => ?_)
      refine A_goto (tgt := 9) hC dX3_from_29 (by decide) ?_
      exact A_to (hL9 x5 x6 D2) (And.intro rfl (And.intro rfl (And.intro rfl (trivial))))
  exact A_to (hj9 (0 : Int64) x1 D) (And.intro rfl (And.intro rfl (And.intro rfl (trivial))))
def fX4_listTraits (a1 : Int32) (D : ADD) : Option (Unit × ADD) := aBind (fX0_known a1 (1 : Int32) D) (fun x1 D1 => aIn (0 : Int32) 8 (aLet (aSI D1 49 (0 : Int32).toNatClampNeg x1) (fun D2 => aBind (fX0_known a1 (2 : Int32) D2) (fun x2 D3 => aIn (1 : Int32) 8 (aLet (aSI D3 49 (1 : Int32).toNatClampNeg x2) (fun D4 => aBind (fX0_known a1 (3 : Int32) D4) (fun x3 D5 => aIn (2 : Int32) 8 (aLet (aSI D5 49 (2 : Int32).toNatClampNeg x3) (fun D6 => aBind (fX0_known a1 (4 : Int32) D6) (fun x4 D7 => aIn (3 : Int32) 8 (aLet (aSI D7 49 (3 : Int32).toNatClampNeg x4) (fun D8 => aBind (fX0_known a1 (7 : Int32) D8) (fun x5 D9 => aIn (4 : Int32) 8 (aLet (aSI D9 49 (4 : Int32).toNatClampNeg x5) (fun D10 => aBind (fX0_known a1 (8 : Int32) D10) (fun x6 D11 => aIn (5 : Int32) 8 (aLet (aSI D11 49 (5 : Int32).toNatClampNeg x6) (fun D12 => aBind (fX0_known a1 (6 : Int32) D12) (fun x7 D13 => aIn (6 : Int32) 8 (aLet (aSI D13 49 (6 : Int32).toNatClampNeg ((2000 : Int32) - x7)) (fun D14 => some ((), D14))))))))))))))))))))))
set_option maxHeartbeats 4000000 in
set_option maxRecDepth 100000 in
theorem mX4_listTraits (l : Launch) (g : AGl) (hL : aLX g) (a1 : Int32) (D : ADD) : AM aVv l yX4_listTraits cX4_listTraits 3 none 1 g [.ref (g.1 + 43), .ref (g.1 + 2), .int a1] D (fX4_listTraits a1 D) := by
  refine AM_of (lv0 := [some (.ref (g.1 + 43)), some (.ref (g.1 + 2)), some (.int a1)]) (own := RX4) (by decide +kernel) rfl (Nat.le_of_ble_eq_true rfl) rfl (fun b hC => ?_)
  unfold fX4_listTraits
  refine A_aload_n hC dX4_listTraits_0 rfl ?_
  refine A_getr (kf := 6) hC kX4 (lX_43 hL) rfl (by decide) (by decide) rfl rfl w_250 dX4_listTraits_1 ?_
  refine A_iconst (v := 0) hC dX4_listTraits_4 (by decide) ?_
  refine A_aload_n hC dX4_listTraits_5 rfl ?_
  refine A_iload_n hC dX4_listTraits_6 rfl ?_
  refine A_iconst (v := 1) hC dX4_listTraits_7 (by decide) ?_
  refine A_callVi (As := [.int a1, .int (1 : Int32)]) (st := [.int (0 : Int32), .ref (g.1 + 49)]) hC (fun l => mX0_known l g hL a1 (1 : Int32) D) (lX_2 hL) rfl (Nat.le_of_ble_eq_true rfl) yc_X4_123 rfl rfl ⟨by decide, by decide⟩ (Nat.le_of_ble_eq_true rfl) rfl dX4_listTraits_8 (fun x1 D1 => ?_)
  refine A_iast hC (lX_49 hL) dX4_listTraits_11 (fun D2 => ?_)
  refine A_aload_n hC dX4_listTraits_12 rfl ?_
  refine A_getr (kf := 6) hC kX4 (lX_43 hL) rfl (by decide) (by decide) rfl rfl w_250 dX4_listTraits_13 ?_
  refine A_iconst (v := 1) hC dX4_listTraits_16 (by decide) ?_
  refine A_aload_n hC dX4_listTraits_17 rfl ?_
  refine A_iload_n hC dX4_listTraits_18 rfl ?_
  refine A_iconst (v := 2) hC dX4_listTraits_19 (by decide) ?_
  refine A_callVi (As := [.int a1, .int (2 : Int32)]) (st := [.int (1 : Int32), .ref (g.1 + 49)]) hC (fun l => mX0_known l g hL a1 (2 : Int32) D2) (lX_2 hL) rfl (Nat.le_of_ble_eq_true rfl) yc_X4_123 rfl rfl ⟨by decide, by decide⟩ (Nat.le_of_ble_eq_true rfl) rfl dX4_listTraits_20 (fun x2 D3 => ?_)
  refine A_iast hC (lX_49 hL) dX4_listTraits_23 (fun D4 => ?_)
  refine A_aload_n hC dX4_listTraits_24 rfl ?_
  refine A_getr (kf := 6) hC kX4 (lX_43 hL) rfl (by decide) (by decide) rfl rfl w_250 dX4_listTraits_25 ?_
  refine A_iconst (v := 2) hC dX4_listTraits_28 (by decide) ?_
  refine A_aload_n hC dX4_listTraits_29 rfl ?_
  refine A_iload_n hC dX4_listTraits_30 rfl ?_
  refine A_iconst (v := 3) hC dX4_listTraits_31 (by decide) ?_
  refine A_callVi (As := [.int a1, .int (3 : Int32)]) (st := [.int (2 : Int32), .ref (g.1 + 49)]) hC (fun l => mX0_known l g hL a1 (3 : Int32) D4) (lX_2 hL) rfl (Nat.le_of_ble_eq_true rfl) yc_X4_123 rfl rfl ⟨by decide, by decide⟩ (Nat.le_of_ble_eq_true rfl) rfl dX4_listTraits_32 (fun x3 D5 => ?_)
  refine A_iast hC (lX_49 hL) dX4_listTraits_35 (fun D6 => ?_)
  refine A_aload_n hC dX4_listTraits_36 rfl ?_
  refine A_getr (kf := 6) hC kX4 (lX_43 hL) rfl (by decide) (by decide) rfl rfl w_250 dX4_listTraits_37 ?_
  refine A_iconst (v := 3) hC dX4_listTraits_40 (by decide) ?_
  refine A_aload_n hC dX4_listTraits_41 rfl ?_
  refine A_iload_n hC dX4_listTraits_42 rfl ?_
  refine A_iconst (v := 4) hC dX4_listTraits_43 (by decide) ?_
  refine A_callVi (As := [.int a1, .int (4 : Int32)]) (st := [.int (3 : Int32), .ref (g.1 + 49)]) hC (fun l => mX0_known l g hL a1 (4 : Int32) D6) (lX_2 hL) rfl (Nat.le_of_ble_eq_true rfl) yc_X4_123 rfl rfl ⟨by decide, by decide⟩ (Nat.le_of_ble_eq_true rfl) rfl dX4_listTraits_44 (fun x4 D7 => ?_)
  refine A_iast hC (lX_49 hL) dX4_listTraits_47 (fun D8 => ?_)
  refine A_aload_n hC dX4_listTraits_48 rfl ?_
  refine A_getr (kf := 6) hC kX4 (lX_43 hL) rfl (by decide) (by decide) rfl rfl w_250 dX4_listTraits_49 ?_
  refine A_iconst (v := 4) hC dX4_listTraits_52 (by decide) ?_
  refine A_aload_n hC dX4_listTraits_53 rfl ?_
  refine A_iload_n hC dX4_listTraits_54 rfl ?_
  refine A_bipush (v := 7) hC dX4_listTraits_55 (by decide) ?_
  refine A_callVi (As := [.int a1, .int (7 : Int32)]) (st := [.int (4 : Int32), .ref (g.1 + 49)]) hC (fun l => mX0_known l g hL a1 (7 : Int32) D8) (lX_2 hL) rfl (Nat.le_of_ble_eq_true rfl) yc_X4_123 rfl rfl ⟨by decide, by decide⟩ (Nat.le_of_ble_eq_true rfl) rfl dX4_listTraits_57 (fun x5 D9 => ?_)
  refine A_iast hC (lX_49 hL) dX4_listTraits_60 (fun D10 => ?_)
  refine A_aload_n hC dX4_listTraits_61 rfl ?_
  refine A_getr (kf := 6) hC kX4 (lX_43 hL) rfl (by decide) (by decide) rfl rfl w_250 dX4_listTraits_62 ?_
  refine A_iconst (v := 5) hC dX4_listTraits_65 (by decide) ?_
  refine A_aload_n hC dX4_listTraits_66 rfl ?_
  refine A_iload_n hC dX4_listTraits_67 rfl ?_
  refine A_bipush (v := 8) hC dX4_listTraits_68 (by decide) ?_
  refine A_callVi (As := [.int a1, .int (8 : Int32)]) (st := [.int (5 : Int32), .ref (g.1 + 49)]) hC (fun l => mX0_known l g hL a1 (8 : Int32) D10) (lX_2 hL) rfl (Nat.le_of_ble_eq_true rfl) yc_X4_123 rfl rfl ⟨by decide, by decide⟩ (Nat.le_of_ble_eq_true rfl) rfl dX4_listTraits_70 (fun x6 D11 => ?_)
  refine A_iast hC (lX_49 hL) dX4_listTraits_73 (fun D12 => ?_)
  refine A_aload_n hC dX4_listTraits_74 rfl ?_
  refine A_getr (kf := 6) hC kX4 (lX_43 hL) rfl (by decide) (by decide) rfl rfl w_250 dX4_listTraits_75 ?_
  refine A_bipush (v := 6) hC dX4_listTraits_78 (by decide) ?_
  refine A_sipush (v := 2000) hC dX4_listTraits_80 (by decide) ?_
  refine A_aload_n hC dX4_listTraits_83 rfl ?_
  refine A_iload_n hC dX4_listTraits_84 rfl ?_
  refine A_bipush (v := 6) hC dX4_listTraits_85 (by decide) ?_
  refine A_callVi (As := [.int a1, .int (6 : Int32)]) (st := [.int (2000 : Int32), .int (6 : Int32), .ref (g.1 + 49)]) hC (fun l => mX0_known l g hL a1 (6 : Int32) D12) (lX_2 hL) rfl (Nat.le_of_ble_eq_true rfl) yc_X4_123 rfl rfl ⟨by decide, by decide⟩ (Nat.le_of_ble_eq_true rfl) rfl dX4_listTraits_87 (fun x7 D13 => ?_)
  refine A_isub hC dX4_listTraits_90 ?_
  refine A_iast hC (lX_49 hL) dX4_listTraits_91 (fun D14 => ?_)
  exact A_vret hC dX4_listTraits_92
def fX4_markOf (a1 : Int32) (D : ADD) : Option (Int32 × ADD) := aBind (fX4_has a1 D) (fun x1 D1 => aLet (fun (x2 : Int32) (D2 : ADD) => some (x2, D2)) (fun (j18 : Int32 → ADD → Option (Int32 × ADD)) => (if x1 = 0 then j18 (0 : Int32) D1 else aIn a1 32 (j18 (D1.1 47 a1.toNatClampNeg) D1))))
set_option maxHeartbeats 4000000 in
set_option maxRecDepth 100000 in
theorem mX4_markOf (l : Launch) (g : AGl) (hL : aLX g) (a1 : Int32) (D : ADD) : AM aVi l yX4_markOf cX4_markOf 2 (some .int) 1 g [.ref (g.1 + 43), .int a1] D (fX4_markOf a1 D) := by
  refine AM_of (lv0 := [some (.ref (g.1 + 43)), some (.int a1)]) (own := RX4) (by decide +kernel) rfl (Nat.le_of_ble_eq_true rfl) rfl (fun b hC => ?_)
  unfold fX4_markOf
  refine A_aload_n hC dX4_markOf_0 rfl ?_
  refine A_iload_n hC dX4_markOf_1 rfl ?_
  refine A_callVi (As := [.int a1]) (st := []) hC (fun l => mX4_has l g hL a1 D) (lX_43 hL) rfl (Nat.le_of_ble_eq_true rfl) yc_X4_53 rfl rfl ⟨by decide, by decide⟩ (Nat.le_of_ble_eq_true rfl) rfl dX4_markOf_2 (fun x1 D1 => ?_)
  refine A_join (fun (J : Int32 → ADD → Option (Int32 × ADD)) => ∀ (x2 : Int32) (D2 : ADD), AT aVi g b 18 [none, none] [.int x2] D2 (J x2 D2)) (fun x2 D2 => ?_) (fun j18 hj18 => ?_)
  · exact A_iret hC dX4_markOf_18
  refine A_if_eq (tgt := 17) hC dX4_markOf_5 (by decide) ?_ ?_
  · refine A_iconst (v := 0) hC dX4_markOf_17 (by decide) ?_
    exact A_to (hj18 (0 : Int32) D1) (trivial)
  · refine A_aload_n hC dX4_markOf_8 rfl ?_
    refine A_getr (kf := 4) hC kX4 (lX_43 hL) rfl (by decide) (by decide) rfl rfl w_248 dX4_markOf_9 ?_
    refine A_iload_n hC dX4_markOf_12 rfl ?_
    refine A_iald hC (lX_47 hL) dX4_markOf_13 ?_
    refine A_goto (tgt := 18) hC dX4_markOf_14 (by decide) ?_
    exact A_to (hj18 (D1.1 47 a1.toNatClampNeg) D1) (trivial)
def fX4_numberOf (a1 : Int32) (D : ADD) : Option (Int32 × ADD) := aBind (fX4_has a1 D) (fun x1 D1 => aLet (fun (x2 : Int32) (D2 : ADD) => some (x2, D2)) (fun (j18 : Int32 → ADD → Option (Int32 × ADD)) => (if x1 = 0 then j18 (-1 : Int32) D1 else aIn a1 32 (j18 (D1.1 46 a1.toNatClampNeg) D1))))
set_option maxHeartbeats 4000000 in
set_option maxRecDepth 100000 in
theorem mX4_numberOf (l : Launch) (g : AGl) (hL : aLX g) (a1 : Int32) (D : ADD) : AM aVi l yX4_numberOf cX4_numberOf 2 (some .int) 1 g [.ref (g.1 + 43), .int a1] D (fX4_numberOf a1 D) := by
  refine AM_of (lv0 := [some (.ref (g.1 + 43)), some (.int a1)]) (own := RX4) (by decide +kernel) rfl (Nat.le_of_ble_eq_true rfl) rfl (fun b hC => ?_)
  unfold fX4_numberOf
  refine A_aload_n hC dX4_numberOf_0 rfl ?_
  refine A_iload_n hC dX4_numberOf_1 rfl ?_
  refine A_callVi (As := [.int a1]) (st := []) hC (fun l => mX4_has l g hL a1 D) (lX_43 hL) rfl (Nat.le_of_ble_eq_true rfl) yc_X4_53 rfl rfl ⟨by decide, by decide⟩ (Nat.le_of_ble_eq_true rfl) rfl dX4_numberOf_2 (fun x1 D1 => ?_)
  refine A_join (fun (J : Int32 → ADD → Option (Int32 × ADD)) => ∀ (x2 : Int32) (D2 : ADD), AT aVi g b 18 [none, none] [.int x2] D2 (J x2 D2)) (fun x2 D2 => ?_) (fun j18 hj18 => ?_)
  · exact A_iret hC dX4_numberOf_18
  refine A_if_eq (tgt := 17) hC dX4_numberOf_5 (by decide) ?_ ?_
  · refine A_iconst (v := -1) hC dX4_numberOf_17 (by decide) ?_
    exact A_to (hj18 (-1 : Int32) D1) (trivial)
  · refine A_aload_n hC dX4_numberOf_8 rfl ?_
    refine A_getr (kf := 3) hC kX4 (lX_43 hL) rfl (by decide) (by decide) rfl rfl w_247 dX4_numberOf_9 ?_
    refine A_iload_n hC dX4_numberOf_12 rfl ?_
    refine A_iald hC (lX_46 hL) dX4_numberOf_13 ?_
    refine A_goto (tgt := 18) hC dX4_numberOf_14 (by decide) ?_
    exact A_to (hj18 (D1.1 46 a1.toNatClampNeg) D1) (trivial)
def fX4_timesOf (a1 : Int32) (a2 : Int32) (D : ADD) : Option (Int32 × ADD) := aBind (fX4_has a1 D) (fun x1 D1 => aLet (fun (x2 : Int32) (D2 : ADD) => some (x2, D2)) (fun (j34 : Int32 → ADD → Option (Int32 × ADD)) => (if x1 = 0 then j34 (0 : Int32) D1 else aIn a1 32 (aIn a1 32 (aIn a1 32 (aBind (fX2_times (D1.1 44 a1.toNatClampNeg) (D1.1 45 a1.toNatClampNeg) (D1.1 47 a1.toNatClampNeg) a2 D1) (fun x3 D3 => j34 x3 D3)))))))
set_option maxHeartbeats 4000000 in
set_option maxRecDepth 100000 in
theorem mX4_timesOf (l : Launch) (g : AGl) (hL : aLX g) (a1 : Int32) (a2 : Int32) (D : ADD) : AM aVi l yX4_timesOf cX4_timesOf 3 (some .int) 1 g [.ref (g.1 + 43), .int a1, .int a2] D (fX4_timesOf a1 a2 D) := by
  refine AM_of (lv0 := [some (.ref (g.1 + 43)), some (.int a1), some (.int a2)]) (own := RX4) (by decide +kernel) rfl (Nat.le_of_ble_eq_true rfl) rfl (fun b hC => ?_)
  unfold fX4_timesOf
  refine A_aload_n hC dX4_timesOf_0 rfl ?_
  refine A_iload_n hC dX4_timesOf_1 rfl ?_
  refine A_callVi (As := [.int a1]) (st := []) hC (fun l => mX4_has l g hL a1 D) (lX_43 hL) rfl (Nat.le_of_ble_eq_true rfl) yc_X4_53 rfl rfl ⟨by decide, by decide⟩ (Nat.le_of_ble_eq_true rfl) rfl dX4_timesOf_2 (fun x1 D1 => ?_)
  refine A_join (fun (J : Int32 → ADD → Option (Int32 × ADD)) => ∀ (x2 : Int32) (D2 : ADD), AT aVi g b 34 [none, none, none] [.int x2] D2 (J x2 D2)) (fun x2 D2 => ?_) (fun j34 hj34 => ?_)
  · exact A_iret hC dX4_timesOf_34
  refine A_if_eq (tgt := 33) hC dX4_timesOf_5 (by decide) ?_ ?_
  · refine A_iconst (v := 0) hC dX4_timesOf_33 (by decide) ?_
    exact A_to (hj34 (0 : Int32) D1) (trivial)
  · refine A_aload_n hC dX4_timesOf_8 rfl ?_
    refine A_getr (kf := 1) hC kX4 (lX_43 hL) rfl (by decide) (by decide) rfl rfl w_241 dX4_timesOf_9 ?_
    refine A_iload_n hC dX4_timesOf_12 rfl ?_
    refine A_iald hC (lX_44 hL) dX4_timesOf_13 ?_
    refine A_aload_n hC dX4_timesOf_14 rfl ?_
    refine A_getr (kf := 2) hC kX4 (lX_43 hL) rfl (by decide) (by decide) rfl rfl w_244 dX4_timesOf_15 ?_
    refine A_iload_n hC dX4_timesOf_18 rfl ?_
    refine A_iald hC (lX_45 hL) dX4_timesOf_19 ?_
    refine A_aload_n hC dX4_timesOf_20 rfl ?_
    refine A_getr (kf := 4) hC kX4 (lX_43 hL) rfl (by decide) (by decide) rfl rfl w_248 dX4_timesOf_21 ?_
    refine A_iload_n hC dX4_timesOf_24 rfl ?_
    refine A_iald hC (lX_47 hL) dX4_timesOf_25 ?_
    refine A_iload_n hC dX4_timesOf_26 rfl ?_
    refine A_callSi (As := [.int (D1.1 44 a1.toNatClampNeg), .int (D1.1 45 a1.toNatClampNeg), .int (D1.1 47 a1.toNatClampNeg), .int a2]) (st := []) hC (fun l => mX2_times l g (D1.1 44 a1.toNatClampNeg) (D1.1 45 a1.toNatClampNeg) (D1.1 47 a1.toNatClampNeg) a2 D1) yc_X4_71 rfl rfl ⟨by decide, by decide⟩ (Nat.le_of_ble_eq_true rfl) rfl dX4_timesOf_27 (fun x3 D3 => ?_)
    refine A_goto (tgt := 34) hC dX4_timesOf_30 (by decide) ?_
    exact A_to (hj34 x3 D3) (trivial)
def fX4_townOf (a1 : Int32) (D : ADD) : Option (Int32 × ADD) := aBind (fX4_has a1 D) (fun x1 D1 => aLet (fun (x2 : Int32) (D2 : ADD) => some (x2, D2)) (fun (j18 : Int32 → ADD → Option (Int32 × ADD)) => (if x1 = 0 then j18 (0 : Int32) D1 else aIn a1 32 (j18 (D1.1 48 a1.toNatClampNeg) D1))))
set_option maxHeartbeats 4000000 in
set_option maxRecDepth 100000 in
theorem mX4_townOf (l : Launch) (g : AGl) (hL : aLX g) (a1 : Int32) (D : ADD) : AM aVi l yX4_townOf cX4_townOf 2 (some .int) 1 g [.ref (g.1 + 43), .int a1] D (fX4_townOf a1 D) := by
  refine AM_of (lv0 := [some (.ref (g.1 + 43)), some (.int a1)]) (own := RX4) (by decide +kernel) rfl (Nat.le_of_ble_eq_true rfl) rfl (fun b hC => ?_)
  unfold fX4_townOf
  refine A_aload_n hC dX4_townOf_0 rfl ?_
  refine A_iload_n hC dX4_townOf_1 rfl ?_
  refine A_callVi (As := [.int a1]) (st := []) hC (fun l => mX4_has l g hL a1 D) (lX_43 hL) rfl (Nat.le_of_ble_eq_true rfl) yc_X4_53 rfl rfl ⟨by decide, by decide⟩ (Nat.le_of_ble_eq_true rfl) rfl dX4_townOf_2 (fun x1 D1 => ?_)
  refine A_join (fun (J : Int32 → ADD → Option (Int32 × ADD)) => ∀ (x2 : Int32) (D2 : ADD), AT aVi g b 18 [none, none] [.int x2] D2 (J x2 D2)) (fun x2 D2 => ?_) (fun j18 hj18 => ?_)
  · exact A_iret hC dX4_townOf_18
  refine A_if_eq (tgt := 17) hC dX4_townOf_5 (by decide) ?_ ?_
  · refine A_iconst (v := 0) hC dX4_townOf_17 (by decide) ?_
    exact A_to (hj18 (0 : Int32) D1) (trivial)
  · refine A_aload_n hC dX4_townOf_8 rfl ?_
    refine A_getr (kf := 5) hC kX4 (lX_43 hL) rfl (by decide) (by decide) rfl rfl w_249 dX4_townOf_9 ?_
    refine A_iload_n hC dX4_townOf_12 rfl ?_
    refine A_iald hC (lX_48 hL) dX4_townOf_13 ?_
    refine A_goto (tgt := 18) hC dX4_townOf_14 (by decide) ?_
    exact A_to (hj18 (D1.1 48 a1.toNatClampNeg) D1) (trivial)
def lX5_advance_75 (j115 : ADD → Option (Unit × ADD)) (L75 : ADD → Option (Unit × ADD)) (D9 : ADD) : Option (Unit × ADD) := (if (500 : Int32) ≤ (D9.1 33 7) then j115 D9 else aBind (fX9_byteAt (D9.1 33 7) D9) (fun x3 D10 => aBind (fX5_isLetter x3 D10) (fun x4 D11 => (if x4 = 0 then j115 D11 else aLet (aSI D11 33 7 ((D11.1 33 7) + (1 : Int32))) (fun D12 => L75 D12)))))
def lX5_advance_130 (j170 : ADD → Option (Unit × ADD)) (L130 : ADD → Option (Unit × ADD)) (D17 : ADD) : Option (Unit × ADD) := (if (500 : Int32) ≤ (D17.1 33 7) then j170 D17 else aBind (fX9_byteAt (D17.1 33 7) D17) (fun x7 D18 => aBind (fX5_isDigit x7 D18) (fun x8 D19 => (if x8 = 0 then j170 D19 else aLet (aSI D19 33 7 ((D19.1 33 7) + (1 : Int32))) (fun D20 => L130 D20)))))
def lX5_advance_8 (j48 : ADD → Option (Unit × ADD)) (L8 : ADD → Option (Unit × ADD)) (D26 : ADD) : Option (Unit × ADD) := (if (500 : Int32) ≤ (D26.1 33 6) then j48 D26 else aBind (fX9_byteAt (D26.1 33 6) D26) (fun x11 D27 => aBind (fX5_isBlank x11 D27) (fun x12 D28 => (if x12 = 0 then j48 D28 else aLet (aSI D28 33 6 ((D28.1 33 6) + (1 : Int32))) (fun D29 => L8 D29)))))
def fX5_advance (D : ADD) : Option (Unit × ADD) := aLet (aSI D 33 6 (D.1 33 7)) (fun D1 => aLet (fun (D2 : ADD) => aBind (fX9_byteAt (D2.1 33 6) D2) (fun x1 D3 => aLet (aSI D3 33 7 (D3.1 33 6)) (fun D4 => aBind (fX5_isLetter x1 D4) (fun x2 D5 => aLet (fun (D6 : ADD) => some ((), D6)) (fun (j234 : ADD → Option (Unit × ADD)) => aLet (fun (D7 : ADD) => aLet (aSI D7 33 5 (1 : Int32)) (fun D8 => j234 D8)) (fun (j115 : ADD → Option (Unit × ADD)) => aLet (aFix aFuel (lX5_advance_75 j115) (fun _ => none)) (fun j75 => (if x2 = 0 then aBind (fX5_isDigit x1 D5) (fun x5 D13 => aLet (fun (D14 : ADD) => aLet (fun (x6 : Int32) (D15 : ADD) => aLet (aSI D15 33 5 x6) (fun D16 => j234 D16)) (fun (j189 : Int32 → ADD → Option (Unit × ADD)) => (if (4 : Int32) < ((D14.1 33 7) - (D14.1 33 6)) then j189 (4 : Int32) D14 else j189 (2 : Int32) D14))) (fun (j170 : ADD → Option (Unit × ADD)) => aLet (aFix aFuel (lX5_advance_130 j170) (fun _ => none)) (fun j130 => (if x5 = 0 then (if x1 = (-1 : Int32) then aLet (aSI D13 33 5 (0 : Int32)) (fun D25 => j234 D25) else aLet (aSI D13 33 7 ((D13.1 33 7) + (1 : Int32))) (fun D21 => aBind (fX5_isSignByte x1 D21) (fun x9 D22 => aLet (fun (x10 : Int32) (D23 : ADD) => aLet (aSI D23 33 5 x10) (fun D24 => j234 D24)) (fun (j231 : Int32 → ADD → Option (Unit × ADD)) => (if x9 = 0 then j231 (4 : Int32) D22 else j231 (3 : Int32) D22))))) else j130 D13)))) else j75 D5)))))))) (fun (j48 : ADD → Option (Unit × ADD)) => aLet (aFix aFuel (lX5_advance_8 j48) (fun _ => none)) (fun j8 => j8 D1)))
set_option maxHeartbeats 4000000 in
set_option maxRecDepth 100000 in
theorem mX5_advance (l : Launch) (g : AGl) (hL : aLX g) (D : ADD) : AM aVv l yX5_advance cX5_advance 2 none 1 g [.ref (g.1 + 33)] D (fX5_advance D) := by
  refine AM_of (lv0 := [some (.ref (g.1 + 33)), none]) (own := RX5) (by decide +kernel) rfl (Nat.le_of_ble_eq_true rfl) rfl (fun b hC => ?_)
  unfold fX5_advance
  refine A_aload_n hC dX5_advance_0 rfl ?_
  refine A_aload_n hC dX5_advance_1 rfl ?_
  refine A_geti (kf := 7) hC kX5 (lX_33 hL) rfl (by decide) (by decide) rfl w_213 dX5_advance_2 ?_
  refine A_puti (kf := 6) hC kX5 (lX_33 hL) rfl (by decide) (by decide) rfl rfl rfl w_212 dX5_advance_5 (fun D1 => ?_)
  refine A_join (fun (J : ADD → Option (Unit × ADD)) => ∀ (D2 : ADD), AT aVv g b 48 [some (.ref (g.1 + 33)), none] [] D2 (J D2)) (fun D2 => ?_) (fun j48 hj48 => ?_)
  · refine A_aload_n hC dX5_advance_48 rfl ?_
    refine A_getr (kf := 3) hC kX5 (lX_33 hL) rfl (by decide) (by decide) rfl rfl w_209 dX5_advance_49 ?_
    refine A_aload_n hC dX5_advance_52 rfl ?_
    refine A_geti (kf := 6) hC kX5 (lX_33 hL) rfl (by decide) (by decide) rfl w_212 dX5_advance_53 ?_
    refine A_callVi (As := [.int (D2.1 33 6)]) (st := []) hC (fun l => mX9_byteAt l g hL (D2.1 33 6) D2) (lX_11 hL) rfl (Nat.le_of_ble_eq_true rfl) yc_X5_99 rfl rfl ⟨by decide, by decide⟩ (Nat.le_of_ble_eq_true rfl) rfl dX5_advance_56 (fun x1 D3 => ?_)
    refine A_istore_n (lv2 := [some (.ref (g.1 + 33)), some (.int x1)]) hC dX5_advance_59 (Nat.le_of_ble_eq_true rfl) rfl rfl ?_
    refine A_aload_n hC dX5_advance_60 rfl ?_
    refine A_aload_n hC dX5_advance_61 rfl ?_
    refine A_geti (kf := 6) hC kX5 (lX_33 hL) rfl (by decide) (by decide) rfl w_212 dX5_advance_62 ?_
    refine A_puti (kf := 7) hC kX5 (lX_33 hL) rfl (by decide) (by decide) rfl rfl rfl w_213 dX5_advance_65 (fun D4 => ?_)
    refine A_iload_n hC dX5_advance_68 rfl ?_
    refine A_callSi (As := [.int x1]) (st := []) hC (fun l => mX5_isLetter l g x1 D4) yc_X5_139 rfl rfl ⟨by decide, by decide⟩ (Nat.le_of_ble_eq_true rfl) rfl dX5_advance_69 (fun x2 D5 => ?_)
    refine A_join (fun (J : ADD → Option (Unit × ADD)) => ∀ (D6 : ADD), AT aVv g b 234 [none, none] [] D6 (J D6)) (fun D6 => ?_) (fun j234 hj234 => ?_)
    · exact A_vret hC dX5_advance_234
    refine A_join (fun (J : ADD → Option (Unit × ADD)) => ∀ (D7 : ADD), AT aVv g b 115 [some (.ref (g.1 + 33)), none] [] D7 (J D7)) (fun D7 => ?_) (fun j115 hj115 => ?_)
    · refine A_aload_n hC dX5_advance_115 rfl ?_
      refine A_iconst (v := 1) hC dX5_advance_116 (by decide) ?_
      refine A_puti (kf := 5) hC kX5 (lX_33 hL) rfl (by decide) (by decide) rfl rfl rfl w_211 dX5_advance_117 (fun D8 => ?_)
      refine A_goto (tgt := 234) hC dX5_advance_120 (by decide) ?_
      exact A_to (hj234 D8) (trivial)
    refine A_join (fun (J : ADD → Option (Unit × ADD)) => ∀ (D9 : ADD), AT aVv g b 75 [some (.ref (g.1 + 33)), none] [] D9 (J D9)) (aFix_all (fun (J : ADD → Option (Unit × ADD)) => ∀ (D9 : ADD), AT aVv g b 75 [some (.ref (g.1 + 33)), none] [] D9 (J D9)) (fun _ => A_none) (fun L75 hL75 D9 => ?_) _) (fun j75 hj75 => ?_)
    · unfold lX5_advance_75
      refine A_aload_n hC dX5_advance_75 rfl ?_
      refine A_geti (kf := 7) hC kX5 (lX_33 hL) rfl (by decide) (by decide) rfl w_213 dX5_advance_76 ?_
      refine A_sipush (v := 500) hC dX5_advance_79 (by decide) ?_
      refine A_icmp_ge (tgt := 115) hC dX5_advance_82 (by decide) ?_ ?_
      · exact A_to (hj115 D9) (And.intro rfl (trivial))
      · refine A_aload_n hC dX5_advance_85 rfl ?_
        refine A_getr (kf := 3) hC kX5 (lX_33 hL) rfl (by decide) (by decide) rfl rfl w_209 dX5_advance_86 ?_
        refine A_aload_n hC dX5_advance_89 rfl ?_
        refine A_geti (kf := 7) hC kX5 (lX_33 hL) rfl (by decide) (by decide) rfl w_213 dX5_advance_90 ?_
        refine A_callVi (As := [.int (D9.1 33 7)]) (st := []) hC (fun l => mX9_byteAt l g hL (D9.1 33 7) D9) (lX_11 hL) rfl (Nat.le_of_ble_eq_true rfl) yc_X5_99 rfl rfl ⟨by decide, by decide⟩ (Nat.le_of_ble_eq_true rfl) rfl dX5_advance_93 (fun x3 D10 => ?_)
        refine A_callSi (As := [.int x3]) (st := []) hC (fun l => mX5_isLetter l g x3 D10) yc_X5_139 rfl rfl ⟨by decide, by decide⟩ (Nat.le_of_ble_eq_true rfl) rfl dX5_advance_96 (fun x4 D11 => ?_)
        refine A_if_eq (tgt := 115) hC dX5_advance_99 (by decide) ?_ ?_
        · exact A_to (hj115 D11) (And.intro rfl (trivial))
        · refine A_aload_n hC dX5_advance_102 rfl ?_
          refine A_dup hC dX5_advance_103 rfl ?_
          refine A_geti (kf := 7) hC kX5 (lX_33 hL) rfl (by decide) (by decide) rfl w_213 dX5_advance_104 ?_
          refine A_iconst (v := 1) hC dX5_advance_107 (by decide) ?_
          refine A_iadd hC dX5_advance_108 ?_
          refine A_puti (kf := 7) hC kX5 (lX_33 hL) rfl (by decide) (by decide) rfl rfl rfl w_213 dX5_advance_109 (fun D12 => ?_)
          refine A_goto (tgt := 75) hC dX5_advance_112 (by decide) ?_
          exact A_to (hL75 D12) (And.intro rfl (trivial))
    refine A_if_eq (tgt := 123) hC dX5_advance_72 (by decide) ?_ ?_
    · refine A_iload_n hC dX5_advance_123 rfl ?_
      refine A_callSi (As := [.int x1]) (st := []) hC (fun l => mX5_isDigit l g x1 D5) yc_X5_142 rfl rfl ⟨by decide, by decide⟩ (Nat.le_of_ble_eq_true rfl) rfl dX5_advance_124 (fun x5 D13 => ?_)
      refine A_join (fun (J : ADD → Option (Unit × ADD)) => ∀ (D14 : ADD), AT aVv g b 170 [some (.ref (g.1 + 33)), none] [] D14 (J D14)) (fun D14 => ?_) (fun j170 hj170 => ?_)
      · refine A_aload_n hC dX5_advance_170 rfl ?_
        refine A_aload_n hC dX5_advance_171 rfl ?_
        refine A_geti (kf := 7) hC kX5 (lX_33 hL) rfl (by decide) (by decide) rfl w_213 dX5_advance_172 ?_
        refine A_aload_n hC dX5_advance_175 rfl ?_
        refine A_geti (kf := 6) hC kX5 (lX_33 hL) rfl (by decide) (by decide) rfl w_212 dX5_advance_176 ?_
        refine A_isub hC dX5_advance_179 ?_
        refine A_iconst (v := 4) hC dX5_advance_180 (by decide) ?_
        refine A_join (fun (J : Int32 → ADD → Option (Unit × ADD)) => ∀ (x6 : Int32) (D15 : ADD), AT aVv g b 189 [none, none] [.int x6, .ref (g.1 + 33)] D15 (J x6 D15)) (fun x6 D15 => ?_) (fun j189 hj189 => ?_)
        · refine A_puti (kf := 5) hC kX5 (lX_33 hL) rfl (by decide) (by decide) rfl rfl rfl w_211 dX5_advance_189 (fun D16 => ?_)
          refine A_goto (tgt := 234) hC dX5_advance_192 (by decide) ?_
          exact A_to (hj234 D16) (trivial)
        refine A_icmp_gt (tgt := 188) hC dX5_advance_181 (by decide) ?_ ?_
        · refine A_iconst (v := 4) hC dX5_advance_188 (by decide) ?_
          exact A_to (hj189 (4 : Int32) D14) (trivial)
        · refine A_iconst (v := 2) hC dX5_advance_184 (by decide) ?_
          refine A_goto (tgt := 189) hC dX5_advance_185 (by decide) ?_
          exact A_to (hj189 (2 : Int32) D14) (trivial)
      refine A_join (fun (J : ADD → Option (Unit × ADD)) => ∀ (D17 : ADD), AT aVv g b 130 [some (.ref (g.1 + 33)), none] [] D17 (J D17)) (aFix_all (fun (J : ADD → Option (Unit × ADD)) => ∀ (D17 : ADD), AT aVv g b 130 [some (.ref (g.1 + 33)), none] [] D17 (J D17)) (fun _ => A_none) (fun L130 hL130 D17 => ?_) _) (fun j130 hj130 => ?_)
      · unfold lX5_advance_130
        refine A_aload_n hC dX5_advance_130 rfl ?_
        refine A_geti (kf := 7) hC kX5 (lX_33 hL) rfl (by decide) (by decide) rfl w_213 dX5_advance_131 ?_
        refine A_sipush (v := 500) hC dX5_advance_134 (by decide) ?_
        refine A_icmp_ge (tgt := 170) hC dX5_advance_137 (by decide) ?_ ?_
        · exact A_to (hj170 D17) (And.intro rfl (trivial))
        · refine A_aload_n hC dX5_advance_140 rfl ?_
          refine A_getr (kf := 3) hC kX5 (lX_33 hL) rfl (by decide) (by decide) rfl rfl w_209 dX5_advance_141 ?_
          refine A_aload_n hC dX5_advance_144 rfl ?_
          refine A_geti (kf := 7) hC kX5 (lX_33 hL) rfl (by decide) (by decide) rfl w_213 dX5_advance_145 ?_
          refine A_callVi (As := [.int (D17.1 33 7)]) (st := []) hC (fun l => mX9_byteAt l g hL (D17.1 33 7) D17) (lX_11 hL) rfl (Nat.le_of_ble_eq_true rfl) yc_X5_99 rfl rfl ⟨by decide, by decide⟩ (Nat.le_of_ble_eq_true rfl) rfl dX5_advance_148 (fun x7 D18 => ?_)
          refine A_callSi (As := [.int x7]) (st := []) hC (fun l => mX5_isDigit l g x7 D18) yc_X5_142 rfl rfl ⟨by decide, by decide⟩ (Nat.le_of_ble_eq_true rfl) rfl dX5_advance_151 (fun x8 D19 => ?_)
          refine A_if_eq (tgt := 170) hC dX5_advance_154 (by decide) ?_ ?_
          · exact A_to (hj170 D19) (And.intro rfl (trivial))
          · refine A_aload_n hC dX5_advance_157 rfl ?_
            refine A_dup hC dX5_advance_158 rfl ?_
            refine A_geti (kf := 7) hC kX5 (lX_33 hL) rfl (by decide) (by decide) rfl w_213 dX5_advance_159 ?_
            refine A_iconst (v := 1) hC dX5_advance_162 (by decide) ?_
            refine A_iadd hC dX5_advance_163 ?_
            refine A_puti (kf := 7) hC kX5 (lX_33 hL) rfl (by decide) (by decide) rfl rfl rfl w_213 dX5_advance_164 (fun D20 => ?_)
            refine A_goto (tgt := 130) hC dX5_advance_167 (by decide) ?_
            exact A_to (hL130 D20) (And.intro rfl (trivial))
      refine A_if_eq (tgt := 195) hC dX5_advance_127 (by decide) ?_ ?_
      · refine A_iload_n hC dX5_advance_195 rfl ?_
        refine A_iconst (v := -1) hC dX5_advance_196 (by decide) ?_
        refine A_icmp_ne (tgt := 208) hC dX5_advance_197 (by decide) ?_ ?_
        · refine A_aload_n hC dX5_advance_208 rfl ?_
          refine A_dup hC dX5_advance_209 rfl ?_
          refine A_geti (kf := 7) hC kX5 (lX_33 hL) rfl (by decide) (by decide) rfl w_213 dX5_advance_210 ?_
          refine A_iconst (v := 1) hC dX5_advance_213 (by decide) ?_
          refine A_iadd hC dX5_advance_214 ?_
          refine A_puti (kf := 7) hC kX5 (lX_33 hL) rfl (by decide) (by decide) rfl rfl rfl w_213 dX5_advance_215 (fun D21 => ?_)
          refine A_aload_n hC dX5_advance_218 rfl ?_
          refine A_iload_n hC dX5_advance_219 rfl ?_
          refine A_callSi (As := [.int x1]) (st := [.ref (g.1 + 33)]) hC (fun l => mX5_isSignByte l g x1 D21) yc_X5_145 rfl rfl ⟨by decide, by decide⟩ (Nat.le_of_ble_eq_true rfl) rfl dX5_advance_220 (fun x9 D22 => ?_)
          refine A_join (fun (J : Int32 → ADD → Option (Unit × ADD)) => ∀ (x10 : Int32) (D23 : ADD), AT aVv g b 231 [none, none] [.int x10, .ref (g.1 + 33)] D23 (J x10 D23)) (fun x10 D23 => ?_) (fun j231 hj231 => ?_)
          · refine A_puti (kf := 5) hC kX5 (lX_33 hL) rfl (by decide) (by decide) rfl rfl rfl w_211 dX5_advance_231 (fun D24 => ?_)
            exact A_to (hj234 D24) (trivial)
          refine A_if_eq (tgt := 230) hC dX5_advance_223 (by decide) ?_ ?_
          · refine A_iconst (v := 4) hC dX5_advance_230 (by decide) ?_
            exact A_to (hj231 (4 : Int32) D22) (trivial)
          · refine A_iconst (v := 3) hC dX5_advance_226 (by decide) ?_
            refine A_goto (tgt := 231) hC dX5_advance_227 (by decide) ?_
            exact A_to (hj231 (3 : Int32) D22) (trivial)
        · refine A_aload_n hC dX5_advance_200 rfl ?_
          refine A_iconst (v := 0) hC dX5_advance_201 (by decide) ?_
          refine A_puti (kf := 5) hC kX5 (lX_33 hL) rfl (by decide) (by decide) rfl rfl rfl w_211 dX5_advance_202 (fun D25 => ?_)
          refine A_goto (tgt := 234) hC dX5_advance_205 (by decide) ?_
          exact A_to (hj234 D25) (trivial)
      · exact A_to (hj130 D13) (And.intro rfl (trivial))
    · exact A_to (hj75 D5) (And.intro rfl (trivial))
  refine A_join (fun (J : ADD → Option (Unit × ADD)) => ∀ (D26 : ADD), AT aVv g b 8 [some (.ref (g.1 + 33)), none] [] D26 (J D26)) (aFix_all (fun (J : ADD → Option (Unit × ADD)) => ∀ (D26 : ADD), AT aVv g b 8 [some (.ref (g.1 + 33)), none] [] D26 (J D26)) (fun _ => A_none) (fun L8 hL8 D26 => ?_) _) (fun j8 hj8 => ?_)
  · unfold lX5_advance_8
    refine A_aload_n hC dX5_advance_8 rfl ?_
    refine A_geti (kf := 6) hC kX5 (lX_33 hL) rfl (by decide) (by decide) rfl w_212 dX5_advance_9 ?_
    refine A_sipush (v := 500) hC dX5_advance_12 (by decide) ?_
    refine A_icmp_ge (tgt := 48) hC dX5_advance_15 (by decide) ?_ ?_
    · exact A_to (hj48 D26) (And.intro rfl (trivial))
    · refine A_aload_n hC dX5_advance_18 rfl ?_
      refine A_getr (kf := 3) hC kX5 (lX_33 hL) rfl (by decide) (by decide) rfl rfl w_209 dX5_advance_19 ?_
      refine A_aload_n hC dX5_advance_22 rfl ?_
      refine A_geti (kf := 6) hC kX5 (lX_33 hL) rfl (by decide) (by decide) rfl w_212 dX5_advance_23 ?_
      refine A_callVi (As := [.int (D26.1 33 6)]) (st := []) hC (fun l => mX9_byteAt l g hL (D26.1 33 6) D26) (lX_11 hL) rfl (Nat.le_of_ble_eq_true rfl) yc_X5_99 rfl rfl ⟨by decide, by decide⟩ (Nat.le_of_ble_eq_true rfl) rfl dX5_advance_26 (fun x11 D27 => ?_)
      refine A_callSi (As := [.int x11]) (st := []) hC (fun l => mX5_isBlank l g x11 D27) yc_X5_136 rfl rfl ⟨by decide, by decide⟩ (Nat.le_of_ble_eq_true rfl) rfl dX5_advance_29 (fun x12 D28 => ?_)
      refine A_if_eq (tgt := 48) hC dX5_advance_32 (by decide) ?_ ?_
      · exact A_to (hj48 D28) (And.intro rfl (trivial))
      · refine A_aload_n hC dX5_advance_35 rfl ?_
        refine A_dup hC dX5_advance_36 rfl ?_
        refine A_geti (kf := 6) hC kX5 (lX_33 hL) rfl (by decide) (by decide) rfl w_212 dX5_advance_37 ?_
        refine A_iconst (v := 1) hC dX5_advance_40 (by decide) ?_
        refine A_iadd hC dX5_advance_41 ?_
        refine A_puti (kf := 6) hC kX5 (lX_33 hL) rfl (by decide) (by decide) rfl rfl rfl w_212 dX5_advance_42 (fun D29 => ?_)
        refine A_goto (tgt := 8) hC dX5_advance_45 (by decide) ?_
        exact A_to (hL8 D29) (And.intro rfl (trivial))
  exact A_to (hj8 D1) (And.intro rfl (trivial))
def fX5_isSign (a1 : Int32) (D : ADD) : Option (Int32 × ADD) := aLet (fun (x1 : Int32) (D1 : ADD) => aZ x1 (some (x1, D1))) (fun (j28 : Int32 → ADD → Option (Int32 × ADD)) => aLet (fun (D2 : ADD) => j28 (0 : Int32) D2) (fun (j27 : ADD → Option (Int32 × ADD)) => (if (D.1 33 5) = (3 : Int32) then aBind (fX9_byteAt (D.1 33 6) D) (fun x2 D3 => (if x2 = a1 then j28 (1 : Int32) D3 else j27 D3)) else j27 D)))
set_option maxHeartbeats 4000000 in
set_option maxRecDepth 100000 in
theorem mX5_isSign (l : Launch) (g : AGl) (hL : aLX g) (a1 : Int32) (D : ADD) : AM aVi l yX5_isSign cX5_isSign 2 (some .boolean) 1 g [.ref (g.1 + 33), .int a1] D (fX5_isSign a1 D) := by
  refine AM_of (lv0 := [some (.ref (g.1 + 33)), some (.int a1)]) (own := RX5) (by decide +kernel) rfl (Nat.le_of_ble_eq_true rfl) rfl (fun b hC => ?_)
  unfold fX5_isSign
  refine A_aload_n hC dX5_isSign_0 rfl ?_
  refine A_geti (kf := 5) hC kX5 (lX_33 hL) rfl (by decide) (by decide) rfl w_211 dX5_isSign_1 ?_
  refine A_iconst (v := 3) hC dX5_isSign_4 (by decide) ?_
  refine A_join (fun (J : Int32 → ADD → Option (Int32 × ADD)) => ∀ (x1 : Int32) (D1 : ADD), AT aVi g b 28 [none, none] [.int x1] D1 (J x1 D1)) (fun x1 D1 => ?_) (fun j28 hj28 => ?_)
  · exact A_zretc hC dX5_isSign_28
  refine A_join (fun (J : ADD → Option (Int32 × ADD)) => ∀ (D2 : ADD), AT aVi g b 27 [none, none] [] D2 (J D2)) (fun D2 => ?_) (fun j27 hj27 => ?_)
  · refine A_iconst (v := 0) hC dX5_isSign_27 (by decide) ?_
    exact A_to (hj28 (0 : Int32) D2) (trivial)
  refine A_icmp_ne (tgt := 27) hC dX5_isSign_5 (by decide) ?_ ?_
  · exact A_to (hj27 D) (trivial)
  · refine A_aload_n hC dX5_isSign_8 rfl ?_
    refine A_getr (kf := 3) hC kX5 (lX_33 hL) rfl (by decide) (by decide) rfl rfl w_209 dX5_isSign_9 ?_
    refine A_aload_n hC dX5_isSign_12 rfl ?_
    refine A_geti (kf := 6) hC kX5 (lX_33 hL) rfl (by decide) (by decide) rfl w_212 dX5_isSign_13 ?_
    refine A_callVi (As := [.int (D.1 33 6)]) (st := []) hC (fun l => mX9_byteAt l g hL (D.1 33 6) D) (lX_11 hL) rfl (Nat.le_of_ble_eq_true rfl) yc_X5_99 rfl rfl ⟨by decide, by decide⟩ (Nat.le_of_ble_eq_true rfl) rfl dX5_isSign_16 (fun x2 D3 => ?_)
    refine A_iload_n hC dX5_isSign_19 rfl ?_
    refine A_icmp_ne (tgt := 27) hC dX5_isSign_20 (by decide) ?_ ?_
    · exact A_to (hj27 D3) (trivial)
    · refine A_iconst (v := 1) hC dX5_isSign_23 (by decide) ?_
      refine A_goto (tgt := 28) hC dX5_isSign_24 (by decide) ?_
      exact A_to (hj28 (1 : Int32) D3) (trivial)
def lX5_number_7 (j38 : Int32 → ADD → Option (Int32 × ADD)) (L7 : Int32 → Int32 → ADD → Option (Int32 × ADD)) (x3 : Int32) (x4 : Int32) (D2 : ADD) : Option (Int32 × ADD) := (if (D2.1 33 7) ≤ x4 then j38 x3 D2 else aBind (fX9_byteAt x4 D2) (fun x5 D3 => aLet (((x3 * (10 : Int32)) + x5) - (48 : Int32)) (fun x6 => aLet (x4 + (1 : Int32)) (fun x7 => L7 x6 x7 D3))))
def fX5_number (D : ADD) : Option (Int32 × ADD) := aLet (D.1 33 6) (fun x1 => aLet (fun (x2 : Int32) (D1 : ADD) => some (x2, D1)) (fun (j38 : Int32 → ADD → Option (Int32 × ADD)) => aLet (aFix aFuel (lX5_number_7 j38) (fun _ _ _ => none)) (fun j7 => j7 (0 : Int32) x1 D)))
set_option maxHeartbeats 4000000 in
set_option maxRecDepth 100000 in
theorem mX5_number (l : Launch) (g : AGl) (hL : aLX g) (D : ADD) : AM aVi l yX5_number cX5_number 3 (some .int) 1 g [.ref (g.1 + 33)] D (fX5_number D) := by
  refine AM_of (lv0 := [some (.ref (g.1 + 33)), none, none]) (own := RX5) (by decide +kernel) rfl (Nat.le_of_ble_eq_true rfl) rfl (fun b hC => ?_)
  unfold fX5_number
  refine A_iconst (v := 0) hC dX5_number_0 (by decide) ?_
  refine A_istore_n (lv2 := [some (.ref (g.1 + 33)), some (.int (0 : Int32)), none]) hC dX5_number_1 (Nat.le_of_ble_eq_true rfl) rfl rfl ?_
  refine A_aload_n hC dX5_number_2 rfl ?_
  refine A_geti (kf := 6) hC kX5 (lX_33 hL) rfl (by decide) (by decide) rfl w_212 dX5_number_3 ?_
  refine A_topi (fun x1 => ?_)
  refine A_istore_n (lv2 := [some (.ref (g.1 + 33)), some (.int (0 : Int32)), some (.int x1)]) hC dX5_number_6 (Nat.le_of_ble_eq_true rfl) rfl rfl ?_
  refine A_join (fun (J : Int32 → ADD → Option (Int32 × ADD)) => ∀ (x2 : Int32) (D1 : ADD), AT aVi g b 38 [none, some (.int x2), none] [] D1 (J x2 D1)) (fun x2 D1 => ?_) (fun j38 hj38 => ?_)
  · refine A_iload_n hC dX5_number_38 rfl ?_
    exact A_iret hC dX5_number_39
  refine A_join (fun (J : Int32 → Int32 → ADD → Option (Int32 × ADD)) => ∀ (x3 : Int32) (x4 : Int32) (D2 : ADD), AT aVi g b 7 [some (.ref (g.1 + 33)), some (.int x3), some (.int x4)] [] D2 (J x3 x4 D2)) (aFix_all (fun (J : Int32 → Int32 → ADD → Option (Int32 × ADD)) => ∀ (x3 : Int32) (x4 : Int32) (D2 : ADD), AT aVi g b 7 [some (.ref (g.1 + 33)), some (.int x3), some (.int x4)] [] D2 (J x3 x4 D2)) (fun _ _ _ => A_none) (fun L7 hL7 x3 x4 D2 => ?_) _) (fun j7 hj7 => ?_)
  · unfold lX5_number_7
    refine A_iload_n hC dX5_number_7 rfl ?_
    refine A_aload_n hC dX5_number_8 rfl ?_
    refine A_geti (kf := 7) hC kX5 (lX_33 hL) rfl (by decide) (by decide) rfl w_213 dX5_number_9 ?_
    refine A_icmp_ge (tgt := 38) hC dX5_number_12 (by decide) ?_ ?_
    · exact A_to (hj38 x3 D2) (And.intro rfl (trivial))
    · refine A_iload_n hC dX5_number_15 rfl ?_
      refine A_bipush (v := 10) hC dX5_number_16 (by decide) ?_
      refine A_imul hC dX5_number_18 ?_
      refine A_aload_n hC dX5_number_19 rfl ?_
      refine A_getr (kf := 3) hC kX5 (lX_33 hL) rfl (by decide) (by decide) rfl rfl w_209 dX5_number_20 ?_
      refine A_iload_n hC dX5_number_23 rfl ?_
      refine A_callVi (As := [.int x4]) (st := [.int (x3 * (10 : Int32))]) hC (fun l => mX9_byteAt l g hL x4 D2) (lX_11 hL) rfl (Nat.le_of_ble_eq_true rfl) yc_X5_99 rfl rfl ⟨by decide, by decide⟩ (Nat.le_of_ble_eq_true rfl) rfl dX5_number_24 (fun x5 D3 => ?_)
      refine A_iadd hC dX5_number_27 ?_
      refine A_bipush (v := 48) hC dX5_number_28 (by decide) ?_
      refine A_isub hC dX5_number_30 ?_
      refine A_topi (fun x6 => ?_)
      refine A_istore_n (lv2 := [some (.ref (g.1 + 33)), some (.int x6), some (.int x4)]) hC dX5_number_31 (Nat.le_of_ble_eq_true rfl) rfl rfl ?_
      refine A_iincL (z := (1 : Int32)) (lv2 := fun x7 => [some (.ref (g.1 + 33)), some (.int x6), some (.int x7)]) hC dX5_number_32 rfl (by decide) (Nat.le_of_ble_eq_true rfl) rfl (fun _ => rfl) (fun x7 => ?_)
      refine A_goto (tgt := 7) hC dX5_number_35 (by decide) ?_
      exact A_to (hL7 x6 x7 D3) (And.intro rfl (And.intro rfl (And.intro rfl (trivial))))
  exact A_to (hj7 (0 : Int32) x1 D) (And.intro rfl (And.intro rfl (And.intro rfl (trivial))))
def fX6_addTest (o : Nat) (a1 : Int32) (a2 : Int32) (a3 : Int32) (a4 : Int32) (a5 : Int32) (D : ADD) : Option (Unit × ADD) := aBind (fX6_hasLine a1 D) (fun x1 D1 => aLet (fun (D2 : ADD) => some ((), D2)) (fun (j17 : ADD → Option (Unit × ADD)) => (if x1 = 0 then j17 D1 else aIn a1 16 ((if (D1.1 (o + 4) a1.toNatClampNeg) < (4 : Int32) then aIn a1 16 (aLet ((a1 * (4 : Int32)) + (D1.1 (o + 4) a1.toNatClampNeg)) (fun x2 => aIn x2 64 (aLet (aSI D1 (o + 8) x2.toNatClampNeg a2) (fun D3 => aIn x2 64 (aLet (aSI D3 (o + 5) x2.toNatClampNeg a3) (fun D4 => aIn x2 64 (aLet (aSI D4 (o + 6) x2.toNatClampNeg a4) (fun D5 => aIn x2 64 (aLet (aSI D5 (o + 7) x2.toNatClampNeg a5) (fun D6 => aIn a1 16 (aIn a1 16 (aLet (aSI D6 (o + 4) a1.toNatClampNeg ((D6.1 (o + 4) a1.toNatClampNeg) + (1 : Int32))) (fun D7 => some ((), D7)))))))))))))) else j17 D1)))))
set_option maxHeartbeats 4000000 in
set_option maxRecDepth 100000 in
theorem mX6_addTest (l : Launch) (g : AGl) (o : Nat) (hO : aLR g o) (a1 : Int32) (a2 : Int32) (a3 : Int32) (a4 : Int32) (a5 : Int32) (D : ADD) : AM aVv l yX6_addTest cX6_addTest 7 none 1 g [.ref (g.1 + o), .int a1, .int a2, .int a3, .int a4, .int a5] D (fX6_addTest o a1 a2 a3 a4 a5 D) := by
  refine AM_of (lv0 := [some (.ref (g.1 + o)), some (.int a1), some (.int a2), some (.int a3), some (.int a4), some (.int a5), none]) (own := RX6) (by decide +kernel) rfl (Nat.le_of_ble_eq_true rfl) rfl (fun b hC => ?_)
  unfold fX6_addTest
  refine A_iload_n hC dX6_addTest_0 rfl ?_
  refine A_callSi (As := [.int a1]) (st := []) hC (fun l => mX6_hasLine l g a1 D) yc_X6_41 rfl rfl ⟨by decide, by decide⟩ (Nat.le_of_ble_eq_true rfl) rfl dX6_addTest_1 (fun x1 D1 => ?_)
  refine A_join (fun (J : ADD → Option (Unit × ADD)) => ∀ (D2 : ADD), AT aVv g b 17 [none, none, none, none, none, none, none] [] D2 (J D2)) (fun D2 => ?_) (fun j17 hj17 => ?_)
  · exact A_vret hC dX6_addTest_17
  refine A_if_eq (tgt := 17) hC dX6_addTest_4 (by decide) ?_ ?_
  · exact A_to (hj17 D1) (trivial)
  · refine A_aload_n hC dX6_addTest_7 rfl ?_
    refine A_getr (kf := 4) hC kX6 hO.1 rfl (by decide) (by decide) rfl rfl w_115 dX6_addTest_8 ?_
    refine A_iload_n hC dX6_addTest_11 rfl ?_
    refine A_iald hC hO.2.2.2.2.1 dX6_addTest_12 ?_
    refine A_iconst (v := 4) hC dX6_addTest_13 (by decide) ?_
    refine A_icmp_lt (tgt := 18) hC dX6_addTest_14 (by decide) ?_ ?_
    · refine A_iload_n hC dX6_addTest_18 rfl ?_
      refine A_iconst (v := 4) hC dX6_addTest_19 (by decide) ?_
      refine A_imul hC dX6_addTest_20 ?_
      refine A_aload_n hC dX6_addTest_21 rfl ?_
      refine A_getr (kf := 4) hC kX6 hO.1 rfl (by decide) (by decide) rfl rfl w_115 dX6_addTest_22 ?_
      refine A_iload_n hC dX6_addTest_25 rfl ?_
      refine A_iald hC hO.2.2.2.2.1 dX6_addTest_26 ?_
      refine A_iadd hC dX6_addTest_27 ?_
      refine A_topi (fun x2 => ?_)
      refine A_istore (lv2 := [some (.ref (g.1 + o)), some (.int a1), some (.int a2), some (.int a3), some (.int a4), some (.int a5), some (.int x2)]) hC dX6_addTest_28 (Nat.le_of_ble_eq_true rfl) rfl rfl ?_
      refine A_aload_n hC dX6_addTest_30 rfl ?_
      refine A_getr (kf := 8) hC kX6 hO.1 rfl (by decide) (by decide) rfl rfl w_119 dX6_addTest_31 ?_
      refine A_iload hC dX6_addTest_34 rfl ?_
      refine A_iload_n hC dX6_addTest_36 rfl ?_
      refine A_zast hC hO.2.2.2.2.2.2.2.2 dX6_addTest_37 (fun D3 => ?_)
      refine A_aload_n hC dX6_addTest_38 rfl ?_
      refine A_getr (kf := 5) hC kX6 hO.1 rfl (by decide) (by decide) rfl rfl w_116 dX6_addTest_39 ?_
      refine A_iload hC dX6_addTest_42 rfl ?_
      refine A_iload_n hC dX6_addTest_44 rfl ?_
      refine A_iast hC hO.2.2.2.2.2.1 dX6_addTest_45 (fun D4 => ?_)
      refine A_aload_n hC dX6_addTest_46 rfl ?_
      refine A_getr (kf := 6) hC kX6 hO.1 rfl (by decide) (by decide) rfl rfl w_117 dX6_addTest_47 ?_
      refine A_iload hC dX6_addTest_50 rfl ?_
      refine A_iload hC dX6_addTest_52 rfl ?_
      refine A_iast hC hO.2.2.2.2.2.2.1 dX6_addTest_54 (fun D5 => ?_)
      refine A_aload_n hC dX6_addTest_55 rfl ?_
      refine A_getr (kf := 7) hC kX6 hO.1 rfl (by decide) (by decide) rfl rfl w_118 dX6_addTest_56 ?_
      refine A_iload hC dX6_addTest_59 rfl ?_
      refine A_iload hC dX6_addTest_61 rfl ?_
      refine A_iast hC hO.2.2.2.2.2.2.2.1 dX6_addTest_63 (fun D6 => ?_)
      refine A_aload_n hC dX6_addTest_64 rfl ?_
      refine A_getr (kf := 4) hC kX6 hO.1 rfl (by decide) (by decide) rfl rfl w_115 dX6_addTest_65 ?_
      refine A_iload_n hC dX6_addTest_68 rfl ?_
      refine A_dup2 hC dX6_addTest_69 rfl rfl ?_
      refine A_iald hC hO.2.2.2.2.1 dX6_addTest_70 ?_
      refine A_iconst (v := 1) hC dX6_addTest_71 (by decide) ?_
      refine A_iadd hC dX6_addTest_72 ?_
      refine A_iast hC hO.2.2.2.2.1 dX6_addTest_73 (fun D7 => ?_)
      exact A_vret hC dX6_addTest_74
    · exact A_to (hj17 D1) (trivial)
