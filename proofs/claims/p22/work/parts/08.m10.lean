def fX7_isBetter (a1 : Int32) (a2 : Int32) (D : ADD) : Option (Int32 × ADD) := aBind (fX7_compare a1 a2 D) (fun x1 D1 => aLet (fun (x2 : Int32) (D2 : ADD) => aZ x2 (some (x2, D2))) (fun (j25 : Int32 → ADD → Option (Int32 × ADD)) => aLet (fun (D3 : ADD) => j25 (1 : Int32) D3) (fun (j20 : ADD → Option (Int32 × ADD)) => (if 0 < x1 then j20 D1 else aLet (fun (D4 : ADD) => j25 (0 : Int32) D4) (fun (j24 : ADD → Option (Int32 × ADD)) => (if x1 = 0 then (if a1 ≤ a2 then j24 D1 else j20 D1) else j24 D1))))))
set_option maxHeartbeats 4000000 in
set_option maxRecDepth 100000 in
theorem mX7_isBetter (l : Launch) (g : AGl) (hL : aLX g) (a1 : Int32) (a2 : Int32) (D : ADD) : AM aVi l yX7_isBetter cX7_isBetter 4 (some .boolean) 2 g [.ref (g.1 + 50), .int a1, .int a2] D (fX7_isBetter a1 a2 D) := by
  refine AM_of (lv0 := [some (.ref (g.1 + 50)), some (.int a1), some (.int a2), none]) (own := RX7) (by decide +kernel) rfl (Nat.le_of_ble_eq_true rfl) rfl (fun b hC => ?_)
  unfold fX7_isBetter
  refine A_aload_n hC dX7_isBetter_0 rfl ?_
  refine A_iload_n hC dX7_isBetter_1 rfl ?_
  refine A_iload_n hC dX7_isBetter_2 rfl ?_
  refine A_callVi (As := [.int a1, .int a2]) (st := []) hC (fun l => mX7_compare l g hL a1 a2 D) (lX_50 hL) rfl (Nat.le_of_ble_eq_true rfl) yc_X7_46 rfl rfl ⟨by decide, by decide⟩ (Nat.le_of_ble_eq_true rfl) rfl dX7_isBetter_3 (fun x1 D1 => ?_)
  refine A_istore_n (lv2 := [some (.ref (g.1 + 50)), some (.int a1), some (.int a2), some (.int x1)]) hC dX7_isBetter_6 (Nat.le_of_ble_eq_true rfl) rfl rfl ?_
  refine A_iload_n hC dX7_isBetter_7 rfl ?_
  refine A_join (fun (J : Int32 → ADD → Option (Int32 × ADD)) => ∀ (x2 : Int32) (D2 : ADD), AT aVi g b 25 [none, none, none, none] [.int x2] D2 (J x2 D2)) (fun x2 D2 => ?_) (fun j25 hj25 => ?_)
  · exact A_zretc hC dX7_isBetter_25
  refine A_join (fun (J : ADD → Option (Int32 × ADD)) => ∀ (D3 : ADD), AT aVi g b 20 [none, none, none, none] [] D3 (J D3)) (fun D3 => ?_) (fun j20 hj20 => ?_)
  · refine A_iconst (v := 1) hC dX7_isBetter_20 (by decide) ?_
    refine A_goto (tgt := 25) hC dX7_isBetter_21 (by decide) ?_
    exact A_to (hj25 (1 : Int32) D3) (trivial)
  refine A_if_gt (tgt := 20) hC dX7_isBetter_8 (by decide) ?_ ?_
  · exact A_to (hj20 D1) (trivial)
  · refine A_iload_n hC dX7_isBetter_11 rfl ?_
    refine A_join (fun (J : ADD → Option (Int32 × ADD)) => ∀ (D4 : ADD), AT aVi g b 24 [none, none, none, none] [] D4 (J D4)) (fun D4 => ?_) (fun j24 hj24 => ?_)
    · refine A_iconst (v := 0) hC dX7_isBetter_24 (by decide) ?_
      exact A_to (hj25 (0 : Int32) D4) (trivial)
    refine A_if_ne (tgt := 24) hC dX7_isBetter_12 (by decide) ?_ ?_
    · exact A_to (hj24 D1) (trivial)
    · refine A_iload_n hC dX7_isBetter_15 rfl ?_
      refine A_iload_n hC dX7_isBetter_16 rfl ?_
      refine A_icmp_le (tgt := 24) hC dX7_isBetter_17 (by decide) ?_ ?_
      · exact A_to (hj24 D1) (trivial)
      · exact A_to (hj20 D1) (trivial)
def fX7_isPeak (a1 : Int32) (D : ADD) : Option (Int32 × ADD) := aLet (fun (x1 : Int32) (D1 : ADD) => aZ x1 (some (x1, D1))) (fun (j43 : Int32 → ADD → Option (Int32 × ADD)) => aLet (fun (D2 : ADD) => j43 (0 : Int32) D2) (fun (j42 : ADD → Option (Int32 × ADD)) => aLet (fun (D3 : ADD) => aLet (fun (D4 : ADD) => j43 (1 : Int32) D4) (fun (j38 : ADD → Option (Int32 × ADD)) => (if a1 = (D3.1 50 1) then j38 D3 else aBind (fX7_compare a1 (a1 + (1 : Int32)) D3) (fun x2 D5 => (if x2 < 0 then j42 D5 else j38 D5))))) (fun (j19 : ADD → Option (Int32 × ADD)) => (if a1 = (D.1 50 0) then j19 D else aBind (fX7_compare a1 (a1 - (1 : Int32)) D) (fun x3 D6 => (if x3 ≤ 0 then j42 D6 else j19 D6))))))
set_option maxHeartbeats 4000000 in
set_option maxRecDepth 100000 in
theorem mX7_isPeak (l : Launch) (g : AGl) (hL : aLX g) (a1 : Int32) (D : ADD) : AM aVi l yX7_isPeak cX7_isPeak 2 (some .boolean) 2 g [.ref (g.1 + 50), .int a1] D (fX7_isPeak a1 D) := by
  refine AM_of (lv0 := [some (.ref (g.1 + 50)), some (.int a1)]) (own := RX7) (by decide +kernel) rfl (Nat.le_of_ble_eq_true rfl) rfl (fun b hC => ?_)
  unfold fX7_isPeak
  refine A_iload_n hC dX7_isPeak_0 rfl ?_
  refine A_aload_n hC dX7_isPeak_1 rfl ?_
  refine A_geti (kf := 0) hC kX7 (lX_50 hL) rfl (by decide) (by decide) rfl w_272 dX7_isPeak_2 ?_
  refine A_join (fun (J : Int32 → ADD → Option (Int32 × ADD)) => ∀ (x1 : Int32) (D1 : ADD), AT aVi g b 43 [none, none] [.int x1] D1 (J x1 D1)) (fun x1 D1 => ?_) (fun j43 hj43 => ?_)
  · exact A_zretc hC dX7_isPeak_43
  refine A_join (fun (J : ADD → Option (Int32 × ADD)) => ∀ (D2 : ADD), AT aVi g b 42 [none, none] [] D2 (J D2)) (fun D2 => ?_) (fun j42 hj42 => ?_)
  · refine A_iconst (v := 0) hC dX7_isPeak_42 (by decide) ?_
    exact A_to (hj43 (0 : Int32) D2) (trivial)
  refine A_join (fun (J : ADD → Option (Int32 × ADD)) => ∀ (D3 : ADD), AT aVi g b 19 [some (.ref (g.1 + 50)), some (.int a1)] [] D3 (J D3)) (fun D3 => ?_) (fun j19 hj19 => ?_)
  · refine A_iload_n hC dX7_isPeak_19 rfl ?_
    refine A_aload_n hC dX7_isPeak_20 rfl ?_
    refine A_geti (kf := 1) hC kX7 (lX_50 hL) rfl (by decide) (by decide) rfl w_273 dX7_isPeak_21 ?_
    refine A_join (fun (J : ADD → Option (Int32 × ADD)) => ∀ (D4 : ADD), AT aVi g b 38 [none, none] [] D4 (J D4)) (fun D4 => ?_) (fun j38 hj38 => ?_)
    · refine A_iconst (v := 1) hC dX7_isPeak_38 (by decide) ?_
      refine A_goto (tgt := 43) hC dX7_isPeak_39 (by decide) ?_
      exact A_to (hj43 (1 : Int32) D4) (trivial)
    refine A_icmp_eq (tgt := 38) hC dX7_isPeak_24 (by decide) ?_ ?_
    · exact A_to (hj38 D3) (trivial)
    · refine A_aload_n hC dX7_isPeak_27 rfl ?_
      refine A_iload_n hC dX7_isPeak_28 rfl ?_
      refine A_iload_n hC dX7_isPeak_29 rfl ?_
      refine A_iconst (v := 1) hC dX7_isPeak_30 (by decide) ?_
      refine A_iadd hC dX7_isPeak_31 ?_
      refine A_callVi (As := [.int a1, .int (a1 + (1 : Int32))]) (st := []) hC (fun l => mX7_compare l g hL a1 (a1 + (1 : Int32)) D3) (lX_50 hL) rfl (Nat.le_of_ble_eq_true rfl) yc_X7_46 rfl rfl ⟨by decide, by decide⟩ (Nat.le_of_ble_eq_true rfl) rfl dX7_isPeak_32 (fun x2 D5 => ?_)
      refine A_if_lt (tgt := 42) hC dX7_isPeak_35 (by decide) ?_ ?_
      · exact A_to (hj42 D5) (trivial)
      · exact A_to (hj38 D5) (trivial)
  refine A_icmp_eq (tgt := 19) hC dX7_isPeak_5 (by decide) ?_ ?_
  · exact A_to (hj19 D) (And.intro rfl (And.intro rfl (trivial)))
  · refine A_aload_n hC dX7_isPeak_8 rfl ?_
    refine A_iload_n hC dX7_isPeak_9 rfl ?_
    refine A_iload_n hC dX7_isPeak_10 rfl ?_
    refine A_iconst (v := 1) hC dX7_isPeak_11 (by decide) ?_
    refine A_isub hC dX7_isPeak_12 ?_
    refine A_callVi (As := [.int a1, .int (a1 - (1 : Int32))]) (st := []) hC (fun l => mX7_compare l g hL a1 (a1 - (1 : Int32)) D) (lX_50 hL) rfl (Nat.le_of_ble_eq_true rfl) yc_X7_46 rfl rfl ⟨by decide, by decide⟩ (Nat.le_of_ble_eq_true rfl) rfl dX7_isPeak_13 (fun x3 D6 => ?_)
    refine A_if_le (tgt := 42) hC dX7_isPeak_16 (by decide) ?_ ?_
    · exact A_to (hj42 D6) (trivial)
    · exact A_to (hj19 D6) (And.intro rfl (And.intro rfl (trivial)))
def fX8_copyFrom (o : Nat) (p : Nat) (D : ADD) : Option (Unit × ADD) := aBind (fX0_copyFrom (o + 1) (p + 1) D) (fun _ D1 => aBind (fX9_copyFrom (o + 10) (p + 10) D1) (fun _ D2 => aBind (fX6_copyFrom (o + 12) (p + 12) D2) (fun _ D3 => aBind (fX6_copyFrom (o + 21) (p + 21) D3) (fun _ D4 => aBind (fX1_copyFrom (o + 30) (p + 30) D4) (fun _ D5 => aLet (aSI D5 o 5 (D5.1 p 5)) (fun D6 => aLet (aSI D6 o 6 (D6.1 p 6)) (fun D7 => some ((), D7))))))))
set_option maxHeartbeats 4000000 in
set_option maxRecDepth 100000 in
theorem mX8_copyFrom (l : Launch) (g : AGl) (o : Nat) (p : Nat) (hO : aLS g o) (hP : aLS g p) (D : ADD) : AM aVv l yX8_copyFrom cX8_copyFrom 2 none 2 g [.ref (g.1 + o), .ref (g.1 + p)] D (fX8_copyFrom o p D) := by
  refine AM_of (lv0 := [some (.ref (g.1 + o)), some (.ref (g.1 + p))]) (own := RX8) (by decide +kernel) rfl (Nat.le_of_ble_eq_true rfl) rfl (fun b hC => ?_)
  unfold fX8_copyFrom
  refine A_aload_n hC dX8_copyFrom_0 rfl ?_
  refine A_getr (kf := 0) hC kX8 hO.1 rfl (by decide) (by decide) rfl rfl w_162 dX8_copyFrom_1 ?_
  refine A_aload_n hC dX8_copyFrom_4 rfl ?_
  refine A_getr (kf := 0) hC kX8 hP.1 rfl (by decide) (by decide) rfl rfl w_162 dX8_copyFrom_5 ?_
  refine A_callVv (As := [.ref (g.1 + (p + 1))]) (st := []) hC (fun l => mX0_copyFrom l g (o + 1) (p + 1) hO.2.1 hP.2.1 D) hO.2.1.1 rfl (Nat.le_of_ble_eq_true rfl) yc_X8_49 rfl rfl ⟨by decide, by decide⟩ (Nat.le_of_ble_eq_true rfl) rfl dX8_copyFrom_8 (fun _ D1 => ?_)
  refine A_aload_n hC dX8_copyFrom_11 rfl ?_
  refine A_getr (kf := 1) hC kX8 hO.1 rfl (by decide) (by decide) rfl rfl w_165 dX8_copyFrom_12 ?_
  refine A_aload_n hC dX8_copyFrom_15 rfl ?_
  refine A_getr (kf := 1) hC kX8 hP.1 rfl (by decide) (by decide) rfl rfl w_165 dX8_copyFrom_16 ?_
  refine A_callVv (As := [.ref (g.1 + (p + 10))]) (st := []) hC (fun l => mX9_copyFrom l g (o + 10) (p + 10) hO.2.2.1 hP.2.2.1 D1) hO.2.2.1.1 rfl (Nat.le_of_ble_eq_true rfl) yc_X8_53 rfl rfl ⟨by decide, by decide⟩ (Nat.le_of_ble_eq_true rfl) rfl dX8_copyFrom_19 (fun _ D2 => ?_)
  refine A_aload_n hC dX8_copyFrom_22 rfl ?_
  refine A_getr (kf := 2) hC kX8 hO.1 rfl (by decide) (by decide) rfl rfl w_167 dX8_copyFrom_23 ?_
  refine A_aload_n hC dX8_copyFrom_26 rfl ?_
  refine A_getr (kf := 2) hC kX8 hP.1 rfl (by decide) (by decide) rfl rfl w_167 dX8_copyFrom_27 ?_
  refine A_callVv (As := [.ref (g.1 + (p + 12))]) (st := []) hC (fun l => mX6_copyFrom l g (o + 12) (p + 12) hO.2.2.2.1 hP.2.2.2.1 D2) hO.2.2.2.1.1 rfl (Nat.le_of_ble_eq_true rfl) yc_X8_56 rfl rfl ⟨by decide, by decide⟩ (Nat.le_of_ble_eq_true rfl) rfl dX8_copyFrom_30 (fun _ D3 => ?_)
  refine A_aload_n hC dX8_copyFrom_33 rfl ?_
  refine A_getr (kf := 3) hC kX8 hO.1 rfl (by decide) (by decide) rfl rfl w_170 dX8_copyFrom_34 ?_
  refine A_aload_n hC dX8_copyFrom_37 rfl ?_
  refine A_getr (kf := 3) hC kX8 hP.1 rfl (by decide) (by decide) rfl rfl w_170 dX8_copyFrom_38 ?_
  refine A_callVv (As := [.ref (g.1 + (p + 21))]) (st := []) hC (fun l => mX6_copyFrom l g (o + 21) (p + 21) hO.2.2.2.2.1 hP.2.2.2.2.1 D3) hO.2.2.2.2.1.1 rfl (Nat.le_of_ble_eq_true rfl) yc_X8_56 rfl rfl ⟨by decide, by decide⟩ (Nat.le_of_ble_eq_true rfl) rfl dX8_copyFrom_41 (fun _ D4 => ?_)
  refine A_aload_n hC dX8_copyFrom_44 rfl ?_
  refine A_getr (kf := 4) hC kX8 hO.1 rfl (by decide) (by decide) rfl rfl w_172 dX8_copyFrom_45 ?_
  refine A_aload_n hC dX8_copyFrom_48 rfl ?_
  refine A_getr (kf := 4) hC kX8 hP.1 rfl (by decide) (by decide) rfl rfl w_172 dX8_copyFrom_49 ?_
  refine A_callVv (As := [.ref (g.1 + (p + 30))]) (st := []) hC (fun l => mX1_copyFrom l g (o + 30) (p + 30) hO.2.2.2.2.2 hP.2.2.2.2.2 D4) hO.2.2.2.2.2 rfl (Nat.le_of_ble_eq_true rfl) yc_X8_59 rfl rfl ⟨by decide, by decide⟩ (Nat.le_of_ble_eq_true rfl) rfl dX8_copyFrom_52 (fun _ D5 => ?_)
  refine A_aload_n hC dX8_copyFrom_55 rfl ?_
  refine A_aload_n hC dX8_copyFrom_56 rfl ?_
  refine A_geti (kf := 5) hC kX8 hP.1 rfl (by decide) (by decide) rfl w_175 dX8_copyFrom_57 ?_
  refine A_puti (kf := 5) hC kX8 hO.1 rfl (by decide) (by decide) rfl rfl rfl w_175 dX8_copyFrom_60 (fun D6 => ?_)
  refine A_aload_n hC dX8_copyFrom_63 rfl ?_
  refine A_aload_n hC dX8_copyFrom_64 rfl ?_
  refine A_geti (kf := 6) hC kX8 hP.1 rfl (by decide) (by decide) rfl w_177 dX8_copyFrom_65 ?_
  refine A_puti (kf := 6) hC kX8 hO.1 rfl (by decide) (by decide) rfl rfl rfl w_177 dX8_copyFrom_68 (fun D7 => ?_)
  exact A_vret hC dX8_copyFrom_71
def fX0_list (a1 : Int32) (a2 : Int32) (a3 : Int32) (D : ADD) : Option (Int32 × ADD) := aLet (fun (D1 : ADD) => some ((-1 : Int32), D1)) (fun (j43 : ADD → Option (Int32 × ADD)) => (if (32 : Int32) ≤ (D.1 2 8) then j43 D else (if (400 : Int32) ≤ (D.1 2 10) then j43 D else aBind (fX0_inRange (0 : Int32) a1 D) (fun x1 D2 => (if x1 = 0 then j43 D2 else aBind (fX0_inRange (1 : Int32) a2 D2) (fun x2 D3 => (if x2 = 0 then j43 D3 else aBind (fX0_inRange (4 : Int32) a3 D3) (fun x3 D4 => (if x3 = 0 then j43 D4 else aLet (D4.1 2 8) (fun x4 => aLet (aSI D4 2 8 ((D4.1 2 8) + (1 : Int32))) (fun D5 => aIn x4 32 (aLet (aSI D5 5 x4.toNatClampNeg a2) (fun D6 => aIn x4 32 (aLet (aSI D6 6 x4.toNatClampNeg a3) (fun D7 => aBind (fX0_write x4 (-1 : Int32) a1 D7) (fun _ D8 => some (x4, D8)))))))))))))))))
set_option maxHeartbeats 4000000 in
set_option maxRecDepth 100000 in
theorem mX0_list (l : Launch) (g : AGl) (hL : aLX g) (a1 : Int32) (a2 : Int32) (a3 : Int32) (D : ADD) : AM aVi l yX0_list cX0_list 5 (some .int) 3 g [.ref (g.1 + 2), .int a1, .int a2, .int a3] D (fX0_list a1 a2 a3 D) := by
  refine AM_of (lv0 := [some (.ref (g.1 + 2)), some (.int a1), some (.int a2), some (.int a3), none]) (own := RX0) (by decide +kernel) rfl (Nat.le_of_ble_eq_true rfl) rfl (fun b hC => ?_)
  unfold fX0_list
  refine A_aload_n hC dX0_list_0 rfl ?_
  refine A_geti (kf := 8) hC kX0 (lX_2 hL) rfl (by decide) (by decide) rfl w_49 dX0_list_1 ?_
  refine A_bipush (v := 32) hC dX0_list_4 (by decide) ?_
  refine A_join (fun (J : ADD → Option (Int32 × ADD)) => ∀ (D1 : ADD), AT aVi g b 43 [none, none, none, none, none] [] D1 (J D1)) (fun D1 => ?_) (fun j43 hj43 => ?_)
  · refine A_iconst (v := -1) hC dX0_list_43 (by decide) ?_
    exact A_iret hC dX0_list_44
  refine A_icmp_ge (tgt := 43) hC dX0_list_6 (by decide) ?_ ?_
  · exact A_to (hj43 D) (trivial)
  · refine A_aload_n hC dX0_list_9 rfl ?_
    refine A_geti (kf := 10) hC kX0 (lX_2 hL) rfl (by decide) (by decide) rfl w_53 dX0_list_10 ?_
    refine A_sipush (v := 400) hC dX0_list_13 (by decide) ?_
    refine A_icmp_ge (tgt := 43) hC dX0_list_16 (by decide) ?_ ?_
    · exact A_to (hj43 D) (trivial)
    · refine A_iconst (v := 0) hC dX0_list_19 (by decide) ?_
      refine A_iload_n hC dX0_list_20 rfl ?_
      refine A_callSi (As := [.int (0 : Int32), .int a1]) (st := []) hC (fun l => mX0_inRange l g (0 : Int32) a1 D) yc_X0_52 rfl rfl ⟨by decide, by decide⟩ (Nat.le_of_ble_eq_true rfl) rfl dX0_list_21 (fun x1 D2 => ?_)
      refine A_if_eq (tgt := 43) hC dX0_list_24 (by decide) ?_ ?_
      · exact A_to (hj43 D2) (trivial)
      · refine A_iconst (v := 1) hC dX0_list_27 (by decide) ?_
        refine A_iload_n hC dX0_list_28 rfl ?_
        refine A_callSi (As := [.int (1 : Int32), .int a2]) (st := []) hC (fun l => mX0_inRange l g (1 : Int32) a2 D2) yc_X0_52 rfl rfl ⟨by decide, by decide⟩ (Nat.le_of_ble_eq_true rfl) rfl dX0_list_29 (fun x2 D3 => ?_)
        refine A_if_eq (tgt := 43) hC dX0_list_32 (by decide) ?_ ?_
        · exact A_to (hj43 D3) (trivial)
        · refine A_iconst (v := 4) hC dX0_list_35 (by decide) ?_
          refine A_iload_n hC dX0_list_36 rfl ?_
          refine A_callSi (As := [.int (4 : Int32), .int a3]) (st := []) hC (fun l => mX0_inRange l g (4 : Int32) a3 D3) yc_X0_52 rfl rfl ⟨by decide, by decide⟩ (Nat.le_of_ble_eq_true rfl) rfl dX0_list_37 (fun x3 D4 => ?_)
          refine A_if_ne (tgt := 45) hC dX0_list_40 (by decide) ?_ ?_
          · refine A_aload_n hC dX0_list_45 rfl ?_
            refine A_geti (kf := 8) hC kX0 (lX_2 hL) rfl (by decide) (by decide) rfl w_49 dX0_list_46 ?_
            refine A_topi (fun x4 => ?_)
            refine A_istore (lv2 := [some (.ref (g.1 + 2)), some (.int a1), some (.int a2), some (.int a3), some (.int x4)]) hC dX0_list_49 (Nat.le_of_ble_eq_true rfl) rfl rfl ?_
            refine A_aload_n hC dX0_list_51 rfl ?_
            refine A_dup hC dX0_list_52 rfl ?_
            refine A_geti (kf := 8) hC kX0 (lX_2 hL) rfl (by decide) (by decide) rfl w_49 dX0_list_53 ?_
            refine A_iconst (v := 1) hC dX0_list_56 (by decide) ?_
            refine A_iadd hC dX0_list_57 ?_
            refine A_puti (kf := 8) hC kX0 (lX_2 hL) rfl (by decide) (by decide) rfl rfl rfl w_49 dX0_list_58 (fun D5 => ?_)
            refine A_aload_n hC dX0_list_61 rfl ?_
            refine A_getr (kf := 2) hC kX0 (lX_2 hL) rfl (by decide) (by decide) rfl rfl w_43 dX0_list_62 ?_
            refine A_iload hC dX0_list_65 rfl ?_
            refine A_iload_n hC dX0_list_67 rfl ?_
            refine A_iast hC (lX_5 hL) dX0_list_68 (fun D6 => ?_)
            refine A_aload_n hC dX0_list_69 rfl ?_
            refine A_getr (kf := 3) hC kX0 (lX_2 hL) rfl (by decide) (by decide) rfl rfl w_44 dX0_list_70 ?_
            refine A_iload hC dX0_list_73 rfl ?_
            refine A_iload_n hC dX0_list_75 rfl ?_
            refine A_iast hC (lX_6 hL) dX0_list_76 (fun D7 => ?_)
            refine A_aload_n hC dX0_list_77 rfl ?_
            refine A_iload hC dX0_list_78 rfl ?_
            refine A_iconst (v := -1) hC dX0_list_80 (by decide) ?_
            refine A_iload_n hC dX0_list_81 rfl ?_
            refine A_callVv (As := [.int x4, .int (-1 : Int32), .int a1]) (st := []) hC (fun l => mX0_write l g hL x4 (-1 : Int32) a1 D7) (lX_2 hL) rfl (Nat.le_of_ble_eq_true rfl) yc_X0_56 rfl rfl ⟨by decide, by decide⟩ (Nat.le_of_ble_eq_true rfl) rfl dX0_list_82 (fun _ D8 => ?_)
            refine A_iload hC dX0_list_85 rfl ?_
            exact A_iret hC dX0_list_87
          · exact A_to (hj43 D4) (trivial)
def fX0_retell (a1 : Int32) (a2 : Int32) (a3 : Int32) (D : ADD) : Option (Int32 × ADD) := aLet (fun (D1 : ADD) => some ((0 : Int32), D1)) (fun (j40 : ADD → Option (Int32 × ADD)) => (if a1 < 0 then j40 D else (if (D.1 2 8) ≤ a1 then j40 D else (if (400 : Int32) ≤ (D.1 2 10) then j40 D else aBind (fX0_inRange a2 a3 D) (fun x1 D2 => (if x1 = 0 then j40 D2 else aBind (fX0_agrees a1 a2 a3 D2) (fun x2 D3 => (if x2 = 0 then j40 D3 else aBind (fX0_write a1 a2 a3 D3) (fun _ D4 => some ((1 : Int32), D4))))))))))
set_option maxHeartbeats 4000000 in
set_option maxRecDepth 100000 in
theorem mX0_retell (l : Launch) (g : AGl) (hL : aLX g) (a1 : Int32) (a2 : Int32) (a3 : Int32) (D : ADD) : AM aVi l yX0_retell cX0_retell 4 (some .boolean) 3 g [.ref (g.1 + 2), .int a1, .int a2, .int a3] D (fX0_retell a1 a2 a3 D) := by
  refine AM_of (lv0 := [some (.ref (g.1 + 2)), some (.int a1), some (.int a2), some (.int a3)]) (own := RX0) (by decide +kernel) rfl (Nat.le_of_ble_eq_true rfl) rfl (fun b hC => ?_)
  unfold fX0_retell
  refine A_iload_n hC dX0_retell_0 rfl ?_
  refine A_join (fun (J : ADD → Option (Int32 × ADD)) => ∀ (D1 : ADD), AT aVi g b 40 [none, none, none, none] [] D1 (J D1)) (fun D1 => ?_) (fun j40 hj40 => ?_)
  · refine A_iconst (v := 0) hC dX0_retell_40 (by decide) ?_
    exact A_zret hC dX0_retell_41 (Or.inl rfl)
  refine A_if_lt (tgt := 40) hC dX0_retell_1 (by decide) ?_ ?_
  · exact A_to (hj40 D) (trivial)
  · refine A_iload_n hC dX0_retell_4 rfl ?_
    refine A_aload_n hC dX0_retell_5 rfl ?_
    refine A_geti (kf := 8) hC kX0 (lX_2 hL) rfl (by decide) (by decide) rfl w_49 dX0_retell_6 ?_
    refine A_icmp_ge (tgt := 40) hC dX0_retell_9 (by decide) ?_ ?_
    · exact A_to (hj40 D) (trivial)
    · refine A_aload_n hC dX0_retell_12 rfl ?_
      refine A_geti (kf := 10) hC kX0 (lX_2 hL) rfl (by decide) (by decide) rfl w_53 dX0_retell_13 ?_
      refine A_sipush (v := 400) hC dX0_retell_16 (by decide) ?_
      refine A_icmp_ge (tgt := 40) hC dX0_retell_19 (by decide) ?_ ?_
      · exact A_to (hj40 D) (trivial)
      · refine A_iload_n hC dX0_retell_22 rfl ?_
        refine A_iload_n hC dX0_retell_23 rfl ?_
        refine A_callSi (As := [.int a2, .int a3]) (st := []) hC (fun l => mX0_inRange l g a2 a3 D) yc_X0_52 rfl rfl ⟨by decide, by decide⟩ (Nat.le_of_ble_eq_true rfl) rfl dX0_retell_24 (fun x1 D2 => ?_)
        refine A_if_eq (tgt := 40) hC dX0_retell_27 (by decide) ?_ ?_
        · exact A_to (hj40 D2) (trivial)
        · refine A_aload_n hC dX0_retell_30 rfl ?_
          refine A_iload_n hC dX0_retell_31 rfl ?_
          refine A_iload_n hC dX0_retell_32 rfl ?_
          refine A_iload_n hC dX0_retell_33 rfl ?_
          refine A_callVi (As := [.int a1, .int a2, .int a3]) (st := []) hC (fun l => mX0_agrees l g hL a1 a2 a3 D2) (lX_2 hL) rfl (Nat.le_of_ble_eq_true rfl) yc_X0_60 rfl rfl ⟨by decide, by decide⟩ (Nat.le_of_ble_eq_true rfl) rfl dX0_retell_34 (fun x2 D3 => ?_)
          refine A_if_ne (tgt := 42) hC dX0_retell_37 (by decide) ?_ ?_
          · refine A_aload_n hC dX0_retell_42 rfl ?_
            refine A_iload_n hC dX0_retell_43 rfl ?_
            refine A_iload_n hC dX0_retell_44 rfl ?_
            refine A_iload_n hC dX0_retell_45 rfl ?_
            refine A_callVv (As := [.int a1, .int a2, .int a3]) (st := []) hC (fun l => mX0_write l g hL a1 a2 a3 D3) (lX_2 hL) rfl (Nat.le_of_ble_eq_true rfl) yc_X0_56 rfl rfl ⟨by decide, by decide⟩ (Nat.le_of_ble_eq_true rfl) rfl dX0_retell_46 (fun _ D4 => ?_)
            refine A_iconst (v := 1) hC dX0_retell_49 (by decide) ?_
            exact A_zret hC dX0_retell_50 (Or.inr rfl)
          · exact A_to (hj40 D3) (trivial)
def fX10_view (a1 : Int32) (D : ADD) : Option (Int32 × ADD) := aBind (fX0_lookFrom a1 D) (fun x1 D1 => aZ x1 (some (x1, D1)))
set_option maxHeartbeats 4000000 in
set_option maxRecDepth 100000 in
theorem mX10_view (l : Launch) (g : AGl) (hL : aLX g) (a1 : Int32) (D : ADD) : AM aVi l yX10_view cX10_view 2 (some .boolean) 3 g [.ref (g.1 + 0), .int a1] D (fX10_view a1 D) := by
  refine AM_of (lv0 := [some (.ref (g.1 + 0)), some (.int a1)]) (own := RX10) (by decide +kernel) rfl (Nat.le_of_ble_eq_true rfl) rfl (fun b hC => ?_)
  unfold fX10_view
  refine A_aload_n hC dX10_view_0 rfl ?_
  refine A_getr (kf := 0) hC kX10 (lX_0 hL) rfl (by decide) (by decide) rfl rfl w_305 dX10_view_1 ?_
  refine A_getr (kf := 0) hC kX8 (lX_1 hL) rfl (by decide) (by decide) rfl rfl w_163 dX10_view_4 ?_
  refine A_iload_n hC dX10_view_7 rfl ?_
  refine A_callVi (As := [.int a1]) (st := []) hC (fun l => mX0_lookFrom l g hL a1 D) (lX_2 hL) rfl (Nat.le_of_ble_eq_true rfl) yc_X10_76 rfl rfl ⟨by decide, by decide⟩ (Nat.le_of_ble_eq_true rfl) rfl dX10_view_8 (fun x1 D1 => ?_)
  exact A_zretc hC dX10_view_11
def fX11_by (a1 : Int32) (a2 : Int32) (a3 : Int32) (D : ADD) : Option (Int32 × ADD) := aLet (aSI D 0 0 (0 : Int32)) (fun D1 => aBind (fX11_isStone a1 D1) (fun x1 D2 => aLet (fun (D3 : ADD) => some ((-1 : Int32), D3)) (fun (j20 : ADD → Option (Int32 × ADD)) => (if x1 = 0 then j20 D2 else aBind (fX11_isUnit a2 D2) (fun x2 D4 => (if x2 = 0 then j20 D4 else aBind (fX11_look D4) (fun _ D5 => aTab a3 0 [aBind (fX11_off a1 a2 D5) (fun x3 D6 => some (x3, D6)), aBind (fX11_off a1 a2 D5) (fun x4 D7 => aLet (fun (x5 : Int32) (D8 : ADD) => some (x5, D8)) (fun (j81 : Int32 → ADD → Option (Int32 × ADD)) => (if a2 < ((8 : Int32) * x4) then j81 (0 : Int32) D7 else j81 (1 : Int32) D7))), aBind (fX11_shortOf a1 a2 D5) (fun x6 D9 => some (x6, D9)), aBind (fX11_timesOf a1 a2 D5) (fun x7 D10 => some (x7, D10))] (some ((-1 : Int32), D5)))))))))
set_option maxHeartbeats 4000000 in
set_option maxRecDepth 100000 in
theorem mX11_by (l : Launch) (g : AGl) (hL : aLM g) (a1 : Int32) (a2 : Int32) (a3 : Int32) (D : ADD) : AM aVi l yX11_by cX11_by 4 (some .int) 3 g [.ref (g.1 + 0), .int a1, .int a2, .int a3] D (fX11_by a1 a2 a3 D) := by
  refine AM_of (lv0 := [some (.ref (g.1 + 0)), some (.int a1), some (.int a2), some (.int a3)]) (own := RX11) (by decide +kernel) rfl (Nat.le_of_ble_eq_true rfl) rfl (fun b hC => ?_)
  unfold fX11_by
  refine A_aload_n hC dX11_by_0 rfl ?_
  refine A_iconst (v := 0) hC dX11_by_1 (by decide) ?_
  refine A_puti (kf := 0) hC kX11 (lM_0 hL) rfl (by decide) (by decide) rfl rfl rfl w_1003 dX11_by_2 (fun D1 => ?_)
  refine A_aload_n hC dX11_by_5 rfl ?_
  refine A_iload_n hC dX11_by_6 rfl ?_
  refine A_callVi (As := [.int a1]) (st := []) hC (fun l => mX11_isStone l g hL a1 D1) (lM_0 hL) rfl (Nat.le_of_ble_eq_true rfl) yc_X11_157 rfl rfl ⟨by decide, by decide⟩ (Nat.le_of_ble_eq_true rfl) rfl dX11_by_7 (fun x1 D2 => ?_)
  refine A_join (fun (J : ADD → Option (Int32 × ADD)) => ∀ (D3 : ADD), AT aVi g b 20 [none, none, none, none] [] D3 (J D3)) (fun D3 => ?_) (fun j20 hj20 => ?_)
  · refine A_iconst (v := -1) hC dX11_by_20 (by decide) ?_
    exact A_iret hC dX11_by_21
  refine A_if_eq (tgt := 20) hC dX11_by_10 (by decide) ?_ ?_
  · exact A_to (hj20 D2) (trivial)
  · refine A_iload_n hC dX11_by_13 rfl ?_
    refine A_callSi (As := [.int a2]) (st := []) hC (fun l => mX11_isUnit l g a2 D2) yc_X11_314 rfl rfl ⟨by decide, by decide⟩ (Nat.le_of_ble_eq_true rfl) rfl dX11_by_14 (fun x2 D4 => ?_)
    refine A_if_ne (tgt := 22) hC dX11_by_17 (by decide) ?_ ?_
    · refine A_aload_n hC dX11_by_22 rfl ?_
      refine A_callVv (As := []) (st := []) hC (fun l => mX11_look l g hL D4) (lM_0 hL) rfl (Nat.le_of_ble_eq_true rfl) yc_X11_311 rfl rfl ⟨by decide, by decide⟩ (Nat.le_of_ble_eq_true rfl) rfl dX11_by_23 (fun _ D5 => ?_)
      refine A_iload_n hC dX11_by_26 rfl ?_
      refine A_tab (td := 96) hC dX11_by_27 rfl (by decide) ?_ (And.intro (Exists.intro 56 (And.intro (by decide) ?_)) (And.intro (Exists.intro 63 (And.intro (by decide) ?_)) (And.intro (Exists.intro 82 (And.intro (by decide) ?_)) (And.intro (Exists.intro 89 (And.intro (by decide) ?_)) trivial))))
      · refine A_iconst (v := -1) hC dX11_by_96 (by decide) ?_
        exact A_iret hC dX11_by_97
      · refine A_aload_n hC dX11_by_56 rfl ?_
        refine A_iload_n hC dX11_by_57 rfl ?_
        refine A_iload_n hC dX11_by_58 rfl ?_
        refine A_callVi (As := [.int a1, .int a2]) (st := []) hC (fun l => mX11_off l g hL a1 a2 D5) (lM_0 hL) rfl (Nat.le_of_ble_eq_true rfl) yc_X11_323 rfl rfl ⟨by decide, by decide⟩ (Nat.le_of_ble_eq_true rfl) rfl dX11_by_59 (fun x3 D6 => ?_)
        exact A_iret hC dX11_by_62
      · refine A_bipush (v := 8) hC dX11_by_63 (by decide) ?_
        refine A_aload_n hC dX11_by_65 rfl ?_
        refine A_iload_n hC dX11_by_66 rfl ?_
        refine A_iload_n hC dX11_by_67 rfl ?_
        refine A_callVi (As := [.int a1, .int a2]) (st := [.int (8 : Int32)]) hC (fun l => mX11_off l g hL a1 a2 D5) (lM_0 hL) rfl (Nat.le_of_ble_eq_true rfl) yc_X11_323 rfl rfl ⟨by decide, by decide⟩ (Nat.le_of_ble_eq_true rfl) rfl dX11_by_68 (fun x4 D7 => ?_)
        refine A_imul hC dX11_by_71 ?_
        refine A_iload_n hC dX11_by_72 rfl ?_
        refine A_join (fun (J : Int32 → ADD → Option (Int32 × ADD)) => ∀ (x5 : Int32) (D8 : ADD), AT aVi g b 81 [none, none, none, none] [.int x5] D8 (J x5 D8)) (fun x5 D8 => ?_) (fun j81 hj81 => ?_)
        · exact A_iret hC dX11_by_81
        refine A_icmp_gt (tgt := 80) hC dX11_by_73 (by decide) ?_ ?_
        · refine A_iconst (v := 0) hC dX11_by_80 (by decide) ?_
          exact A_to (hj81 (0 : Int32) D7) (trivial)
        · refine A_iconst (v := 1) hC dX11_by_76 (by decide) ?_
          refine A_goto (tgt := 81) hC dX11_by_77 (by decide) ?_
          exact A_to (hj81 (1 : Int32) D7) (trivial)
      · refine A_aload_n hC dX11_by_82 rfl ?_
        refine A_iload_n hC dX11_by_83 rfl ?_
        refine A_iload_n hC dX11_by_84 rfl ?_
        refine A_callVi (As := [.int a1, .int a2]) (st := []) hC (fun l => mX11_shortOf l g hL a1 a2 D5) (lM_0 hL) rfl (Nat.le_of_ble_eq_true rfl) yc_X11_326 rfl rfl ⟨by decide, by decide⟩ (Nat.le_of_ble_eq_true rfl) rfl dX11_by_85 (fun x6 D9 => ?_)
        exact A_iret hC dX11_by_88
      · refine A_aload_n hC dX11_by_89 rfl ?_
        refine A_iload_n hC dX11_by_90 rfl ?_
        refine A_iload_n hC dX11_by_91 rfl ?_
        refine A_callVi (As := [.int a1, .int a2]) (st := []) hC (fun l => mX11_timesOf l g hL a1 a2 D5) (lM_0 hL) rfl (Nat.le_of_ble_eq_true rfl) yc_X11_320 rfl rfl ⟨by decide, by decide⟩ (Nat.le_of_ble_eq_true rfl) rfl dX11_by_92 (fun x7 D10 => ?_)
        exact A_iret hC dX11_by_95
    · exact A_to (hj20 D4) (trivial)
def lX11_count_58 (j89 : Int32 → ADD → Option (Int32 × ADD)) (L58 : Int32 → Int32 → ADD → Option (Int32 × ADD)) (x2 : Int32) (x3 : Int32) (D4 : ADD) : Option (Int32 × ADD) := (if (D4.1 0 41) ≤ x3 then j89 x2 D4 else aIn x3 32 (aLet (fun (x4 : Int32) (D5 : ADD) => aLet (x2 + x4) (fun x5 => aLet (x3 + (1 : Int32)) (fun x6 => L58 x5 x6 D5))) (fun (j81 : Int32 → ADD → Option (Int32 × ADD)) => (if (aBz (D4.1 31 x3.toNatClampNeg)) = 0 then j81 (0 : Int32) D4 else j81 (1 : Int32) D4))))
def lX11_count_133 (a1 : Int32) (j177 : Int32 → ADD → Option (Int32 × ADD)) (L133 : Int32 → Int32 → ADD → Option (Int32 × ADD)) (x11 : Int32) (x12 : Int32) (D10 : ADD) : Option (Int32 × ADD) := (if (D10.1 0 41) ≤ x12 then j177 x11 D10 else aIn x12 32 (aLet (fun (x13 : Int32) (D11 : ADD) => aLet (x11 + x13) (fun x14 => aLet (x12 + (1 : Int32)) (fun x15 => L133 x14 x15 D11))) (fun (j169 : Int32 → ADD → Option (Int32 × ADD)) => aLet (fun (D12 : ADD) => j169 (0 : Int32) D12) (fun (j168 : ADD → Option (Int32 × ADD)) => (if (aBz (D10.1 35 x12.toNatClampNeg)) = 0 then j168 D10 else aBind (fX11_f x12 (4 : Int32) D10) (fun x16 D13 => (if x16 = (a1 - (10 : Int32)) then j169 (1 : Int32) D13 else j168 D13)))))))
def fX11_count (a1 : Int32) (D : ADD) : Option (Int32 × ADD) := aLet (aSI D 0 0 (0 : Int32)) (fun D1 => aBind (fX11_look D1) (fun _ D2 => aTab a1 0 [aLet (fun (x1 : Int32) (D3 : ADD) => some (x1, D3)) (fun (j89 : Int32 → ADD → Option (Int32 × ADD)) => aLet (aFix aFuel (lX11_count_58 j89) (fun _ _ _ => none)) (fun j58 => j58 (0 : Int32) (0 : Int32) D2)), aBind (fX11_those D2) (fun x7 D6 => some (x7, D6)), aIn (0 : Int32) 4 (some ((D2.1 8 (0 : Int32).toNatClampNeg), D2)), aIn (0 : Int32) 4 (some ((D2.1 6 (0 : Int32).toNatClampNeg), D2)), aIn (0 : Int32) 4 (some ((D2.1 7 (0 : Int32).toNatClampNeg), D2)), aIn (0 : Int32) 8 (some ((D2.1 15 (0 : Int32).toNatClampNeg), D2)), aIn (1 : Int32) 8 (some ((D2.1 15 (1 : Int32).toNatClampNeg), D2))] (aLet (fun (x8 : Int32) (D7 : ADD) => aBind (fX11_is a1 (10 : Int32) (15 : Int32) D7) (fun x9 D8 => aLet (fun (x10 : Int32) (D9 : ADD) => some (x10, D9)) (fun (j193 : Int32 → ADD → Option (Int32 × ADD)) => (if x9 = 0 then j193 (-1 : Int32) D8 else j193 x8 D8)))) (fun (j177 : Int32 → ADD → Option (Int32 × ADD)) => aLet (aFix aFuel (lX11_count_133 a1 j177) (fun _ _ _ => none)) (fun j133 => j133 (0 : Int32) (0 : Int32) D2)))))
set_option maxHeartbeats 4000000 in
set_option maxRecDepth 100000 in
theorem mX11_count (l : Launch) (g : AGl) (hL : aLM g) (a1 : Int32) (D : ADD) : AM aVi l yX11_count cX11_count 4 (some .int) 3 g [.ref (g.1 + 0), .int a1] D (fX11_count a1 D) := by
  refine AM_of (lv0 := [some (.ref (g.1 + 0)), some (.int a1), none, none]) (own := RX11) (by decide +kernel) rfl (Nat.le_of_ble_eq_true rfl) rfl (fun b hC => ?_)
  unfold fX11_count
  refine A_aload_n hC dX11_count_0 rfl ?_
  refine A_iconst (v := 0) hC dX11_count_1 (by decide) ?_
  refine A_puti (kf := 0) hC kX11 (lM_0 hL) rfl (by decide) (by decide) rfl rfl rfl w_1003 dX11_count_2 (fun D1 => ?_)
  refine A_aload_n hC dX11_count_5 rfl ?_
  refine A_callVv (As := []) (st := []) hC (fun l => mX11_look l g hL D1) (lM_0 hL) rfl (Nat.le_of_ble_eq_true rfl) yc_X11_311 rfl rfl ⟨by decide, by decide⟩ (Nat.le_of_ble_eq_true rfl) rfl dX11_count_6 (fun _ D2 => ?_)
  refine A_iconst (v := 0) hC dX11_count_9 (by decide) ?_
  refine A_istore_n (lv2 := [some (.ref (g.1 + 0)), some (.int a1), some (.int (0 : Int32)), none]) hC dX11_count_10 (Nat.le_of_ble_eq_true rfl) rfl rfl ?_
  refine A_iload_n hC dX11_count_11 rfl ?_
  refine A_tab (td := 131) hC dX11_count_12 rfl (by decide) ?_ (And.intro (Exists.intro 56 (And.intro (by decide) ?_)) (And.intro (Exists.intro 91 (And.intro (by decide) ?_)) (And.intro (Exists.intro 96 (And.intro (by decide) ?_)) (And.intro (Exists.intro 103 (And.intro (by decide) ?_)) (And.intro (Exists.intro 110 (And.intro (by decide) ?_)) (And.intro (Exists.intro 117 (And.intro (by decide) ?_)) (And.intro (Exists.intro 124 (And.intro (by decide) ?_)) trivial)))))))
  · refine A_iconst (v := 0) hC dX11_count_131 (by decide) ?_
    refine A_istore_n (lv2 := [some (.ref (g.1 + 0)), some (.int a1), some (.int (0 : Int32)), some (.int (0 : Int32))]) hC dX11_count_132 (Nat.le_of_ble_eq_true rfl) rfl rfl ?_
    refine A_join (fun (J : Int32 → ADD → Option (Int32 × ADD)) => ∀ (x8 : Int32) (D7 : ADD), AT aVi g b 177 [none, some (.int a1), some (.int x8), none] [] D7 (J x8 D7)) (fun x8 D7 => ?_) (fun j177 hj177 => ?_)
    · refine A_iload_n hC dX11_count_177 rfl ?_
      refine A_bipush (v := 10) hC dX11_count_178 (by decide) ?_
      refine A_bipush (v := 15) hC dX11_count_180 (by decide) ?_
      refine A_callSi (As := [.int a1, .int (10 : Int32), .int (15 : Int32)]) (st := []) hC (fun l => mX11_is l g a1 (10 : Int32) (15 : Int32) D7) yc_X11_138 rfl rfl ⟨by decide, by decide⟩ (Nat.le_of_ble_eq_true rfl) rfl dX11_count_182 (fun x9 D8 => ?_)
      refine A_join (fun (J : Int32 → ADD → Option (Int32 × ADD)) => ∀ (x10 : Int32) (D9 : ADD), AT aVi g b 193 [none, none, none, none] [.int x10] D9 (J x10 D9)) (fun x10 D9 => ?_) (fun j193 hj193 => ?_)
      · exact A_iret hC dX11_count_193
      refine A_if_eq (tgt := 192) hC dX11_count_185 (by decide) ?_ ?_
      · refine A_iconst (v := -1) hC dX11_count_192 (by decide) ?_
        exact A_to (hj193 (-1 : Int32) D8) (trivial)
      · refine A_iload_n hC dX11_count_188 rfl ?_
        refine A_goto (tgt := 193) hC dX11_count_189 (by decide) ?_
        exact A_to (hj193 x8 D8) (trivial)
    refine A_join (fun (J : Int32 → Int32 → ADD → Option (Int32 × ADD)) => ∀ (x11 : Int32) (x12 : Int32) (D10 : ADD), AT aVi g b 133 [some (.ref (g.1 + 0)), some (.int a1), some (.int x11), some (.int x12)] [] D10 (J x11 x12 D10)) (aFix_all (fun (J : Int32 → Int32 → ADD → Option (Int32 × ADD)) => ∀ (x11 : Int32) (x12 : Int32) (D10 : ADD), AT aVi g b 133 [some (.ref (g.1 + 0)), some (.int a1), some (.int x11), some (.int x12)] [] D10 (J x11 x12 D10)) (fun _ _ _ => A_none) (fun L133 hL133 x11 x12 D10 => ?_) _) (fun j133 hj133 => ?_)
    · unfold lX11_count_133
      refine A_iload_n hC dX11_count_133 rfl ?_
      refine A_aload_n hC dX11_count_134 rfl ?_
      refine A_geti (kf := 41) hC kX11 (lM_0 hL) rfl (by decide) (by decide) rfl w_1044 dX11_count_135 ?_
      refine A_icmp_ge (tgt := 177) hC dX11_count_138 (by decide) ?_ ?_
      · exact A_to (hj177 x11 D10) (And.intro rfl (And.intro rfl (trivial)))
      · refine A_iload_n hC dX11_count_141 rfl ?_
        refine A_aload_n hC dX11_count_142 rfl ?_
        refine A_getr (kf := 46) hC kX11 (lM_0 hL) rfl (by decide) (by decide) rfl rfl w_1049 dX11_count_143 ?_
        refine A_iload_n hC dX11_count_146 rfl ?_
        refine A_zald hC (lM_35 hL) dX11_count_147 ?_
        refine A_join (fun (J : Int32 → ADD → Option (Int32 × ADD)) => ∀ (x13 : Int32) (D11 : ADD), AT aVi g b 169 [some (.ref (g.1 + 0)), some (.int a1), none, some (.int x12)] [.int x13, .int x11] D11 (J x13 D11)) (fun x13 D11 => ?_) (fun j169 hj169 => ?_)
        · refine A_iadd hC dX11_count_169 ?_
          refine A_topi (fun x14 => ?_)
          refine A_istore_n (lv2 := [some (.ref (g.1 + 0)), some (.int a1), some (.int x14), some (.int x12)]) hC dX11_count_170 (Nat.le_of_ble_eq_true rfl) rfl rfl ?_
          refine A_iincL (z := (1 : Int32)) (lv2 := fun x15 => [some (.ref (g.1 + 0)), some (.int a1), some (.int x14), some (.int x15)]) hC dX11_count_171 rfl (by decide) (Nat.le_of_ble_eq_true rfl) rfl (fun _ => rfl) (fun x15 => ?_)
          refine A_goto (tgt := 133) hC dX11_count_174 (by decide) ?_
          exact A_to (hL133 x14 x15 D11) (And.intro rfl (And.intro rfl (And.intro rfl (And.intro rfl (trivial)))))
        refine A_join (fun (J : ADD → Option (Int32 × ADD)) => ∀ (D12 : ADD), AT aVi g b 168 [some (.ref (g.1 + 0)), some (.int a1), none, some (.int x12)] [.int x11] D12 (J D12)) (fun D12 => ?_) (fun j168 hj168 => ?_)
        · refine A_iconst (v := 0) hC dX11_count_168 (by decide) ?_
          exact A_to (hj169 (0 : Int32) D12) (And.intro rfl (And.intro rfl (And.intro rfl (trivial))))
        refine A_if_eq (tgt := 168) hC dX11_count_148 (by decide) ?_ ?_
        · exact A_to (hj168 D10) (And.intro rfl (And.intro rfl (And.intro rfl (trivial))))
        · refine A_aload_n hC dX11_count_151 rfl ?_
          refine A_iload_n hC dX11_count_152 rfl ?_
          refine A_iconst (v := 4) hC dX11_count_153 (by decide) ?_
          refine A_callVi (As := [.int x12, .int (4 : Int32)]) (st := [.int x11]) hC (fun l => mX11_f l g hL x12 (4 : Int32) D10) (lM_0 hL) rfl (Nat.le_of_ble_eq_true rfl) yc_X11_291 rfl rfl ⟨by decide, by decide⟩ (Nat.le_of_ble_eq_true rfl) rfl dX11_count_154 (fun x16 D13 => ?_)
          refine A_iload_n hC dX11_count_157 rfl ?_
          refine A_bipush (v := 10) hC dX11_count_158 (by decide) ?_
          refine A_isub hC dX11_count_160 ?_
          refine A_icmp_ne (tgt := 168) hC dX11_count_161 (by decide) ?_ ?_
          · exact A_to (hj168 D13) (And.intro rfl (And.intro rfl (And.intro rfl (trivial))))
          · refine A_iconst (v := 1) hC dX11_count_164 (by decide) ?_
            refine A_goto (tgt := 169) hC dX11_count_165 (by decide) ?_
            exact A_to (hj169 (1 : Int32) D13) (And.intro rfl (And.intro rfl (And.intro rfl (trivial))))
    exact A_to (hj133 (0 : Int32) (0 : Int32) D2) (And.intro rfl (And.intro rfl (And.intro rfl (And.intro rfl (trivial)))))
  · refine A_iconst (v := 0) hC dX11_count_56 (by decide) ?_
    refine A_istore_n (lv2 := [some (.ref (g.1 + 0)), some (.int a1), some (.int (0 : Int32)), some (.int (0 : Int32))]) hC dX11_count_57 (Nat.le_of_ble_eq_true rfl) rfl rfl ?_
    refine A_join (fun (J : Int32 → ADD → Option (Int32 × ADD)) => ∀ (x1 : Int32) (D3 : ADD), AT aVi g b 89 [none, none, some (.int x1), none] [] D3 (J x1 D3)) (fun x1 D3 => ?_) (fun j89 hj89 => ?_)
    · refine A_iload_n hC dX11_count_89 rfl ?_
      exact A_iret hC dX11_count_90
    refine A_join (fun (J : Int32 → Int32 → ADD → Option (Int32 × ADD)) => ∀ (x2 : Int32) (x3 : Int32) (D4 : ADD), AT aVi g b 58 [some (.ref (g.1 + 0)), none, some (.int x2), some (.int x3)] [] D4 (J x2 x3 D4)) (aFix_all (fun (J : Int32 → Int32 → ADD → Option (Int32 × ADD)) => ∀ (x2 : Int32) (x3 : Int32) (D4 : ADD), AT aVi g b 58 [some (.ref (g.1 + 0)), none, some (.int x2), some (.int x3)] [] D4 (J x2 x3 D4)) (fun _ _ _ => A_none) (fun L58 hL58 x2 x3 D4 => ?_) _) (fun j58 hj58 => ?_)
    · unfold lX11_count_58
      refine A_iload_n hC dX11_count_58 rfl ?_
      refine A_aload_n hC dX11_count_59 rfl ?_
      refine A_geti (kf := 41) hC kX11 (lM_0 hL) rfl (by decide) (by decide) rfl w_1044 dX11_count_60 ?_
      refine A_icmp_ge (tgt := 89) hC dX11_count_63 (by decide) ?_ ?_
      · exact A_to (hj89 x2 D4) (And.intro rfl (trivial))
      · refine A_iload_n hC dX11_count_66 rfl ?_
        refine A_aload_n hC dX11_count_67 rfl ?_
        refine A_getr (kf := 42) hC kX11 (lM_0 hL) rfl (by decide) (by decide) rfl rfl w_1045 dX11_count_68 ?_
        refine A_iload_n hC dX11_count_71 rfl ?_
        refine A_zald hC (lM_31 hL) dX11_count_72 ?_
        refine A_join (fun (J : Int32 → ADD → Option (Int32 × ADD)) => ∀ (x4 : Int32) (D5 : ADD), AT aVi g b 81 [some (.ref (g.1 + 0)), none, none, some (.int x3)] [.int x4, .int x2] D5 (J x4 D5)) (fun x4 D5 => ?_) (fun j81 hj81 => ?_)
        · refine A_iadd hC dX11_count_81 ?_
          refine A_topi (fun x5 => ?_)
          refine A_istore_n (lv2 := [some (.ref (g.1 + 0)), none, some (.int x5), some (.int x3)]) hC dX11_count_82 (Nat.le_of_ble_eq_true rfl) rfl rfl ?_
          refine A_iincL (z := (1 : Int32)) (lv2 := fun x6 => [some (.ref (g.1 + 0)), none, some (.int x5), some (.int x6)]) hC dX11_count_83 rfl (by decide) (Nat.le_of_ble_eq_true rfl) rfl (fun _ => rfl) (fun x6 => ?_)
          refine A_goto (tgt := 58) hC dX11_count_86 (by decide) ?_
          exact A_to (hL58 x5 x6 D5) (And.intro rfl (And.intro rfl (And.intro rfl (trivial))))
        refine A_if_eq (tgt := 80) hC dX11_count_73 (by decide) ?_ ?_
        · refine A_iconst (v := 0) hC dX11_count_80 (by decide) ?_
          exact A_to (hj81 (0 : Int32) D4) (And.intro rfl (And.intro rfl (trivial)))
        · refine A_iconst (v := 1) hC dX11_count_76 (by decide) ?_
          refine A_goto (tgt := 81) hC dX11_count_77 (by decide) ?_
          exact A_to (hj81 (1 : Int32) D4) (And.intro rfl (And.intro rfl (trivial)))
    exact A_to (hj58 (0 : Int32) (0 : Int32) D2) (And.intro rfl (And.intro rfl (And.intro rfl (trivial))))
  · refine A_aload_n hC dX11_count_91 rfl ?_
    refine A_callVi (As := []) (st := []) hC (fun l => mX11_those l g hL D2) (lM_0 hL) rfl (Nat.le_of_ble_eq_true rfl) yc_X11_344 rfl rfl ⟨by decide, by decide⟩ (Nat.le_of_ble_eq_true rfl) rfl dX11_count_92 (fun x7 D6 => ?_)
    exact A_iret hC dX11_count_95
  · refine A_aload_n hC dX11_count_96 rfl ?_
    refine A_getr (kf := 8) hC kX11 (lM_0 hL) rfl (by decide) (by decide) rfl rfl w_1011 dX11_count_97 ?_
    refine A_iconst (v := 0) hC dX11_count_100 (by decide) ?_
    refine A_iald hC (lM_8 hL) dX11_count_101 ?_
    exact A_iret hC dX11_count_102
  · refine A_aload_n hC dX11_count_103 rfl ?_
    refine A_getr (kf := 6) hC kX11 (lM_0 hL) rfl (by decide) (by decide) rfl rfl w_1009 dX11_count_104 ?_
    refine A_iconst (v := 0) hC dX11_count_107 (by decide) ?_
    refine A_iald hC (lM_6 hL) dX11_count_108 ?_
    exact A_iret hC dX11_count_109
  · refine A_aload_n hC dX11_count_110 rfl ?_
    refine A_getr (kf := 7) hC kX11 (lM_0 hL) rfl (by decide) (by decide) rfl rfl w_1010 dX11_count_111 ?_
    refine A_iconst (v := 0) hC dX11_count_114 (by decide) ?_
    refine A_iald hC (lM_7 hL) dX11_count_115 ?_
    exact A_iret hC dX11_count_116
  · refine A_aload_n hC dX11_count_117 rfl ?_
    refine A_getr (kf := 15) hC kX11 (lM_0 hL) rfl (by decide) (by decide) rfl rfl w_1018 dX11_count_118 ?_
    refine A_iconst (v := 0) hC dX11_count_121 (by decide) ?_
    refine A_iald hC (lM_15 hL) dX11_count_122 ?_
    exact A_iret hC dX11_count_123
  · refine A_aload_n hC dX11_count_124 rfl ?_
    refine A_getr (kf := 15) hC kX11 (lM_0 hL) rfl (by decide) (by decide) rfl rfl w_1018 dX11_count_125 ?_
    refine A_iconst (v := 1) hC dX11_count_128 (by decide) ?_
    refine A_iald hC (lM_15 hL) dX11_count_129 ?_
    exact A_iret hC dX11_count_130
def lX11_heap_131 (x4 : Int32) (j146 : Int32 → ADD → Option (Int32 × ADD)) (L131 : Int32 → ADD → Option (Int32 × ADD)) (x6 : Int32) (D8 : ADD) : Option (Int32 × ADD) := (if ((x4 >>> (x6 &&& 31)) &&& (1 : Int32)) = 0 then aLet (x6 + (1 : Int32)) (fun x7 => L131 x7 D8) else j146 x6 D8)
def lX11_heap_72 (a2 : Int32) (x12 : Int32) (j119 : Int32 → ADD → Option (Int32 × ADD)) (L72 : Int32 → Int32 → ADD → Option (Int32 × ADD)) (x15 : Int32) (x16 : Int32) (D13 : ADD) : Option (Int32 × ADD) := (if (D13.1 0 41) ≤ x16 then j119 x15 D13 else aLet (fun (x17 : Int32) (D14 : ADD) => aLet (x15 ||| x17) (fun x18 => aLet (x16 + (1 : Int32)) (fun x19 => L72 x18 x19 D14))) (fun (j111 : Int32 → ADD → Option (Int32 × ADD)) => aLet (fun (D15 : ADD) => j111 (0 : Int32) D15) (fun (j110 : ADD → Option (Int32 × ADD)) => (if ((x15 >>> (x12 &&& 31)) &&& (1 : Int32)) = 0 then j110 D13 else aBind (fX11_areTwins x12 x16 a2 D13) (fun x20 D16 => (if x20 = 0 then j110 D16 else j111 ((1 : Int32) <<< (x16 &&& 31)) D16))))))
def lX11_heap_60 (a2 : Int32) (j125 : Int32 → ADD → Option (Int32 × ADD)) (L60 : Int32 → Int32 → ADD → Option (Int32 × ADD)) (x11 : Int32) (x12 : Int32) (D11 : ADD) : Option (Int32 × ADD) := (if (D11.1 0 41) ≤ x12 then j125 x11 D11 else aLet (fun (x13 : Int32) (D12 : ADD) => aLet (x12 + (1 : Int32)) (fun x14 => L60 x13 x14 D12)) (fun (j119 : Int32 → ADD → Option (Int32 × ADD)) => aLet (aFix aFuel (lX11_heap_72 a2 x12 j119) (fun _ _ _ => none)) (fun j72 => j72 x11 (0 : Int32) D11)))
def lX11_heap_48 (a2 : Int32) (j128 : Int32 → ADD → Option (Int32 × ADD)) (L48 : Int32 → Int32 → ADD → Option (Int32 × ADD)) (x8 : Int32) (x9 : Int32) (D9 : ADD) : Option (Int32 × ADD) := (if x9 = x8 then j128 x8 D9 else aLet (fun (x10 : Int32) (D10 : ADD) => L48 x10 x8 D10) (fun (j125 : Int32 → ADD → Option (Int32 × ADD)) => aLet (aFix aFuel (lX11_heap_60 a2 j125) (fun _ _ _ => none)) (fun j60 => j60 x8 (0 : Int32) D9)))
def fX11_heap (a1 : Int32) (a2 : Int32) (D : ADD) : Option (Int32 × ADD) := aLet (aSI D 0 0 (0 : Int32)) (fun D1 => aBind (fX11_isStone a1 D1) (fun x1 D2 => aLet (fun (D3 : ADD) => some ((-1 : Int32), D3)) (fun (j24 : ADD → Option (Int32 × ADD)) => (if x1 = 0 then j24 D2 else aBind (fX11_is a2 (0 : Int32) (500 : Int32) D2) (fun x2 D4 => (if x2 = 0 then j24 D4 else aBind (fX11_look D4) (fun _ D5 => aIn a1 32 ((if (aBz (D5.1 35 a1.toNatClampNeg)) = 0 then some ((-1 : Int32), D5) else aLet ((1 : Int32) <<< (a1 &&& 31)) (fun x3 => aLet (fun (x4 : Int32) (D6 : ADD) => aLet (fun (x5 : Int32) (D7 : ADD) => some (x5, D7)) (fun (j146 : Int32 → ADD → Option (Int32 × ADD)) => aLet (aFix aFuel (lX11_heap_131 x4 j146) (fun _ _ => none)) (fun j131 => j131 (0 : Int32) D6))) (fun (j128 : Int32 → ADD → Option (Int32 × ADD)) => aLet (aFix aFuel (lX11_heap_48 a2 j128) (fun _ _ _ => none)) (fun j48 => j48 x3 (0 : Int32) D5))))))))))))
set_option maxHeartbeats 4000000 in
set_option maxRecDepth 100000 in
theorem mX11_heap (l : Launch) (g : AGl) (hL : aLM g) (a1 : Int32) (a2 : Int32) (D : ADD) : AM aVi l yX11_heap cX11_heap 7 (some .int) 3 g [.ref (g.1 + 0), .int a1, .int a2] D (fX11_heap a1 a2 D) := by
  refine AM_of (lv0 := [some (.ref (g.1 + 0)), some (.int a1), some (.int a2), none, none, none, none]) (own := RX11) (by decide +kernel) rfl (Nat.le_of_ble_eq_true rfl) rfl (fun b hC => ?_)
  unfold fX11_heap
  refine A_aload_n hC dX11_heap_0 rfl ?_
  refine A_iconst (v := 0) hC dX11_heap_1 (by decide) ?_
  refine A_puti (kf := 0) hC kX11 (lM_0 hL) rfl (by decide) (by decide) rfl rfl rfl w_1003 dX11_heap_2 (fun D1 => ?_)
  refine A_aload_n hC dX11_heap_5 rfl ?_
  refine A_iload_n hC dX11_heap_6 rfl ?_
  refine A_callVi (As := [.int a1]) (st := []) hC (fun l => mX11_isStone l g hL a1 D1) (lM_0 hL) rfl (Nat.le_of_ble_eq_true rfl) yc_X11_157 rfl rfl ⟨by decide, by decide⟩ (Nat.le_of_ble_eq_true rfl) rfl dX11_heap_7 (fun x1 D2 => ?_)
  refine A_join (fun (J : ADD → Option (Int32 × ADD)) => ∀ (D3 : ADD), AT aVi g b 24 [none, none, none, none, none, none, none] [] D3 (J D3)) (fun D3 => ?_) (fun j24 hj24 => ?_)
  · refine A_iconst (v := -1) hC dX11_heap_24 (by decide) ?_
    exact A_iret hC dX11_heap_25
  refine A_if_eq (tgt := 24) hC dX11_heap_10 (by decide) ?_ ?_
  · exact A_to (hj24 D2) (trivial)
  · refine A_iload_n hC dX11_heap_13 rfl ?_
    refine A_iconst (v := 0) hC dX11_heap_14 (by decide) ?_
    refine A_sipush (v := 500) hC dX11_heap_15 (by decide) ?_
    refine A_callSi (As := [.int a2, .int (0 : Int32), .int (500 : Int32)]) (st := []) hC (fun l => mX11_is l g a2 (0 : Int32) (500 : Int32) D2) yc_X11_138 rfl rfl ⟨by decide, by decide⟩ (Nat.le_of_ble_eq_true rfl) rfl dX11_heap_18 (fun x2 D4 => ?_)
    refine A_if_ne (tgt := 26) hC dX11_heap_21 (by decide) ?_ ?_
    · refine A_aload_n hC dX11_heap_26 rfl ?_
      refine A_callVv (As := []) (st := []) hC (fun l => mX11_look l g hL D4) (lM_0 hL) rfl (Nat.le_of_ble_eq_true rfl) yc_X11_311 rfl rfl ⟨by decide, by decide⟩ (Nat.le_of_ble_eq_true rfl) rfl dX11_heap_27 (fun _ D5 => ?_)
      refine A_aload_n hC dX11_heap_30 rfl ?_
      refine A_getr (kf := 46) hC kX11 (lM_0 hL) rfl (by decide) (by decide) rfl rfl w_1049 dX11_heap_31 ?_
      refine A_iload_n hC dX11_heap_34 rfl ?_
      refine A_zald hC (lM_35 hL) dX11_heap_35 ?_
      refine A_if_ne (tgt := 41) hC dX11_heap_36 (by decide) ?_ ?_
      · refine A_iconst (v := 1) hC dX11_heap_41 (by decide) ?_
        refine A_iload_n hC dX11_heap_42 rfl ?_
        refine A_ishl hC dX11_heap_43 ?_
        refine A_topi (fun x3 => ?_)
        refine A_istore_n (lv2 := [some (.ref (g.1 + 0)), some (.int a1), some (.int a2), some (.int x3), none, none, none]) hC dX11_heap_44 (Nat.le_of_ble_eq_true rfl) rfl rfl ?_
        refine A_iconst (v := 0) hC dX11_heap_45 (by decide) ?_
        refine A_istore (lv2 := [some (.ref (g.1 + 0)), some (.int a1), some (.int a2), some (.int x3), some (.int (0 : Int32)), none, none]) hC dX11_heap_46 (Nat.le_of_ble_eq_true rfl) rfl rfl ?_
        refine A_join (fun (J : Int32 → ADD → Option (Int32 × ADD)) => ∀ (x4 : Int32) (D6 : ADD), AT aVi g b 128 [none, none, none, some (.int x4), none, none, none] [] D6 (J x4 D6)) (fun x4 D6 => ?_) (fun j128 hj128 => ?_)
        · refine A_iconst (v := 0) hC dX11_heap_128 (by decide) ?_
          refine A_istore (lv2 := [none, none, none, some (.int x4), none, some (.int (0 : Int32)), none]) hC dX11_heap_129 (Nat.le_of_ble_eq_true rfl) rfl rfl ?_
          refine A_join (fun (J : Int32 → ADD → Option (Int32 × ADD)) => ∀ (x5 : Int32) (D7 : ADD), AT aVi g b 146 [none, none, none, none, none, some (.int x5), none] [] D7 (J x5 D7)) (fun x5 D7 => ?_) (fun j146 hj146 => ?_)
          · refine A_iload hC dX11_heap_146 rfl ?_
            exact A_iret hC dX11_heap_148
          refine A_join (fun (J : Int32 → ADD → Option (Int32 × ADD)) => ∀ (x6 : Int32) (D8 : ADD), AT aVi g b 131 [none, none, none, some (.int x4), none, some (.int x6), none] [] D8 (J x6 D8)) (aFix_all (fun (J : Int32 → ADD → Option (Int32 × ADD)) => ∀ (x6 : Int32) (D8 : ADD), AT aVi g b 131 [none, none, none, some (.int x4), none, some (.int x6), none] [] D8 (J x6 D8)) (fun _ _ => A_none) (fun L131 hL131 x6 D8 => ?_) _) (fun j131 hj131 => ?_)
          · unfold lX11_heap_131
            refine A_iload_n hC dX11_heap_131 rfl ?_
            refine A_iload hC dX11_heap_132 rfl ?_
            refine A_ishr hC dX11_heap_134 ?_
            refine A_iconst (v := 1) hC dX11_heap_135 (by decide) ?_
            refine A_iand hC dX11_heap_136 ?_
            refine A_if_ne (tgt := 146) hC dX11_heap_137 (by decide) ?_ ?_
            · exact A_to (hj146 x6 D8) (And.intro rfl (trivial))
            · refine A_iincL (z := (1 : Int32)) (lv2 := fun x7 => [none, none, none, some (.int x4), none, some (.int x7), none]) hC dX11_heap_140 rfl (by decide) (Nat.le_of_ble_eq_true rfl) rfl (fun _ => rfl) (fun x7 => ?_)
              refine A_goto (tgt := 131) hC dX11_heap_143 (by decide) ?_
              exact A_to (hL131 x7 D8) (And.intro rfl (And.intro rfl (trivial)))
          exact A_to (hj131 (0 : Int32) D6) (And.intro rfl (And.intro rfl (trivial)))
        refine A_join (fun (J : Int32 → Int32 → ADD → Option (Int32 × ADD)) => ∀ (x8 : Int32) (x9 : Int32) (D9 : ADD), AT aVi g b 48 [some (.ref (g.1 + 0)), none, some (.int a2), some (.int x8), some (.int x9), none, none] [] D9 (J x8 x9 D9)) (aFix_all (fun (J : Int32 → Int32 → ADD → Option (Int32 × ADD)) => ∀ (x8 : Int32) (x9 : Int32) (D9 : ADD), AT aVi g b 48 [some (.ref (g.1 + 0)), none, some (.int a2), some (.int x8), some (.int x9), none, none] [] D9 (J x8 x9 D9)) (fun _ _ _ => A_none) (fun L48 hL48 x8 x9 D9 => ?_) _) (fun j48 hj48 => ?_)
        · unfold lX11_heap_48
          refine A_iload hC dX11_heap_48 rfl ?_
          refine A_iload_n hC dX11_heap_50 rfl ?_
          refine A_icmp_eq (tgt := 128) hC dX11_heap_51 (by decide) ?_ ?_
          · exact A_to (hj128 x8 D9) (And.intro rfl (trivial))
          · refine A_iload_n hC dX11_heap_54 rfl ?_
            refine A_istore (lv2 := [some (.ref (g.1 + 0)), none, some (.int a2), some (.int x8), some (.int x8), none, none]) hC dX11_heap_55 (Nat.le_of_ble_eq_true rfl) rfl rfl ?_
            refine A_iconst (v := 0) hC dX11_heap_57 (by decide) ?_
            refine A_istore (lv2 := [some (.ref (g.1 + 0)), none, some (.int a2), some (.int x8), some (.int x8), some (.int (0 : Int32)), none]) hC dX11_heap_58 (Nat.le_of_ble_eq_true rfl) rfl rfl ?_
            refine A_join (fun (J : Int32 → ADD → Option (Int32 × ADD)) => ∀ (x10 : Int32) (D10 : ADD), AT aVi g b 125 [some (.ref (g.1 + 0)), none, some (.int a2), some (.int x10), some (.int x8), none, none] [] D10 (J x10 D10)) (fun x10 D10 => ?_) (fun j125 hj125 => ?_)
            · refine A_goto (tgt := 48) hC dX11_heap_125 (by decide) ?_
              exact A_to (hL48 x10 x8 D10) (And.intro rfl (And.intro rfl (And.intro rfl (And.intro rfl (trivial)))))
            refine A_join (fun (J : Int32 → Int32 → ADD → Option (Int32 × ADD)) => ∀ (x11 : Int32) (x12 : Int32) (D11 : ADD), AT aVi g b 60 [some (.ref (g.1 + 0)), none, some (.int a2), some (.int x11), some (.int x8), some (.int x12), none] [] D11 (J x11 x12 D11)) (aFix_all (fun (J : Int32 → Int32 → ADD → Option (Int32 × ADD)) => ∀ (x11 : Int32) (x12 : Int32) (D11 : ADD), AT aVi g b 60 [some (.ref (g.1 + 0)), none, some (.int a2), some (.int x11), some (.int x8), some (.int x12), none] [] D11 (J x11 x12 D11)) (fun _ _ _ => A_none) (fun L60 hL60 x11 x12 D11 => ?_) _) (fun j60 hj60 => ?_)
            · unfold lX11_heap_60
              refine A_iload hC dX11_heap_60 rfl ?_
              refine A_aload_n hC dX11_heap_62 rfl ?_
              refine A_geti (kf := 41) hC kX11 (lM_0 hL) rfl (by decide) (by decide) rfl w_1044 dX11_heap_63 ?_
              refine A_icmp_ge (tgt := 125) hC dX11_heap_66 (by decide) ?_ ?_
              · exact A_to (hj125 x11 D11) (And.intro rfl (And.intro rfl (And.intro rfl (And.intro rfl (trivial)))))
              · refine A_iconst (v := 0) hC dX11_heap_69 (by decide) ?_
                refine A_istore (lv2 := [some (.ref (g.1 + 0)), none, some (.int a2), some (.int x11), some (.int x8), some (.int x12), some (.int (0 : Int32))]) hC dX11_heap_70 (Nat.le_of_ble_eq_true rfl) rfl rfl ?_
                refine A_join (fun (J : Int32 → ADD → Option (Int32 × ADD)) => ∀ (x13 : Int32) (D12 : ADD), AT aVi g b 119 [some (.ref (g.1 + 0)), none, some (.int a2), some (.int x13), some (.int x8), some (.int x12), none] [] D12 (J x13 D12)) (fun x13 D12 => ?_) (fun j119 hj119 => ?_)
                · refine A_iincL (z := (1 : Int32)) (lv2 := fun x14 => [some (.ref (g.1 + 0)), none, some (.int a2), some (.int x13), some (.int x8), some (.int x14), none]) hC dX11_heap_119 rfl (by decide) (Nat.le_of_ble_eq_true rfl) rfl (fun _ => rfl) (fun x14 => ?_)
                  refine A_goto (tgt := 60) hC dX11_heap_122 (by decide) ?_
                  exact A_to (hL60 x13 x14 D12) (And.intro rfl (And.intro rfl (And.intro rfl (And.intro rfl (And.intro rfl (trivial))))))
                refine A_join (fun (J : Int32 → Int32 → ADD → Option (Int32 × ADD)) => ∀ (x15 : Int32) (x16 : Int32) (D13 : ADD), AT aVi g b 72 [some (.ref (g.1 + 0)), none, some (.int a2), some (.int x15), some (.int x8), some (.int x12), some (.int x16)] [] D13 (J x15 x16 D13)) (aFix_all (fun (J : Int32 → Int32 → ADD → Option (Int32 × ADD)) => ∀ (x15 : Int32) (x16 : Int32) (D13 : ADD), AT aVi g b 72 [some (.ref (g.1 + 0)), none, some (.int a2), some (.int x15), some (.int x8), some (.int x12), some (.int x16)] [] D13 (J x15 x16 D13)) (fun _ _ _ => A_none) (fun L72 hL72 x15 x16 D13 => ?_) _) (fun j72 hj72 => ?_)
                · unfold lX11_heap_72
                  refine A_iload hC dX11_heap_72 rfl ?_
                  refine A_aload_n hC dX11_heap_74 rfl ?_
                  refine A_geti (kf := 41) hC kX11 (lM_0 hL) rfl (by decide) (by decide) rfl w_1044 dX11_heap_75 ?_
                  refine A_icmp_ge (tgt := 119) hC dX11_heap_78 (by decide) ?_ ?_
                  · exact A_to (hj119 x15 D13) (And.intro rfl (And.intro rfl (And.intro rfl (And.intro rfl (And.intro rfl (trivial))))))
                  · refine A_iload_n hC dX11_heap_81 rfl ?_
                    refine A_iload_n hC dX11_heap_82 rfl ?_
                    refine A_iload hC dX11_heap_83 rfl ?_
                    refine A_ishr hC dX11_heap_85 ?_
                    refine A_iconst (v := 1) hC dX11_heap_86 (by decide) ?_
                    refine A_iand hC dX11_heap_87 ?_
                    refine A_join (fun (J : Int32 → ADD → Option (Int32 × ADD)) => ∀ (x17 : Int32) (D14 : ADD), AT aVi g b 111 [some (.ref (g.1 + 0)), none, some (.int a2), none, some (.int x8), some (.int x12), some (.int x16)] [.int x17, .int x15] D14 (J x17 D14)) (fun x17 D14 => ?_) (fun j111 hj111 => ?_)
                    · refine A_ior hC dX11_heap_111 ?_
                      refine A_topi (fun x18 => ?_)
                      refine A_istore_n (lv2 := [some (.ref (g.1 + 0)), none, some (.int a2), some (.int x18), some (.int x8), some (.int x12), some (.int x16)]) hC dX11_heap_112 (Nat.le_of_ble_eq_true rfl) rfl rfl ?_
                      refine A_iincL (z := (1 : Int32)) (lv2 := fun x19 => [some (.ref (g.1 + 0)), none, some (.int a2), some (.int x18), some (.int x8), some (.int x12), some (.int x19)]) hC dX11_heap_113 rfl (by decide) (Nat.le_of_ble_eq_true rfl) rfl (fun _ => rfl) (fun x19 => ?_)
                      refine A_goto (tgt := 72) hC dX11_heap_116 (by decide) ?_
                      exact A_to (hL72 x18 x19 D14) (And.intro rfl (And.intro rfl (And.intro rfl (And.intro rfl (And.intro rfl (And.intro rfl (trivial)))))))
                    refine A_join (fun (J : ADD → Option (Int32 × ADD)) => ∀ (D15 : ADD), AT aVi g b 110 [some (.ref (g.1 + 0)), none, some (.int a2), none, some (.int x8), some (.int x12), some (.int x16)] [.int x15] D15 (J D15)) (fun D15 => ?_) (fun j110 hj110 => ?_)
                    · refine A_iconst (v := 0) hC dX11_heap_110 (by decide) ?_
                      exact A_to (hj111 (0 : Int32) D15) (And.intro rfl (And.intro rfl (And.intro rfl (And.intro rfl (And.intro rfl (trivial))))))
                    refine A_if_eq (tgt := 110) hC dX11_heap_88 (by decide) ?_ ?_
                    · exact A_to (hj110 D13) (And.intro rfl (And.intro rfl (And.intro rfl (And.intro rfl (And.intro rfl (trivial))))))
                    · refine A_aload_n hC dX11_heap_91 rfl ?_
                      refine A_iload hC dX11_heap_92 rfl ?_
                      refine A_iload hC dX11_heap_94 rfl ?_
                      refine A_iload_n hC dX11_heap_96 rfl ?_
                      refine A_callVi (As := [.int x12, .int x16, .int a2]) (st := [.int x15]) hC (fun l => mX11_areTwins l g hL x12 x16 a2 D13) (lM_0 hL) rfl (Nat.le_of_ble_eq_true rfl) yc_X11_406 rfl rfl ⟨by decide, by decide⟩ (Nat.le_of_ble_eq_true rfl) rfl dX11_heap_97 (fun x20 D16 => ?_)
                      refine A_if_eq (tgt := 110) hC dX11_heap_100 (by decide) ?_ ?_
                      · exact A_to (hj110 D16) (And.intro rfl (And.intro rfl (And.intro rfl (And.intro rfl (And.intro rfl (trivial))))))
                      · refine A_iconst (v := 1) hC dX11_heap_103 (by decide) ?_
                        refine A_iload hC dX11_heap_104 rfl ?_
                        refine A_ishl hC dX11_heap_106 ?_
                        refine A_goto (tgt := 111) hC dX11_heap_107 (by decide) ?_
                        exact A_to (hj111 ((1 : Int32) <<< (x16 &&& 31)) D16) (And.intro rfl (And.intro rfl (And.intro rfl (And.intro rfl (And.intro rfl (trivial))))))
                exact A_to (hj72 x11 (0 : Int32) D11) (And.intro rfl (And.intro rfl (And.intro rfl (And.intro rfl (And.intro rfl (And.intro rfl (trivial)))))))
            exact A_to (hj60 x8 (0 : Int32) D9) (And.intro rfl (And.intro rfl (And.intro rfl (And.intro rfl (And.intro rfl (trivial))))))
        exact A_to (hj48 x3 (0 : Int32) D5) (And.intro rfl (And.intro rfl (And.intro rfl (And.intro rfl (trivial)))))
      · refine A_iconst (v := -1) hC dX11_heap_39 (by decide) ?_
        exact A_iret hC dX11_heap_40
    · exact A_to (hj24 D4) (trivial)
def lX11_nearOf_4 (a1 : Int32) (j48 : Int32 → ADD → Option (Int32 × ADD)) (L4 : Int32 → Int32 → ADD → Option (Int32 × ADD)) (x2 : Int32) (x3 : Int32) (D2 : ADD) : Option (Int32 × ADD) := (if (D2.1 0 41) ≤ x3 then j48 x2 D2 else aIn x3 32 (aLet (fun (x4 : Int32) (D3 : ADD) => aLet (x2 + x4) (fun x5 => aLet (x3 + (1 : Int32)) (fun x6 => L4 x5 x6 D3))) (fun (j40 : Int32 → ADD → Option (Int32 × ADD)) => aLet (fun (D4 : ADD) => j40 (0 : Int32) D4) (fun (j39 : ADD → Option (Int32 × ADD)) => (if (aBz (D2.1 35 x3.toNatClampNeg)) = 0 then j39 D2 else aBind (fX11_off x3 a1 D2) (fun x7 D5 => (if a1 < ((8 : Int32) * x7) then j39 D5 else j40 (1 : Int32) D5)))))))
def fX11_nearOf (a1 : Int32) (D : ADD) : Option (Int32 × ADD) := aLet (fun (x1 : Int32) (D1 : ADD) => some (x1, D1)) (fun (j48 : Int32 → ADD → Option (Int32 × ADD)) => aLet (aFix aFuel (lX11_nearOf_4 a1 j48) (fun _ _ _ => none)) (fun j4 => j4 (0 : Int32) (0 : Int32) D))
set_option maxHeartbeats 4000000 in
set_option maxRecDepth 100000 in
theorem mX11_nearOf (l : Launch) (g : AGl) (hL : aLM g) (a1 : Int32) (D : ADD) : AM aVi l yX11_nearOf cX11_nearOf 4 (some .int) 3 g [.ref (g.1 + 0), .int a1] D (fX11_nearOf a1 D) := by
  refine AM_of (lv0 := [some (.ref (g.1 + 0)), some (.int a1), none, none]) (own := RX11) (by decide +kernel) rfl (Nat.le_of_ble_eq_true rfl) rfl (fun b hC => ?_)
  unfold fX11_nearOf
  refine A_iconst (v := 0) hC dX11_nearOf_0 (by decide) ?_
  refine A_istore_n (lv2 := [some (.ref (g.1 + 0)), some (.int a1), some (.int (0 : Int32)), none]) hC dX11_nearOf_1 (Nat.le_of_ble_eq_true rfl) rfl rfl ?_
  refine A_iconst (v := 0) hC dX11_nearOf_2 (by decide) ?_
  refine A_istore_n (lv2 := [some (.ref (g.1 + 0)), some (.int a1), some (.int (0 : Int32)), some (.int (0 : Int32))]) hC dX11_nearOf_3 (Nat.le_of_ble_eq_true rfl) rfl rfl ?_
  refine A_join (fun (J : Int32 → ADD → Option (Int32 × ADD)) => ∀ (x1 : Int32) (D1 : ADD), AT aVi g b 48 [none, none, some (.int x1), none] [] D1 (J x1 D1)) (fun x1 D1 => ?_) (fun j48 hj48 => ?_)
  · refine A_iload_n hC dX11_nearOf_48 rfl ?_
    exact A_iret hC dX11_nearOf_49
  refine A_join (fun (J : Int32 → Int32 → ADD → Option (Int32 × ADD)) => ∀ (x2 : Int32) (x3 : Int32) (D2 : ADD), AT aVi g b 4 [some (.ref (g.1 + 0)), some (.int a1), some (.int x2), some (.int x3)] [] D2 (J x2 x3 D2)) (aFix_all (fun (J : Int32 → Int32 → ADD → Option (Int32 × ADD)) => ∀ (x2 : Int32) (x3 : Int32) (D2 : ADD), AT aVi g b 4 [some (.ref (g.1 + 0)), some (.int a1), some (.int x2), some (.int x3)] [] D2 (J x2 x3 D2)) (fun _ _ _ => A_none) (fun L4 hL4 x2 x3 D2 => ?_) _) (fun j4 hj4 => ?_)
  · unfold lX11_nearOf_4
    refine A_iload_n hC dX11_nearOf_4 rfl ?_
    refine A_aload_n hC dX11_nearOf_5 rfl ?_
    refine A_geti (kf := 41) hC kX11 (lM_0 hL) rfl (by decide) (by decide) rfl w_1044 dX11_nearOf_6 ?_
    refine A_icmp_ge (tgt := 48) hC dX11_nearOf_9 (by decide) ?_ ?_
    · exact A_to (hj48 x2 D2) (And.intro rfl (trivial))
    · refine A_iload_n hC dX11_nearOf_12 rfl ?_
      refine A_aload_n hC dX11_nearOf_13 rfl ?_
      refine A_getr (kf := 46) hC kX11 (lM_0 hL) rfl (by decide) (by decide) rfl rfl w_1049 dX11_nearOf_14 ?_
      refine A_iload_n hC dX11_nearOf_17 rfl ?_
      refine A_zald hC (lM_35 hL) dX11_nearOf_18 ?_
      refine A_join (fun (J : Int32 → ADD → Option (Int32 × ADD)) => ∀ (x4 : Int32) (D3 : ADD), AT aVi g b 40 [some (.ref (g.1 + 0)), some (.int a1), none, some (.int x3)] [.int x4, .int x2] D3 (J x4 D3)) (fun x4 D3 => ?_) (fun j40 hj40 => ?_)
      · refine A_iadd hC dX11_nearOf_40 ?_
        refine A_topi (fun x5 => ?_)
        refine A_istore_n (lv2 := [some (.ref (g.1 + 0)), some (.int a1), some (.int x5), some (.int x3)]) hC dX11_nearOf_41 (Nat.le_of_ble_eq_true rfl) rfl rfl ?_
        refine A_iincL (z := (1 : Int32)) (lv2 := fun x6 => [some (.ref (g.1 + 0)), some (.int a1), some (.int x5), some (.int x6)]) hC dX11_nearOf_42 rfl (by decide) (Nat.le_of_ble_eq_true rfl) rfl (fun _ => rfl) (fun x6 => ?_)
        refine A_goto (tgt := 4) hC dX11_nearOf_45 (by decide) ?_
        exact A_to (hL4 x5 x6 D3) (And.intro rfl (And.intro rfl (And.intro rfl (And.intro rfl (trivial)))))
      refine A_join (fun (J : ADD → Option (Int32 × ADD)) => ∀ (D4 : ADD), AT aVi g b 39 [some (.ref (g.1 + 0)), some (.int a1), none, some (.int x3)] [.int x2] D4 (J D4)) (fun D4 => ?_) (fun j39 hj39 => ?_)
      · refine A_iconst (v := 0) hC dX11_nearOf_39 (by decide) ?_
        exact A_to (hj40 (0 : Int32) D4) (And.intro rfl (And.intro rfl (And.intro rfl (trivial))))
      refine A_if_eq (tgt := 39) hC dX11_nearOf_19 (by decide) ?_ ?_
      · exact A_to (hj39 D2) (And.intro rfl (And.intro rfl (And.intro rfl (trivial))))
      · refine A_bipush (v := 8) hC dX11_nearOf_22 (by decide) ?_
        refine A_aload_n hC dX11_nearOf_24 rfl ?_
        refine A_iload_n hC dX11_nearOf_25 rfl ?_
        refine A_iload_n hC dX11_nearOf_26 rfl ?_
        refine A_callVi (As := [.int x3, .int a1]) (st := [.int (8 : Int32), .int x2]) hC (fun l => mX11_off l g hL x3 a1 D2) (lM_0 hL) rfl (Nat.le_of_ble_eq_true rfl) yc_X11_323 rfl rfl ⟨by decide, by decide⟩ (Nat.le_of_ble_eq_true rfl) rfl dX11_nearOf_27 (fun x7 D5 => ?_)
        refine A_imul hC dX11_nearOf_30 ?_
        refine A_iload_n hC dX11_nearOf_31 rfl ?_
        refine A_icmp_gt (tgt := 39) hC dX11_nearOf_32 (by decide) ?_ ?_
        · exact A_to (hj39 D5) (And.intro rfl (And.intro rfl (And.intro rfl (trivial))))
        · refine A_iconst (v := 1) hC dX11_nearOf_35 (by decide) ?_
          refine A_goto (tgt := 40) hC dX11_nearOf_36 (by decide) ?_
          exact A_to (hj40 (1 : Int32) D5) (And.intro rfl (And.intro rfl (And.intro rfl (trivial))))
  exact A_to (hj4 (0 : Int32) (0 : Int32) D) (And.intro rfl (And.intro rfl (And.intro rfl (And.intro rfl (trivial)))))
def lX11_oneLine_59 (a1 : Int32) (x1 : Int32) (j94 : ADD → Option (Int32 × ADD)) (L59 : Int32 → Int32 → ADD → Option (Int32 × ADD)) (x8 : Int32) (x9 : Int32) (D16 : ADD) : Option (Int32 × ADD) := (if x8 = 0 then j94 D16 else aBind (fX11_next D16) (fun _ D17 => aBind (fX11_test a1 x1 x9 D17) (fun x10 D18 => (if x10 = 0 then some ((0 : Int32), D18) else aBind (fX11_isWord (6385252 : Int64) D18) (fun x11 D19 => aLet (x9 + (1 : Int32)) (fun x12 => L59 x11 x12 D19))))))
def fX11_oneLine (a1 : Int32) (D : ADD) : Option (Int32 × ADD) := aLet (fun (x1 : Int32) (D1 : ADD) => aLet (fun (D2 : ADD) => aIn x1 17 (aLet (aSI D2 23 x1.toNatClampNeg (0 : Int32)) (fun D3 => aBind (fX11_isWord (26982 : Int64) D3) (fun x2 D4 => aLet (fun (D5 : ADD) => aBind (fX11_actWord a1 D5) (fun x3 D6 => aIn x1 17 (aLet (aSI D6 27 x1.toNatClampNeg x3) (fun D7 => aIn x1 17 ((if (D7.1 27 x1.toNatClampNeg) = (-1 : Int32) then aBind (fX11_wrong D7) (fun x6 D13 => aZ x6 (some (x6, D13))) else aBind (fX11_next D7) (fun _ D8 => aLet (fun (D9 : ADD) => aLet (aSI D9 0 32 ((D9.1 0 32) + (1 : Int32))) (fun D10 => aBind (fX11_need (59 : Int32) D10) (fun x4 D11 => aZ x4 (some (x4, D11))))) (fun (j159 : ADD → Option (Int32 × ADD)) => (if a1 = 0 then aIn x1 17 ((if (2 : Int32) ≤ (D8.1 27 x1.toNatClampNeg) then j159 D8 else aBind (fX11_numbers x1 D8) (fun x5 D12 => (if x5 = 0 then some ((0 : Int32), D12) else j159 D12)))) else j159 D8))))))))) (fun (j105 : ADD → Option (Int32 × ADD)) => (if x2 = 0 then j105 D4 else aLet (fun (D14 : ADD) => aBind (fX11_need (58 : Int32) D14) (fun x7 D15 => (if x7 = 0 then some ((0 : Int32), D15) else j105 D15))) (fun (j94 : ADD → Option (Int32 × ADD)) => aLet (aFix aFuel (lX11_oneLine_59 a1 x1 j94) (fun _ _ _ => none)) (fun j59 => j59 (1 : Int32) (0 : Int32) D4)))))))) (fun (j37 : ADD → Option (Int32 × ADD)) => (if (D1.1 0 32) = (16 : Int32) then aBind (fX11_later (3 : Int32) (D1.1 0 25) D1) (fun _ D20 => j37 D20) else j37 D1))) (fun (j18 : Int32 → ADD → Option (Int32 × ADD)) => (if (16 : Int32) ≤ (D.1 0 32) then j18 (16 : Int32) D else j18 (D.1 0 32) D))
set_option maxHeartbeats 4000000 in
set_option maxRecDepth 100000 in
theorem mX11_oneLine (l : Launch) (g : AGl) (hL : aLM g) (a1 : Int32) (D : ADD) : AM aVi l yX11_oneLine cX11_oneLine 5 (some .boolean) 3 g [.ref (g.1 + 0), .int a1] D (fX11_oneLine a1 D) := by
  refine AM_of (lv0 := [some (.ref (g.1 + 0)), some (.int a1), none, none, none]) (own := RX11) (by decide +kernel) rfl (Nat.le_of_ble_eq_true rfl) rfl (fun b hC => ?_)
  unfold fX11_oneLine
  refine A_aload_n hC dX11_oneLine_0 rfl ?_
  refine A_geti (kf := 32) hC kX11 (lM_0 hL) rfl (by decide) (by decide) rfl w_1035 dX11_oneLine_1 ?_
  refine A_bipush (v := 16) hC dX11_oneLine_4 (by decide) ?_
  refine A_join (fun (J : Int32 → ADD → Option (Int32 × ADD)) => ∀ (x1 : Int32) (D1 : ADD), AT aVi g b 18 [some (.ref (g.1 + 0)), some (.int a1), none, none, none] [.int x1] D1 (J x1 D1)) (fun x1 D1 => ?_) (fun j18 hj18 => ?_)
  · refine A_istore_n (lv2 := [some (.ref (g.1 + 0)), some (.int a1), some (.int x1), none, none]) hC dX11_oneLine_18 (Nat.le_of_ble_eq_true rfl) rfl rfl ?_
    refine A_aload_n hC dX11_oneLine_19 rfl ?_
    refine A_geti (kf := 32) hC kX11 (lM_0 hL) rfl (by decide) (by decide) rfl w_1035 dX11_oneLine_20 ?_
    refine A_bipush (v := 16) hC dX11_oneLine_23 (by decide) ?_
    refine A_join (fun (J : ADD → Option (Int32 × ADD)) => ∀ (D2 : ADD), AT aVi g b 37 [some (.ref (g.1 + 0)), some (.int a1), some (.int x1), none, none] [] D2 (J D2)) (fun D2 => ?_) (fun j37 hj37 => ?_)
    · refine A_aload_n hC dX11_oneLine_37 rfl ?_
      refine A_getr (kf := 33) hC kX11 (lM_0 hL) rfl (by decide) (by decide) rfl rfl w_1036 dX11_oneLine_38 ?_
      refine A_iload_n hC dX11_oneLine_41 rfl ?_
      refine A_iconst (v := 0) hC dX11_oneLine_42 (by decide) ?_
      refine A_iast hC (lM_23 hL) dX11_oneLine_43 (fun D3 => ?_)
      refine A_aload_n hC dX11_oneLine_44 rfl ?_
      refine A_ldc2 hC dX11_oneLine_45 w_1237 ?_
      refine A_callVi (As := [.long (26982 : Int64)]) (st := []) hC (fun l => mX11_isWord l g hL (26982 : Int64) D3) (lM_0 hL) rfl (Nat.le_of_ble_eq_true rfl) yc_X11_209 rfl rfl ⟨by decide, by decide⟩ (Nat.le_of_ble_eq_true rfl) rfl dX11_oneLine_48 (fun x2 D4 => ?_)
      refine A_join (fun (J : ADD → Option (Int32 × ADD)) => ∀ (D5 : ADD), AT aVi g b 105 [some (.ref (g.1 + 0)), some (.int a1), some (.int x1), none, none] [] D5 (J D5)) (fun D5 => ?_) (fun j105 hj105 => ?_)
      · refine A_aload_n hC dX11_oneLine_105 rfl ?_
        refine A_getr (kf := 37) hC kX11 (lM_0 hL) rfl (by decide) (by decide) rfl rfl w_1040 dX11_oneLine_106 ?_
        refine A_iload_n hC dX11_oneLine_109 rfl ?_
        refine A_aload_n hC dX11_oneLine_110 rfl ?_
        refine A_iload_n hC dX11_oneLine_111 rfl ?_
        refine A_callVi (As := [.int a1]) (st := [.int x1, .ref (g.1 + 27)]) hC (fun l => mX11_actWord l g hL a1 D5) (lM_0 hL) rfl (Nat.le_of_ble_eq_true rfl) yc_X11_281 rfl rfl ⟨by decide, by decide⟩ (Nat.le_of_ble_eq_true rfl) rfl dX11_oneLine_112 (fun x3 D6 => ?_)
        refine A_iast hC (lM_27 hL) dX11_oneLine_115 (fun D7 => ?_)
        refine A_aload_n hC dX11_oneLine_116 rfl ?_
        refine A_getr (kf := 37) hC kX11 (lM_0 hL) rfl (by decide) (by decide) rfl rfl w_1040 dX11_oneLine_117 ?_
        refine A_iload_n hC dX11_oneLine_120 rfl ?_
        refine A_iald hC (lM_27 hL) dX11_oneLine_121 ?_
        refine A_iconst (v := -1) hC dX11_oneLine_122 (by decide) ?_
        refine A_icmp_ne (tgt := 131) hC dX11_oneLine_123 (by decide) ?_ ?_
        · refine A_aload_n hC dX11_oneLine_131 rfl ?_
          refine A_callVv (As := []) (st := []) hC (fun l => mX11_next l g hL D7) (lM_0 hL) rfl (Nat.le_of_ble_eq_true rfl) yc_X11_204 rfl rfl ⟨by decide, by decide⟩ (Nat.le_of_ble_eq_true rfl) rfl dX11_oneLine_132 (fun _ D8 => ?_)
          refine A_iload_n hC dX11_oneLine_135 rfl ?_
          refine A_join (fun (J : ADD → Option (Int32 × ADD)) => ∀ (D9 : ADD), AT aVi g b 159 [some (.ref (g.1 + 0)), none, none, none, none] [] D9 (J D9)) (fun D9 => ?_) (fun j159 hj159 => ?_)
          · refine A_aload_n hC dX11_oneLine_159 rfl ?_
            refine A_dup hC dX11_oneLine_160 rfl ?_
            refine A_geti (kf := 32) hC kX11 (lM_0 hL) rfl (by decide) (by decide) rfl w_1035 dX11_oneLine_161 ?_
            refine A_iconst (v := 1) hC dX11_oneLine_164 (by decide) ?_
            refine A_iadd hC dX11_oneLine_165 ?_
            refine A_puti (kf := 32) hC kX11 (lM_0 hL) rfl (by decide) (by decide) rfl rfl rfl w_1035 dX11_oneLine_166 (fun D10 => ?_)
            refine A_aload_n hC dX11_oneLine_169 rfl ?_
            refine A_bipush (v := 59) hC dX11_oneLine_170 (by decide) ?_
            refine A_callVi (As := [.int (59 : Int32)]) (st := []) hC (fun l => mX11_need l g hL (59 : Int32) D10) (lM_0 hL) rfl (Nat.le_of_ble_eq_true rfl) yc_X11_278 rfl rfl ⟨by decide, by decide⟩ (Nat.le_of_ble_eq_true rfl) rfl dX11_oneLine_172 (fun x4 D11 => ?_)
            exact A_zretc hC dX11_oneLine_175
          refine A_if_ne (tgt := 159) hC dX11_oneLine_136 (by decide) ?_ ?_
          · exact A_to (hj159 D8) (And.intro rfl (trivial))
          · refine A_aload_n hC dX11_oneLine_139 rfl ?_
            refine A_getr (kf := 37) hC kX11 (lM_0 hL) rfl (by decide) (by decide) rfl rfl w_1040 dX11_oneLine_140 ?_
            refine A_iload_n hC dX11_oneLine_143 rfl ?_
            refine A_iald hC (lM_27 hL) dX11_oneLine_144 ?_
            refine A_iconst (v := 2) hC dX11_oneLine_145 (by decide) ?_
            refine A_icmp_ge (tgt := 159) hC dX11_oneLine_146 (by decide) ?_ ?_
            · exact A_to (hj159 D8) (And.intro rfl (trivial))
            · refine A_aload_n hC dX11_oneLine_149 rfl ?_
              refine A_iload_n hC dX11_oneLine_150 rfl ?_
              refine A_callVi (As := [.int x1]) (st := []) hC (fun l => mX11_numbers l g hL x1 D8) (lM_0 hL) rfl (Nat.le_of_ble_eq_true rfl) yc_X11_284 rfl rfl ⟨by decide, by decide⟩ (Nat.le_of_ble_eq_true rfl) rfl dX11_oneLine_151 (fun x5 D12 => ?_)
              refine A_if_ne (tgt := 159) hC dX11_oneLine_154 (by decide) ?_ ?_
              · exact A_to (hj159 D12) (And.intro rfl (trivial))
              · refine A_iconst (v := 0) hC dX11_oneLine_157 (by decide) ?_
                exact A_zret hC dX11_oneLine_158 (Or.inl rfl)
        · refine A_aload_n hC dX11_oneLine_126 rfl ?_
          refine A_callVi (As := []) (st := []) hC (fun l => mX11_wrong l g hL D7) (lM_0 hL) rfl (Nat.le_of_ble_eq_true rfl) yc_X11_200 rfl rfl ⟨by decide, by decide⟩ (Nat.le_of_ble_eq_true rfl) rfl dX11_oneLine_127 (fun x6 D13 => ?_)
          exact A_zretc hC dX11_oneLine_130
      refine A_if_eq (tgt := 105) hC dX11_oneLine_51 (by decide) ?_ ?_
      · exact A_to (hj105 D4) (And.intro rfl (And.intro rfl (And.intro rfl (trivial))))
      · refine A_iconst (v := 1) hC dX11_oneLine_54 (by decide) ?_
        refine A_istore_n (lv2 := [some (.ref (g.1 + 0)), some (.int a1), some (.int x1), some (.int (1 : Int32)), none]) hC dX11_oneLine_55 (Nat.le_of_ble_eq_true rfl) rfl rfl ?_
        refine A_iconst (v := 0) hC dX11_oneLine_56 (by decide) ?_
        refine A_istore (lv2 := [some (.ref (g.1 + 0)), some (.int a1), some (.int x1), some (.int (1 : Int32)), some (.int (0 : Int32))]) hC dX11_oneLine_57 (Nat.le_of_ble_eq_true rfl) rfl rfl ?_
        refine A_join (fun (J : ADD → Option (Int32 × ADD)) => ∀ (D14 : ADD), AT aVi g b 94 [some (.ref (g.1 + 0)), some (.int a1), some (.int x1), none, none] [] D14 (J D14)) (fun D14 => ?_) (fun j94 hj94 => ?_)
        · refine A_aload_n hC dX11_oneLine_94 rfl ?_
          refine A_bipush (v := 58) hC dX11_oneLine_95 (by decide) ?_
          refine A_callVi (As := [.int (58 : Int32)]) (st := []) hC (fun l => mX11_need l g hL (58 : Int32) D14) (lM_0 hL) rfl (Nat.le_of_ble_eq_true rfl) yc_X11_278 rfl rfl ⟨by decide, by decide⟩ (Nat.le_of_ble_eq_true rfl) rfl dX11_oneLine_97 (fun x7 D15 => ?_)
          refine A_if_ne (tgt := 105) hC dX11_oneLine_100 (by decide) ?_ ?_
          · exact A_to (hj105 D15) (And.intro rfl (And.intro rfl (And.intro rfl (trivial))))
          · refine A_iconst (v := 0) hC dX11_oneLine_103 (by decide) ?_
            exact A_zret hC dX11_oneLine_104 (Or.inl rfl)
        refine A_join (fun (J : Int32 → Int32 → ADD → Option (Int32 × ADD)) => ∀ (x8 : Int32) (x9 : Int32) (D16 : ADD), AT aVi g b 59 [some (.ref (g.1 + 0)), some (.int a1), some (.int x1), some (.int x8), some (.int x9)] [] D16 (J x8 x9 D16)) (aFix_all (fun (J : Int32 → Int32 → ADD → Option (Int32 × ADD)) => ∀ (x8 : Int32) (x9 : Int32) (D16 : ADD), AT aVi g b 59 [some (.ref (g.1 + 0)), some (.int a1), some (.int x1), some (.int x8), some (.int x9)] [] D16 (J x8 x9 D16)) (fun _ _ _ => A_none) (fun L59 hL59 x8 x9 D16 => ?_) _) (fun j59 hj59 => ?_)
        · unfold lX11_oneLine_59
          refine A_iload_n hC dX11_oneLine_59 rfl ?_
          refine A_if_eq (tgt := 94) hC dX11_oneLine_60 (by decide) ?_ ?_
          · exact A_to (hj94 D16) (And.intro rfl (And.intro rfl (And.intro rfl (trivial))))
          · refine A_aload_n hC dX11_oneLine_63 rfl ?_
            refine A_callVv (As := []) (st := []) hC (fun l => mX11_next l g hL D16) (lM_0 hL) rfl (Nat.le_of_ble_eq_true rfl) yc_X11_204 rfl rfl ⟨by decide, by decide⟩ (Nat.le_of_ble_eq_true rfl) rfl dX11_oneLine_64 (fun _ D17 => ?_)
            refine A_aload_n hC dX11_oneLine_67 rfl ?_
            refine A_iload_n hC dX11_oneLine_68 rfl ?_
            refine A_iload_n hC dX11_oneLine_69 rfl ?_
            refine A_iload hC dX11_oneLine_70 rfl ?_
            refine A_callVi (As := [.int a1, .int x1, .int x9]) (st := []) hC (fun l => mX11_test l g hL a1 x1 x9 D17) (lM_0 hL) rfl (Nat.le_of_ble_eq_true rfl) yc_X11_272 rfl rfl ⟨by decide, by decide⟩ (Nat.le_of_ble_eq_true rfl) rfl dX11_oneLine_72 (fun x10 D18 => ?_)
            refine A_if_ne (tgt := 80) hC dX11_oneLine_75 (by decide) ?_ ?_
            · refine A_aload_n hC dX11_oneLine_80 rfl ?_
              refine A_ldc2 hC dX11_oneLine_81 w_1270 ?_
              refine A_callVi (As := [.long (6385252 : Int64)]) (st := []) hC (fun l => mX11_isWord l g hL (6385252 : Int64) D18) (lM_0 hL) rfl (Nat.le_of_ble_eq_true rfl) yc_X11_209 rfl rfl ⟨by decide, by decide⟩ (Nat.le_of_ble_eq_true rfl) rfl dX11_oneLine_84 (fun x11 D19 => ?_)
              refine A_istore_n (lv2 := [some (.ref (g.1 + 0)), some (.int a1), some (.int x1), some (.int x11), some (.int x9)]) hC dX11_oneLine_87 (Nat.le_of_ble_eq_true rfl) rfl rfl ?_
              refine A_iincL (z := (1 : Int32)) (lv2 := fun x12 => [some (.ref (g.1 + 0)), some (.int a1), some (.int x1), some (.int x11), some (.int x12)]) hC dX11_oneLine_88 rfl (by decide) (Nat.le_of_ble_eq_true rfl) rfl (fun _ => rfl) (fun x12 => ?_)
              refine A_goto (tgt := 59) hC dX11_oneLine_91 (by decide) ?_
              exact A_to (hL59 x11 x12 D19) (And.intro rfl (And.intro rfl (And.intro rfl (And.intro rfl (And.intro rfl (trivial))))))
            · refine A_iconst (v := 0) hC dX11_oneLine_78 (by decide) ?_
              exact A_zret hC dX11_oneLine_79 (Or.inl rfl)
        exact A_to (hj59 (1 : Int32) (0 : Int32) D4) (And.intro rfl (And.intro rfl (And.intro rfl (And.intro rfl (And.intro rfl (trivial))))))
    refine A_icmp_ne (tgt := 37) hC dX11_oneLine_25 (by decide) ?_ ?_
    · exact A_to (hj37 D1) (And.intro rfl (And.intro rfl (And.intro rfl (trivial))))
    · refine A_aload_n hC dX11_oneLine_28 rfl ?_
      refine A_iconst (v := 3) hC dX11_oneLine_29 (by decide) ?_
      refine A_aload_n hC dX11_oneLine_30 rfl ?_
      refine A_geti (kf := 25) hC kX11 (lM_0 hL) rfl (by decide) (by decide) rfl w_1028 dX11_oneLine_31 ?_
      refine A_callVv (As := [.int (3 : Int32), .int (D1.1 0 25)]) (st := []) hC (fun l => mX11_later l g hL (3 : Int32) (D1.1 0 25) D1) (lM_0 hL) rfl (Nat.le_of_ble_eq_true rfl) yc_X11_255 rfl rfl ⟨by decide, by decide⟩ (Nat.le_of_ble_eq_true rfl) rfl dX11_oneLine_34 (fun _ D20 => ?_)
      exact A_to (hj37 D20) (And.intro rfl (And.intro rfl (And.intro rfl (trivial))))
  refine A_icmp_ge (tgt := 16) hC dX11_oneLine_6 (by decide) ?_ ?_
  · refine A_bipush (v := 16) hC dX11_oneLine_16 (by decide) ?_
    exact A_to (hj18 (16 : Int32) D) (And.intro rfl (And.intro rfl (trivial)))
  · refine A_aload_n hC dX11_oneLine_9 rfl ?_
    refine A_geti (kf := 32) hC kX11 (lM_0 hL) rfl (by decide) (by decide) rfl w_1035 dX11_oneLine_10 ?_
    refine A_goto (tgt := 18) hC dX11_oneLine_13 (by decide) ?_
    exact A_to (hj18 (D.1 0 32) D) (And.intro rfl (And.intro rfl (trivial)))
def lX11_owner_50 (a1 : Int32) (a2 : Int32) (j120 : Int32 → Int32 → ADD → Option (Int32 × ADD)) (L50 : Int32 → Int32 → Int32 → ADD → Option (Int32 × ADD)) (x8 : Int32) (x9 : Int32) (x10 : Int32) (D11 : ADD) : Option (Int32 × ADD) := (if (D11.1 0 41) ≤ x10 then j120 x8 x9 D11 else aIn x10 32 (aLet (fun (x11 : Int32) (x12 : Int32) (D12 : ADD) => aLet (x10 + (1 : Int32)) (fun x13 => L50 x11 x12 x13 D12)) (fun (j114 : Int32 → Int32 → ADD → Option (Int32 × ADD)) => (if (aBz (D11.1 35 x10.toNatClampNeg)) = 0 then j114 x8 x9 D11 else aBind (fX11_f x10 (8 : Int32) D11) (fun x14 D13 => (if x14 = a1 then aLet (x8 + (1 : Int32)) (fun x15 => aBind (fX11_shortOf x10 a2 D13) (fun x16 D14 => aLet (fun (x17 : Int32) (D15 : ADD) => aLet (x9 + x17) (fun x18 => aBind (fX11_draw (1 : Int32) (2 : Int32) D15) (fun _ D16 => j114 x15 x18 D16))) (fun (j105 : Int32 → ADD → Option (Int32 × ADD)) => (if ((100 : Int32) * x16) ≤ a2 then j105 (0 : Int32) D14 else j105 (1 : Int32) D14)))) else j114 x8 x9 D13))))))
def fX11_owner (a1 : Int32) (a2 : Int32) (a3 : Int32) (D : ADD) : Option (Int32 × ADD) := aLet (aSI D 0 0 (0 : Int32)) (fun D1 => aBind (fX11_is a1 (1 : Int32) (9 : Int32) D1) (fun x1 D2 => aLet (fun (D3 : ADD) => some ((-1 : Int32), D3)) (fun (j31 : ADD → Option (Int32 × ADD)) => (if x1 = 0 then j31 D2 else aBind (fX11_isUnit a2 D2) (fun x2 D4 => (if x2 = 0 then j31 D4 else aBind (fX11_is a3 (0 : Int32) (2 : Int32) D4) (fun x3 D5 => (if x3 = 0 then j31 D5 else aBind (fX11_look D5) (fun _ D6 => aBind (fX11_beginChances D6) (fun _ D7 => aLet (fun (x4 : Int32) (x5 : Int32) (D8 : ADD) => aLet (fun (x6 : Int32) (D9 : ADD) => some (x6, D9)) (fun (j146 : Int32 → ADD → Option (Int32 × ADD)) => (if a3 = 0 then j146 x4 D8 else (if a3 = (1 : Int32) then j146 x5 D8 else aBind (fX11_chancesFrom x5 D8) (fun x7 D10 => j146 x7.toInt32 D10))))) (fun (j120 : Int32 → Int32 → ADD → Option (Int32 × ADD)) => aLet (aFix aFuel (lX11_owner_50 a1 a2 j120) (fun _ _ _ _ => none)) (fun j50 => j50 (0 : Int32) (0 : Int32) (0 : Int32) D7))))))))))))
set_option maxHeartbeats 4000000 in
set_option maxRecDepth 100000 in
theorem mX11_owner (l : Launch) (g : AGl) (hL : aLM g) (a1 : Int32) (a2 : Int32) (a3 : Int32) (D : ADD) : AM aVi l yX11_owner cX11_owner 7 (some .int) 3 g [.ref (g.1 + 0), .int a1, .int a2, .int a3] D (fX11_owner a1 a2 a3 D) := by
  refine AM_of (lv0 := [some (.ref (g.1 + 0)), some (.int a1), some (.int a2), some (.int a3), none, none, none]) (own := RX11) (by decide +kernel) rfl (Nat.le_of_ble_eq_true rfl) rfl (fun b hC => ?_)
  unfold fX11_owner
  refine A_aload_n hC dX11_owner_0 rfl ?_
  refine A_iconst (v := 0) hC dX11_owner_1 (by decide) ?_
  refine A_puti (kf := 0) hC kX11 (lM_0 hL) rfl (by decide) (by decide) rfl rfl rfl w_1003 dX11_owner_2 (fun D1 => ?_)
  refine A_iload_n hC dX11_owner_5 rfl ?_
  refine A_iconst (v := 1) hC dX11_owner_6 (by decide) ?_
  refine A_bipush (v := 9) hC dX11_owner_7 (by decide) ?_
  refine A_callSi (As := [.int a1, .int (1 : Int32), .int (9 : Int32)]) (st := []) hC (fun l => mX11_is l g a1 (1 : Int32) (9 : Int32) D1) yc_X11_138 rfl rfl ⟨by decide, by decide⟩ (Nat.le_of_ble_eq_true rfl) rfl dX11_owner_9 (fun x1 D2 => ?_)
  refine A_join (fun (J : ADD → Option (Int32 × ADD)) => ∀ (D3 : ADD), AT aVi g b 31 [none, none, none, none, none, none, none] [] D3 (J D3)) (fun D3 => ?_) (fun j31 hj31 => ?_)
  · refine A_iconst (v := -1) hC dX11_owner_31 (by decide) ?_
    exact A_iret hC dX11_owner_32
  refine A_if_eq (tgt := 31) hC dX11_owner_12 (by decide) ?_ ?_
  · exact A_to (hj31 D2) (trivial)
  · refine A_iload_n hC dX11_owner_15 rfl ?_
    refine A_callSi (As := [.int a2]) (st := []) hC (fun l => mX11_isUnit l g a2 D2) yc_X11_314 rfl rfl ⟨by decide, by decide⟩ (Nat.le_of_ble_eq_true rfl) rfl dX11_owner_16 (fun x2 D4 => ?_)
    refine A_if_eq (tgt := 31) hC dX11_owner_19 (by decide) ?_ ?_
    · exact A_to (hj31 D4) (trivial)
    · refine A_iload_n hC dX11_owner_22 rfl ?_
      refine A_iconst (v := 0) hC dX11_owner_23 (by decide) ?_
      refine A_iconst (v := 2) hC dX11_owner_24 (by decide) ?_
      refine A_callSi (As := [.int a3, .int (0 : Int32), .int (2 : Int32)]) (st := []) hC (fun l => mX11_is l g a3 (0 : Int32) (2 : Int32) D4) yc_X11_138 rfl rfl ⟨by decide, by decide⟩ (Nat.le_of_ble_eq_true rfl) rfl dX11_owner_25 (fun x3 D5 => ?_)
      refine A_if_ne (tgt := 33) hC dX11_owner_28 (by decide) ?_ ?_
      · refine A_aload_n hC dX11_owner_33 rfl ?_
        refine A_callVv (As := []) (st := []) hC (fun l => mX11_look l g hL D5) (lM_0 hL) rfl (Nat.le_of_ble_eq_true rfl) yc_X11_311 rfl rfl ⟨by decide, by decide⟩ (Nat.le_of_ble_eq_true rfl) rfl dX11_owner_34 (fun _ D6 => ?_)
        refine A_aload_n hC dX11_owner_37 rfl ?_
        refine A_callVv (As := []) (st := []) hC (fun l => mX11_beginChances l g hL D6) (lM_0 hL) rfl (Nat.le_of_ble_eq_true rfl) yc_X11_364 rfl rfl ⟨by decide, by decide⟩ (Nat.le_of_ble_eq_true rfl) rfl dX11_owner_38 (fun _ D7 => ?_)
        refine A_iconst (v := 0) hC dX11_owner_41 (by decide) ?_
        refine A_istore (lv2 := [some (.ref (g.1 + 0)), some (.int a1), some (.int a2), some (.int a3), some (.int (0 : Int32)), none, none]) hC dX11_owner_42 (Nat.le_of_ble_eq_true rfl) rfl rfl ?_
        refine A_iconst (v := 0) hC dX11_owner_44 (by decide) ?_
        refine A_istore (lv2 := [some (.ref (g.1 + 0)), some (.int a1), some (.int a2), some (.int a3), some (.int (0 : Int32)), some (.int (0 : Int32)), none]) hC dX11_owner_45 (Nat.le_of_ble_eq_true rfl) rfl rfl ?_
        refine A_iconst (v := 0) hC dX11_owner_47 (by decide) ?_
        refine A_istore (lv2 := [some (.ref (g.1 + 0)), some (.int a1), some (.int a2), some (.int a3), some (.int (0 : Int32)), some (.int (0 : Int32)), some (.int (0 : Int32))]) hC dX11_owner_48 (Nat.le_of_ble_eq_true rfl) rfl rfl ?_
        refine A_join (fun (J : Int32 → Int32 → ADD → Option (Int32 × ADD)) => ∀ (x4 : Int32) (x5 : Int32) (D8 : ADD), AT aVi g b 120 [some (.ref (g.1 + 0)), none, none, some (.int a3), some (.int x4), some (.int x5), none] [] D8 (J x4 x5 D8)) (fun x4 x5 D8 => ?_) (fun j120 hj120 => ?_)
        · refine A_iload_n hC dX11_owner_120 rfl ?_
          refine A_join (fun (J : Int32 → ADD → Option (Int32 × ADD)) => ∀ (x6 : Int32) (D9 : ADD), AT aVi g b 146 [none, none, none, none, none, none, none] [.int x6] D9 (J x6 D9)) (fun x6 D9 => ?_) (fun j146 hj146 => ?_)
          · exact A_iret hC dX11_owner_146
          refine A_if_ne (tgt := 129) hC dX11_owner_121 (by decide) ?_ ?_
          · refine A_iload_n hC dX11_owner_129 rfl ?_
            refine A_iconst (v := 1) hC dX11_owner_130 (by decide) ?_
            refine A_icmp_ne (tgt := 139) hC dX11_owner_131 (by decide) ?_ ?_
            · refine A_aload_n hC dX11_owner_139 rfl ?_
              refine A_iload hC dX11_owner_140 rfl ?_
              refine A_callVl (As := [.int x5]) (st := []) hC (fun l => mX11_chancesFrom l g hL x5 D8) (lM_0 hL) rfl (Nat.le_of_ble_eq_true rfl) yc_X11_376 rfl rfl ⟨by decide, by decide⟩ (Nat.le_of_ble_eq_true rfl) rfl dX11_owner_142 (fun x7 D10 => ?_)
              refine A_l2i hC dX11_owner_145 ?_
              exact A_to (hj146 x7.toInt32 D10) (trivial)
            · refine A_iload hC dX11_owner_134 rfl ?_
              refine A_goto (tgt := 146) hC dX11_owner_136 (by decide) ?_
              exact A_to (hj146 x5 D8) (trivial)
          · refine A_iload hC dX11_owner_124 rfl ?_
            refine A_goto (tgt := 146) hC dX11_owner_126 (by decide) ?_
            exact A_to (hj146 x4 D8) (trivial)
        refine A_join (fun (J : Int32 → Int32 → Int32 → ADD → Option (Int32 × ADD)) => ∀ (x8 : Int32) (x9 : Int32) (x10 : Int32) (D11 : ADD), AT aVi g b 50 [some (.ref (g.1 + 0)), some (.int a1), some (.int a2), some (.int a3), some (.int x8), some (.int x9), some (.int x10)] [] D11 (J x8 x9 x10 D11)) (aFix_all (fun (J : Int32 → Int32 → Int32 → ADD → Option (Int32 × ADD)) => ∀ (x8 : Int32) (x9 : Int32) (x10 : Int32) (D11 : ADD), AT aVi g b 50 [some (.ref (g.1 + 0)), some (.int a1), some (.int a2), some (.int a3), some (.int x8), some (.int x9), some (.int x10)] [] D11 (J x8 x9 x10 D11)) (fun _ _ _ _ => A_none) (fun L50 hL50 x8 x9 x10 D11 => ?_) _) (fun j50 hj50 => ?_)
        · unfold lX11_owner_50
          refine A_iload hC dX11_owner_50 rfl ?_
          refine A_aload_n hC dX11_owner_52 rfl ?_
          refine A_geti (kf := 41) hC kX11 (lM_0 hL) rfl (by decide) (by decide) rfl w_1044 dX11_owner_53 ?_
          refine A_icmp_ge (tgt := 120) hC dX11_owner_56 (by decide) ?_ ?_
          · exact A_to (hj120 x8 x9 D11) (And.intro rfl (And.intro rfl (And.intro rfl (And.intro rfl (trivial)))))
          · refine A_aload_n hC dX11_owner_59 rfl ?_
            refine A_getr (kf := 46) hC kX11 (lM_0 hL) rfl (by decide) (by decide) rfl rfl w_1049 dX11_owner_60 ?_
            refine A_iload hC dX11_owner_63 rfl ?_
            refine A_zald hC (lM_35 hL) dX11_owner_65 ?_
            refine A_join (fun (J : Int32 → Int32 → ADD → Option (Int32 × ADD)) => ∀ (x11 : Int32) (x12 : Int32) (D12 : ADD), AT aVi g b 114 [some (.ref (g.1 + 0)), some (.int a1), some (.int a2), some (.int a3), some (.int x11), some (.int x12), some (.int x10)] [] D12 (J x11 x12 D12)) (fun x11 x12 D12 => ?_) (fun j114 hj114 => ?_)
            · refine A_iincL (z := (1 : Int32)) (lv2 := fun x13 => [some (.ref (g.1 + 0)), some (.int a1), some (.int a2), some (.int a3), some (.int x11), some (.int x12), some (.int x13)]) hC dX11_owner_114 rfl (by decide) (Nat.le_of_ble_eq_true rfl) rfl (fun _ => rfl) (fun x13 => ?_)
              refine A_goto (tgt := 50) hC dX11_owner_117 (by decide) ?_
              exact A_to (hL50 x11 x12 x13 D12) (And.intro rfl (And.intro rfl (And.intro rfl (And.intro rfl (And.intro rfl (And.intro rfl (And.intro rfl (trivial))))))))
            refine A_if_eq (tgt := 114) hC dX11_owner_66 (by decide) ?_ ?_
            · exact A_to (hj114 x8 x9 D11) (And.intro rfl (And.intro rfl (And.intro rfl (And.intro rfl (And.intro rfl (And.intro rfl (And.intro rfl (trivial))))))))
            · refine A_aload_n hC dX11_owner_69 rfl ?_
              refine A_iload hC dX11_owner_70 rfl ?_
              refine A_bipush (v := 8) hC dX11_owner_72 (by decide) ?_
              refine A_callVi (As := [.int x10, .int (8 : Int32)]) (st := []) hC (fun l => mX11_f l g hL x10 (8 : Int32) D11) (lM_0 hL) rfl (Nat.le_of_ble_eq_true rfl) yc_X11_291 rfl rfl ⟨by decide, by decide⟩ (Nat.le_of_ble_eq_true rfl) rfl dX11_owner_74 (fun x14 D13 => ?_)
              refine A_iload_n hC dX11_owner_77 rfl ?_
              refine A_icmp_ne (tgt := 114) hC dX11_owner_78 (by decide) ?_ ?_
              · exact A_to (hj114 x8 x9 D13) (And.intro rfl (And.intro rfl (And.intro rfl (And.intro rfl (And.intro rfl (And.intro rfl (And.intro rfl (trivial))))))))
              · refine A_iincL (z := (1 : Int32)) (lv2 := fun x15 => [some (.ref (g.1 + 0)), some (.int a1), some (.int a2), some (.int a3), some (.int x15), some (.int x9), some (.int x10)]) hC dX11_owner_81 rfl (by decide) (Nat.le_of_ble_eq_true rfl) rfl (fun _ => rfl) (fun x15 => ?_)
                refine A_iload hC dX11_owner_84 rfl ?_
                refine A_bipush (v := 100) hC dX11_owner_86 (by decide) ?_
                refine A_aload_n hC dX11_owner_88 rfl ?_
                refine A_iload hC dX11_owner_89 rfl ?_
                refine A_iload_n hC dX11_owner_91 rfl ?_
                refine A_callVi (As := [.int x10, .int a2]) (st := [.int (100 : Int32), .int x9]) hC (fun l => mX11_shortOf l g hL x10 a2 D13) (lM_0 hL) rfl (Nat.le_of_ble_eq_true rfl) yc_X11_326 rfl rfl ⟨by decide, by decide⟩ (Nat.le_of_ble_eq_true rfl) rfl dX11_owner_92 (fun x16 D14 => ?_)
                refine A_imul hC dX11_owner_95 ?_
                refine A_iload_n hC dX11_owner_96 rfl ?_
                refine A_join (fun (J : Int32 → ADD → Option (Int32 × ADD)) => ∀ (x17 : Int32) (D15 : ADD), AT aVi g b 105 [some (.ref (g.1 + 0)), some (.int a1), some (.int a2), some (.int a3), some (.int x15), none, some (.int x10)] [.int x17, .int x9] D15 (J x17 D15)) (fun x17 D15 => ?_) (fun j105 hj105 => ?_)
                · refine A_iadd hC dX11_owner_105 ?_
                  refine A_topi (fun x18 => ?_)
                  refine A_istore (lv2 := [some (.ref (g.1 + 0)), some (.int a1), some (.int a2), some (.int a3), some (.int x15), some (.int x18), some (.int x10)]) hC dX11_owner_106 (Nat.le_of_ble_eq_true rfl) rfl rfl ?_
                  refine A_aload_n hC dX11_owner_108 rfl ?_
                  refine A_iconst (v := 1) hC dX11_owner_109 (by decide) ?_
                  refine A_iconst (v := 2) hC dX11_owner_110 (by decide) ?_
                  refine A_callVv (As := [.int (1 : Int32), .int (2 : Int32)]) (st := []) hC (fun l => mX11_draw l g hL (1 : Int32) (2 : Int32) D15) (lM_0 hL) rfl (Nat.le_of_ble_eq_true rfl) yc_X11_370 rfl rfl ⟨by decide, by decide⟩ (Nat.le_of_ble_eq_true rfl) rfl dX11_owner_111 (fun _ D16 => ?_)
                  exact A_to (hj114 x15 x18 D16) (And.intro rfl (And.intro rfl (And.intro rfl (And.intro rfl (And.intro rfl (And.intro rfl (And.intro rfl (trivial))))))))
                refine A_icmp_le (tgt := 104) hC dX11_owner_97 (by decide) ?_ ?_
                · refine A_iconst (v := 0) hC dX11_owner_104 (by decide) ?_
                  exact A_to (hj105 (0 : Int32) D14) (And.intro rfl (And.intro rfl (And.intro rfl (And.intro rfl (And.intro rfl (And.intro rfl (trivial)))))))
                · refine A_iconst (v := 1) hC dX11_owner_100 (by decide) ?_
                  refine A_goto (tgt := 105) hC dX11_owner_101 (by decide) ?_
                  exact A_to (hj105 (1 : Int32) D14) (And.intro rfl (And.intro rfl (And.intro rfl (And.intro rfl (And.intro rfl (And.intro rfl (trivial)))))))
        exact A_to (hj50 (0 : Int32) (0 : Int32) (0 : Int32) D7) (And.intro rfl (And.intro rfl (And.intro rfl (And.intro rfl (And.intro rfl (And.intro rfl (And.intro rfl (trivial))))))))
      · exact A_to (hj31 D5) (trivial)
def lX11_scoreOf_4 (a1 : Int32) (j44 : Int32 → ADD → Option (Int32 × ADD)) (L4 : Int32 → Int32 → ADD → Option (Int32 × ADD)) (x2 : Int32) (x3 : Int32) (D2 : ADD) : Option (Int32 × ADD) := (if (D2.1 0 41) ≤ x3 then j44 x2 D2 else aIn x3 32 (aLet (fun (x4 : Int32) (D3 : ADD) => aLet (x2 + x4) (fun x5 => aLet (x3 + (1 : Int32)) (fun x6 => L4 x5 x6 D3))) (fun (j36 : Int32 → ADD → Option (Int32 × ADD)) => (if (aBz (D2.1 35 x3.toNatClampNeg)) = 0 then j36 (0 : Int32) D2 else aBind (fX11_off x3 a1 D2) (fun x7 D4 => j36 (a1 - ((4 : Int32) * x7)) D4)))))
def fX11_scoreOf (a1 : Int32) (D : ADD) : Option (Int32 × ADD) := aLet (fun (x1 : Int32) (D1 : ADD) => some (x1, D1)) (fun (j44 : Int32 → ADD → Option (Int32 × ADD)) => aLet (aFix aFuel (lX11_scoreOf_4 a1 j44) (fun _ _ _ => none)) (fun j4 => j4 (0 : Int32) (0 : Int32) D))
set_option maxHeartbeats 4000000 in
set_option maxRecDepth 100000 in
theorem mX11_scoreOf (l : Launch) (g : AGl) (hL : aLM g) (a1 : Int32) (D : ADD) : AM aVi l yX11_scoreOf cX11_scoreOf 4 (some .int) 3 g [.ref (g.1 + 0), .int a1] D (fX11_scoreOf a1 D) := by
  refine AM_of (lv0 := [some (.ref (g.1 + 0)), some (.int a1), none, none]) (own := RX11) (by decide +kernel) rfl (Nat.le_of_ble_eq_true rfl) rfl (fun b hC => ?_)
  unfold fX11_scoreOf
  refine A_iconst (v := 0) hC dX11_scoreOf_0 (by decide) ?_
  refine A_istore_n (lv2 := [some (.ref (g.1 + 0)), some (.int a1), some (.int (0 : Int32)), none]) hC dX11_scoreOf_1 (Nat.le_of_ble_eq_true rfl) rfl rfl ?_
  refine A_iconst (v := 0) hC dX11_scoreOf_2 (by decide) ?_
  refine A_istore_n (lv2 := [some (.ref (g.1 + 0)), some (.int a1), some (.int (0 : Int32)), some (.int (0 : Int32))]) hC dX11_scoreOf_3 (Nat.le_of_ble_eq_true rfl) rfl rfl ?_
  refine A_join (fun (J : Int32 → ADD → Option (Int32 × ADD)) => ∀ (x1 : Int32) (D1 : ADD), AT aVi g b 44 [none, none, some (.int x1), none] [] D1 (J x1 D1)) (fun x1 D1 => ?_) (fun j44 hj44 => ?_)
  · refine A_iload_n hC dX11_scoreOf_44 rfl ?_
    exact A_iret hC dX11_scoreOf_45
  refine A_join (fun (J : Int32 → Int32 → ADD → Option (Int32 × ADD)) => ∀ (x2 : Int32) (x3 : Int32) (D2 : ADD), AT aVi g b 4 [some (.ref (g.1 + 0)), some (.int a1), some (.int x2), some (.int x3)] [] D2 (J x2 x3 D2)) (aFix_all (fun (J : Int32 → Int32 → ADD → Option (Int32 × ADD)) => ∀ (x2 : Int32) (x3 : Int32) (D2 : ADD), AT aVi g b 4 [some (.ref (g.1 + 0)), some (.int a1), some (.int x2), some (.int x3)] [] D2 (J x2 x3 D2)) (fun _ _ _ => A_none) (fun L4 hL4 x2 x3 D2 => ?_) _) (fun j4 hj4 => ?_)
  · unfold lX11_scoreOf_4
    refine A_iload_n hC dX11_scoreOf_4 rfl ?_
    refine A_aload_n hC dX11_scoreOf_5 rfl ?_
    refine A_geti (kf := 41) hC kX11 (lM_0 hL) rfl (by decide) (by decide) rfl w_1044 dX11_scoreOf_6 ?_
    refine A_icmp_ge (tgt := 44) hC dX11_scoreOf_9 (by decide) ?_ ?_
    · exact A_to (hj44 x2 D2) (And.intro rfl (trivial))
    · refine A_iload_n hC dX11_scoreOf_12 rfl ?_
      refine A_aload_n hC dX11_scoreOf_13 rfl ?_
      refine A_getr (kf := 46) hC kX11 (lM_0 hL) rfl (by decide) (by decide) rfl rfl w_1049 dX11_scoreOf_14 ?_
      refine A_iload_n hC dX11_scoreOf_17 rfl ?_
      refine A_zald hC (lM_35 hL) dX11_scoreOf_18 ?_
      refine A_join (fun (J : Int32 → ADD → Option (Int32 × ADD)) => ∀ (x4 : Int32) (D3 : ADD), AT aVi g b 36 [some (.ref (g.1 + 0)), some (.int a1), none, some (.int x3)] [.int x4, .int x2] D3 (J x4 D3)) (fun x4 D3 => ?_) (fun j36 hj36 => ?_)
      · refine A_iadd hC dX11_scoreOf_36 ?_
        refine A_topi (fun x5 => ?_)
        refine A_istore_n (lv2 := [some (.ref (g.1 + 0)), some (.int a1), some (.int x5), some (.int x3)]) hC dX11_scoreOf_37 (Nat.le_of_ble_eq_true rfl) rfl rfl ?_
        refine A_iincL (z := (1 : Int32)) (lv2 := fun x6 => [some (.ref (g.1 + 0)), some (.int a1), some (.int x5), some (.int x6)]) hC dX11_scoreOf_38 rfl (by decide) (Nat.le_of_ble_eq_true rfl) rfl (fun _ => rfl) (fun x6 => ?_)
        refine A_goto (tgt := 4) hC dX11_scoreOf_41 (by decide) ?_
        exact A_to (hL4 x5 x6 D3) (And.intro rfl (And.intro rfl (And.intro rfl (And.intro rfl (trivial)))))
      refine A_if_eq (tgt := 35) hC dX11_scoreOf_19 (by decide) ?_ ?_
      · refine A_iconst (v := 0) hC dX11_scoreOf_35 (by decide) ?_
        exact A_to (hj36 (0 : Int32) D2) (And.intro rfl (And.intro rfl (And.intro rfl (trivial))))
      · refine A_iload_n hC dX11_scoreOf_22 rfl ?_
        refine A_iconst (v := 4) hC dX11_scoreOf_23 (by decide) ?_
        refine A_aload_n hC dX11_scoreOf_24 rfl ?_
        refine A_iload_n hC dX11_scoreOf_25 rfl ?_
        refine A_iload_n hC dX11_scoreOf_26 rfl ?_
        refine A_callVi (As := [.int x3, .int a1]) (st := [.int (4 : Int32), .int a1, .int x2]) hC (fun l => mX11_off l g hL x3 a1 D2) (lM_0 hL) rfl (Nat.le_of_ble_eq_true rfl) yc_X11_323 rfl rfl ⟨by decide, by decide⟩ (Nat.le_of_ble_eq_true rfl) rfl dX11_scoreOf_27 (fun x7 D4 => ?_)
        refine A_imul hC dX11_scoreOf_30 ?_
        refine A_isub hC dX11_scoreOf_31 ?_
        refine A_goto (tgt := 36) hC dX11_scoreOf_32 (by decide) ?_
        exact A_to (hj36 (a1 - ((4 : Int32) * x7)) D4) (And.intro rfl (And.intro rfl (And.intro rfl (trivial))))
  exact A_to (hj4 (0 : Int32) (0 : Int32) D) (And.intro rfl (And.intro rfl (And.intro rfl (And.intro rfl (trivial)))))
def lX11_set_218 (x6 : Int32) (x7 : Int32) (j263 : Int32 → ADD → Option (Int32 × ADD)) (L218 : Int32 → Int32 → ADD → Option (Int32 × ADD)) (x10 : Int32) (x11 : Int32) (D10 : ADD) : Option (Int32 × ADD) := (if (6 : Int32) ≤ x11 then j263 x10 D10 else aLet (fun (x12 : Int32) (D11 : ADD) => aLet (x10 ||| x12) (fun x13 => aLet (x11 + (1 : Int32)) (fun x14 => L218 x13 x14 D11))) (fun (j254 : Int32 → ADD → Option (Int32 × ADD)) => aLet (fun (D12 : ADD) => j254 (0 : Int32) D12) (fun (j253 : ADD → Option (Int32 × ADD)) => (if x6 < ((1 : Int32) <<< (x11 &&& 31)) then j253 D10 else (if ((x7 >>> (x11 &&& 31)) &&& (1 : Int32)) = 0 then j254 ((1 : Int32) <<< (x11 &&& 31)) D10 else j253 D10)))))
def lX11_set_171 (x26 : Int32) (x31 : Int32) (x28 : Int32) (x27 : Int32) (j206 : Int32 → Int32 → Int32 → Int32 → ADD → Option (Int32 × ADD)) (L171 : Int32 → Int32 → ADD → Option (Int32 × ADD)) (x32 : Int32) (x33 : Int32) (D20 : ADD) : Option (Int32 × ADD) := (if (6 : Int32) ≤ x33 then j206 x26 x31 x28 x32 D20 else aLet (fun (x34 : Int32) (D21 : ADD) => aLet (x32 ||| x34) (fun x35 => aLet (x33 + (1 : Int32)) (fun x36 => L171 x35 x36 D21))) (fun (j197 : Int32 → ADD → Option (Int32 × ADD)) => (if x27 = ((1 : Int32) <<< (x33 &&& 31)) then j197 ((1 : Int32) <<< (x33 &&& 31)) D20 else j197 (0 : Int32) D20)))
def lX11_set_108 (a1 : Int32) (a2 : Int32) (x19 : Int32) (x27 : Int32) (j153 : Int32 → ADD → Option (Int32 × ADD)) (L108 : Int32 → Int32 → ADD → Option (Int32 × ADD)) (x37 : Int32) (x38 : Int32) (D22 : ADD) : Option (Int32 × ADD) := (if x19 ≤ x38 then j153 x37 D22 else aBind (fX11_isOfSet x38 a1 D22) (fun x39 D23 => aLet (fun (x40 : Int32) (D24 : ADD) => aLet (x37 ||| x40) (fun x41 => aLet (x38 + (1 : Int32)) (fun x42 => L108 x41 x42 D24))) (fun (j144 : Int32 → ADD → Option (Int32 × ADD)) => aLet (fun (D25 : ADD) => j144 (0 : Int32) D25) (fun (j143 : ADD → Option (Int32 × ADD)) => (if x39 = 0 then j143 D23 else aBind (fX11_timesOf x38 a2 D23) (fun x43 D26 => (if x43 = x27 then j144 (1 : Int32) D26 else j143 D26)))))))
def lX11_set_52 (a1 : Int32) (a2 : Int32) (j212 : Int32 → Int32 → Int32 → Int32 → ADD → Option (Int32 × ADD)) (L52 : Int32 → Int32 → Int32 → Int32 → Int32 → ADD → Option (Int32 × ADD)) (x15 : Int32) (x16 : Int32) (x17 : Int32) (x18 : Int32) (x19 : Int32) (D13 : ADD) : Option (Int32 × ADD) := (if (D13.1 0 41) ≤ x19 then j212 x15 x16 x17 x18 D13 else aBind (fX11_isOfSet x19 a1 D13) (fun x20 D14 => aLet (fun (x21 : Int32) (x22 : Int32) (x23 : Int32) (x24 : Int32) (D15 : ADD) => aLet (x19 + (1 : Int32)) (fun x25 => L52 x21 x22 x23 x24 x25 D15)) (fun (j206 : Int32 → Int32 → Int32 → Int32 → ADD → Option (Int32 × ADD)) => (if x20 = 0 then j206 x15 x16 x17 x18 D14 else aLet (x15 + (1 : Int32)) (fun x26 => aBind (fX11_timesOf x19 a2 D14) (fun x27 D16 => aLet (fun (x28 : Int32) (D17 : ADD) => aLet (fun (x29 : Int32) (D18 : ADD) => aLet (fun (x30 : Int32) (D19 : ADD) => aLet (x16 + x30) (fun x31 => aLet (aFix aFuel (lX11_set_171 x26 x31 x28 x27 j206) (fun _ _ _ => none)) (fun j171 => j171 x18 (0 : Int32) D19))) (fun (j165 : Int32 → ADD → Option (Int32 × ADD)) => (if x29 = 0 then j165 (0 : Int32) D18 else j165 (1 : Int32) D18))) (fun (j153 : Int32 → ADD → Option (Int32 × ADD)) => aLet (aFix aFuel (lX11_set_108 a1 a2 x19 x27 j153) (fun _ _ _ => none)) (fun j108 => j108 (0 : Int32) (0 : Int32) D17))) (fun (j100 : Int32 → ADD → Option (Int32 × ADD)) => (if x27 ≤ x17 then j100 x17 D16 else j100 x27 D16))))))))
def fX11_set (a1 : Int32) (a2 : Int32) (a3 : Int32) (D : ADD) : Option (Int32 × ADD) := aLet (aSI D 0 0 (0 : Int32)) (fun D1 => aBind (fX11_is a1 (1 : Int32) (8 : Int32) D1) (fun x1 D2 => aLet (fun (D3 : ADD) => some ((-1 : Int32), D3)) (fun (j31 : ADD → Option (Int32 × ADD)) => (if x1 = 0 then j31 D2 else aBind (fX11_isUnit a2 D2) (fun x2 D4 => (if x2 = 0 then j31 D4 else aBind (fX11_is a3 (0 : Int32) (3 : Int32) D4) (fun x3 D5 => (if x3 = 0 then j31 D5 else aBind (fX11_look D5) (fun _ D6 => aLet (fun (x4 : Int32) (x5 : Int32) (x6 : Int32) (x7 : Int32) (D7 : ADD) => aLet (fun (x8 : Int32) (D8 : ADD) => aLet (fun (x9 : Int32) (D9 : ADD) => some (x9, D9)) (fun (j294 : Int32 → ADD → Option (Int32 × ADD)) => (if a3 = 0 then j294 x4 D8 else (if a3 = (1 : Int32) then j294 x5 D8 else (if a3 = (2 : Int32) then j294 x8 D8 else j294 x6 D8))))) (fun (j263 : Int32 → ADD → Option (Int32 × ADD)) => aLet (aFix aFuel (lX11_set_218 x6 x7 j263) (fun _ _ _ => none)) (fun j218 => j218 (0 : Int32) (0 : Int32) D7))) (fun (j212 : Int32 → Int32 → Int32 → Int32 → ADD → Option (Int32 × ADD)) => aLet (aFix aFuel (lX11_set_52 a1 a2 j212) (fun _ _ _ _ _ _ => none)) (fun j52 => j52 (0 : Int32) (0 : Int32) (0 : Int32) (0 : Int32) (0 : Int32) D6)))))))))))
set_option maxHeartbeats 4000000 in
set_option maxRecDepth 100000 in
theorem mX11_set (l : Launch) (g : AGl) (hL : aLM g) (a1 : Int32) (a2 : Int32) (a3 : Int32) (D : ADD) : AM aVi l yX11_set cX11_set 12 (some .int) 3 g [.ref (g.1 + 0), .int a1, .int a2, .int a3] D (fX11_set a1 a2 a3 D) := by
  refine AM_of (lv0 := [some (.ref (g.1 + 0)), some (.int a1), some (.int a2), some (.int a3), none, none, none, none, none, none, none, none]) (own := RX11) (by decide +kernel) rfl (Nat.le_of_ble_eq_true rfl) rfl (fun b hC => ?_)
  unfold fX11_set
  refine A_aload_n hC dX11_set_0 rfl ?_
  refine A_iconst (v := 0) hC dX11_set_1 (by decide) ?_
  refine A_puti (kf := 0) hC kX11 (lM_0 hL) rfl (by decide) (by decide) rfl rfl rfl w_1003 dX11_set_2 (fun D1 => ?_)
  refine A_iload_n hC dX11_set_5 rfl ?_
  refine A_iconst (v := 1) hC dX11_set_6 (by decide) ?_
  refine A_bipush (v := 8) hC dX11_set_7 (by decide) ?_
  refine A_callSi (As := [.int a1, .int (1 : Int32), .int (8 : Int32)]) (st := []) hC (fun l => mX11_is l g a1 (1 : Int32) (8 : Int32) D1) yc_X11_138 rfl rfl ⟨by decide, by decide⟩ (Nat.le_of_ble_eq_true rfl) rfl dX11_set_9 (fun x1 D2 => ?_)
  refine A_join (fun (J : ADD → Option (Int32 × ADD)) => ∀ (D3 : ADD), AT aVi g b 31 [none, none, none, none, none, none, none, none, none, none, none, none] [] D3 (J D3)) (fun D3 => ?_) (fun j31 hj31 => ?_)
  · refine A_iconst (v := -1) hC dX11_set_31 (by decide) ?_
    exact A_iret hC dX11_set_32
  refine A_if_eq (tgt := 31) hC dX11_set_12 (by decide) ?_ ?_
  · exact A_to (hj31 D2) (trivial)
  · refine A_iload_n hC dX11_set_15 rfl ?_
    refine A_callSi (As := [.int a2]) (st := []) hC (fun l => mX11_isUnit l g a2 D2) yc_X11_314 rfl rfl ⟨by decide, by decide⟩ (Nat.le_of_ble_eq_true rfl) rfl dX11_set_16 (fun x2 D4 => ?_)
    refine A_if_eq (tgt := 31) hC dX11_set_19 (by decide) ?_ ?_
    · exact A_to (hj31 D4) (trivial)
    · refine A_iload_n hC dX11_set_22 rfl ?_
      refine A_iconst (v := 0) hC dX11_set_23 (by decide) ?_
      refine A_iconst (v := 3) hC dX11_set_24 (by decide) ?_
      refine A_callSi (As := [.int a3, .int (0 : Int32), .int (3 : Int32)]) (st := []) hC (fun l => mX11_is l g a3 (0 : Int32) (3 : Int32) D4) yc_X11_138 rfl rfl ⟨by decide, by decide⟩ (Nat.le_of_ble_eq_true rfl) rfl dX11_set_25 (fun x3 D5 => ?_)
      refine A_if_ne (tgt := 33) hC dX11_set_28 (by decide) ?_ ?_
      · refine A_aload_n hC dX11_set_33 rfl ?_
        refine A_callVv (As := []) (st := []) hC (fun l => mX11_look l g hL D5) (lM_0 hL) rfl (Nat.le_of_ble_eq_true rfl) yc_X11_311 rfl rfl ⟨by decide, by decide⟩ (Nat.le_of_ble_eq_true rfl) rfl dX11_set_34 (fun _ D6 => ?_)
        refine A_iconst (v := 0) hC dX11_set_37 (by decide) ?_
        refine A_istore (lv2 := [some (.ref (g.1 + 0)), some (.int a1), some (.int a2), some (.int a3), some (.int (0 : Int32)), none, none, none, none, none, none, none]) hC dX11_set_38 (Nat.le_of_ble_eq_true rfl) rfl rfl ?_
        refine A_iconst (v := 0) hC dX11_set_40 (by decide) ?_
        refine A_istore (lv2 := [some (.ref (g.1 + 0)), some (.int a1), some (.int a2), some (.int a3), some (.int (0 : Int32)), some (.int (0 : Int32)), none, none, none, none, none, none]) hC dX11_set_41 (Nat.le_of_ble_eq_true rfl) rfl rfl ?_
        refine A_iconst (v := 0) hC dX11_set_43 (by decide) ?_
        refine A_istore (lv2 := [some (.ref (g.1 + 0)), some (.int a1), some (.int a2), some (.int a3), some (.int (0 : Int32)), some (.int (0 : Int32)), some (.int (0 : Int32)), none, none, none, none, none]) hC dX11_set_44 (Nat.le_of_ble_eq_true rfl) rfl rfl ?_
        refine A_iconst (v := 0) hC dX11_set_46 (by decide) ?_
        refine A_istore (lv2 := [some (.ref (g.1 + 0)), some (.int a1), some (.int a2), some (.int a3), some (.int (0 : Int32)), some (.int (0 : Int32)), some (.int (0 : Int32)), some (.int (0 : Int32)), none, none, none, none]) hC dX11_set_47 (Nat.le_of_ble_eq_true rfl) rfl rfl ?_
        refine A_iconst (v := 0) hC dX11_set_49 (by decide) ?_
        refine A_istore (lv2 := [some (.ref (g.1 + 0)), some (.int a1), some (.int a2), some (.int a3), some (.int (0 : Int32)), some (.int (0 : Int32)), some (.int (0 : Int32)), some (.int (0 : Int32)), some (.int (0 : Int32)), none, none, none]) hC dX11_set_50 (Nat.le_of_ble_eq_true rfl) rfl rfl ?_
        refine A_join (fun (J : Int32 → Int32 → Int32 → Int32 → ADD → Option (Int32 × ADD)) => ∀ (x4 : Int32) (x5 : Int32) (x6 : Int32) (x7 : Int32) (D7 : ADD), AT aVi g b 212 [none, none, none, some (.int a3), some (.int x4), some (.int x5), some (.int x6), some (.int x7), none, none, none, none] [] D7 (J x4 x5 x6 x7 D7)) (fun x4 x5 x6 x7 D7 => ?_) (fun j212 hj212 => ?_)
        · refine A_iconst (v := 0) hC dX11_set_212 (by decide) ?_
          refine A_istore (lv2 := [none, none, none, some (.int a3), some (.int x4), some (.int x5), some (.int x6), some (.int x7), some (.int (0 : Int32)), none, none, none]) hC dX11_set_213 (Nat.le_of_ble_eq_true rfl) rfl rfl ?_
          refine A_iconst (v := 0) hC dX11_set_215 (by decide) ?_
          refine A_istore (lv2 := [none, none, none, some (.int a3), some (.int x4), some (.int x5), some (.int x6), some (.int x7), some (.int (0 : Int32)), some (.int (0 : Int32)), none, none]) hC dX11_set_216 (Nat.le_of_ble_eq_true rfl) rfl rfl ?_
          refine A_join (fun (J : Int32 → ADD → Option (Int32 × ADD)) => ∀ (x8 : Int32) (D8 : ADD), AT aVi g b 263 [none, none, none, some (.int a3), some (.int x4), some (.int x5), some (.int x6), none, some (.int x8), none, none, none] [] D8 (J x8 D8)) (fun x8 D8 => ?_) (fun j263 hj263 => ?_)
          · refine A_iload_n hC dX11_set_263 rfl ?_
            refine A_join (fun (J : Int32 → ADD → Option (Int32 × ADD)) => ∀ (x9 : Int32) (D9 : ADD), AT aVi g b 294 [none, none, none, none, none, none, none, none, none, none, none, none] [.int x9] D9 (J x9 D9)) (fun x9 D9 => ?_) (fun j294 hj294 => ?_)
            · exact A_iret hC dX11_set_294
            refine A_if_ne (tgt := 272) hC dX11_set_264 (by decide) ?_ ?_
            · refine A_iload_n hC dX11_set_272 rfl ?_
              refine A_iconst (v := 1) hC dX11_set_273 (by decide) ?_
              refine A_icmp_ne (tgt := 282) hC dX11_set_274 (by decide) ?_ ?_
              · refine A_iload_n hC dX11_set_282 rfl ?_
                refine A_iconst (v := 2) hC dX11_set_283 (by decide) ?_
                refine A_icmp_ne (tgt := 292) hC dX11_set_284 (by decide) ?_ ?_
                · refine A_iload hC dX11_set_292 rfl ?_
                  exact A_to (hj294 x6 D8) (trivial)
                · refine A_iload hC dX11_set_287 rfl ?_
                  refine A_goto (tgt := 294) hC dX11_set_289 (by decide) ?_
                  exact A_to (hj294 x8 D8) (trivial)
              · refine A_iload hC dX11_set_277 rfl ?_
                refine A_goto (tgt := 294) hC dX11_set_279 (by decide) ?_
                exact A_to (hj294 x5 D8) (trivial)
            · refine A_iload hC dX11_set_267 rfl ?_
              refine A_goto (tgt := 294) hC dX11_set_269 (by decide) ?_
              exact A_to (hj294 x4 D8) (trivial)
          refine A_join (fun (J : Int32 → Int32 → ADD → Option (Int32 × ADD)) => ∀ (x10 : Int32) (x11 : Int32) (D10 : ADD), AT aVi g b 218 [none, none, none, some (.int a3), some (.int x4), some (.int x5), some (.int x6), some (.int x7), some (.int x10), some (.int x11), none, none] [] D10 (J x10 x11 D10)) (aFix_all (fun (J : Int32 → Int32 → ADD → Option (Int32 × ADD)) => ∀ (x10 : Int32) (x11 : Int32) (D10 : ADD), AT aVi g b 218 [none, none, none, some (.int a3), some (.int x4), some (.int x5), some (.int x6), some (.int x7), some (.int x10), some (.int x11), none, none] [] D10 (J x10 x11 D10)) (fun _ _ _ => A_none) (fun L218 hL218 x10 x11 D10 => ?_) _) (fun j218 hj218 => ?_)
          · unfold lX11_set_218
            refine A_iload hC dX11_set_218 rfl ?_
            refine A_bipush (v := 6) hC dX11_set_220 (by decide) ?_
            refine A_icmp_ge (tgt := 263) hC dX11_set_222 (by decide) ?_ ?_
            · exact A_to (hj263 x10 D10) (And.intro rfl (And.intro rfl (And.intro rfl (And.intro rfl (And.intro rfl (trivial))))))
            · refine A_iload hC dX11_set_225 rfl ?_
              refine A_iconst (v := 1) hC dX11_set_227 (by decide) ?_
              refine A_iload hC dX11_set_228 rfl ?_
              refine A_ishl hC dX11_set_230 ?_
              refine A_iload hC dX11_set_231 rfl ?_
              refine A_join (fun (J : Int32 → ADD → Option (Int32 × ADD)) => ∀ (x12 : Int32) (D11 : ADD), AT aVi g b 254 [none, none, none, some (.int a3), some (.int x4), some (.int x5), some (.int x6), some (.int x7), none, some (.int x11), none, none] [.int x12, .int x10] D11 (J x12 D11)) (fun x12 D11 => ?_) (fun j254 hj254 => ?_)
              · refine A_ior hC dX11_set_254 ?_
                refine A_topi (fun x13 => ?_)
                refine A_istore (lv2 := [none, none, none, some (.int a3), some (.int x4), some (.int x5), some (.int x6), some (.int x7), some (.int x13), some (.int x11), none, none]) hC dX11_set_255 (Nat.le_of_ble_eq_true rfl) rfl rfl ?_
                refine A_iincL (z := (1 : Int32)) (lv2 := fun x14 => [none, none, none, some (.int a3), some (.int x4), some (.int x5), some (.int x6), some (.int x7), some (.int x13), some (.int x14), none, none]) hC dX11_set_257 rfl (by decide) (Nat.le_of_ble_eq_true rfl) rfl (fun _ => rfl) (fun x14 => ?_)
                refine A_goto (tgt := 218) hC dX11_set_260 (by decide) ?_
                exact A_to (hL218 x13 x14 D11) (And.intro rfl (And.intro rfl (And.intro rfl (And.intro rfl (And.intro rfl (And.intro rfl (And.intro rfl (trivial))))))))
              refine A_join (fun (J : ADD → Option (Int32 × ADD)) => ∀ (D12 : ADD), AT aVi g b 253 [none, none, none, some (.int a3), some (.int x4), some (.int x5), some (.int x6), some (.int x7), none, some (.int x11), none, none] [.int x10] D12 (J D12)) (fun D12 => ?_) (fun j253 hj253 => ?_)
              · refine A_iconst (v := 0) hC dX11_set_253 (by decide) ?_
                exact A_to (hj254 (0 : Int32) D12) (And.intro rfl (And.intro rfl (And.intro rfl (And.intro rfl (And.intro rfl (And.intro rfl (trivial)))))))
              refine A_icmp_gt (tgt := 253) hC dX11_set_233 (by decide) ?_ ?_
              · exact A_to (hj253 D10) (And.intro rfl (And.intro rfl (And.intro rfl (And.intro rfl (And.intro rfl (And.intro rfl (trivial)))))))
              · refine A_iload hC dX11_set_236 rfl ?_
                refine A_iload hC dX11_set_238 rfl ?_
                refine A_ishr hC dX11_set_240 ?_
                refine A_iconst (v := 1) hC dX11_set_241 (by decide) ?_
                refine A_iand hC dX11_set_242 ?_
                refine A_if_ne (tgt := 253) hC dX11_set_243 (by decide) ?_ ?_
                · exact A_to (hj253 D10) (And.intro rfl (And.intro rfl (And.intro rfl (And.intro rfl (And.intro rfl (And.intro rfl (trivial)))))))
                · refine A_iconst (v := 1) hC dX11_set_246 (by decide) ?_
                  refine A_iload hC dX11_set_247 rfl ?_
                  refine A_ishl hC dX11_set_249 ?_
                  refine A_goto (tgt := 254) hC dX11_set_250 (by decide) ?_
                  exact A_to (hj254 ((1 : Int32) <<< (x11 &&& 31)) D10) (And.intro rfl (And.intro rfl (And.intro rfl (And.intro rfl (And.intro rfl (And.intro rfl (trivial)))))))
          exact A_to (hj218 (0 : Int32) (0 : Int32) D7) (And.intro rfl (And.intro rfl (And.intro rfl (And.intro rfl (And.intro rfl (And.intro rfl (And.intro rfl (trivial))))))))
        refine A_join (fun (J : Int32 → Int32 → Int32 → Int32 → Int32 → ADD → Option (Int32 × ADD)) => ∀ (x15 : Int32) (x16 : Int32) (x17 : Int32) (x18 : Int32) (x19 : Int32) (D13 : ADD), AT aVi g b 52 [some (.ref (g.1 + 0)), some (.int a1), some (.int a2), some (.int a3), some (.int x15), some (.int x16), some (.int x17), some (.int x18), some (.int x19), none, none, none] [] D13 (J x15 x16 x17 x18 x19 D13)) (aFix_all (fun (J : Int32 → Int32 → Int32 → Int32 → Int32 → ADD → Option (Int32 × ADD)) => ∀ (x15 : Int32) (x16 : Int32) (x17 : Int32) (x18 : Int32) (x19 : Int32) (D13 : ADD), AT aVi g b 52 [some (.ref (g.1 + 0)), some (.int a1), some (.int a2), some (.int a3), some (.int x15), some (.int x16), some (.int x17), some (.int x18), some (.int x19), none, none, none] [] D13 (J x15 x16 x17 x18 x19 D13)) (fun _ _ _ _ _ _ => A_none) (fun L52 hL52 x15 x16 x17 x18 x19 D13 => ?_) _) (fun j52 hj52 => ?_)
        · unfold lX11_set_52
          refine A_iload hC dX11_set_52 rfl ?_
          refine A_aload_n hC dX11_set_54 rfl ?_
          refine A_geti (kf := 41) hC kX11 (lM_0 hL) rfl (by decide) (by decide) rfl w_1044 dX11_set_55 ?_
          refine A_icmp_ge (tgt := 212) hC dX11_set_58 (by decide) ?_ ?_
          · exact A_to (hj212 x15 x16 x17 x18 D13) (And.intro rfl (And.intro rfl (And.intro rfl (And.intro rfl (And.intro rfl (trivial))))))
          · refine A_aload_n hC dX11_set_61 rfl ?_
            refine A_iload hC dX11_set_62 rfl ?_
            refine A_iload_n hC dX11_set_64 rfl ?_
            refine A_callVi (As := [.int x19, .int a1]) (st := []) hC (fun l => mX11_isOfSet l g hL x19 a1 D13) (lM_0 hL) rfl (Nat.le_of_ble_eq_true rfl) yc_X11_394 rfl rfl ⟨by decide, by decide⟩ (Nat.le_of_ble_eq_true rfl) rfl dX11_set_65 (fun x20 D14 => ?_)
            refine A_join (fun (J : Int32 → Int32 → Int32 → Int32 → ADD → Option (Int32 × ADD)) => ∀ (x21 : Int32) (x22 : Int32) (x23 : Int32) (x24 : Int32) (D15 : ADD), AT aVi g b 206 [some (.ref (g.1 + 0)), some (.int a1), some (.int a2), some (.int a3), some (.int x21), some (.int x22), some (.int x23), some (.int x24), some (.int x19), none, none, none] [] D15 (J x21 x22 x23 x24 D15)) (fun x21 x22 x23 x24 D15 => ?_) (fun j206 hj206 => ?_)
            · refine A_iincL (z := (1 : Int32)) (lv2 := fun x25 => [some (.ref (g.1 + 0)), some (.int a1), some (.int a2), some (.int a3), some (.int x21), some (.int x22), some (.int x23), some (.int x24), some (.int x25), none, none, none]) hC dX11_set_206 rfl (by decide) (Nat.le_of_ble_eq_true rfl) rfl (fun _ => rfl) (fun x25 => ?_)
              refine A_goto (tgt := 52) hC dX11_set_209 (by decide) ?_
              exact A_to (hL52 x21 x22 x23 x24 x25 D15) (And.intro rfl (And.intro rfl (And.intro rfl (And.intro rfl (And.intro rfl (And.intro rfl (And.intro rfl (And.intro rfl (And.intro rfl (trivial))))))))))
            refine A_if_ne (tgt := 74) hC dX11_set_68 (by decide) ?_ ?_
            · refine A_iincL (z := (1 : Int32)) (lv2 := fun x26 => [some (.ref (g.1 + 0)), some (.int a1), some (.int a2), some (.int a3), some (.int x26), some (.int x16), some (.int x17), some (.int x18), some (.int x19), none, none, none]) hC dX11_set_74 rfl (by decide) (Nat.le_of_ble_eq_true rfl) rfl (fun _ => rfl) (fun x26 => ?_)
              refine A_aload_n hC dX11_set_77 rfl ?_
              refine A_iload hC dX11_set_78 rfl ?_
              refine A_iload_n hC dX11_set_80 rfl ?_
              refine A_callVi (As := [.int x19, .int a2]) (st := []) hC (fun l => mX11_timesOf l g hL x19 a2 D14) (lM_0 hL) rfl (Nat.le_of_ble_eq_true rfl) yc_X11_320 rfl rfl ⟨by decide, by decide⟩ (Nat.le_of_ble_eq_true rfl) rfl dX11_set_81 (fun x27 D16 => ?_)
              refine A_istore (lv2 := [some (.ref (g.1 + 0)), some (.int a1), some (.int a2), some (.int a3), some (.int x26), some (.int x16), some (.int x17), some (.int x18), some (.int x19), some (.int x27), none, none]) hC dX11_set_84 (Nat.le_of_ble_eq_true rfl) rfl rfl ?_
              refine A_iload hC dX11_set_86 rfl ?_
              refine A_iload hC dX11_set_88 rfl ?_
              refine A_join (fun (J : Int32 → ADD → Option (Int32 × ADD)) => ∀ (x28 : Int32) (D17 : ADD), AT aVi g b 100 [some (.ref (g.1 + 0)), some (.int a1), some (.int a2), some (.int a3), some (.int x26), some (.int x16), none, some (.int x18), some (.int x19), some (.int x27), none, none] [.int x28] D17 (J x28 D17)) (fun x28 D17 => ?_) (fun j100 hj100 => ?_)
              · refine A_istore (lv2 := [some (.ref (g.1 + 0)), some (.int a1), some (.int a2), some (.int a3), some (.int x26), some (.int x16), some (.int x28), some (.int x18), some (.int x19), some (.int x27), none, none]) hC dX11_set_100 (Nat.le_of_ble_eq_true rfl) rfl rfl ?_
                refine A_iconst (v := 0) hC dX11_set_102 (by decide) ?_
                refine A_istore (lv2 := [some (.ref (g.1 + 0)), some (.int a1), some (.int a2), some (.int a3), some (.int x26), some (.int x16), some (.int x28), some (.int x18), some (.int x19), some (.int x27), some (.int (0 : Int32)), none]) hC dX11_set_103 (Nat.le_of_ble_eq_true rfl) rfl rfl ?_
                refine A_iconst (v := 0) hC dX11_set_105 (by decide) ?_
                refine A_istore (lv2 := [some (.ref (g.1 + 0)), some (.int a1), some (.int a2), some (.int a3), some (.int x26), some (.int x16), some (.int x28), some (.int x18), some (.int x19), some (.int x27), some (.int (0 : Int32)), some (.int (0 : Int32))]) hC dX11_set_106 (Nat.le_of_ble_eq_true rfl) rfl rfl ?_
                refine A_join (fun (J : Int32 → ADD → Option (Int32 × ADD)) => ∀ (x29 : Int32) (D18 : ADD), AT aVi g b 153 [some (.ref (g.1 + 0)), some (.int a1), some (.int a2), some (.int a3), some (.int x26), some (.int x16), some (.int x28), some (.int x18), some (.int x19), some (.int x27), some (.int x29), none] [] D18 (J x29 D18)) (fun x29 D18 => ?_) (fun j153 hj153 => ?_)
                · refine A_iload hC dX11_set_153 rfl ?_
                  refine A_iload hC dX11_set_155 rfl ?_
                  refine A_join (fun (J : Int32 → ADD → Option (Int32 × ADD)) => ∀ (x30 : Int32) (D19 : ADD), AT aVi g b 165 [some (.ref (g.1 + 0)), some (.int a1), some (.int a2), some (.int a3), some (.int x26), none, some (.int x28), some (.int x18), some (.int x19), some (.int x27), none, none] [.int x30, .int x16] D19 (J x30 D19)) (fun x30 D19 => ?_) (fun j165 hj165 => ?_)
                  · refine A_iadd hC dX11_set_165 ?_
                    refine A_topi (fun x31 => ?_)
                    refine A_istore (lv2 := [some (.ref (g.1 + 0)), some (.int a1), some (.int a2), some (.int a3), some (.int x26), some (.int x31), some (.int x28), some (.int x18), some (.int x19), some (.int x27), none, none]) hC dX11_set_166 (Nat.le_of_ble_eq_true rfl) rfl rfl ?_
                    refine A_iconst (v := 0) hC dX11_set_168 (by decide) ?_
                    refine A_istore (lv2 := [some (.ref (g.1 + 0)), some (.int a1), some (.int a2), some (.int a3), some (.int x26), some (.int x31), some (.int x28), some (.int x18), some (.int x19), some (.int x27), none, some (.int (0 : Int32))]) hC dX11_set_169 (Nat.le_of_ble_eq_true rfl) rfl rfl ?_
                    refine A_join (fun (J : Int32 → Int32 → ADD → Option (Int32 × ADD)) => ∀ (x32 : Int32) (x33 : Int32) (D20 : ADD), AT aVi g b 171 [some (.ref (g.1 + 0)), some (.int a1), some (.int a2), some (.int a3), some (.int x26), some (.int x31), some (.int x28), some (.int x32), some (.int x19), some (.int x27), none, some (.int x33)] [] D20 (J x32 x33 D20)) (aFix_all (fun (J : Int32 → Int32 → ADD → Option (Int32 × ADD)) => ∀ (x32 : Int32) (x33 : Int32) (D20 : ADD), AT aVi g b 171 [some (.ref (g.1 + 0)), some (.int a1), some (.int a2), some (.int a3), some (.int x26), some (.int x31), some (.int x28), some (.int x32), some (.int x19), some (.int x27), none, some (.int x33)] [] D20 (J x32 x33 D20)) (fun _ _ _ => A_none) (fun L171 hL171 x32 x33 D20 => ?_) _) (fun j171 hj171 => ?_)
                    · unfold lX11_set_171
                      refine A_iload hC dX11_set_171 rfl ?_
                      refine A_bipush (v := 6) hC dX11_set_173 (by decide) ?_
                      refine A_icmp_ge (tgt := 206) hC dX11_set_175 (by decide) ?_ ?_
                      · exact A_to (hj206 x26 x31 x28 x32 D20) (And.intro rfl (And.intro rfl (And.intro rfl (And.intro rfl (And.intro rfl (And.intro rfl (And.intro rfl (And.intro rfl (And.intro rfl (trivial))))))))))
                      · refine A_iload hC dX11_set_178 rfl ?_
                        refine A_iload hC dX11_set_180 rfl ?_
                        refine A_iconst (v := 1) hC dX11_set_182 (by decide) ?_
                        refine A_iload hC dX11_set_183 rfl ?_
                        refine A_ishl hC dX11_set_185 ?_
                        refine A_join (fun (J : Int32 → ADD → Option (Int32 × ADD)) => ∀ (x34 : Int32) (D21 : ADD), AT aVi g b 197 [some (.ref (g.1 + 0)), some (.int a1), some (.int a2), some (.int a3), some (.int x26), some (.int x31), some (.int x28), none, some (.int x19), some (.int x27), none, some (.int x33)] [.int x34, .int x32] D21 (J x34 D21)) (fun x34 D21 => ?_) (fun j197 hj197 => ?_)
                        · refine A_ior hC dX11_set_197 ?_
                          refine A_topi (fun x35 => ?_)
                          refine A_istore (lv2 := [some (.ref (g.1 + 0)), some (.int a1), some (.int a2), some (.int a3), some (.int x26), some (.int x31), some (.int x28), some (.int x35), some (.int x19), some (.int x27), none, some (.int x33)]) hC dX11_set_198 (Nat.le_of_ble_eq_true rfl) rfl rfl ?_
                          refine A_iincL (z := (1 : Int32)) (lv2 := fun x36 => [some (.ref (g.1 + 0)), some (.int a1), some (.int a2), some (.int a3), some (.int x26), some (.int x31), some (.int x28), some (.int x35), some (.int x19), some (.int x27), none, some (.int x36)]) hC dX11_set_200 rfl (by decide) (Nat.le_of_ble_eq_true rfl) rfl (fun _ => rfl) (fun x36 => ?_)
                          refine A_goto (tgt := 171) hC dX11_set_203 (by decide) ?_
                          exact A_to (hL171 x35 x36 D21) (And.intro rfl (And.intro rfl (And.intro rfl (And.intro rfl (And.intro rfl (And.intro rfl (And.intro rfl (And.intro rfl (And.intro rfl (And.intro rfl (And.intro rfl (trivial))))))))))))
                        refine A_icmp_ne (tgt := 196) hC dX11_set_186 (by decide) ?_ ?_
                        · refine A_iconst (v := 0) hC dX11_set_196 (by decide) ?_
                          exact A_to (hj197 (0 : Int32) D20) (And.intro rfl (And.intro rfl (And.intro rfl (And.intro rfl (And.intro rfl (And.intro rfl (And.intro rfl (And.intro rfl (And.intro rfl (And.intro rfl (trivial)))))))))))
                        · refine A_iconst (v := 1) hC dX11_set_189 (by decide) ?_
                          refine A_iload hC dX11_set_190 rfl ?_
                          refine A_ishl hC dX11_set_192 ?_
                          refine A_goto (tgt := 197) hC dX11_set_193 (by decide) ?_
                          exact A_to (hj197 ((1 : Int32) <<< (x33 &&& 31)) D20) (And.intro rfl (And.intro rfl (And.intro rfl (And.intro rfl (And.intro rfl (And.intro rfl (And.intro rfl (And.intro rfl (And.intro rfl (And.intro rfl (trivial)))))))))))
                    exact A_to (hj171 x18 (0 : Int32) D19) (And.intro rfl (And.intro rfl (And.intro rfl (And.intro rfl (And.intro rfl (And.intro rfl (And.intro rfl (And.intro rfl (And.intro rfl (And.intro rfl (And.intro rfl (trivial))))))))))))
                  refine A_if_eq (tgt := 164) hC dX11_set_157 (by decide) ?_ ?_
                  · refine A_iconst (v := 0) hC dX11_set_164 (by decide) ?_
                    exact A_to (hj165 (0 : Int32) D18) (And.intro rfl (And.intro rfl (And.intro rfl (And.intro rfl (And.intro rfl (And.intro rfl (And.intro rfl (And.intro rfl (And.intro rfl (trivial))))))))))
                  · refine A_iconst (v := 1) hC dX11_set_160 (by decide) ?_
                    refine A_goto (tgt := 165) hC dX11_set_161 (by decide) ?_
                    exact A_to (hj165 (1 : Int32) D18) (And.intro rfl (And.intro rfl (And.intro rfl (And.intro rfl (And.intro rfl (And.intro rfl (And.intro rfl (And.intro rfl (And.intro rfl (trivial))))))))))
                refine A_join (fun (J : Int32 → Int32 → ADD → Option (Int32 × ADD)) => ∀ (x37 : Int32) (x38 : Int32) (D22 : ADD), AT aVi g b 108 [some (.ref (g.1 + 0)), some (.int a1), some (.int a2), some (.int a3), some (.int x26), some (.int x16), some (.int x28), some (.int x18), some (.int x19), some (.int x27), some (.int x37), some (.int x38)] [] D22 (J x37 x38 D22)) (aFix_all (fun (J : Int32 → Int32 → ADD → Option (Int32 × ADD)) => ∀ (x37 : Int32) (x38 : Int32) (D22 : ADD), AT aVi g b 108 [some (.ref (g.1 + 0)), some (.int a1), some (.int a2), some (.int a3), some (.int x26), some (.int x16), some (.int x28), some (.int x18), some (.int x19), some (.int x27), some (.int x37), some (.int x38)] [] D22 (J x37 x38 D22)) (fun _ _ _ => A_none) (fun L108 hL108 x37 x38 D22 => ?_) _) (fun j108 hj108 => ?_)
                · unfold lX11_set_108
                  refine A_iload hC dX11_set_108 rfl ?_
                  refine A_iload hC dX11_set_110 rfl ?_
                  refine A_icmp_ge (tgt := 153) hC dX11_set_112 (by decide) ?_ ?_
                  · exact A_to (hj153 x37 D22) (And.intro rfl (And.intro rfl (And.intro rfl (And.intro rfl (And.intro rfl (And.intro rfl (And.intro rfl (And.intro rfl (And.intro rfl (And.intro rfl (And.intro rfl (trivial))))))))))))
                  · refine A_iload hC dX11_set_115 rfl ?_
                    refine A_aload_n hC dX11_set_117 rfl ?_
                    refine A_iload hC dX11_set_118 rfl ?_
                    refine A_iload_n hC dX11_set_120 rfl ?_
                    refine A_callVi (As := [.int x38, .int a1]) (st := [.int x37]) hC (fun l => mX11_isOfSet l g hL x38 a1 D22) (lM_0 hL) rfl (Nat.le_of_ble_eq_true rfl) yc_X11_394 rfl rfl ⟨by decide, by decide⟩ (Nat.le_of_ble_eq_true rfl) rfl dX11_set_121 (fun x39 D23 => ?_)
                    refine A_join (fun (J : Int32 → ADD → Option (Int32 × ADD)) => ∀ (x40 : Int32) (D24 : ADD), AT aVi g b 144 [some (.ref (g.1 + 0)), some (.int a1), some (.int a2), some (.int a3), some (.int x26), some (.int x16), some (.int x28), some (.int x18), some (.int x19), some (.int x27), none, some (.int x38)] [.int x40, .int x37] D24 (J x40 D24)) (fun x40 D24 => ?_) (fun j144 hj144 => ?_)
                    · refine A_ior hC dX11_set_144 ?_
                      refine A_topi (fun x41 => ?_)
                      refine A_istore (lv2 := [some (.ref (g.1 + 0)), some (.int a1), some (.int a2), some (.int a3), some (.int x26), some (.int x16), some (.int x28), some (.int x18), some (.int x19), some (.int x27), some (.int x41), some (.int x38)]) hC dX11_set_145 (Nat.le_of_ble_eq_true rfl) rfl rfl ?_
                      refine A_iincL (z := (1 : Int32)) (lv2 := fun x42 => [some (.ref (g.1 + 0)), some (.int a1), some (.int a2), some (.int a3), some (.int x26), some (.int x16), some (.int x28), some (.int x18), some (.int x19), some (.int x27), some (.int x41), some (.int x42)]) hC dX11_set_147 rfl (by decide) (Nat.le_of_ble_eq_true rfl) rfl (fun _ => rfl) (fun x42 => ?_)
                      refine A_goto (tgt := 108) hC dX11_set_150 (by decide) ?_
                      exact A_to (hL108 x41 x42 D24) (And.intro rfl (And.intro rfl (And.intro rfl (And.intro rfl (And.intro rfl (And.intro rfl (And.intro rfl (And.intro rfl (And.intro rfl (And.intro rfl (And.intro rfl (And.intro rfl (trivial)))))))))))))
                    refine A_join (fun (J : ADD → Option (Int32 × ADD)) => ∀ (D25 : ADD), AT aVi g b 143 [some (.ref (g.1 + 0)), some (.int a1), some (.int a2), some (.int a3), some (.int x26), some (.int x16), some (.int x28), some (.int x18), some (.int x19), some (.int x27), none, some (.int x38)] [.int x37] D25 (J D25)) (fun D25 => ?_) (fun j143 hj143 => ?_)
                    · refine A_iconst (v := 0) hC dX11_set_143 (by decide) ?_
                      exact A_to (hj144 (0 : Int32) D25) (And.intro rfl (And.intro rfl (And.intro rfl (And.intro rfl (And.intro rfl (And.intro rfl (And.intro rfl (And.intro rfl (And.intro rfl (And.intro rfl (And.intro rfl (trivial))))))))))))
                    refine A_if_eq (tgt := 143) hC dX11_set_124 (by decide) ?_ ?_
                    · exact A_to (hj143 D23) (And.intro rfl (And.intro rfl (And.intro rfl (And.intro rfl (And.intro rfl (And.intro rfl (And.intro rfl (And.intro rfl (And.intro rfl (And.intro rfl (And.intro rfl (trivial))))))))))))
                    · refine A_aload_n hC dX11_set_127 rfl ?_
                      refine A_iload hC dX11_set_128 rfl ?_
                      refine A_iload_n hC dX11_set_130 rfl ?_
                      refine A_callVi (As := [.int x38, .int a2]) (st := [.int x37]) hC (fun l => mX11_timesOf l g hL x38 a2 D23) (lM_0 hL) rfl (Nat.le_of_ble_eq_true rfl) yc_X11_320 rfl rfl ⟨by decide, by decide⟩ (Nat.le_of_ble_eq_true rfl) rfl dX11_set_131 (fun x43 D26 => ?_)
                      refine A_iload hC dX11_set_134 rfl ?_
                      refine A_icmp_ne (tgt := 143) hC dX11_set_136 (by decide) ?_ ?_
                      · exact A_to (hj143 D26) (And.intro rfl (And.intro rfl (And.intro rfl (And.intro rfl (And.intro rfl (And.intro rfl (And.intro rfl (And.intro rfl (And.intro rfl (And.intro rfl (And.intro rfl (trivial))))))))))))
                      · refine A_iconst (v := 1) hC dX11_set_139 (by decide) ?_
                        refine A_goto (tgt := 144) hC dX11_set_140 (by decide) ?_
                        exact A_to (hj144 (1 : Int32) D26) (And.intro rfl (And.intro rfl (And.intro rfl (And.intro rfl (And.intro rfl (And.intro rfl (And.intro rfl (And.intro rfl (And.intro rfl (And.intro rfl (And.intro rfl (trivial))))))))))))
                exact A_to (hj108 (0 : Int32) (0 : Int32) D17) (And.intro rfl (And.intro rfl (And.intro rfl (And.intro rfl (And.intro rfl (And.intro rfl (And.intro rfl (And.intro rfl (And.intro rfl (And.intro rfl (And.intro rfl (And.intro rfl (trivial)))))))))))))
              refine A_icmp_le (tgt := 98) hC dX11_set_90 (by decide) ?_ ?_
              · refine A_iload hC dX11_set_98 rfl ?_
                exact A_to (hj100 x17 D16) (And.intro rfl (And.intro rfl (And.intro rfl (And.intro rfl (And.intro rfl (And.intro rfl (And.intro rfl (And.intro rfl (And.intro rfl (trivial))))))))))
              · refine A_iload hC dX11_set_93 rfl ?_
                refine A_goto (tgt := 100) hC dX11_set_95 (by decide) ?_
                exact A_to (hj100 x27 D16) (And.intro rfl (And.intro rfl (And.intro rfl (And.intro rfl (And.intro rfl (And.intro rfl (And.intro rfl (And.intro rfl (And.intro rfl (trivial))))))))))
            · refine A_goto (tgt := 206) hC dX11_set_71 (by decide) ?_
              exact A_to (hj206 x15 x16 x17 x18 D14) (And.intro rfl (And.intro rfl (And.intro rfl (And.intro rfl (And.intro rfl (And.intro rfl (And.intro rfl (And.intro rfl (And.intro rfl (trivial))))))))))
        exact A_to (hj52 (0 : Int32) (0 : Int32) (0 : Int32) (0 : Int32) (0 : Int32) D6) (And.intro rfl (And.intro rfl (And.intro rfl (And.intro rfl (And.intro rfl (And.intro rfl (And.intro rfl (And.intro rfl (And.intro rfl (trivial))))))))))
      · exact A_to (hj31 D5) (trivial)
