def fX9_hasRoom (a1 : Int32) (D : ADD) : Option (Int32 × ADD) := aLet (fun (x1 : Int32) (D1 : ADD) => aZ x1 (some (x1, D1))) (fun (j17 : Int32 → ADD → Option (Int32 × ADD)) => (if (500 : Int32) < ((D.1 11 1) + a1) then j17 (0 : Int32) D else j17 (1 : Int32) D))
set_option maxHeartbeats 4000000 in
set_option maxRecDepth 100000 in
theorem mX9_hasRoom (l : Launch) (g : AGl) (hL : aLX g) (a1 : Int32) (D : ADD) : AM aVi l yX9_hasRoom cX9_hasRoom 2 (some .boolean) 0 g [.ref (g.1 + 11), .int a1] D (fX9_hasRoom a1 D) := by
  refine AM_of (lv0 := [some (.ref (g.1 + 11)), some (.int a1)]) (own := RX9) (by decide +kernel) rfl (Nat.le_of_ble_eq_true rfl) rfl (fun b hC => ?_)
  unfold fX9_hasRoom
  refine A_aload_n hC dX9_hasRoom_0 rfl ?_
  refine A_geti (kf := 1) hC kX9 (lX_11 hL) rfl (by decide) (by decide) rfl w_94 dX9_hasRoom_1 ?_
  refine A_iload_n hC dX9_hasRoom_4 rfl ?_
  refine A_iadd hC dX9_hasRoom_5 ?_
  refine A_sipush (v := 500) hC dX9_hasRoom_6 (by decide) ?_
  refine A_join (fun (J : Int32 → ADD → Option (Int32 × ADD)) => ∀ (x1 : Int32) (D1 : ADD), AT aVi g b 17 [none, none] [.int x1] D1 (J x1 D1)) (fun x1 D1 => ?_) (fun j17 hj17 => ?_)
  · exact A_zretc hC dX9_hasRoom_17
  refine A_icmp_gt (tgt := 16) hC dX9_hasRoom_9 (by decide) ?_ ?_
  · refine A_iconst (v := 0) hC dX9_hasRoom_16 (by decide) ?_
    exact A_to (hj17 (0 : Int32) D) (trivial)
  · refine A_iconst (v := 1) hC dX9_hasRoom_12 (by decide) ?_
    refine A_goto (tgt := 17) hC dX9_hasRoom_13 (by decide) ?_
    exact A_to (hj17 (1 : Int32) D) (trivial)
def fX0_copyFrom (o : Nat) (p : Nat) (D : ADD) : Option (Unit × ADD) := aLet (aCp D (p + 1) (o + 1) 352) (fun D1 => aLet (aCp D1 (p + 2) (o + 2) 352) (fun D2 => aLet (aCp D2 (p + 3) (o + 3) 32) (fun D3 => aLet (aCp D3 (p + 4) (o + 4) 32) (fun D4 => aLet (aCp D4 (p + 5) (o + 5) 400) (fun D5 => aLet (aCp D5 (p + 6) (o + 6) 400) (fun D6 => aLet (aCp D6 (p + 7) (o + 7) 400) (fun D7 => aLet (aCp D7 (p + 8) (o + 8) 400) (fun D8 => aLet (aSI D8 o 8 (D8.1 p 8)) (fun D9 => aLet (aSI D9 o 9 (D9.1 p 9)) (fun D10 => aLet (aSI D10 o 10 (D10.1 p 10)) (fun D11 => aLet (aSI D11 o 11 (D11.1 p 11)) (fun D12 => aLet (aSI D12 o 12 (D12.1 p 12)) (fun D13 => some ((), D13))))))))))))))
set_option maxHeartbeats 4000000 in
set_option maxRecDepth 100000 in
theorem mX0_copyFrom (l : Launch) (g : AGl) (o : Nat) (p : Nat) (hO : aLB g o) (hP : aLB g p) (D : ADD) : AM aVv l yX0_copyFrom cX0_copyFrom 2 none 1 g [.ref (g.1 + o), .ref (g.1 + p)] D (fX0_copyFrom o p D) := by
  refine AM_of (lv0 := [some (.ref (g.1 + o)), some (.ref (g.1 + p))]) (own := RX0) (by decide +kernel) rfl (Nat.le_of_ble_eq_true rfl) rfl (fun b hC => ?_)
  unfold fX0_copyFrom
  refine A_aload_n hC dX0_copyFrom_0 rfl ?_
  refine A_getr (kf := 0) hC kX0 hP.1 rfl (by decide) (by decide) rfl rfl w_41 dX0_copyFrom_1 ?_
  refine A_iconst (v := 0) hC dX0_copyFrom_4 (by decide) ?_
  refine A_aload_n hC dX0_copyFrom_5 rfl ?_
  refine A_getr (kf := 0) hC kX0 hO.1 rfl (by decide) (by decide) rfl rfl w_41 dX0_copyFrom_6 ?_
  refine A_iconst (v := 0) hC dX0_copyFrom_9 (by decide) ?_
  refine A_sipush (v := 352) hC dX0_copyFrom_10 (by decide) ?_
  refine A_copyi (n := (352 : Int32)) hC hP.2.1 hO.2.1 (by decide) (by decide) w_982 w_575 w_574 w_17 rfl (by decide) (Nat.le_of_ble_eq_true rfl) dX0_copyFrom_13 (fun D1 => ?_)
  refine A_aload_n hC dX0_copyFrom_16 rfl ?_
  refine A_getr (kf := 1) hC kX0 hP.1 rfl (by decide) (by decide) rfl rfl w_42 dX0_copyFrom_17 ?_
  refine A_iconst (v := 0) hC dX0_copyFrom_20 (by decide) ?_
  refine A_aload_n hC dX0_copyFrom_21 rfl ?_
  refine A_getr (kf := 1) hC kX0 hO.1 rfl (by decide) (by decide) rfl rfl w_42 dX0_copyFrom_22 ?_
  refine A_iconst (v := 0) hC dX0_copyFrom_25 (by decide) ?_
  refine A_sipush (v := 352) hC dX0_copyFrom_26 (by decide) ?_
  refine A_copyi (n := (352 : Int32)) hC hP.2.2.1 hO.2.2.1 (by decide) (by decide) w_982 w_575 w_574 w_17 rfl (by decide) (Nat.le_of_ble_eq_true rfl) dX0_copyFrom_29 (fun D2 => ?_)
  refine A_aload_n hC dX0_copyFrom_32 rfl ?_
  refine A_getr (kf := 2) hC kX0 hP.1 rfl (by decide) (by decide) rfl rfl w_43 dX0_copyFrom_33 ?_
  refine A_iconst (v := 0) hC dX0_copyFrom_36 (by decide) ?_
  refine A_aload_n hC dX0_copyFrom_37 rfl ?_
  refine A_getr (kf := 2) hC kX0 hO.1 rfl (by decide) (by decide) rfl rfl w_43 dX0_copyFrom_38 ?_
  refine A_iconst (v := 0) hC dX0_copyFrom_41 (by decide) ?_
  refine A_bipush (v := 32) hC dX0_copyFrom_42 (by decide) ?_
  refine A_copyi (n := (32 : Int32)) hC hP.2.2.2.1 hO.2.2.2.1 (by decide) (by decide) w_982 w_575 w_574 w_17 rfl (by decide) (Nat.le_of_ble_eq_true rfl) dX0_copyFrom_44 (fun D3 => ?_)
  refine A_aload_n hC dX0_copyFrom_47 rfl ?_
  refine A_getr (kf := 3) hC kX0 hP.1 rfl (by decide) (by decide) rfl rfl w_44 dX0_copyFrom_48 ?_
  refine A_iconst (v := 0) hC dX0_copyFrom_51 (by decide) ?_
  refine A_aload_n hC dX0_copyFrom_52 rfl ?_
  refine A_getr (kf := 3) hC kX0 hO.1 rfl (by decide) (by decide) rfl rfl w_44 dX0_copyFrom_53 ?_
  refine A_iconst (v := 0) hC dX0_copyFrom_56 (by decide) ?_
  refine A_bipush (v := 32) hC dX0_copyFrom_57 (by decide) ?_
  refine A_copyi (n := (32 : Int32)) hC hP.2.2.2.2.1 hO.2.2.2.2.1 (by decide) (by decide) w_982 w_575 w_574 w_17 rfl (by decide) (Nat.le_of_ble_eq_true rfl) dX0_copyFrom_59 (fun D4 => ?_)
  refine A_aload_n hC dX0_copyFrom_62 rfl ?_
  refine A_getr (kf := 4) hC kX0 hP.1 rfl (by decide) (by decide) rfl rfl w_45 dX0_copyFrom_63 ?_
  refine A_iconst (v := 0) hC dX0_copyFrom_66 (by decide) ?_
  refine A_aload_n hC dX0_copyFrom_67 rfl ?_
  refine A_getr (kf := 4) hC kX0 hO.1 rfl (by decide) (by decide) rfl rfl w_45 dX0_copyFrom_68 ?_
  refine A_iconst (v := 0) hC dX0_copyFrom_71 (by decide) ?_
  refine A_sipush (v := 400) hC dX0_copyFrom_72 (by decide) ?_
  refine A_copyi (n := (400 : Int32)) hC hP.2.2.2.2.2.1 hO.2.2.2.2.2.1 (by decide) (by decide) w_982 w_575 w_574 w_17 rfl (by decide) (Nat.le_of_ble_eq_true rfl) dX0_copyFrom_75 (fun D5 => ?_)
  refine A_aload_n hC dX0_copyFrom_78 rfl ?_
  refine A_getr (kf := 5) hC kX0 hP.1 rfl (by decide) (by decide) rfl rfl w_46 dX0_copyFrom_79 ?_
  refine A_iconst (v := 0) hC dX0_copyFrom_82 (by decide) ?_
  refine A_aload_n hC dX0_copyFrom_83 rfl ?_
  refine A_getr (kf := 5) hC kX0 hO.1 rfl (by decide) (by decide) rfl rfl w_46 dX0_copyFrom_84 ?_
  refine A_iconst (v := 0) hC dX0_copyFrom_87 (by decide) ?_
  refine A_sipush (v := 400) hC dX0_copyFrom_88 (by decide) ?_
  refine A_copyi (n := (400 : Int32)) hC hP.2.2.2.2.2.2.1 hO.2.2.2.2.2.2.1 (by decide) (by decide) w_982 w_575 w_574 w_17 rfl (by decide) (Nat.le_of_ble_eq_true rfl) dX0_copyFrom_91 (fun D6 => ?_)
  refine A_aload_n hC dX0_copyFrom_94 rfl ?_
  refine A_getr (kf := 6) hC kX0 hP.1 rfl (by decide) (by decide) rfl rfl w_47 dX0_copyFrom_95 ?_
  refine A_iconst (v := 0) hC dX0_copyFrom_98 (by decide) ?_
  refine A_aload_n hC dX0_copyFrom_99 rfl ?_
  refine A_getr (kf := 6) hC kX0 hO.1 rfl (by decide) (by decide) rfl rfl w_47 dX0_copyFrom_100 ?_
  refine A_iconst (v := 0) hC dX0_copyFrom_103 (by decide) ?_
  refine A_sipush (v := 400) hC dX0_copyFrom_104 (by decide) ?_
  refine A_copyi (n := (400 : Int32)) hC hP.2.2.2.2.2.2.2.1 hO.2.2.2.2.2.2.2.1 (by decide) (by decide) w_982 w_575 w_574 w_17 rfl (by decide) (Nat.le_of_ble_eq_true rfl) dX0_copyFrom_107 (fun D7 => ?_)
  refine A_aload_n hC dX0_copyFrom_110 rfl ?_
  refine A_getr (kf := 7) hC kX0 hP.1 rfl (by decide) (by decide) rfl rfl w_48 dX0_copyFrom_111 ?_
  refine A_iconst (v := 0) hC dX0_copyFrom_114 (by decide) ?_
  refine A_aload_n hC dX0_copyFrom_115 rfl ?_
  refine A_getr (kf := 7) hC kX0 hO.1 rfl (by decide) (by decide) rfl rfl w_48 dX0_copyFrom_116 ?_
  refine A_iconst (v := 0) hC dX0_copyFrom_119 (by decide) ?_
  refine A_sipush (v := 400) hC dX0_copyFrom_120 (by decide) ?_
  refine A_copyi (n := (400 : Int32)) hC hP.2.2.2.2.2.2.2.2 hO.2.2.2.2.2.2.2.2 (by decide) (by decide) w_982 w_575 w_574 w_17 rfl (by decide) (Nat.le_of_ble_eq_true rfl) dX0_copyFrom_123 (fun D8 => ?_)
  refine A_aload_n hC dX0_copyFrom_126 rfl ?_
  refine A_aload_n hC dX0_copyFrom_127 rfl ?_
  refine A_geti (kf := 8) hC kX0 hP.1 rfl (by decide) (by decide) rfl w_49 dX0_copyFrom_128 ?_
  refine A_puti (kf := 8) hC kX0 hO.1 rfl (by decide) (by decide) rfl rfl rfl w_49 dX0_copyFrom_131 (fun D9 => ?_)
  refine A_aload_n hC dX0_copyFrom_134 rfl ?_
  refine A_aload_n hC dX0_copyFrom_135 rfl ?_
  refine A_geti (kf := 9) hC kX0 hP.1 rfl (by decide) (by decide) rfl w_50 dX0_copyFrom_136 ?_
  refine A_puti (kf := 9) hC kX0 hO.1 rfl (by decide) (by decide) rfl rfl rfl w_50 dX0_copyFrom_139 (fun D10 => ?_)
  refine A_aload_n hC dX0_copyFrom_142 rfl ?_
  refine A_aload_n hC dX0_copyFrom_143 rfl ?_
  refine A_geti (kf := 10) hC kX0 hP.1 rfl (by decide) (by decide) rfl w_53 dX0_copyFrom_144 ?_
  refine A_puti (kf := 10) hC kX0 hO.1 rfl (by decide) (by decide) rfl rfl rfl w_53 dX0_copyFrom_147 (fun D11 => ?_)
  refine A_aload_n hC dX0_copyFrom_150 rfl ?_
  refine A_aload_n hC dX0_copyFrom_151 rfl ?_
  refine A_geti (kf := 11) hC kX0 hP.1 rfl (by decide) (by decide) rfl w_55 dX0_copyFrom_152 ?_
  refine A_puti (kf := 11) hC kX0 hO.1 rfl (by decide) (by decide) rfl rfl rfl w_55 dX0_copyFrom_155 (fun D12 => ?_)
  refine A_aload_n hC dX0_copyFrom_158 rfl ?_
  refine A_aload_n hC dX0_copyFrom_159 rfl ?_
  refine A_geti (kf := 12) hC kX0 hP.1 rfl (by decide) (by decide) rfl w_57 dX0_copyFrom_160 ?_
  refine A_puti (kf := 12) hC kX0 hO.1 rfl (by decide) (by decide) rfl rfl rfl w_57 dX0_copyFrom_163 (fun D13 => ?_)
  exact A_vret hC dX0_copyFrom_166
def fX0_see (a1 : Int32) (D : ADD) : Option (Unit × ADD) := aBind (fX0_apply 4 a1 D) (fun _ D1 => aIn a1 400 (aLet (fun (D2 : ADD) => some ((), D2)) (fun (j31 : ADD → Option (Unit × ADD)) => (if (D1.1 9 a1.toNatClampNeg) = (-1 : Int32) then aIn a1 400 (aLet (aSI D1 2 9 ((D1.1 8 a1.toNatClampNeg) + (1 : Int32))) (fun D3 => j31 D3)) else j31 D1))))
set_option maxHeartbeats 4000000 in
set_option maxRecDepth 100000 in
theorem mX0_see (l : Launch) (g : AGl) (hL : aLX g) (a1 : Int32) (D : ADD) : AM aVv l yX0_see cX0_see 2 none 1 g [.ref (g.1 + 2), .int a1] D (fX0_see a1 D) := by
  refine AM_of (lv0 := [some (.ref (g.1 + 2)), some (.int a1)]) (own := RX0) (by decide +kernel) rfl (Nat.le_of_ble_eq_true rfl) rfl (fun b hC => ?_)
  unfold fX0_see
  refine A_aload_n hC dX0_see_0 rfl ?_
  refine A_aload_n hC dX0_see_1 rfl ?_
  refine A_getr (kf := 1) hC kX0 (lX_2 hL) rfl (by decide) (by decide) rfl rfl w_42 dX0_see_2 ?_
  refine A_iload_n hC dX0_see_5 rfl ?_
  refine A_callVv (As := [.ref (g.1 + 4), .int a1]) (st := []) hC (fun l => mX0_apply l g hL 4 (lX_4 hL) a1 D) (lX_2 hL) rfl (Nat.le_of_ble_eq_true rfl) yc_X0_85 rfl rfl ⟨by decide, by decide⟩ (Nat.le_of_ble_eq_true rfl) rfl dX0_see_6 (fun _ D1 => ?_)
  refine A_aload_n hC dX0_see_9 rfl ?_
  refine A_getr (kf := 6) hC kX0 (lX_2 hL) rfl (by decide) (by decide) rfl rfl w_47 dX0_see_10 ?_
  refine A_iload_n hC dX0_see_13 rfl ?_
  refine A_iald hC (lX_9 hL) dX0_see_14 ?_
  refine A_iconst (v := -1) hC dX0_see_15 (by decide) ?_
  refine A_join (fun (J : ADD → Option (Unit × ADD)) => ∀ (D2 : ADD), AT aVv g b 31 [none, none] [] D2 (J D2)) (fun D2 => ?_) (fun j31 hj31 => ?_)
  · exact A_vret hC dX0_see_31
  refine A_icmp_ne (tgt := 31) hC dX0_see_16 (by decide) ?_ ?_
  · exact A_to (hj31 D1) (trivial)
  · refine A_aload_n hC dX0_see_19 rfl ?_
    refine A_aload_n hC dX0_see_20 rfl ?_
    refine A_getr (kf := 5) hC kX0 (lX_2 hL) rfl (by decide) (by decide) rfl rfl w_46 dX0_see_21 ?_
    refine A_iload_n hC dX0_see_24 rfl ?_
    refine A_iald hC (lX_8 hL) dX0_see_25 ?_
    refine A_iconst (v := 1) hC dX0_see_26 (by decide) ?_
    refine A_iadd hC dX0_see_27 ?_
    refine A_puti (kf := 9) hC kX0 (lX_2 hL) rfl (by decide) (by decide) rfl rfl rfl w_50 dX0_see_28 (fun D3 => ?_)
    exact A_to (hj31 D3) (trivial)
def fX10_choose (a1 : Int32) (a2 : Int32) (a3 : Int32) (a4 : Int32) (a5 : Int32) (D : ADD) : Option (Int32 × ADD) := aBind (fX1_change a1 a2 a3 a4 a5 D) (fun x1 D1 => aZ x1 (some (x1, D1)))
set_option maxHeartbeats 4000000 in
set_option maxRecDepth 100000 in
theorem mX10_choose (l : Launch) (g : AGl) (hL : aLX g) (a1 : Int32) (a2 : Int32) (a3 : Int32) (a4 : Int32) (a5 : Int32) (D : ADD) : AM aVi l yX10_choose cX10_choose 6 (some .boolean) 1 g [.ref (g.1 + 0), .int a1, .int a2, .int a3, .int a4, .int a5] D (fX10_choose a1 a2 a3 a4 a5 D) := by
  refine AM_of (lv0 := [some (.ref (g.1 + 0)), some (.int a1), some (.int a2), some (.int a3), some (.int a4), some (.int a5)]) (own := RX10) (by decide +kernel) rfl (Nat.le_of_ble_eq_true rfl) rfl (fun b hC => ?_)
  unfold fX10_choose
  refine A_aload_n hC dX10_choose_0 rfl ?_
  refine A_getr (kf := 0) hC kX10 (lX_0 hL) rfl (by decide) (by decide) rfl rfl w_305 dX10_choose_1 ?_
  refine A_getr (kf := 4) hC kX8 (lX_1 hL) rfl (by decide) (by decide) rfl rfl w_173 dX10_choose_4 ?_
  refine A_iload_n hC dX10_choose_7 rfl ?_
  refine A_iload_n hC dX10_choose_8 rfl ?_
  refine A_iload_n hC dX10_choose_9 rfl ?_
  refine A_iload hC dX10_choose_10 rfl ?_
  refine A_iload hC dX10_choose_12 rfl ?_
  refine A_callVi (As := [.int a1, .int a2, .int a3, .int a4, .int a5]) (st := []) hC (fun l => mX1_change l g hL a1 a2 a3 a4 a5 D) (lX_31 hL) rfl (Nat.le_of_ble_eq_true rfl) yc_X10_137 rfl rfl ⟨by decide, by decide⟩ (Nat.le_of_ble_eq_true rfl) rfl dX10_choose_14 (fun x1 D1 => ?_)
  exact A_zretc hC dX10_choose_17
def fX10_day (a1 : Int32) (D : ADD) : Option (Int32 × ADD) := aBind (fX0_turnTo a1 D) (fun x1 D1 => aZ x1 (some (x1, D1)))
set_option maxHeartbeats 4000000 in
set_option maxRecDepth 100000 in
theorem mX10_day (l : Launch) (g : AGl) (hL : aLX g) (a1 : Int32) (D : ADD) : AM aVi l yX10_day cX10_day 2 (some .boolean) 1 g [.ref (g.1 + 0), .int a1] D (fX10_day a1 D) := by
  refine AM_of (lv0 := [some (.ref (g.1 + 0)), some (.int a1)]) (own := RX10) (by decide +kernel) rfl (Nat.le_of_ble_eq_true rfl) rfl (fun b hC => ?_)
  unfold fX10_day
  refine A_aload_n hC dX10_day_0 rfl ?_
  refine A_getr (kf := 0) hC kX10 (lX_0 hL) rfl (by decide) (by decide) rfl rfl w_305 dX10_day_1 ?_
  refine A_getr (kf := 0) hC kX8 (lX_1 hL) rfl (by decide) (by decide) rfl rfl w_163 dX10_day_4 ?_
  refine A_iload_n hC dX10_day_7 rfl ?_
  refine A_callVi (As := [.int a1]) (st := []) hC (fun l => mX0_turnTo l g hL a1 D) (lX_2 hL) rfl (Nat.le_of_ble_eq_true rfl) yc_X10_72 rfl rfl ⟨by decide, by decide⟩ (Nat.le_of_ble_eq_true rfl) rfl dX10_day_8 (fun x1 D1 => ?_)
  exact A_zretc hC dX10_day_11
def fX10_end (a1 : Int32) (D : ADD) : Option (Int32 × ADD) := aBind (fX9_cut a1 D) (fun x1 D1 => aLet (fun (x2 : Int32) (D2 : ADD) => some (x2, D2)) (fun (j19 : Int32 → ADD → Option (Int32 × ADD)) => (if x1 = 0 then j19 (-1 : Int32) D1 else j19 a1 D1)))
set_option maxHeartbeats 4000000 in
set_option maxRecDepth 100000 in
theorem mX10_end (l : Launch) (g : AGl) (hL : aLX g) (a1 : Int32) (D : ADD) : AM aVi l yX10_end cX10_end 2 (some .int) 1 g [.ref (g.1 + 0), .int a1] D (fX10_end a1 D) := by
  refine AM_of (lv0 := [some (.ref (g.1 + 0)), some (.int a1)]) (own := RX10) (by decide +kernel) rfl (Nat.le_of_ble_eq_true rfl) rfl (fun b hC => ?_)
  unfold fX10_end
  refine A_aload_n hC dX10_end_0 rfl ?_
  refine A_getr (kf := 0) hC kX10 (lX_0 hL) rfl (by decide) (by decide) rfl rfl w_305 dX10_end_1 ?_
  refine A_getr (kf := 1) hC kX8 (lX_1 hL) rfl (by decide) (by decide) rfl rfl w_166 dX10_end_4 ?_
  refine A_iload_n hC dX10_end_7 rfl ?_
  refine A_callVi (As := [.int a1]) (st := []) hC (fun l => mX9_cut l g hL a1 D) (lX_11 hL) rfl (Nat.le_of_ble_eq_true rfl) yc_X10_99 rfl rfl ⟨by decide, by decide⟩ (Nat.le_of_ble_eq_true rfl) rfl dX10_end_8 (fun x1 D1 => ?_)
  refine A_join (fun (J : Int32 → ADD → Option (Int32 × ADD)) => ∀ (x2 : Int32) (D2 : ADD), AT aVi g b 19 [none, none] [.int x2] D2 (J x2 D2)) (fun x2 D2 => ?_) (fun j19 hj19 => ?_)
  · exact A_iret hC dX10_end_19
  refine A_if_eq (tgt := 18) hC dX10_end_11 (by decide) ?_ ?_
  · refine A_iconst (v := -1) hC dX10_end_18 (by decide) ?_
    exact A_to (hj19 (-1 : Int32) D1) (trivial)
  · refine A_iload_n hC dX10_end_14 rfl ?_
    refine A_goto (tgt := 19) hC dX10_end_15 (by decide) ?_
    exact A_to (hj19 a1 D1) (trivial)
def fX10_entry (a1 : Int32) (a2 : Int32) (D : ADD) : Option (Int32 × ADD) := aBind (fX0_written a1 a2 D) (fun x1 D1 => some (x1, D1))
set_option maxHeartbeats 4000000 in
set_option maxRecDepth 100000 in
theorem mX10_entry (l : Launch) (g : AGl) (hL : aLX g) (a1 : Int32) (a2 : Int32) (D : ADD) : AM aVi l yX10_entry cX10_entry 3 (some .int) 1 g [.ref (g.1 + 0), .int a1, .int a2] D (fX10_entry a1 a2 D) := by
  refine AM_of (lv0 := [some (.ref (g.1 + 0)), some (.int a1), some (.int a2)]) (own := RX10) (by decide +kernel) rfl (Nat.le_of_ble_eq_true rfl) rfl (fun b hC => ?_)
  unfold fX10_entry
  refine A_aload_n hC dX10_entry_0 rfl ?_
  refine A_getr (kf := 0) hC kX10 (lX_0 hL) rfl (by decide) (by decide) rfl rfl w_305 dX10_entry_1 ?_
  refine A_getr (kf := 0) hC kX8 (lX_1 hL) rfl (by decide) (by decide) rfl rfl w_163 dX10_entry_4 ?_
  refine A_iload_n hC dX10_entry_7 rfl ?_
  refine A_iload_n hC dX10_entry_8 rfl ?_
  refine A_callVi (As := [.int a1, .int a2]) (st := []) hC (fun l => mX0_written l g hL a1 a2 D) (lX_2 hL) rfl (Nat.le_of_ble_eq_true rfl) yc_X10_83 rfl rfl ⟨by decide, by decide⟩ (Nat.le_of_ble_eq_true rfl) rfl dX10_entry_9 (fun x1 D1 => ?_)
  exact A_iret hC dX10_entry_12
def fX10_fact (a1 : Int32) (a2 : Int32) (D : ADD) : Option (Int32 × ADD) := aBind (fX0_known a1 a2 D) (fun x1 D1 => some (x1, D1))
set_option maxHeartbeats 4000000 in
set_option maxRecDepth 100000 in
theorem mX10_fact (l : Launch) (g : AGl) (hL : aLX g) (a1 : Int32) (a2 : Int32) (D : ADD) : AM aVi l yX10_fact cX10_fact 3 (some .int) 1 g [.ref (g.1 + 0), .int a1, .int a2] D (fX10_fact a1 a2 D) := by
  refine AM_of (lv0 := [some (.ref (g.1 + 0)), some (.int a1), some (.int a2)]) (own := RX10) (by decide +kernel) rfl (Nat.le_of_ble_eq_true rfl) rfl (fun b hC => ?_)
  unfold fX10_fact
  refine A_aload_n hC dX10_fact_0 rfl ?_
  refine A_getr (kf := 0) hC kX10 (lX_0 hL) rfl (by decide) (by decide) rfl rfl w_305 dX10_fact_1 ?_
  refine A_getr (kf := 0) hC kX8 (lX_1 hL) rfl (by decide) (by decide) rfl rfl w_163 dX10_fact_4 ?_
  refine A_iload_n hC dX10_fact_7 rfl ?_
  refine A_iload_n hC dX10_fact_8 rfl ?_
  refine A_callVi (As := [.int a1, .int a2]) (st := []) hC (fun l => mX0_known l g hL a1 a2 D) (lX_2 hL) rfl (Nat.le_of_ble_eq_true rfl) yc_X10_79 rfl rfl ⟨by decide, by decide⟩ (Nat.le_of_ble_eq_true rfl) rfl dX10_fact_9 (fun x1 D1 => ?_)
  exact A_iret hC dX10_fact_12
def fX10_feed (a1 : Int32) (a2 : Int32) (a3 : Int32) (a4 : Int32) (a5 : Int32) (D : ADD) : Option (Int32 × ADD) := aBind (fX9_hasRoom (20 : Int32) D) (fun x1 D1 => (if x1 = 0 then some ((-1 : Int32), D1) else aBind (fX9_add a1 D1) (fun _ D2 => aBind (fX9_add a2 D2) (fun _ D3 => aBind (fX9_add a3 D3) (fun _ D4 => aBind (fX9_add a4 D4) (fun _ D5 => aBind (fX9_add a5 D5) (fun _ D6 => some ((D6.1 11 1), D6))))))))
set_option maxHeartbeats 4000000 in
set_option maxRecDepth 100000 in
theorem mX10_feed (l : Launch) (g : AGl) (hL : aLX g) (a1 : Int32) (a2 : Int32) (a3 : Int32) (a4 : Int32) (a5 : Int32) (D : ADD) : AM aVi l yX10_feed cX10_feed 7 (some .int) 1 g [.ref (g.1 + 0), .int a1, .int a2, .int a3, .int a4, .int a5] D (fX10_feed a1 a2 a3 a4 a5 D) := by
  refine AM_of (lv0 := [some (.ref (g.1 + 0)), some (.int a1), some (.int a2), some (.int a3), some (.int a4), some (.int a5), none]) (own := RX10) (by decide +kernel) rfl (Nat.le_of_ble_eq_true rfl) rfl (fun b hC => ?_)
  unfold fX10_feed
  refine A_aload_n hC dX10_feed_0 rfl ?_
  refine A_getr (kf := 0) hC kX10 (lX_0 hL) rfl (by decide) (by decide) rfl rfl w_305 dX10_feed_1 ?_
  refine A_getr (kf := 1) hC kX8 (lX_1 hL) rfl (by decide) (by decide) rfl rfl w_166 dX10_feed_4 ?_
  refine A_astore (lv2 := [some (.ref (g.1 + 0)), some (.int a1), some (.int a2), some (.int a3), some (.int a4), some (.int a5), some (.ref (g.1 + 11))]) hC dX10_feed_7 (Nat.le_of_ble_eq_true rfl) rfl rfl ?_
  refine A_aload hC dX10_feed_9 rfl ?_
  refine A_bipush (v := 20) hC dX10_feed_11 (by decide) ?_
  refine A_callVi (As := [.int (20 : Int32)]) (st := []) hC (fun l => mX9_hasRoom l g hL (20 : Int32) D) (lX_11 hL) rfl (Nat.le_of_ble_eq_true rfl) yc_X10_86 rfl rfl ⟨by decide, by decide⟩ (Nat.le_of_ble_eq_true rfl) rfl dX10_feed_13 (fun x1 D1 => ?_)
  refine A_if_ne (tgt := 21) hC dX10_feed_16 (by decide) ?_ ?_
  · refine A_aload hC dX10_feed_21 rfl ?_
    refine A_iload_n hC dX10_feed_23 rfl ?_
    refine A_callVv (As := [.int a1]) (st := []) hC (fun l => mX9_add l g hL a1 D1) (lX_11 hL) rfl (Nat.le_of_ble_eq_true rfl) yc_X10_91 rfl rfl ⟨by decide, by decide⟩ (Nat.le_of_ble_eq_true rfl) rfl dX10_feed_24 (fun _ D2 => ?_)
    refine A_aload hC dX10_feed_27 rfl ?_
    refine A_iload_n hC dX10_feed_29 rfl ?_
    refine A_callVv (As := [.int a2]) (st := []) hC (fun l => mX9_add l g hL a2 D2) (lX_11 hL) rfl (Nat.le_of_ble_eq_true rfl) yc_X10_91 rfl rfl ⟨by decide, by decide⟩ (Nat.le_of_ble_eq_true rfl) rfl dX10_feed_30 (fun _ D3 => ?_)
    refine A_aload hC dX10_feed_33 rfl ?_
    refine A_iload_n hC dX10_feed_35 rfl ?_
    refine A_callVv (As := [.int a3]) (st := []) hC (fun l => mX9_add l g hL a3 D3) (lX_11 hL) rfl (Nat.le_of_ble_eq_true rfl) yc_X10_91 rfl rfl ⟨by decide, by decide⟩ (Nat.le_of_ble_eq_true rfl) rfl dX10_feed_36 (fun _ D4 => ?_)
    refine A_aload hC dX10_feed_39 rfl ?_
    refine A_iload hC dX10_feed_41 rfl ?_
    refine A_callVv (As := [.int a4]) (st := []) hC (fun l => mX9_add l g hL a4 D4) (lX_11 hL) rfl (Nat.le_of_ble_eq_true rfl) yc_X10_91 rfl rfl ⟨by decide, by decide⟩ (Nat.le_of_ble_eq_true rfl) rfl dX10_feed_43 (fun _ D5 => ?_)
    refine A_aload hC dX10_feed_46 rfl ?_
    refine A_iload hC dX10_feed_48 rfl ?_
    refine A_callVv (As := [.int a5]) (st := []) hC (fun l => mX9_add l g hL a5 D5) (lX_11 hL) rfl (Nat.le_of_ble_eq_true rfl) yc_X10_91 rfl rfl ⟨by decide, by decide⟩ (Nat.le_of_ble_eq_true rfl) rfl dX10_feed_50 (fun _ D6 => ?_)
    refine A_aload hC dX10_feed_53 rfl ?_
    refine A_geti (kf := 1) hC kX9 (lX_11 hL) rfl (by decide) (by decide) rfl w_95 dX10_feed_55 ?_
    exact A_iret hC dX10_feed_58
  · refine A_iconst (v := -1) hC dX10_feed_19 (by decide) ?_
    exact A_iret hC dX10_feed_20
def fX10_isRange (a1 : Int32) (a2 : Int32) (a3 : Int32) (D : ADD) : Option (Int32 × ADD) := aBind (fX10_isUnit a1 D) (fun x1 D1 => aLet (fun (x2 : Int32) (D2 : ADD) => aZ x2 (some (x2, D2))) (fun (j31 : Int32 → ADD → Option (Int32 × ADD)) => aLet (fun (D3 : ADD) => j31 (0 : Int32) D3) (fun (j30 : ADD → Option (Int32 × ADD)) => (if x1 = 0 then j30 D1 else aBind (fX10_isUnit a2 D1) (fun x3 D4 => (if x3 = 0 then j30 D4 else (if a2 < a1 then j30 D4 else (if a3 < (a2 - a1) then j30 D4 else j31 (1 : Int32) D4))))))))
set_option maxHeartbeats 4000000 in
set_option maxRecDepth 100000 in
theorem mX10_isRange (l : Launch) (g : AGl) (a1 : Int32) (a2 : Int32) (a3 : Int32) (D : ADD) : AM aVi l yX10_isRange cX10_isRange 3 (some .boolean) 1 g [.int a1, .int a2, .int a3] D (fX10_isRange a1 a2 a3 D) := by
  refine AM_of (lv0 := [some (.int a1), some (.int a2), some (.int a3)]) (own := RX10) (by decide +kernel) rfl (Nat.le_of_ble_eq_true rfl) rfl (fun b hC => ?_)
  unfold fX10_isRange
  refine A_iload_n hC dX10_isRange_0 rfl ?_
  refine A_callSi (As := [.int a1]) (st := []) hC (fun l => mX10_isUnit l g a1 D) yc_X10_157 rfl rfl ⟨by decide, by decide⟩ (Nat.le_of_ble_eq_true rfl) rfl dX10_isRange_1 (fun x1 D1 => ?_)
  refine A_join (fun (J : Int32 → ADD → Option (Int32 × ADD)) => ∀ (x2 : Int32) (D2 : ADD), AT aVi g b 31 [none, none, none] [.int x2] D2 (J x2 D2)) (fun x2 D2 => ?_) (fun j31 hj31 => ?_)
  · exact A_zretc hC dX10_isRange_31
  refine A_join (fun (J : ADD → Option (Int32 × ADD)) => ∀ (D3 : ADD), AT aVi g b 30 [none, none, none] [] D3 (J D3)) (fun D3 => ?_) (fun j30 hj30 => ?_)
  · refine A_iconst (v := 0) hC dX10_isRange_30 (by decide) ?_
    exact A_to (hj31 (0 : Int32) D3) (trivial)
  refine A_if_eq (tgt := 30) hC dX10_isRange_4 (by decide) ?_ ?_
  · exact A_to (hj30 D1) (trivial)
  · refine A_iload_n hC dX10_isRange_7 rfl ?_
    refine A_callSi (As := [.int a2]) (st := []) hC (fun l => mX10_isUnit l g a2 D1) yc_X10_157 rfl rfl ⟨by decide, by decide⟩ (Nat.le_of_ble_eq_true rfl) rfl dX10_isRange_8 (fun x3 D4 => ?_)
    refine A_if_eq (tgt := 30) hC dX10_isRange_11 (by decide) ?_ ?_
    · exact A_to (hj30 D4) (trivial)
    · refine A_iload_n hC dX10_isRange_14 rfl ?_
      refine A_iload_n hC dX10_isRange_15 rfl ?_
      refine A_icmp_gt (tgt := 30) hC dX10_isRange_16 (by decide) ?_ ?_
      · exact A_to (hj30 D4) (trivial)
      · refine A_iload_n hC dX10_isRange_19 rfl ?_
        refine A_iload_n hC dX10_isRange_20 rfl ?_
        refine A_isub hC dX10_isRange_21 ?_
        refine A_iload_n hC dX10_isRange_22 rfl ?_
        refine A_icmp_gt (tgt := 30) hC dX10_isRange_23 (by decide) ?_ ?_
        · exact A_to (hj30 D4) (trivial)
        · refine A_iconst (v := 1) hC dX10_isRange_26 (by decide) ?_
          refine A_goto (tgt := 31) hC dX10_isRange_27 (by decide) ?_
          exact A_to (hj31 (1 : Int32) D4) (trivial)
def lX10_simplestRate_32 (a1 : Int32) (a2 : Int32) (a3 : Int32) (x1 : Int32) (x3 : Int32) (j85 : ADD → Option (Int32 × ADD)) (L32 : Int32 → ADD → Option (Int32 × ADD)) (x5 : Int32) (D4 : ADD) : Option (Int32 × ADD) := (if x3 < x5 then j85 D4 else aLet (x1 - x5) (fun x6 => (if ((a3 * a2) * x5) < ((1000 : Int32) * (aAbs ((a1 * x6) - (a2 * x5)))) then aLet (x5 + (1 : Int32)) (fun x7 => L32 x7 D4) else some ((((100 : Int32) * x5) + x6), D4))))
def lX10_simplestRate_2 (a1 : Int32) (a2 : Int32) (a3 : Int32) (j91 : ADD → Option (Int32 × ADD)) (L2 : Int32 → ADD → Option (Int32 × ADD)) (x1 : Int32) (D2 : ADD) : Option (Int32 × ADD) := (if (24 : Int32) < x1 then j91 D2 else aLet (aMax (1 : Int32) (x1 - (12 : Int32))) (fun x2 => aLet (aMin (12 : Int32) (x1 - (1 : Int32))) (fun x3 => aLet (fun (D3 : ADD) => aLet (x1 + (1 : Int32)) (fun x4 => L2 x4 D3)) (fun (j85 : ADD → Option (Int32 × ADD)) => aLet (aFix aFuel (lX10_simplestRate_32 a1 a2 a3 x1 x3 j85) (fun _ _ => none)) (fun j32 => j32 x2 D2)))))
def fX10_simplestRate (a1 : Int32) (a2 : Int32) (a3 : Int32) (D : ADD) : Option (Int32 × ADD) := aLet (fun (D1 : ADD) => some ((-1 : Int32), D1)) (fun (j91 : ADD → Option (Int32 × ADD)) => aLet (aFix aFuel (lX10_simplestRate_2 a1 a2 a3 j91) (fun _ _ => none)) (fun j2 => j2 (2 : Int32) D))
set_option maxHeartbeats 4000000 in
set_option maxRecDepth 100000 in
theorem mX10_simplestRate (l : Launch) (g : AGl) (a1 : Int32) (a2 : Int32) (a3 : Int32) (D : ADD) : AM aVi l yX10_simplestRate cX10_simplestRate 8 (some .int) 1 g [.int a1, .int a2, .int a3] D (fX10_simplestRate a1 a2 a3 D) := by
  refine AM_of (lv0 := [some (.int a1), some (.int a2), some (.int a3), none, none, none, none, none]) (own := RX10) (by decide +kernel) rfl (Nat.le_of_ble_eq_true rfl) rfl (fun b hC => ?_)
  unfold fX10_simplestRate
  refine A_iconst (v := 2) hC dX10_simplestRate_0 (by decide) ?_
  refine A_istore_n (lv2 := [some (.int a1), some (.int a2), some (.int a3), some (.int (2 : Int32)), none, none, none, none]) hC dX10_simplestRate_1 (Nat.le_of_ble_eq_true rfl) rfl rfl ?_
  refine A_join (fun (J : ADD → Option (Int32 × ADD)) => ∀ (D1 : ADD), AT aVi g b 91 [none, none, none, none, none, none, none, none] [] D1 (J D1)) (fun D1 => ?_) (fun j91 hj91 => ?_)
  · refine A_iconst (v := -1) hC dX10_simplestRate_91 (by decide) ?_
    exact A_iret hC dX10_simplestRate_92
  refine A_join (fun (J : Int32 → ADD → Option (Int32 × ADD)) => ∀ (x1 : Int32) (D2 : ADD), AT aVi g b 2 [some (.int a1), some (.int a2), some (.int a3), some (.int x1), none, none, none, none] [] D2 (J x1 D2)) (aFix_all (fun (J : Int32 → ADD → Option (Int32 × ADD)) => ∀ (x1 : Int32) (D2 : ADD), AT aVi g b 2 [some (.int a1), some (.int a2), some (.int a3), some (.int x1), none, none, none, none] [] D2 (J x1 D2)) (fun _ _ => A_none) (fun L2 hL2 x1 D2 => ?_) _) (fun j2 hj2 => ?_)
  · unfold lX10_simplestRate_2
    refine A_iload_n hC dX10_simplestRate_2 rfl ?_
    refine A_bipush (v := 24) hC dX10_simplestRate_3 (by decide) ?_
    refine A_icmp_gt (tgt := 91) hC dX10_simplestRate_5 (by decide) ?_ ?_
    · exact A_to (hj91 D2) (trivial)
    · refine A_iconst (v := 1) hC dX10_simplestRate_8 (by decide) ?_
      refine A_iload_n hC dX10_simplestRate_9 rfl ?_
      refine A_bipush (v := 12) hC dX10_simplestRate_10 (by decide) ?_
      refine A_isub hC dX10_simplestRate_12 ?_
      refine A_mmax hC w_892 w_634 w_16 w_635 rfl (by decide) (Nat.le_of_ble_eq_true rfl) dX10_simplestRate_13 ?_
      refine A_topi (fun x2 => ?_)
      refine A_istore (lv2 := [some (.int a1), some (.int a2), some (.int a3), some (.int x1), some (.int x2), none, none, none]) hC dX10_simplestRate_16 (Nat.le_of_ble_eq_true rfl) rfl rfl ?_
      refine A_bipush (v := 12) hC dX10_simplestRate_18 (by decide) ?_
      refine A_iload_n hC dX10_simplestRate_20 rfl ?_
      refine A_iconst (v := 1) hC dX10_simplestRate_21 (by decide) ?_
      refine A_isub hC dX10_simplestRate_22 ?_
      refine A_mmin hC w_893 w_567 w_16 w_568 rfl (by decide) (Nat.le_of_ble_eq_true rfl) dX10_simplestRate_23 ?_
      refine A_topi (fun x3 => ?_)
      refine A_istore (lv2 := [some (.int a1), some (.int a2), some (.int a3), some (.int x1), some (.int x2), some (.int x3), none, none]) hC dX10_simplestRate_26 (Nat.le_of_ble_eq_true rfl) rfl rfl ?_
      refine A_iload hC dX10_simplestRate_28 rfl ?_
      refine A_istore (lv2 := [some (.int a1), some (.int a2), some (.int a3), some (.int x1), some (.int x2), some (.int x3), some (.int x2), none]) hC dX10_simplestRate_30 (Nat.le_of_ble_eq_true rfl) rfl rfl ?_
      refine A_join (fun (J : ADD → Option (Int32 × ADD)) => ∀ (D3 : ADD), AT aVi g b 85 [some (.int a1), some (.int a2), some (.int a3), some (.int x1), none, none, none, none] [] D3 (J D3)) (fun D3 => ?_) (fun j85 hj85 => ?_)
      · refine A_iincL (z := (1 : Int32)) (lv2 := fun x4 => [some (.int a1), some (.int a2), some (.int a3), some (.int x4), none, none, none, none]) hC dX10_simplestRate_85 rfl (by decide) (Nat.le_of_ble_eq_true rfl) rfl (fun _ => rfl) (fun x4 => ?_)
        refine A_goto (tgt := 2) hC dX10_simplestRate_88 (by decide) ?_
        exact A_to (hL2 x4 D3) (And.intro rfl (And.intro rfl (And.intro rfl (And.intro rfl (trivial)))))
      refine A_join (fun (J : Int32 → ADD → Option (Int32 × ADD)) => ∀ (x5 : Int32) (D4 : ADD), AT aVi g b 32 [some (.int a1), some (.int a2), some (.int a3), some (.int x1), none, some (.int x3), some (.int x5), none] [] D4 (J x5 D4)) (aFix_all (fun (J : Int32 → ADD → Option (Int32 × ADD)) => ∀ (x5 : Int32) (D4 : ADD), AT aVi g b 32 [some (.int a1), some (.int a2), some (.int a3), some (.int x1), none, some (.int x3), some (.int x5), none] [] D4 (J x5 D4)) (fun _ _ => A_none) (fun L32 hL32 x5 D4 => ?_) _) (fun j32 hj32 => ?_)
      · unfold lX10_simplestRate_32
        refine A_iload hC dX10_simplestRate_32 rfl ?_
        refine A_iload hC dX10_simplestRate_34 rfl ?_
        refine A_icmp_gt (tgt := 85) hC dX10_simplestRate_36 (by decide) ?_ ?_
        · exact A_to (hj85 D4) (And.intro rfl (And.intro rfl (And.intro rfl (And.intro rfl (trivial)))))
        · refine A_iload_n hC dX10_simplestRate_39 rfl ?_
          refine A_iload hC dX10_simplestRate_40 rfl ?_
          refine A_isub hC dX10_simplestRate_42 ?_
          refine A_topi (fun x6 => ?_)
          refine A_istore (lv2 := [some (.int a1), some (.int a2), some (.int a3), some (.int x1), none, some (.int x3), some (.int x5), some (.int x6)]) hC dX10_simplestRate_43 (Nat.le_of_ble_eq_true rfl) rfl rfl ?_
          refine A_sipush (v := 1000) hC dX10_simplestRate_45 (by decide) ?_
          refine A_iload_n hC dX10_simplestRate_48 rfl ?_
          refine A_iload hC dX10_simplestRate_49 rfl ?_
          refine A_imul hC dX10_simplestRate_51 ?_
          refine A_iload_n hC dX10_simplestRate_52 rfl ?_
          refine A_iload hC dX10_simplestRate_53 rfl ?_
          refine A_imul hC dX10_simplestRate_55 ?_
          refine A_isub hC dX10_simplestRate_56 ?_
          refine A_mabs hC w_894 w_895 w_16 w_896 rfl (by decide) (Nat.le_of_ble_eq_true rfl) dX10_simplestRate_57 ?_
          refine A_imul hC dX10_simplestRate_60 ?_
          refine A_iload_n hC dX10_simplestRate_61 rfl ?_
          refine A_iload_n hC dX10_simplestRate_62 rfl ?_
          refine A_imul hC dX10_simplestRate_63 ?_
          refine A_iload hC dX10_simplestRate_64 rfl ?_
          refine A_imul hC dX10_simplestRate_66 ?_
          refine A_icmp_gt (tgt := 79) hC dX10_simplestRate_67 (by decide) ?_ ?_
          · refine A_iincL (z := (1 : Int32)) (lv2 := fun x7 => [some (.int a1), some (.int a2), some (.int a3), some (.int x1), none, some (.int x3), some (.int x7), some (.int x6)]) hC dX10_simplestRate_79 rfl (by decide) (Nat.le_of_ble_eq_true rfl) rfl (fun _ => rfl) (fun x7 => ?_)
            refine A_goto (tgt := 32) hC dX10_simplestRate_82 (by decide) ?_
            exact A_to (hL32 x7 D4) (And.intro rfl (And.intro rfl (And.intro rfl (And.intro rfl (And.intro rfl (And.intro rfl (trivial)))))))
          · refine A_bipush (v := 100) hC dX10_simplestRate_70 (by decide) ?_
            refine A_iload hC dX10_simplestRate_72 rfl ?_
            refine A_imul hC dX10_simplestRate_74 ?_
            refine A_iload hC dX10_simplestRate_75 rfl ?_
            refine A_iadd hC dX10_simplestRate_77 ?_
            exact A_iret hC dX10_simplestRate_78
      exact A_to (hj32 x2 D2) (And.intro rfl (And.intro rfl (And.intro rfl (And.intro rfl (And.intro rfl (And.intro rfl (trivial)))))))
  exact A_to (hj2 (2 : Int32) D) (And.intro rfl (And.intro rfl (And.intro rfl (And.intro rfl (trivial)))))
def fX11_actWord (a1 : Int32) (D : ADD) : Option (Int32 × ADD) := (if a1 = 0 then aBind (fX11_isWord (1836020325 : Int64) D) (fun x1 D1 => aLet (fun (x2 : Int32) (D2 : ADD) => some (x2, D2)) (fun (j105 : Int32 → ADD → Option (Int32 × ADD)) => (if x1 = 0 then aBind (fX11_isWord (1818588019 : Int64) D1) (fun x3 D3 => (if x3 = 0 then aBind (fX11_isWord (1937010544 : Int64) D3) (fun x4 D4 => (if x4 = 0 then j105 (-1 : Int32) D4 else j105 (2 : Int32) D4)) else j105 (1 : Int32) D3)) else j105 (0 : Int32) D1))) else aBind (fX11_isWord (1937076837 : Int64) D) (fun x5 D5 => aLet (fun (x6 : Int32) (D6 : ADD) => some (x6, D6)) (fun (j61 : Int32 → ADD → Option (Int32 × ADD)) => (if x5 = 0 then aBind (fX11_isWord (119200029174905 : Int64) D5) (fun x7 D7 => (if x7 = 0 then aBind (fX11_isWord (1869636974 : Int64) D7) (fun x8 D8 => (if x8 = 0 then aBind (fX11_isWord (27416740819268468 : Int64) D8) (fun x9 D9 => (if x9 = 0 then j61 (-1 : Int32) D9 else j61 (3 : Int32) D9)) else j61 (2 : Int32) D8)) else j61 (1 : Int32) D7)) else j61 (0 : Int32) D5))))
set_option maxHeartbeats 4000000 in
set_option maxRecDepth 100000 in
theorem mX11_actWord (l : Launch) (g : AGl) (hL : aLM g) (a1 : Int32) (D : ADD) : AM aVi l yX11_actWord cX11_actWord 2 (some .int) 1 g [.ref (g.1 + 0), .int a1] D (fX11_actWord a1 D) := by
  refine AM_of (lv0 := [some (.ref (g.1 + 0)), some (.int a1)]) (own := RX11) (by decide +kernel) rfl (Nat.le_of_ble_eq_true rfl) rfl (fun b hC => ?_)
  unfold fX11_actWord
  refine A_iload_n hC dX11_actWord_0 rfl ?_
  refine A_if_eq (tgt := 62) hC dX11_actWord_1 (by decide) ?_ ?_
  · refine A_aload_n hC dX11_actWord_62 rfl ?_
    refine A_ldc2 hC dX11_actWord_63 w_1287 ?_
    refine A_callVi (As := [.long (1836020325 : Int64)]) (st := []) hC (fun l => mX11_isWord l g hL (1836020325 : Int64) D) (lM_0 hL) rfl (Nat.le_of_ble_eq_true rfl) yc_X11_209 rfl rfl ⟨by decide, by decide⟩ (Nat.le_of_ble_eq_true rfl) rfl dX11_actWord_66 (fun x1 D1 => ?_)
    refine A_join (fun (J : Int32 → ADD → Option (Int32 × ADD)) => ∀ (x2 : Int32) (D2 : ADD), AT aVi g b 105 [none, none] [.int x2] D2 (J x2 D2)) (fun x2 D2 => ?_) (fun j105 hj105 => ?_)
    · exact A_iret hC dX11_actWord_105
    refine A_if_eq (tgt := 76) hC dX11_actWord_69 (by decide) ?_ ?_
    · refine A_aload_n hC dX11_actWord_76 rfl ?_
      refine A_ldc2 hC dX11_actWord_77 w_1288 ?_
      refine A_callVi (As := [.long (1818588019 : Int64)]) (st := []) hC (fun l => mX11_isWord l g hL (1818588019 : Int64) D1) (lM_0 hL) rfl (Nat.le_of_ble_eq_true rfl) yc_X11_209 rfl rfl ⟨by decide, by decide⟩ (Nat.le_of_ble_eq_true rfl) rfl dX11_actWord_80 (fun x3 D3 => ?_)
      refine A_if_eq (tgt := 90) hC dX11_actWord_83 (by decide) ?_ ?_
      · refine A_aload_n hC dX11_actWord_90 rfl ?_
        refine A_ldc2 hC dX11_actWord_91 w_1289 ?_
        refine A_callVi (As := [.long (1937010544 : Int64)]) (st := []) hC (fun l => mX11_isWord l g hL (1937010544 : Int64) D3) (lM_0 hL) rfl (Nat.le_of_ble_eq_true rfl) yc_X11_209 rfl rfl ⟨by decide, by decide⟩ (Nat.le_of_ble_eq_true rfl) rfl dX11_actWord_94 (fun x4 D4 => ?_)
        refine A_if_eq (tgt := 104) hC dX11_actWord_97 (by decide) ?_ ?_
        · refine A_iconst (v := -1) hC dX11_actWord_104 (by decide) ?_
          exact A_to (hj105 (-1 : Int32) D4) (trivial)
        · refine A_iconst (v := 2) hC dX11_actWord_100 (by decide) ?_
          refine A_goto (tgt := 105) hC dX11_actWord_101 (by decide) ?_
          exact A_to (hj105 (2 : Int32) D4) (trivial)
      · refine A_iconst (v := 1) hC dX11_actWord_86 (by decide) ?_
        refine A_goto (tgt := 105) hC dX11_actWord_87 (by decide) ?_
        exact A_to (hj105 (1 : Int32) D3) (trivial)
    · refine A_iconst (v := 0) hC dX11_actWord_72 (by decide) ?_
      refine A_goto (tgt := 105) hC dX11_actWord_73 (by decide) ?_
      exact A_to (hj105 (0 : Int32) D1) (trivial)
  · refine A_aload_n hC dX11_actWord_4 rfl ?_
    refine A_ldc2 hC dX11_actWord_5 w_1283 ?_
    refine A_callVi (As := [.long (1937076837 : Int64)]) (st := []) hC (fun l => mX11_isWord l g hL (1937076837 : Int64) D) (lM_0 hL) rfl (Nat.le_of_ble_eq_true rfl) yc_X11_209 rfl rfl ⟨by decide, by decide⟩ (Nat.le_of_ble_eq_true rfl) rfl dX11_actWord_8 (fun x5 D5 => ?_)
    refine A_join (fun (J : Int32 → ADD → Option (Int32 × ADD)) => ∀ (x6 : Int32) (D6 : ADD), AT aVi g b 61 [none, none] [.int x6] D6 (J x6 D6)) (fun x6 D6 => ?_) (fun j61 hj61 => ?_)
    · exact A_iret hC dX11_actWord_61
    refine A_if_eq (tgt := 18) hC dX11_actWord_11 (by decide) ?_ ?_
    · refine A_aload_n hC dX11_actWord_18 rfl ?_
      refine A_ldc2 hC dX11_actWord_19 w_1284 ?_
      refine A_callVi (As := [.long (119200029174905 : Int64)]) (st := []) hC (fun l => mX11_isWord l g hL (119200029174905 : Int64) D5) (lM_0 hL) rfl (Nat.le_of_ble_eq_true rfl) yc_X11_209 rfl rfl ⟨by decide, by decide⟩ (Nat.le_of_ble_eq_true rfl) rfl dX11_actWord_22 (fun x7 D7 => ?_)
      refine A_if_eq (tgt := 32) hC dX11_actWord_25 (by decide) ?_ ?_
      · refine A_aload_n hC dX11_actWord_32 rfl ?_
        refine A_ldc2 hC dX11_actWord_33 w_1285 ?_
        refine A_callVi (As := [.long (1869636974 : Int64)]) (st := []) hC (fun l => mX11_isWord l g hL (1869636974 : Int64) D7) (lM_0 hL) rfl (Nat.le_of_ble_eq_true rfl) yc_X11_209 rfl rfl ⟨by decide, by decide⟩ (Nat.le_of_ble_eq_true rfl) rfl dX11_actWord_36 (fun x8 D8 => ?_)
        refine A_if_eq (tgt := 46) hC dX11_actWord_39 (by decide) ?_ ?_
        · refine A_aload_n hC dX11_actWord_46 rfl ?_
          refine A_ldc2 hC dX11_actWord_47 w_1286 ?_
          refine A_callVi (As := [.long (27416740819268468 : Int64)]) (st := []) hC (fun l => mX11_isWord l g hL (27416740819268468 : Int64) D8) (lM_0 hL) rfl (Nat.le_of_ble_eq_true rfl) yc_X11_209 rfl rfl ⟨by decide, by decide⟩ (Nat.le_of_ble_eq_true rfl) rfl dX11_actWord_50 (fun x9 D9 => ?_)
          refine A_if_eq (tgt := 60) hC dX11_actWord_53 (by decide) ?_ ?_
          · refine A_iconst (v := -1) hC dX11_actWord_60 (by decide) ?_
            exact A_to (hj61 (-1 : Int32) D9) (trivial)
          · refine A_iconst (v := 3) hC dX11_actWord_56 (by decide) ?_
            refine A_goto (tgt := 61) hC dX11_actWord_57 (by decide) ?_
            exact A_to (hj61 (3 : Int32) D9) (trivial)
        · refine A_iconst (v := 2) hC dX11_actWord_42 (by decide) ?_
          refine A_goto (tgt := 61) hC dX11_actWord_43 (by decide) ?_
          exact A_to (hj61 (2 : Int32) D8) (trivial)
      · refine A_iconst (v := 1) hC dX11_actWord_28 (by decide) ?_
        refine A_goto (tgt := 61) hC dX11_actWord_29 (by decide) ?_
        exact A_to (hj61 (1 : Int32) D7) (trivial)
    · refine A_iconst (v := 0) hC dX11_actWord_14 (by decide) ?_
      refine A_goto (tgt := 61) hC dX11_actWord_15 (by decide) ?_
      exact A_to (hj61 (0 : Int32) D5) (trivial)
def fX11_areTwins (a1 : Int32) (a2 : Int32) (a3 : Int32) (D : ADD) : Option (Int32 × ADD) := aBind (fX11_f a1 (0 : Int32) D) (fun x1 D1 => aBind (fX11_f a2 (0 : Int32) D1) (fun x2 D2 => aLet (x1 - x2) (fun x3 => aIn a1 32 (aLet (fun (x4 : Int32) (D3 : ADD) => aZ x4 (some (x4, D3))) (fun (j96 : Int32 → ADD → Option (Int32 × ADD)) => aLet (fun (D4 : ADD) => j96 (0 : Int32) D4) (fun (j95 : ADD → Option (Int32 × ADD)) => (if (aBz (D2.1 35 a1.toNatClampNeg)) = 0 then j95 D2 else aIn a2 32 ((if (aBz (D2.1 35 a2.toNatClampNeg)) = 0 then j95 D2 else aBind (fX11_f a1 (4 : Int32) D2) (fun x5 D5 => aBind (fX11_f a2 (4 : Int32) D5) (fun x6 D6 => (if x5 = x6 then aBind (fX11_f a1 (1 : Int32) D6) (fun x7 D7 => aBind (fX11_f a2 (1 : Int32) D7) (fun x8 D8 => (if x7 = x8 then aBind (fX11_f a1 (7 : Int32) D8) (fun x9 D9 => aBind (fX11_f a2 (7 : Int32) D9) (fun x10 D10 => (if x9 = x10 then aBind (fX11_is x3 (-a3) a3 D10) (fun x11 D11 => (if x11 = 0 then j95 D11 else j96 (1 : Int32) D11)) else j95 D10))) else j95 D8))) else j95 D6))))))))))))
set_option maxHeartbeats 4000000 in
set_option maxRecDepth 100000 in
theorem mX11_areTwins (l : Launch) (g : AGl) (hL : aLM g) (a1 : Int32) (a2 : Int32) (a3 : Int32) (D : ADD) : AM aVi l yX11_areTwins cX11_areTwins 5 (some .boolean) 1 g [.ref (g.1 + 0), .int a1, .int a2, .int a3] D (fX11_areTwins a1 a2 a3 D) := by
  refine AM_of (lv0 := [some (.ref (g.1 + 0)), some (.int a1), some (.int a2), some (.int a3), none]) (own := RX11) (by decide +kernel) rfl (Nat.le_of_ble_eq_true rfl) rfl (fun b hC => ?_)
  unfold fX11_areTwins
  refine A_aload_n hC dX11_areTwins_0 rfl ?_
  refine A_iload_n hC dX11_areTwins_1 rfl ?_
  refine A_iconst (v := 0) hC dX11_areTwins_2 (by decide) ?_
  refine A_callVi (As := [.int a1, .int (0 : Int32)]) (st := []) hC (fun l => mX11_f l g hL a1 (0 : Int32) D) (lM_0 hL) rfl (Nat.le_of_ble_eq_true rfl) yc_X11_291 rfl rfl ⟨by decide, by decide⟩ (Nat.le_of_ble_eq_true rfl) rfl dX11_areTwins_3 (fun x1 D1 => ?_)
  refine A_aload_n hC dX11_areTwins_6 rfl ?_
  refine A_iload_n hC dX11_areTwins_7 rfl ?_
  refine A_iconst (v := 0) hC dX11_areTwins_8 (by decide) ?_
  refine A_callVi (As := [.int a2, .int (0 : Int32)]) (st := [.int x1]) hC (fun l => mX11_f l g hL a2 (0 : Int32) D1) (lM_0 hL) rfl (Nat.le_of_ble_eq_true rfl) yc_X11_291 rfl rfl ⟨by decide, by decide⟩ (Nat.le_of_ble_eq_true rfl) rfl dX11_areTwins_9 (fun x2 D2 => ?_)
  refine A_isub hC dX11_areTwins_12 ?_
  refine A_topi (fun x3 => ?_)
  refine A_istore (lv2 := [some (.ref (g.1 + 0)), some (.int a1), some (.int a2), some (.int a3), some (.int x3)]) hC dX11_areTwins_13 (Nat.le_of_ble_eq_true rfl) rfl rfl ?_
  refine A_aload_n hC dX11_areTwins_15 rfl ?_
  refine A_getr (kf := 46) hC kX11 (lM_0 hL) rfl (by decide) (by decide) rfl rfl w_1049 dX11_areTwins_16 ?_
  refine A_iload_n hC dX11_areTwins_19 rfl ?_
  refine A_zald hC (lM_35 hL) dX11_areTwins_20 ?_
  refine A_join (fun (J : Int32 → ADD → Option (Int32 × ADD)) => ∀ (x4 : Int32) (D3 : ADD), AT aVi g b 96 [none, none, none, none, none] [.int x4] D3 (J x4 D3)) (fun x4 D3 => ?_) (fun j96 hj96 => ?_)
  · exact A_zretc hC dX11_areTwins_96
  refine A_join (fun (J : ADD → Option (Int32 × ADD)) => ∀ (D4 : ADD), AT aVi g b 95 [none, none, none, none, none] [] D4 (J D4)) (fun D4 => ?_) (fun j95 hj95 => ?_)
  · refine A_iconst (v := 0) hC dX11_areTwins_95 (by decide) ?_
    exact A_to (hj96 (0 : Int32) D4) (trivial)
  refine A_if_eq (tgt := 95) hC dX11_areTwins_21 (by decide) ?_ ?_
  · exact A_to (hj95 D2) (trivial)
  · refine A_aload_n hC dX11_areTwins_24 rfl ?_
    refine A_getr (kf := 46) hC kX11 (lM_0 hL) rfl (by decide) (by decide) rfl rfl w_1049 dX11_areTwins_25 ?_
    refine A_iload_n hC dX11_areTwins_28 rfl ?_
    refine A_zald hC (lM_35 hL) dX11_areTwins_29 ?_
    refine A_if_eq (tgt := 95) hC dX11_areTwins_30 (by decide) ?_ ?_
    · exact A_to (hj95 D2) (trivial)
    · refine A_aload_n hC dX11_areTwins_33 rfl ?_
      refine A_iload_n hC dX11_areTwins_34 rfl ?_
      refine A_iconst (v := 4) hC dX11_areTwins_35 (by decide) ?_
      refine A_callVi (As := [.int a1, .int (4 : Int32)]) (st := []) hC (fun l => mX11_f l g hL a1 (4 : Int32) D2) (lM_0 hL) rfl (Nat.le_of_ble_eq_true rfl) yc_X11_291 rfl rfl ⟨by decide, by decide⟩ (Nat.le_of_ble_eq_true rfl) rfl dX11_areTwins_36 (fun x5 D5 => ?_)
      refine A_aload_n hC dX11_areTwins_39 rfl ?_
      refine A_iload_n hC dX11_areTwins_40 rfl ?_
      refine A_iconst (v := 4) hC dX11_areTwins_41 (by decide) ?_
      refine A_callVi (As := [.int a2, .int (4 : Int32)]) (st := [.int x5]) hC (fun l => mX11_f l g hL a2 (4 : Int32) D5) (lM_0 hL) rfl (Nat.le_of_ble_eq_true rfl) yc_X11_291 rfl rfl ⟨by decide, by decide⟩ (Nat.le_of_ble_eq_true rfl) rfl dX11_areTwins_42 (fun x6 D6 => ?_)
      refine A_icmp_ne (tgt := 95) hC dX11_areTwins_45 (by decide) ?_ ?_
      · exact A_to (hj95 D6) (trivial)
      · refine A_aload_n hC dX11_areTwins_48 rfl ?_
        refine A_iload_n hC dX11_areTwins_49 rfl ?_
        refine A_iconst (v := 1) hC dX11_areTwins_50 (by decide) ?_
        refine A_callVi (As := [.int a1, .int (1 : Int32)]) (st := []) hC (fun l => mX11_f l g hL a1 (1 : Int32) D6) (lM_0 hL) rfl (Nat.le_of_ble_eq_true rfl) yc_X11_291 rfl rfl ⟨by decide, by decide⟩ (Nat.le_of_ble_eq_true rfl) rfl dX11_areTwins_51 (fun x7 D7 => ?_)
        refine A_aload_n hC dX11_areTwins_54 rfl ?_
        refine A_iload_n hC dX11_areTwins_55 rfl ?_
        refine A_iconst (v := 1) hC dX11_areTwins_56 (by decide) ?_
        refine A_callVi (As := [.int a2, .int (1 : Int32)]) (st := [.int x7]) hC (fun l => mX11_f l g hL a2 (1 : Int32) D7) (lM_0 hL) rfl (Nat.le_of_ble_eq_true rfl) yc_X11_291 rfl rfl ⟨by decide, by decide⟩ (Nat.le_of_ble_eq_true rfl) rfl dX11_areTwins_57 (fun x8 D8 => ?_)
        refine A_icmp_ne (tgt := 95) hC dX11_areTwins_60 (by decide) ?_ ?_
        · exact A_to (hj95 D8) (trivial)
        · refine A_aload_n hC dX11_areTwins_63 rfl ?_
          refine A_iload_n hC dX11_areTwins_64 rfl ?_
          refine A_bipush (v := 7) hC dX11_areTwins_65 (by decide) ?_
          refine A_callVi (As := [.int a1, .int (7 : Int32)]) (st := []) hC (fun l => mX11_f l g hL a1 (7 : Int32) D8) (lM_0 hL) rfl (Nat.le_of_ble_eq_true rfl) yc_X11_291 rfl rfl ⟨by decide, by decide⟩ (Nat.le_of_ble_eq_true rfl) rfl dX11_areTwins_67 (fun x9 D9 => ?_)
          refine A_aload_n hC dX11_areTwins_70 rfl ?_
          refine A_iload_n hC dX11_areTwins_71 rfl ?_
          refine A_bipush (v := 7) hC dX11_areTwins_72 (by decide) ?_
          refine A_callVi (As := [.int a2, .int (7 : Int32)]) (st := [.int x9]) hC (fun l => mX11_f l g hL a2 (7 : Int32) D9) (lM_0 hL) rfl (Nat.le_of_ble_eq_true rfl) yc_X11_291 rfl rfl ⟨by decide, by decide⟩ (Nat.le_of_ble_eq_true rfl) rfl dX11_areTwins_74 (fun x10 D10 => ?_)
          refine A_icmp_ne (tgt := 95) hC dX11_areTwins_77 (by decide) ?_ ?_
          · exact A_to (hj95 D10) (trivial)
          · refine A_iload hC dX11_areTwins_80 rfl ?_
            refine A_iload_n hC dX11_areTwins_82 rfl ?_
            refine A_ineg hC dX11_areTwins_83 ?_
            refine A_iload_n hC dX11_areTwins_84 rfl ?_
            refine A_callSi (As := [.int x3, .int (-a3), .int a3]) (st := []) hC (fun l => mX11_is l g x3 (-a3) a3 D10) yc_X11_138 rfl rfl ⟨by decide, by decide⟩ (Nat.le_of_ble_eq_true rfl) rfl dX11_areTwins_85 (fun x11 D11 => ?_)
            refine A_if_eq (tgt := 95) hC dX11_areTwins_88 (by decide) ?_ ?_
            · exact A_to (hj95 D11) (trivial)
            · refine A_iconst (v := 1) hC dX11_areTwins_91 (by decide) ?_
              refine A_goto (tgt := 96) hC dX11_areTwins_92 (by decide) ?_
              exact A_to (hj96 (1 : Int32) D11) (trivial)
def fX11_canBe (a1 : Int32) (a2 : Int32) (a3 : Int32) (D : ADD) : Option (Int32 × ADD) := aTab a2 0 [aBind (fX11_is a3 (1 : Int32) (30000 : Int32) D) (fun x1 D1 => aLet (fun (x2 : Int32) (D2 : ADD) => aZ x2 (some (x2, D2))) (fun (j92 : Int32 → ADD → Option (Int32 × ADD)) => aLet (fun (D3 : ADD) => j92 (0 : Int32) D3) (fun (j91 : ADD → Option (Int32 × ADD)) => (if x1 = 0 then j91 D1 else aIn (0 : Int32) 4 (aBind (fX11_factOn a1 (3 : Int32) (D1.1 6 (0 : Int32).toNatClampNeg) D1) (fun x3 D4 => (if a3 ≤ x3 then j91 D4 else j92 (1 : Int32) D4))))))), aBind (fX11_is a3 (0 : Int32) (4 : Int32) D) (fun x4 D5 => aZ x4 (some (x4, D5))), aBind (fX11_is a3 (0 : Int32) (3 : Int32) D) (fun x5 D6 => aZ x5 (some (x5, D6))), aBind (fX11_is a3 (0 : Int32) (2000 : Int32) D) (fun x6 D7 => aLet (fun (x7 : Int32) (D8 : ADD) => aZ x7 (some (x7, D8))) (fun (j139 : Int32 → ADD → Option (Int32 × ADD)) => aLet (fun (D9 : ADD) => j139 (0 : Int32) D9) (fun (j138 : ADD → Option (Int32 × ADD)) => (if x6 = 0 then j138 D7 else aIn (0 : Int32) 4 (aBind (fX11_factOn a1 (0 : Int32) (D7.1 6 (0 : Int32).toNatClampNeg) D7) (fun x8 D10 => (if x8 ≤ a3 then j138 D10 else j139 (1 : Int32) D10))))))), aBind (fX11_is a3 (0 : Int32) (5 : Int32) D) (fun x9 D11 => aZ x9 (some (x9, D11))), aIn (0 : Int32) 4 (aBind (fX11_factOn a1 (6 : Int32) (D.1 6 (0 : Int32).toNatClampNeg) D) (fun x10 D12 => aBind (fX11_is a3 (-3000 : Int32) x10 D12) (fun x11 D13 => aZ x11 (some (x11, D13))))), aIn (0 : Int32) 4 (aBind (fX11_factOn a1 (5 : Int32) (D.1 6 (0 : Int32).toNatClampNeg) D) (fun x12 D14 => aBind (fX11_is a3 x12 (1900 : Int32) D14) (fun x13 D15 => aZ x13 (some (x13, D15))))), aBind (fX11_is a3 (0 : Int32) (60 : Int32) D) (fun x14 D16 => aZ x14 (some (x14, D16))), aBind (fX11_is a3 (0 : Int32) (9 : Int32) D) (fun x15 D17 => aZ x15 (some (x15, D17))), aBind (fX11_is a3 (0 : Int32) (1 : Int32) D) (fun x16 D18 => aZ x16 (some (x16, D18))), aBind (fX11_is a3 (0 : Int32) (8 : Int32) D) (fun x17 D19 => aZ x17 (some (x17, D19)))] (some ((0 : Int32), D))
set_option maxHeartbeats 4000000 in
set_option maxRecDepth 100000 in
theorem mX11_canBe (l : Launch) (g : AGl) (hL : aLM g) (a1 : Int32) (a2 : Int32) (a3 : Int32) (D : ADD) : AM aVi l yX11_canBe cX11_canBe 4 (some .boolean) 1 g [.ref (g.1 + 0), .int a1, .int a2, .int a3] D (fX11_canBe a1 a2 a3 D) := by
  refine AM_of (lv0 := [some (.ref (g.1 + 0)), some (.int a1), some (.int a2), some (.int a3)]) (own := RX11) (by decide +kernel) rfl (Nat.le_of_ble_eq_true rfl) rfl (fun b hC => ?_)
  unfold fX11_canBe
  refine A_iload_n hC dX11_canBe_0 rfl ?_
  refine A_tab (td := 219) hC dX11_canBe_1 rfl (by decide) ?_ (And.intro (Exists.intro 60 (And.intro (by decide) ?_)) (And.intro (Exists.intro 93 (And.intro (by decide) ?_)) (And.intro (Exists.intro 100 (And.intro (by decide) ?_)) (And.intro (Exists.intro 107 (And.intro (by decide) ?_)) (And.intro (Exists.intro 140 (And.intro (by decide) ?_)) (And.intro (Exists.intro 147 (And.intro (by decide) ?_)) (And.intro (Exists.intro 168 (And.intro (by decide) ?_)) (And.intro (Exists.intro 188 (And.intro (by decide) ?_)) (And.intro (Exists.intro 196 (And.intro (by decide) ?_)) (And.intro (Exists.intro 204 (And.intro (by decide) ?_)) (And.intro (Exists.intro 211 (And.intro (by decide) ?_)) trivial)))))))))))
  · refine A_iconst (v := 0) hC dX11_canBe_219 (by decide) ?_
    exact A_zret hC dX11_canBe_220 (Or.inl rfl)
  · refine A_iload_n hC dX11_canBe_60 rfl ?_
    refine A_iconst (v := 1) hC dX11_canBe_61 (by decide) ?_
    refine A_sipush (v := 30000) hC dX11_canBe_62 (by decide) ?_
    refine A_callSi (As := [.int a3, .int (1 : Int32), .int (30000 : Int32)]) (st := []) hC (fun l => mX11_is l g a3 (1 : Int32) (30000 : Int32) D) yc_X11_138 rfl rfl ⟨by decide, by decide⟩ (Nat.le_of_ble_eq_true rfl) rfl dX11_canBe_65 (fun x1 D1 => ?_)
    refine A_join (fun (J : Int32 → ADD → Option (Int32 × ADD)) => ∀ (x2 : Int32) (D2 : ADD), AT aVi g b 92 [none, none, none, none] [.int x2] D2 (J x2 D2)) (fun x2 D2 => ?_) (fun j92 hj92 => ?_)
    · exact A_zretc hC dX11_canBe_92
    refine A_join (fun (J : ADD → Option (Int32 × ADD)) => ∀ (D3 : ADD), AT aVi g b 91 [none, none, none, none] [] D3 (J D3)) (fun D3 => ?_) (fun j91 hj91 => ?_)
    · refine A_iconst (v := 0) hC dX11_canBe_91 (by decide) ?_
      exact A_to (hj92 (0 : Int32) D3) (trivial)
    refine A_if_eq (tgt := 91) hC dX11_canBe_68 (by decide) ?_ ?_
    · exact A_to (hj91 D1) (trivial)
    · refine A_iload_n hC dX11_canBe_71 rfl ?_
      refine A_aload_n hC dX11_canBe_72 rfl ?_
      refine A_iload_n hC dX11_canBe_73 rfl ?_
      refine A_iconst (v := 3) hC dX11_canBe_74 (by decide) ?_
      refine A_aload_n hC dX11_canBe_75 rfl ?_
      refine A_getr (kf := 6) hC kX11 (lM_0 hL) rfl (by decide) (by decide) rfl rfl w_1009 dX11_canBe_76 ?_
      refine A_iconst (v := 0) hC dX11_canBe_79 (by decide) ?_
      refine A_iald hC (lM_6 hL) dX11_canBe_80 ?_
      refine A_callVi (As := [.int a1, .int (3 : Int32), .int (D1.1 6 (0 : Int32).toNatClampNeg)]) (st := [.int a3]) hC (fun l => mX11_factOn l g hL a1 (3 : Int32) (D1.1 6 (0 : Int32).toNatClampNeg) D1) (lM_0 hL) rfl (Nat.le_of_ble_eq_true rfl) yc_X11_150 rfl rfl ⟨by decide, by decide⟩ (Nat.le_of_ble_eq_true rfl) rfl dX11_canBe_81 (fun x3 D4 => ?_)
      refine A_icmp_le (tgt := 91) hC dX11_canBe_84 (by decide) ?_ ?_
      · exact A_to (hj91 D4) (trivial)
      · refine A_iconst (v := 1) hC dX11_canBe_87 (by decide) ?_
        refine A_goto (tgt := 92) hC dX11_canBe_88 (by decide) ?_
        exact A_to (hj92 (1 : Int32) D4) (trivial)
  · refine A_iload_n hC dX11_canBe_93 rfl ?_
    refine A_iconst (v := 0) hC dX11_canBe_94 (by decide) ?_
    refine A_iconst (v := 4) hC dX11_canBe_95 (by decide) ?_
    refine A_callSi (As := [.int a3, .int (0 : Int32), .int (4 : Int32)]) (st := []) hC (fun l => mX11_is l g a3 (0 : Int32) (4 : Int32) D) yc_X11_138 rfl rfl ⟨by decide, by decide⟩ (Nat.le_of_ble_eq_true rfl) rfl dX11_canBe_96 (fun x4 D5 => ?_)
    exact A_zretc hC dX11_canBe_99
  · refine A_iload_n hC dX11_canBe_100 rfl ?_
    refine A_iconst (v := 0) hC dX11_canBe_101 (by decide) ?_
    refine A_iconst (v := 3) hC dX11_canBe_102 (by decide) ?_
    refine A_callSi (As := [.int a3, .int (0 : Int32), .int (3 : Int32)]) (st := []) hC (fun l => mX11_is l g a3 (0 : Int32) (3 : Int32) D) yc_X11_138 rfl rfl ⟨by decide, by decide⟩ (Nat.le_of_ble_eq_true rfl) rfl dX11_canBe_103 (fun x5 D6 => ?_)
    exact A_zretc hC dX11_canBe_106
  · refine A_iload_n hC dX11_canBe_107 rfl ?_
    refine A_iconst (v := 0) hC dX11_canBe_108 (by decide) ?_
    refine A_sipush (v := 2000) hC dX11_canBe_109 (by decide) ?_
    refine A_callSi (As := [.int a3, .int (0 : Int32), .int (2000 : Int32)]) (st := []) hC (fun l => mX11_is l g a3 (0 : Int32) (2000 : Int32) D) yc_X11_138 rfl rfl ⟨by decide, by decide⟩ (Nat.le_of_ble_eq_true rfl) rfl dX11_canBe_112 (fun x6 D7 => ?_)
    refine A_join (fun (J : Int32 → ADD → Option (Int32 × ADD)) => ∀ (x7 : Int32) (D8 : ADD), AT aVi g b 139 [none, none, none, none] [.int x7] D8 (J x7 D8)) (fun x7 D8 => ?_) (fun j139 hj139 => ?_)
    · exact A_zretc hC dX11_canBe_139
    refine A_join (fun (J : ADD → Option (Int32 × ADD)) => ∀ (D9 : ADD), AT aVi g b 138 [none, none, none, none] [] D9 (J D9)) (fun D9 => ?_) (fun j138 hj138 => ?_)
    · refine A_iconst (v := 0) hC dX11_canBe_138 (by decide) ?_
      exact A_to (hj139 (0 : Int32) D9) (trivial)
    refine A_if_eq (tgt := 138) hC dX11_canBe_115 (by decide) ?_ ?_
    · exact A_to (hj138 D7) (trivial)
    · refine A_iload_n hC dX11_canBe_118 rfl ?_
      refine A_aload_n hC dX11_canBe_119 rfl ?_
      refine A_iload_n hC dX11_canBe_120 rfl ?_
      refine A_iconst (v := 0) hC dX11_canBe_121 (by decide) ?_
      refine A_aload_n hC dX11_canBe_122 rfl ?_
      refine A_getr (kf := 6) hC kX11 (lM_0 hL) rfl (by decide) (by decide) rfl rfl w_1009 dX11_canBe_123 ?_
      refine A_iconst (v := 0) hC dX11_canBe_126 (by decide) ?_
      refine A_iald hC (lM_6 hL) dX11_canBe_127 ?_
      refine A_callVi (As := [.int a1, .int (0 : Int32), .int (D7.1 6 (0 : Int32).toNatClampNeg)]) (st := [.int a3]) hC (fun l => mX11_factOn l g hL a1 (0 : Int32) (D7.1 6 (0 : Int32).toNatClampNeg) D7) (lM_0 hL) rfl (Nat.le_of_ble_eq_true rfl) yc_X11_150 rfl rfl ⟨by decide, by decide⟩ (Nat.le_of_ble_eq_true rfl) rfl dX11_canBe_128 (fun x8 D10 => ?_)
      refine A_icmp_ge (tgt := 138) hC dX11_canBe_131 (by decide) ?_ ?_
      · exact A_to (hj138 D10) (trivial)
      · refine A_iconst (v := 1) hC dX11_canBe_134 (by decide) ?_
        refine A_goto (tgt := 139) hC dX11_canBe_135 (by decide) ?_
        exact A_to (hj139 (1 : Int32) D10) (trivial)
  · refine A_iload_n hC dX11_canBe_140 rfl ?_
    refine A_iconst (v := 0) hC dX11_canBe_141 (by decide) ?_
    refine A_iconst (v := 5) hC dX11_canBe_142 (by decide) ?_
    refine A_callSi (As := [.int a3, .int (0 : Int32), .int (5 : Int32)]) (st := []) hC (fun l => mX11_is l g a3 (0 : Int32) (5 : Int32) D) yc_X11_138 rfl rfl ⟨by decide, by decide⟩ (Nat.le_of_ble_eq_true rfl) rfl dX11_canBe_143 (fun x9 D11 => ?_)
    exact A_zretc hC dX11_canBe_146
  · refine A_iload_n hC dX11_canBe_147 rfl ?_
    refine A_sipush (v := -3000) hC dX11_canBe_148 (by decide) ?_
    refine A_aload_n hC dX11_canBe_151 rfl ?_
    refine A_iload_n hC dX11_canBe_152 rfl ?_
    refine A_bipush (v := 6) hC dX11_canBe_153 (by decide) ?_
    refine A_aload_n hC dX11_canBe_155 rfl ?_
    refine A_getr (kf := 6) hC kX11 (lM_0 hL) rfl (by decide) (by decide) rfl rfl w_1009 dX11_canBe_156 ?_
    refine A_iconst (v := 0) hC dX11_canBe_159 (by decide) ?_
    refine A_iald hC (lM_6 hL) dX11_canBe_160 ?_
    refine A_callVi (As := [.int a1, .int (6 : Int32), .int (D.1 6 (0 : Int32).toNatClampNeg)]) (st := [.int (-3000 : Int32), .int a3]) hC (fun l => mX11_factOn l g hL a1 (6 : Int32) (D.1 6 (0 : Int32).toNatClampNeg) D) (lM_0 hL) rfl (Nat.le_of_ble_eq_true rfl) yc_X11_150 rfl rfl ⟨by decide, by decide⟩ (Nat.le_of_ble_eq_true rfl) rfl dX11_canBe_161 (fun x10 D12 => ?_)
    refine A_callSi (As := [.int a3, .int (-3000 : Int32), .int x10]) (st := []) hC (fun l => mX11_is l g a3 (-3000 : Int32) x10 D12) yc_X11_138 rfl rfl ⟨by decide, by decide⟩ (Nat.le_of_ble_eq_true rfl) rfl dX11_canBe_164 (fun x11 D13 => ?_)
    exact A_zretc hC dX11_canBe_167
  · refine A_iload_n hC dX11_canBe_168 rfl ?_
    refine A_aload_n hC dX11_canBe_169 rfl ?_
    refine A_iload_n hC dX11_canBe_170 rfl ?_
    refine A_iconst (v := 5) hC dX11_canBe_171 (by decide) ?_
    refine A_aload_n hC dX11_canBe_172 rfl ?_
    refine A_getr (kf := 6) hC kX11 (lM_0 hL) rfl (by decide) (by decide) rfl rfl w_1009 dX11_canBe_173 ?_
    refine A_iconst (v := 0) hC dX11_canBe_176 (by decide) ?_
    refine A_iald hC (lM_6 hL) dX11_canBe_177 ?_
    refine A_callVi (As := [.int a1, .int (5 : Int32), .int (D.1 6 (0 : Int32).toNatClampNeg)]) (st := [.int a3]) hC (fun l => mX11_factOn l g hL a1 (5 : Int32) (D.1 6 (0 : Int32).toNatClampNeg) D) (lM_0 hL) rfl (Nat.le_of_ble_eq_true rfl) yc_X11_150 rfl rfl ⟨by decide, by decide⟩ (Nat.le_of_ble_eq_true rfl) rfl dX11_canBe_178 (fun x12 D14 => ?_)
    refine A_sipush (v := 1900) hC dX11_canBe_181 (by decide) ?_
    refine A_callSi (As := [.int a3, .int x12, .int (1900 : Int32)]) (st := []) hC (fun l => mX11_is l g a3 x12 (1900 : Int32) D14) yc_X11_138 rfl rfl ⟨by decide, by decide⟩ (Nat.le_of_ble_eq_true rfl) rfl dX11_canBe_184 (fun x13 D15 => ?_)
    exact A_zretc hC dX11_canBe_187
  · refine A_iload_n hC dX11_canBe_188 rfl ?_
    refine A_iconst (v := 0) hC dX11_canBe_189 (by decide) ?_
    refine A_bipush (v := 60) hC dX11_canBe_190 (by decide) ?_
    refine A_callSi (As := [.int a3, .int (0 : Int32), .int (60 : Int32)]) (st := []) hC (fun l => mX11_is l g a3 (0 : Int32) (60 : Int32) D) yc_X11_138 rfl rfl ⟨by decide, by decide⟩ (Nat.le_of_ble_eq_true rfl) rfl dX11_canBe_192 (fun x14 D16 => ?_)
    exact A_zretc hC dX11_canBe_195
  · refine A_iload_n hC dX11_canBe_196 rfl ?_
    refine A_iconst (v := 0) hC dX11_canBe_197 (by decide) ?_
    refine A_bipush (v := 9) hC dX11_canBe_198 (by decide) ?_
    refine A_callSi (As := [.int a3, .int (0 : Int32), .int (9 : Int32)]) (st := []) hC (fun l => mX11_is l g a3 (0 : Int32) (9 : Int32) D) yc_X11_138 rfl rfl ⟨by decide, by decide⟩ (Nat.le_of_ble_eq_true rfl) rfl dX11_canBe_200 (fun x15 D17 => ?_)
    exact A_zretc hC dX11_canBe_203
  · refine A_iload_n hC dX11_canBe_204 rfl ?_
    refine A_iconst (v := 0) hC dX11_canBe_205 (by decide) ?_
    refine A_iconst (v := 1) hC dX11_canBe_206 (by decide) ?_
    refine A_callSi (As := [.int a3, .int (0 : Int32), .int (1 : Int32)]) (st := []) hC (fun l => mX11_is l g a3 (0 : Int32) (1 : Int32) D) yc_X11_138 rfl rfl ⟨by decide, by decide⟩ (Nat.le_of_ble_eq_true rfl) rfl dX11_canBe_207 (fun x16 D18 => ?_)
    exact A_zretc hC dX11_canBe_210
  · refine A_iload_n hC dX11_canBe_211 rfl ?_
    refine A_iconst (v := 0) hC dX11_canBe_212 (by decide) ?_
    refine A_bipush (v := 8) hC dX11_canBe_213 (by decide) ?_
    refine A_callSi (As := [.int a3, .int (0 : Int32), .int (8 : Int32)]) (st := []) hC (fun l => mX11_is l g a3 (0 : Int32) (8 : Int32) D) yc_X11_138 rfl rfl ⟨by decide, by decide⟩ (Nat.le_of_ble_eq_true rfl) rfl dX11_canBe_215 (fun x17 D19 => ?_)
    exact A_zretc hC dX11_canBe_218
