def fX10_peak (a1 : Int32) (a2 : Int32) (a3 : Int32) (D : ADD) : Option (Int32 × ADD) := aBind (fX10_isRange a1 a2 (300 : Int32) D) (fun x1 D1 => aLet (fun (D2 : ADD) => some ((-1 : Int32), D2)) (fun (j27 : ADD → Option (Int32 × ADD)) => (if x1 = 0 then j27 D1 else aBind (fX4_gather (0 : Int32) (0 : Int32) D1) (fun x2 D3 => (if x2 = 0 then j27 D3 else aBind (fX7_scoreUnits a1 a2 D3) (fun _ D4 => aBind (fX7_peakAt a3 D4) (fun x3 D5 => some (x3, D5))))))))
set_option maxHeartbeats 4000000 in
set_option maxRecDepth 100000 in
theorem mX10_peak (l : Launch) (g : AGl) (hL : aLX g) (a1 : Int32) (a2 : Int32) (a3 : Int32) (D : ADD) : AM aVi l yX10_peak cX10_peak 4 (some .int) 5 g [.ref (g.1 + 0), .int a1, .int a2, .int a3] D (fX10_peak a1 a2 a3 D) := by
  refine AM_of (lv0 := [some (.ref (g.1 + 0)), some (.int a1), some (.int a2), some (.int a3)]) (own := RX10) (by decide +kernel) rfl (Nat.le_of_ble_eq_true rfl) rfl (fun b hC => ?_)
  unfold fX10_peak
  refine A_iload_n hC dX10_peak_0 rfl ?_
  refine A_iload_n hC dX10_peak_1 rfl ?_
  refine A_sipush (v := 300) hC dX10_peak_2 (by decide) ?_
  refine A_callSi (As := [.int a1, .int a2, .int (300 : Int32)]) (st := []) hC (fun l => mX10_isRange l g a1 a2 (300 : Int32) D) yc_X10_182 rfl rfl ⟨by decide, by decide⟩ (Nat.le_of_ble_eq_true rfl) rfl dX10_peak_5 (fun x1 D1 => ?_)
  refine A_join (fun (J : ADD → Option (Int32 × ADD)) => ∀ (D2 : ADD), AT aVi g b 27 [none, none, none, none] [] D2 (J D2)) (fun D2 => ?_) (fun j27 hj27 => ?_)
  · refine A_iconst (v := -1) hC dX10_peak_27 (by decide) ?_
    exact A_iret hC dX10_peak_28
  refine A_if_eq (tgt := 27) hC dX10_peak_8 (by decide) ?_ ?_
  · exact A_to (hj27 D1) (trivial)
  · refine A_aload_n hC dX10_peak_11 rfl ?_
    refine A_getr (kf := 3) hC kX10 (lX_0 hL) rfl (by decide) (by decide) rfl rfl w_308 dX10_peak_12 ?_
    refine A_aload_n hC dX10_peak_15 rfl ?_
    refine A_getr (kf := 0) hC kX10 (lX_0 hL) rfl (by decide) (by decide) rfl rfl w_305 dX10_peak_16 ?_
    refine A_iconst (v := 0) hC dX10_peak_19 (by decide) ?_
    refine A_iconst (v := 0) hC dX10_peak_20 (by decide) ?_
    refine A_callVi (As := [.ref (g.1 + 1), .int (0 : Int32), .int (0 : Int32)]) (st := []) hC (fun l => mX4_gather l g hL (0 : Int32) (0 : Int32) D1) (lX_43 hL) rfl (Nat.le_of_ble_eq_true rfl) yc_X10_174 rfl rfl ⟨by decide, by decide⟩ (Nat.le_of_ble_eq_true rfl) rfl dX10_peak_21 (fun x2 D3 => ?_)
    refine A_if_ne (tgt := 29) hC dX10_peak_24 (by decide) ?_ ?_
    · refine A_aload_n hC dX10_peak_29 rfl ?_
      refine A_getr (kf := 4) hC kX10 (lX_0 hL) rfl (by decide) (by decide) rfl rfl w_309 dX10_peak_30 ?_
      refine A_aload_n hC dX10_peak_33 rfl ?_
      refine A_getr (kf := 3) hC kX10 (lX_0 hL) rfl (by decide) (by decide) rfl rfl w_308 dX10_peak_34 ?_
      refine A_iload_n hC dX10_peak_37 rfl ?_
      refine A_iload_n hC dX10_peak_38 rfl ?_
      refine A_callVv (As := [.ref (g.1 + 43), .int a1, .int a2]) (st := []) hC (fun l => mX7_scoreUnits l g hL a1 a2 D3) (lX_50 hL) rfl (Nat.le_of_ble_eq_true rfl) yc_X10_189 rfl rfl ⟨by decide, by decide⟩ (Nat.le_of_ble_eq_true rfl) rfl dX10_peak_39 (fun _ D4 => ?_)
      refine A_aload_n hC dX10_peak_42 rfl ?_
      refine A_getr (kf := 4) hC kX10 (lX_0 hL) rfl (by decide) (by decide) rfl rfl w_309 dX10_peak_43 ?_
      refine A_iload_n hC dX10_peak_46 rfl ?_
      refine A_callVi (As := [.int a3]) (st := []) hC (fun l => mX7_peakAt l g hL a3 D4) (lX_50 hL) rfl (Nat.le_of_ble_eq_true rfl) yc_X10_193 rfl rfl ⟨by decide, by decide⟩ (Nat.le_of_ble_eq_true rfl) rfl dX10_peak_47 (fun x3 D5 => ?_)
      exact A_iret hC dX10_peak_50
    · exact A_to (hj27 D3) (trivial)
def fX10_score (a1 : Int32) (D : ADD) : Option (Int32 × ADD) := aBind (fX10_isUnit a1 D) (fun x1 D1 => (if x1 = 0 then some ((-1000000000 : Int32), D1) else aBind (fX4_gather (0 : Int32) (0 : Int32) D1) (fun x2 D2 => aBind (fX4_scoreBy a1 D2) (fun x3 D3 => some (x3, D3)))))
set_option maxHeartbeats 4000000 in
set_option maxRecDepth 100000 in
theorem mX10_score (l : Launch) (g : AGl) (hL : aLX g) (a1 : Int32) (D : ADD) : AM aVi l yX10_score cX10_score 2 (some .int) 5 g [.ref (g.1 + 0), .int a1] D (fX10_score a1 D) := by
  refine AM_of (lv0 := [some (.ref (g.1 + 0)), some (.int a1)]) (own := RX10) (by decide +kernel) rfl (Nat.le_of_ble_eq_true rfl) rfl (fun b hC => ?_)
  unfold fX10_score
  refine A_iload_n hC dX10_score_0 rfl ?_
  refine A_callSi (As := [.int a1]) (st := []) hC (fun l => mX10_isUnit l g a1 D) yc_X10_157 rfl rfl ⟨by decide, by decide⟩ (Nat.le_of_ble_eq_true rfl) rfl dX10_score_1 (fun x1 D1 => ?_)
  refine A_if_ne (tgt := 10) hC dX10_score_4 (by decide) ?_ ?_
  · refine A_aload_n hC dX10_score_10 rfl ?_
    refine A_getr (kf := 3) hC kX10 (lX_0 hL) rfl (by decide) (by decide) rfl rfl w_308 dX10_score_11 ?_
    refine A_aload_n hC dX10_score_14 rfl ?_
    refine A_getr (kf := 0) hC kX10 (lX_0 hL) rfl (by decide) (by decide) rfl rfl w_305 dX10_score_15 ?_
    refine A_iconst (v := 0) hC dX10_score_18 (by decide) ?_
    refine A_iconst (v := 0) hC dX10_score_19 (by decide) ?_
    refine A_callVi (As := [.ref (g.1 + 1), .int (0 : Int32), .int (0 : Int32)]) (st := []) hC (fun l => mX4_gather l g hL (0 : Int32) (0 : Int32) D1) (lX_43 hL) rfl (Nat.le_of_ble_eq_true rfl) yc_X10_174 rfl rfl ⟨by decide, by decide⟩ (Nat.le_of_ble_eq_true rfl) rfl dX10_score_20 (fun x2 D2 => ?_)
    refine A_pop hC dX10_score_23 rfl ?_
    refine A_aload_n hC dX10_score_24 rfl ?_
    refine A_getr (kf := 3) hC kX10 (lX_0 hL) rfl (by decide) (by decide) rfl rfl w_308 dX10_score_25 ?_
    refine A_iload_n hC dX10_score_28 rfl ?_
    refine A_callVi (As := [.int a1]) (st := []) hC (fun l => mX4_scoreBy l g hL a1 D2) (lX_43 hL) rfl (Nat.le_of_ble_eq_true rfl) yc_X10_178 rfl rfl ⟨by decide, by decide⟩ (Nat.le_of_ble_eq_true rfl) rfl dX10_score_29 (fun x3 D3 => ?_)
    exact A_iret hC dX10_score_32
  · refine A_ldc hC dX10_score_7 w_687 ?_
    exact A_iret hC dX10_score_9
def fX10_set (a1 : Int32) (a2 : Int32) (a3 : Int32) (D : ADD) : Option (Int32 × ADD) := aLet (fun (D1 : ADD) => some ((-1 : Int32), D1)) (fun (j18 : ADD → Option (Int32 × ADD)) => (if a1 < (1 : Int32) then j18 D else (if (8 : Int32) < a1 then j18 D else aBind (fX10_isUnit a2 D) (fun x1 D2 => (if x1 = 0 then j18 D2 else aBind (fX4_gather (5 : Int32) a1 D2) (fun x2 D3 => aTab a3 0 [some ((D3.1 43 0), D3), aBind (fX4_doublesBy a2 D3) (fun x3 D4 => some (x3, D4)), aBind (fX4_lacksBy a2 D3) (fun x4 D5 => some (x4, D5)), aBind (fX4_greatestTimes a2 D3) (fun x5 D6 => some (x5, D6))] (some ((-1 : Int32), D3))))))))
set_option maxHeartbeats 4000000 in
set_option maxRecDepth 100000 in
theorem mX10_set (l : Launch) (g : AGl) (hL : aLX g) (a1 : Int32) (a2 : Int32) (a3 : Int32) (D : ADD) : AM aVi l yX10_set cX10_set 4 (some .int) 5 g [.ref (g.1 + 0), .int a1, .int a2, .int a3] D (fX10_set a1 a2 a3 D) := by
  refine AM_of (lv0 := [some (.ref (g.1 + 0)), some (.int a1), some (.int a2), some (.int a3)]) (own := RX10) (by decide +kernel) rfl (Nat.le_of_ble_eq_true rfl) rfl (fun b hC => ?_)
  unfold fX10_set
  refine A_iload_n hC dX10_set_0 rfl ?_
  refine A_iconst (v := 1) hC dX10_set_1 (by decide) ?_
  refine A_join (fun (J : ADD → Option (Int32 × ADD)) => ∀ (D1 : ADD), AT aVi g b 18 [none, none, none, none] [] D1 (J D1)) (fun D1 => ?_) (fun j18 hj18 => ?_)
  · refine A_iconst (v := -1) hC dX10_set_18 (by decide) ?_
    exact A_iret hC dX10_set_19
  refine A_icmp_lt (tgt := 18) hC dX10_set_2 (by decide) ?_ ?_
  · exact A_to (hj18 D) (trivial)
  · refine A_iload_n hC dX10_set_5 rfl ?_
    refine A_bipush (v := 8) hC dX10_set_6 (by decide) ?_
    refine A_icmp_gt (tgt := 18) hC dX10_set_8 (by decide) ?_ ?_
    · exact A_to (hj18 D) (trivial)
    · refine A_iload_n hC dX10_set_11 rfl ?_
      refine A_callSi (As := [.int a2]) (st := []) hC (fun l => mX10_isUnit l g a2 D) yc_X10_157 rfl rfl ⟨by decide, by decide⟩ (Nat.le_of_ble_eq_true rfl) rfl dX10_set_12 (fun x1 D2 => ?_)
      refine A_if_ne (tgt := 20) hC dX10_set_15 (by decide) ?_ ?_
      · refine A_aload_n hC dX10_set_20 rfl ?_
        refine A_getr (kf := 3) hC kX10 (lX_0 hL) rfl (by decide) (by decide) rfl rfl w_308 dX10_set_21 ?_
        refine A_aload_n hC dX10_set_24 rfl ?_
        refine A_getr (kf := 0) hC kX10 (lX_0 hL) rfl (by decide) (by decide) rfl rfl w_305 dX10_set_25 ?_
        refine A_iconst (v := 5) hC dX10_set_28 (by decide) ?_
        refine A_iload_n hC dX10_set_29 rfl ?_
        refine A_callVi (As := [.ref (g.1 + 1), .int (5 : Int32), .int a1]) (st := []) hC (fun l => mX4_gather l g hL (5 : Int32) a1 D2) (lX_43 hL) rfl (Nat.le_of_ble_eq_true rfl) yc_X10_174 rfl rfl ⟨by decide, by decide⟩ (Nat.le_of_ble_eq_true rfl) rfl dX10_set_30 (fun x2 D3 => ?_)
        refine A_pop hC dX10_set_33 rfl ?_
        refine A_iload_n hC dX10_set_34 rfl ?_
        refine A_tab (td := 99) hC dX10_set_35 rfl (by decide) ?_ (And.intro (Exists.intro 64 (And.intro (by decide) ?_)) (And.intro (Exists.intro 72 (And.intro (by decide) ?_)) (And.intro (Exists.intro 81 (And.intro (by decide) ?_)) (And.intro (Exists.intro 90 (And.intro (by decide) ?_)) trivial))))
        · refine A_iconst (v := -1) hC dX10_set_99 (by decide) ?_
          exact A_iret hC dX10_set_100
        · refine A_aload_n hC dX10_set_64 rfl ?_
          refine A_getr (kf := 3) hC kX10 (lX_0 hL) rfl (by decide) (by decide) rfl rfl w_308 dX10_set_65 ?_
          refine A_geti (kf := 0) hC kX4 (lX_43 hL) rfl (by decide) (by decide) rfl w_240 dX10_set_68 ?_
          exact A_iret hC dX10_set_71
        · refine A_aload_n hC dX10_set_72 rfl ?_
          refine A_getr (kf := 3) hC kX10 (lX_0 hL) rfl (by decide) (by decide) rfl rfl w_308 dX10_set_73 ?_
          refine A_iload_n hC dX10_set_76 rfl ?_
          refine A_callVi (As := [.int a2]) (st := []) hC (fun l => mX4_doublesBy l g hL a2 D3) (lX_43 hL) rfl (Nat.le_of_ble_eq_true rfl) yc_X10_226 rfl rfl ⟨by decide, by decide⟩ (Nat.le_of_ble_eq_true rfl) rfl dX10_set_77 (fun x3 D4 => ?_)
          exact A_iret hC dX10_set_80
        · refine A_aload_n hC dX10_set_81 rfl ?_
          refine A_getr (kf := 3) hC kX10 (lX_0 hL) rfl (by decide) (by decide) rfl rfl w_308 dX10_set_82 ?_
          refine A_iload_n hC dX10_set_85 rfl ?_
          refine A_callVi (As := [.int a2]) (st := []) hC (fun l => mX4_lacksBy l g hL a2 D3) (lX_43 hL) rfl (Nat.le_of_ble_eq_true rfl) yc_X10_229 rfl rfl ⟨by decide, by decide⟩ (Nat.le_of_ble_eq_true rfl) rfl dX10_set_86 (fun x4 D5 => ?_)
          exact A_iret hC dX10_set_89
        · refine A_aload_n hC dX10_set_90 rfl ?_
          refine A_getr (kf := 3) hC kX10 (lX_0 hL) rfl (by decide) (by decide) rfl rfl w_308 dX10_set_91 ?_
          refine A_iload_n hC dX10_set_94 rfl ?_
          refine A_callVi (As := [.int a2]) (st := []) hC (fun l => mX4_greatestTimes l g hL a2 D3) (lX_43 hL) rfl (Nat.le_of_ble_eq_true rfl) yc_X10_232 rfl rfl ⟨by decide, by decide⟩ (Nat.le_of_ble_eq_true rfl) rfl dX10_set_95 (fun x5 D6 => ?_)
          exact A_iret hC dX10_set_98
      · exact A_to (hj18 D2) (trivial)
def fX10_span (a1 : Int32) (a2 : Int32) (D : ADD) : Option (Int32 × ADD) := aBind (fX4_takeAlone a1 D) (fun x1 D1 => (if x1 = 0 then some ((-1 : Int32), D1) else aTab a2 0 [aIn (0 : Int32) 32 (some ((D1.1 44 (0 : Int32).toNatClampNeg), D1)), aIn (0 : Int32) 32 (some ((D1.1 45 (0 : Int32).toNatClampNeg), D1)), aBind (fX1_takes a1 D1) (fun x2 D2 => aLet (fun (x3 : Int32) (D3 : ADD) => some (x3, D3)) (fun (j90 : Int32 → ADD → Option (Int32 × ADD)) => (if x2 = 0 then j90 (0 : Int32) D2 else j90 (1 : Int32) D2)))] (some ((-1 : Int32), D1))))
set_option maxHeartbeats 4000000 in
set_option maxRecDepth 100000 in
theorem mX10_span (l : Launch) (g : AGl) (hL : aLX g) (a1 : Int32) (a2 : Int32) (D : ADD) : AM aVi l yX10_span cX10_span 3 (some .int) 5 g [.ref (g.1 + 0), .int a1, .int a2] D (fX10_span a1 a2 D) := by
  refine AM_of (lv0 := [some (.ref (g.1 + 0)), some (.int a1), some (.int a2)]) (own := RX10) (by decide +kernel) rfl (Nat.le_of_ble_eq_true rfl) rfl (fun b hC => ?_)
  unfold fX10_span
  refine A_aload_n hC dX10_span_0 rfl ?_
  refine A_getr (kf := 3) hC kX10 (lX_0 hL) rfl (by decide) (by decide) rfl rfl w_308 dX10_span_1 ?_
  refine A_aload_n hC dX10_span_4 rfl ?_
  refine A_getr (kf := 0) hC kX10 (lX_0 hL) rfl (by decide) (by decide) rfl rfl w_305 dX10_span_5 ?_
  refine A_iload_n hC dX10_span_8 rfl ?_
  refine A_callVi (As := [.ref (g.1 + 1), .int a1]) (st := []) hC (fun l => mX4_takeAlone l g hL a1 D) (lX_43 hL) rfl (Nat.le_of_ble_eq_true rfl) yc_X10_143 rfl rfl ⟨by decide, by decide⟩ (Nat.le_of_ble_eq_true rfl) rfl dX10_span_9 (fun x1 D1 => ?_)
  refine A_if_ne (tgt := 17) hC dX10_span_12 (by decide) ?_ ?_
  · refine A_iload_n hC dX10_span_17 rfl ?_
    refine A_tab (td := 91) hC dX10_span_18 rfl (by decide) ?_ (And.intro (Exists.intro 44 (And.intro (by decide) ?_)) (And.intro (Exists.intro 54 (And.intro (by decide) ?_)) (And.intro (Exists.intro 64 (And.intro (by decide) ?_)) trivial)))
    · refine A_iconst (v := -1) hC dX10_span_91 (by decide) ?_
      exact A_iret hC dX10_span_92
    · refine A_aload_n hC dX10_span_44 rfl ?_
      refine A_getr (kf := 3) hC kX10 (lX_0 hL) rfl (by decide) (by decide) rfl rfl w_308 dX10_span_45 ?_
      refine A_getr (kf := 1) hC kX4 (lX_43 hL) rfl (by decide) (by decide) rfl rfl w_243 dX10_span_48 ?_
      refine A_iconst (v := 0) hC dX10_span_51 (by decide) ?_
      refine A_iald hC (lX_44 hL) dX10_span_52 ?_
      exact A_iret hC dX10_span_53
    · refine A_aload_n hC dX10_span_54 rfl ?_
      refine A_getr (kf := 3) hC kX10 (lX_0 hL) rfl (by decide) (by decide) rfl rfl w_308 dX10_span_55 ?_
      refine A_getr (kf := 2) hC kX4 (lX_43 hL) rfl (by decide) (by decide) rfl rfl w_246 dX10_span_58 ?_
      refine A_iconst (v := 0) hC dX10_span_61 (by decide) ?_
      refine A_iald hC (lX_45 hL) dX10_span_62 ?_
      exact A_iret hC dX10_span_63
    · refine A_aload_n hC dX10_span_64 rfl ?_
      refine A_getr (kf := 0) hC kX10 (lX_0 hL) rfl (by decide) (by decide) rfl rfl w_305 dX10_span_65 ?_
      refine A_getr (kf := 4) hC kX8 (lX_1 hL) rfl (by decide) (by decide) rfl rfl w_173 dX10_span_68 ?_
      refine A_aload_n hC dX10_span_71 rfl ?_
      refine A_getr (kf := 0) hC kX10 (lX_0 hL) rfl (by decide) (by decide) rfl rfl w_305 dX10_span_72 ?_
      refine A_getr (kf := 0) hC kX8 (lX_1 hL) rfl (by decide) (by decide) rfl rfl w_163 dX10_span_75 ?_
      refine A_iload_n hC dX10_span_78 rfl ?_
      refine A_callVi (As := [.ref (g.1 + 2), .int a1]) (st := []) hC (fun l => mX1_takes l g hL a1 D1) (lX_31 hL) rfl (Nat.le_of_ble_eq_true rfl) yc_X10_153 rfl rfl ⟨by decide, by decide⟩ (Nat.le_of_ble_eq_true rfl) rfl dX10_span_79 (fun x2 D2 => ?_)
      refine A_join (fun (J : Int32 → ADD → Option (Int32 × ADD)) => ∀ (x3 : Int32) (D3 : ADD), AT aVi g b 90 [none, none, none] [.int x3] D3 (J x3 D3)) (fun x3 D3 => ?_) (fun j90 hj90 => ?_)
      · exact A_iret hC dX10_span_90
      refine A_if_eq (tgt := 89) hC dX10_span_82 (by decide) ?_ ?_
      · refine A_iconst (v := 0) hC dX10_span_89 (by decide) ?_
        exact A_to (hj90 (0 : Int32) D2) (trivial)
      · refine A_iconst (v := 1) hC dX10_span_85 (by decide) ?_
        refine A_goto (tgt := 90) hC dX10_span_86 (by decide) ?_
        exact A_to (hj90 (1 : Int32) D2) (trivial)
  · refine A_iconst (v := -1) hC dX10_span_15 (by decide) ?_
    exact A_iret hC dX10_span_16
def fX10_sum (a1 : Int32) (a2 : Int32) (D : ADD) : Option (Int64 × ADD) := aBind (fX10_isUnit a1 D) (fun x1 D1 => aLet (fun (D2 : ADD) => some ((-1000000000000 : Int64), D2)) (fun (j19 : ADD → Option (Int64 × ADD)) => (if x1 = 0 then j19 D1 else aBind (fX10_isUnit a2 D1) (fun x2 D3 => (if x2 = 0 then j19 D3 else (if a1 < a2 then aBind (fX4_gather (0 : Int32) (0 : Int32) D3) (fun x3 D4 => aBind (fX7_sumOfTwo a1 a2 D4) (fun x4 D5 => some (x4, D5))) else j19 D3))))))
set_option maxHeartbeats 4000000 in
set_option maxRecDepth 100000 in
theorem mX10_sum (l : Launch) (g : AGl) (hL : aLX g) (a1 : Int32) (a2 : Int32) (D : ADD) : AM aVl l yX10_sum cX10_sum 3 (some .long) 5 g [.ref (g.1 + 0), .int a1, .int a2] D (fX10_sum a1 a2 D) := by
  refine AM_of (lv0 := [some (.ref (g.1 + 0)), some (.int a1), some (.int a2)]) (own := RX10) (by decide +kernel) rfl (Nat.le_of_ble_eq_true rfl) rfl (fun b hC => ?_)
  unfold fX10_sum
  refine A_iload_n hC dX10_sum_0 rfl ?_
  refine A_callSi (As := [.int a1]) (st := []) hC (fun l => mX10_isUnit l g a1 D) yc_X10_157 rfl rfl ⟨by decide, by decide⟩ (Nat.le_of_ble_eq_true rfl) rfl dX10_sum_1 (fun x1 D1 => ?_)
  refine A_join (fun (J : ADD → Option (Int64 × ADD)) => ∀ (D2 : ADD), AT aVl g b 19 [none, none, none] [] D2 (J D2)) (fun D2 => ?_) (fun j19 hj19 => ?_)
  · refine A_ldc2 hC dX10_sum_19 w_778 ?_
    exact A_lret hC dX10_sum_22
  refine A_if_eq (tgt := 19) hC dX10_sum_4 (by decide) ?_ ?_
  · exact A_to (hj19 D1) (trivial)
  · refine A_iload_n hC dX10_sum_7 rfl ?_
    refine A_callSi (As := [.int a2]) (st := []) hC (fun l => mX10_isUnit l g a2 D1) yc_X10_157 rfl rfl ⟨by decide, by decide⟩ (Nat.le_of_ble_eq_true rfl) rfl dX10_sum_8 (fun x2 D3 => ?_)
    refine A_if_eq (tgt := 19) hC dX10_sum_11 (by decide) ?_ ?_
    · exact A_to (hj19 D3) (trivial)
    · refine A_iload_n hC dX10_sum_14 rfl ?_
      refine A_iload_n hC dX10_sum_15 rfl ?_
      refine A_icmp_lt (tgt := 23) hC dX10_sum_16 (by decide) ?_ ?_
      · refine A_aload_n hC dX10_sum_23 rfl ?_
        refine A_getr (kf := 3) hC kX10 (lX_0 hL) rfl (by decide) (by decide) rfl rfl w_308 dX10_sum_24 ?_
        refine A_aload_n hC dX10_sum_27 rfl ?_
        refine A_getr (kf := 0) hC kX10 (lX_0 hL) rfl (by decide) (by decide) rfl rfl w_305 dX10_sum_28 ?_
        refine A_iconst (v := 0) hC dX10_sum_31 (by decide) ?_
        refine A_iconst (v := 0) hC dX10_sum_32 (by decide) ?_
        refine A_callVi (As := [.ref (g.1 + 1), .int (0 : Int32), .int (0 : Int32)]) (st := []) hC (fun l => mX4_gather l g hL (0 : Int32) (0 : Int32) D3) (lX_43 hL) rfl (Nat.le_of_ble_eq_true rfl) yc_X10_174 rfl rfl ⟨by decide, by decide⟩ (Nat.le_of_ble_eq_true rfl) rfl dX10_sum_33 (fun x3 D4 => ?_)
        refine A_pop hC dX10_sum_36 rfl ?_
        refine A_aload_n hC dX10_sum_37 rfl ?_
        refine A_getr (kf := 4) hC kX10 (lX_0 hL) rfl (by decide) (by decide) rfl rfl w_309 dX10_sum_38 ?_
        refine A_aload_n hC dX10_sum_41 rfl ?_
        refine A_getr (kf := 3) hC kX10 (lX_0 hL) rfl (by decide) (by decide) rfl rfl w_308 dX10_sum_42 ?_
        refine A_iload_n hC dX10_sum_45 rfl ?_
        refine A_iload_n hC dX10_sum_46 rfl ?_
        refine A_callVl (As := [.ref (g.1 + 43), .int a1, .int a2]) (st := []) hC (fun l => mX7_sumOfTwo l g hL a1 a2 D4) (lX_50 hL) rfl (Nat.le_of_ble_eq_true rfl) yc_X10_202 rfl rfl ⟨by decide, by decide⟩ (Nat.le_of_ble_eq_true rfl) rfl dX10_sum_47 (fun x4 D5 => ?_)
        exact A_lret hC dX10_sum_50
      · exact A_to (hj19 D3) (trivial)
def fX10_weighEvidence (a1 : Int32) (a2 : Int32) (D : ADD) : Option (Unit × ADD) := aLet (D.1 43 0) (fun x1 => aLet (a1 * x1) (fun x2 => aBind (fX4_nearBy a1 D) (fun x3 D1 => aBind (fX3_ofNear a1 x3 D1) (fun x4 D2 => aLet x4.toInt64 (fun x5 => aLet (aMinL (1000000000 : Int64) (x5 * a2.toInt64)) (fun x6 => aIn (0 : Int32) 8 (aLet (aSI D2 57 (0 : Int32).toNatClampNeg x1) (fun D3 => aIn (1 : Int32) 8 (aLet (aSI D3 57 (1 : Int32).toNatClampNeg x3) (fun D4 => aLet (fun (x7 : Int32) (D5 : ADD) => aIn (2 : Int32) 8 (aLet (aSI D5 57 (2 : Int32).toNatClampNeg x7) (fun D6 => aNZl (1000 : Int64) (aIn (3 : Int32) 8 (aLet (aSI D6 57 (3 : Int32).toNatClampNeg (aMinL (9999 : Int64) (x5 / (1000 : Int64))).toInt32) (fun D7 => aNZl (1000 : Int64) (aIn (4 : Int32) 8 (aLet (aSI D7 57 (4 : Int32).toNatClampNeg (aMinL (9999 : Int64) (x6 / (1000 : Int64))).toInt32) (fun D8 => aBind (fX7_placeOf a1 D8) (fun x8 D9 => aIn (5 : Int32) 8 (aLet (aSI D9 57 (5 : Int32).toNatClampNeg x8) (fun D10 => aBind (fX4_townsNear a1 D10) (fun x9 D11 => aIn (6 : Int32) 8 (aLet (aSI D11 57 (6 : Int32).toNatClampNeg x9) (fun D12 => aBind (fX4_marksNear a1 D12) (fun x10 D13 => aIn (7 : Int32) 8 (aLet (aSI D13 57 (7 : Int32).toNatClampNeg x10) (fun D14 => some ((), D14))))))))))))))))))) (fun (j97 : Int32 → ADD → Option (Unit × ADD)) => (if x2 = 0 then j97 (0 : Int32) D4 else aBind (fX4_scoreBy a1 D4) (fun x11 D15 => aNZ x2 (j97 ((x11 * (1000 : Int32)) / x2) D15))))))))))))))
set_option maxHeartbeats 4000000 in
set_option maxRecDepth 100000 in
theorem mX10_weighEvidence (l : Launch) (g : AGl) (hL : aLX g) (a1 : Int32) (a2 : Int32) (D : ADD) : AM aVv l yX10_weighEvidence cX10_weighEvidence 10 none 5 g [.ref (g.1 + 0), .int a1, .int a2] D (fX10_weighEvidence a1 a2 D) := by
  refine AM_of (lv0 := [some (.ref (g.1 + 0)), some (.int a1), some (.int a2), none, none, none, none, none, none, none]) (own := RX10) (by decide +kernel) rfl (Nat.le_of_ble_eq_true rfl) rfl (fun b hC => ?_)
  unfold fX10_weighEvidence
  refine A_aload_n hC dX10_weighEvidence_0 rfl ?_
  refine A_getr (kf := 3) hC kX10 (lX_0 hL) rfl (by decide) (by decide) rfl rfl w_308 dX10_weighEvidence_1 ?_
  refine A_geti (kf := 0) hC kX4 (lX_43 hL) rfl (by decide) (by decide) rfl w_240 dX10_weighEvidence_4 ?_
  refine A_topi (fun x1 => ?_)
  refine A_istore_n (lv2 := [some (.ref (g.1 + 0)), some (.int a1), some (.int a2), some (.int x1), none, none, none, none, none, none]) hC dX10_weighEvidence_7 (Nat.le_of_ble_eq_true rfl) rfl rfl ?_
  refine A_iload_n hC dX10_weighEvidence_8 rfl ?_
  refine A_iload_n hC dX10_weighEvidence_9 rfl ?_
  refine A_imul hC dX10_weighEvidence_10 ?_
  refine A_topi (fun x2 => ?_)
  refine A_istore (lv2 := [some (.ref (g.1 + 0)), some (.int a1), some (.int a2), some (.int x1), some (.int x2), none, none, none, none, none]) hC dX10_weighEvidence_11 (Nat.le_of_ble_eq_true rfl) rfl rfl ?_
  refine A_aload_n hC dX10_weighEvidence_13 rfl ?_
  refine A_getr (kf := 3) hC kX10 (lX_0 hL) rfl (by decide) (by decide) rfl rfl w_308 dX10_weighEvidence_14 ?_
  refine A_iload_n hC dX10_weighEvidence_17 rfl ?_
  refine A_callVi (As := [.int a1]) (st := []) hC (fun l => mX4_nearBy l g hL a1 D) (lX_43 hL) rfl (Nat.le_of_ble_eq_true rfl) yc_X10_206 rfl rfl ⟨by decide, by decide⟩ (Nat.le_of_ble_eq_true rfl) rfl dX10_weighEvidence_18 (fun x3 D1 => ?_)
  refine A_istore (lv2 := [some (.ref (g.1 + 0)), some (.int a1), some (.int a2), some (.int x1), some (.int x2), some (.int x3), none, none, none, none]) hC dX10_weighEvidence_21 (Nat.le_of_ble_eq_true rfl) rfl rfl ?_
  refine A_aload_n hC dX10_weighEvidence_23 rfl ?_
  refine A_getr (kf := 5) hC kX10 (lX_0 hL) rfl (by decide) (by decide) rfl rfl w_310 dX10_weighEvidence_24 ?_
  refine A_aload_n hC dX10_weighEvidence_27 rfl ?_
  refine A_getr (kf := 3) hC kX10 (lX_0 hL) rfl (by decide) (by decide) rfl rfl w_308 dX10_weighEvidence_28 ?_
  refine A_iload_n hC dX10_weighEvidence_31 rfl ?_
  refine A_iload hC dX10_weighEvidence_32 rfl ?_
  refine A_callVi (As := [.ref (g.1 + 43), .int a1, .int x3]) (st := []) hC (fun l => mX3_ofNear l g hL a1 x3 D1) (lX_55 hL) rfl (Nat.le_of_ble_eq_true rfl) yc_X10_209 rfl rfl ⟨by decide, by decide⟩ (Nat.le_of_ble_eq_true rfl) rfl dX10_weighEvidence_34 (fun x4 D2 => ?_)
  refine A_i2l hC dX10_weighEvidence_37 ?_
  refine A_topl (fun x5 => ?_)
  refine A_lstore (lv2 := [some (.ref (g.1 + 0)), some (.int a1), some (.int a2), some (.int x1), some (.int x2), some (.int x3), some (.long x5), none, none, none]) hC dX10_weighEvidence_38 (Nat.le_of_ble_eq_true rfl) rfl rfl ?_
  refine A_ldc2 hC dX10_weighEvidence_40 w_825 ?_
  refine A_lload hC dX10_weighEvidence_43 rfl ?_
  refine A_iload_n hC dX10_weighEvidence_45 rfl ?_
  refine A_i2l hC dX10_weighEvidence_46 ?_
  refine A_lmul hC dX10_weighEvidence_47 ?_
  refine A_mminl hC w_826 w_827 w_16 w_828 rfl (by decide) (Nat.le_of_ble_eq_true rfl) dX10_weighEvidence_48 ?_
  refine A_topl (fun x6 => ?_)
  refine A_lstore (lv2 := [some (.ref (g.1 + 0)), some (.int a1), some (.int a2), some (.int x1), some (.int x2), some (.int x3), some (.long x5), none, some (.long x6), none]) hC dX10_weighEvidence_51 (Nat.le_of_ble_eq_true rfl) rfl rfl ?_
  refine A_aload_n hC dX10_weighEvidence_53 rfl ?_
  refine A_getr (kf := 6) hC kX10 (lX_0 hL) rfl (by decide) (by decide) rfl rfl w_311 dX10_weighEvidence_54 ?_
  refine A_iconst (v := 0) hC dX10_weighEvidence_57 (by decide) ?_
  refine A_iload_n hC dX10_weighEvidence_58 rfl ?_
  refine A_iast hC (lX_57 hL) dX10_weighEvidence_59 (fun D3 => ?_)
  refine A_aload_n hC dX10_weighEvidence_60 rfl ?_
  refine A_getr (kf := 6) hC kX10 (lX_0 hL) rfl (by decide) (by decide) rfl rfl w_311 dX10_weighEvidence_61 ?_
  refine A_iconst (v := 1) hC dX10_weighEvidence_64 (by decide) ?_
  refine A_iload hC dX10_weighEvidence_65 rfl ?_
  refine A_iast hC (lX_57 hL) dX10_weighEvidence_67 (fun D4 => ?_)
  refine A_aload_n hC dX10_weighEvidence_68 rfl ?_
  refine A_getr (kf := 6) hC kX10 (lX_0 hL) rfl (by decide) (by decide) rfl rfl w_311 dX10_weighEvidence_69 ?_
  refine A_iconst (v := 2) hC dX10_weighEvidence_72 (by decide) ?_
  refine A_iload hC dX10_weighEvidence_73 rfl ?_
  refine A_join (fun (J : Int32 → ADD → Option (Unit × ADD)) => ∀ (x7 : Int32) (D5 : ADD), AT aVv g b 97 [some (.ref (g.1 + 0)), some (.int a1), none, none, none, none, some (.long x5), none, some (.long x6), none] [.int x7, .int (2 : Int32), .ref (g.1 + 57)] D5 (J x7 D5)) (fun x7 D5 => ?_) (fun j97 hj97 => ?_)
  · refine A_iast hC (lX_57 hL) dX10_weighEvidence_97 (fun D6 => ?_)
    refine A_aload_n hC dX10_weighEvidence_98 rfl ?_
    refine A_getr (kf := 6) hC kX10 (lX_0 hL) rfl (by decide) (by decide) rfl rfl w_311 dX10_weighEvidence_99 ?_
    refine A_iconst (v := 3) hC dX10_weighEvidence_102 (by decide) ?_
    refine A_ldc2 hC dX10_weighEvidence_103 w_829 ?_
    refine A_lload hC dX10_weighEvidence_106 rfl ?_
    refine A_ldc2 hC dX10_weighEvidence_108 w_830 ?_
    refine A_ldiv hC dX10_weighEvidence_111 ?_
    refine A_mminl hC w_826 w_827 w_16 w_828 rfl (by decide) (Nat.le_of_ble_eq_true rfl) dX10_weighEvidence_112 ?_
    refine A_l2i hC dX10_weighEvidence_115 ?_
    refine A_iast hC (lX_57 hL) dX10_weighEvidence_116 (fun D7 => ?_)
    refine A_aload_n hC dX10_weighEvidence_117 rfl ?_
    refine A_getr (kf := 6) hC kX10 (lX_0 hL) rfl (by decide) (by decide) rfl rfl w_311 dX10_weighEvidence_118 ?_
    refine A_iconst (v := 4) hC dX10_weighEvidence_121 (by decide) ?_
    refine A_ldc2 hC dX10_weighEvidence_122 w_829 ?_
    refine A_lload hC dX10_weighEvidence_125 rfl ?_
    refine A_ldc2 hC dX10_weighEvidence_127 w_830 ?_
    refine A_ldiv hC dX10_weighEvidence_130 ?_
    refine A_mminl hC w_826 w_827 w_16 w_828 rfl (by decide) (Nat.le_of_ble_eq_true rfl) dX10_weighEvidence_131 ?_
    refine A_l2i hC dX10_weighEvidence_134 ?_
    refine A_iast hC (lX_57 hL) dX10_weighEvidence_135 (fun D8 => ?_)
    refine A_aload_n hC dX10_weighEvidence_136 rfl ?_
    refine A_getr (kf := 6) hC kX10 (lX_0 hL) rfl (by decide) (by decide) rfl rfl w_311 dX10_weighEvidence_137 ?_
    refine A_iconst (v := 5) hC dX10_weighEvidence_140 (by decide) ?_
    refine A_aload_n hC dX10_weighEvidence_141 rfl ?_
    refine A_getr (kf := 4) hC kX10 (lX_0 hL) rfl (by decide) (by decide) rfl rfl w_309 dX10_weighEvidence_142 ?_
    refine A_iload_n hC dX10_weighEvidence_145 rfl ?_
    refine A_callVi (As := [.int a1]) (st := [.int (5 : Int32), .ref (g.1 + 57)]) hC (fun l => mX7_placeOf l g hL a1 D8) (lX_50 hL) rfl (Nat.le_of_ble_eq_true rfl) yc_X10_301 rfl rfl ⟨by decide, by decide⟩ (Nat.le_of_ble_eq_true rfl) rfl dX10_weighEvidence_146 (fun x8 D9 => ?_)
    refine A_iast hC (lX_57 hL) dX10_weighEvidence_149 (fun D10 => ?_)
    refine A_aload_n hC dX10_weighEvidence_150 rfl ?_
    refine A_getr (kf := 6) hC kX10 (lX_0 hL) rfl (by decide) (by decide) rfl rfl w_311 dX10_weighEvidence_151 ?_
    refine A_bipush (v := 6) hC dX10_weighEvidence_154 (by decide) ?_
    refine A_aload_n hC dX10_weighEvidence_156 rfl ?_
    refine A_getr (kf := 3) hC kX10 (lX_0 hL) rfl (by decide) (by decide) rfl rfl w_308 dX10_weighEvidence_157 ?_
    refine A_iload_n hC dX10_weighEvidence_160 rfl ?_
    refine A_callVi (As := [.int a1]) (st := [.int (6 : Int32), .ref (g.1 + 57)]) hC (fun l => mX4_townsNear l g hL a1 D10) (lX_43 hL) rfl (Nat.le_of_ble_eq_true rfl) yc_X10_304 rfl rfl ⟨by decide, by decide⟩ (Nat.le_of_ble_eq_true rfl) rfl dX10_weighEvidence_161 (fun x9 D11 => ?_)
    refine A_iast hC (lX_57 hL) dX10_weighEvidence_164 (fun D12 => ?_)
    refine A_aload_n hC dX10_weighEvidence_165 rfl ?_
    refine A_getr (kf := 6) hC kX10 (lX_0 hL) rfl (by decide) (by decide) rfl rfl w_311 dX10_weighEvidence_166 ?_
    refine A_bipush (v := 7) hC dX10_weighEvidence_169 (by decide) ?_
    refine A_aload_n hC dX10_weighEvidence_171 rfl ?_
    refine A_getr (kf := 3) hC kX10 (lX_0 hL) rfl (by decide) (by decide) rfl rfl w_308 dX10_weighEvidence_172 ?_
    refine A_iload_n hC dX10_weighEvidence_175 rfl ?_
    refine A_callVi (As := [.int a1]) (st := [.int (7 : Int32), .ref (g.1 + 57)]) hC (fun l => mX4_marksNear l g hL a1 D12) (lX_43 hL) rfl (Nat.le_of_ble_eq_true rfl) yc_X10_307 rfl rfl ⟨by decide, by decide⟩ (Nat.le_of_ble_eq_true rfl) rfl dX10_weighEvidence_176 (fun x10 D13 => ?_)
    refine A_iast hC (lX_57 hL) dX10_weighEvidence_179 (fun D14 => ?_)
    exact A_vret hC dX10_weighEvidence_180
  refine A_if_ne (tgt := 82) hC dX10_weighEvidence_75 (by decide) ?_ ?_
  · refine A_aload_n hC dX10_weighEvidence_82 rfl ?_
    refine A_getr (kf := 3) hC kX10 (lX_0 hL) rfl (by decide) (by decide) rfl rfl w_308 dX10_weighEvidence_83 ?_
    refine A_iload_n hC dX10_weighEvidence_86 rfl ?_
    refine A_callVi (As := [.int a1]) (st := [.int (2 : Int32), .ref (g.1 + 57)]) hC (fun l => mX4_scoreBy l g hL a1 D4) (lX_43 hL) rfl (Nat.le_of_ble_eq_true rfl) yc_X10_178 rfl rfl ⟨by decide, by decide⟩ (Nat.le_of_ble_eq_true rfl) rfl dX10_weighEvidence_87 (fun x11 D15 => ?_)
    refine A_sipush (v := 1000) hC dX10_weighEvidence_90 (by decide) ?_
    refine A_imul hC dX10_weighEvidence_93 ?_
    refine A_iload hC dX10_weighEvidence_94 rfl ?_
    refine A_idiv hC dX10_weighEvidence_96 ?_
    exact A_to (hj97 ((x11 * (1000 : Int32)) / x2) D15) (And.intro rfl (And.intro rfl (And.intro rfl (And.intro rfl (trivial)))))
  · refine A_iconst (v := 0) hC dX10_weighEvidence_78 (by decide) ?_
    refine A_goto (tgt := 97) hC dX10_weighEvidence_79 (by decide) ?_
    exact A_to (hj97 (0 : Int32) D4) (And.intro rfl (And.intro rfl (And.intro rfl (And.intro rfl (trivial)))))
def fX10_worth (a1 : Int32) (a2 : Int32) (a3 : Int32) (D : ADD) : Option (Int32 × ADD) := aBind (fX10_isRange a2 a3 (300 : Int32) D) (fun x1 D1 => (if x1 = 0 then some ((-1 : Int32), D1) else aBind (fX4_gather (0 : Int32) (0 : Int32) D1) (fun x2 D2 => aBind (fX4_indexOf a1 D2) (fun x3 D3 => (if x3 = (-1 : Int32) then some ((-1 : Int32), D3) else aBind (fX7_scoreUnits a2 a3 D3) (fun _ D4 => aBind (fX7_worthOf x3 D4) (fun x4 D5 => some (x4, D5))))))))
set_option maxHeartbeats 4000000 in
set_option maxRecDepth 100000 in
theorem mX10_worth (l : Launch) (g : AGl) (hL : aLX g) (a1 : Int32) (a2 : Int32) (a3 : Int32) (D : ADD) : AM aVi l yX10_worth cX10_worth 5 (some .int) 5 g [.ref (g.1 + 0), .int a1, .int a2, .int a3] D (fX10_worth a1 a2 a3 D) := by
  refine AM_of (lv0 := [some (.ref (g.1 + 0)), some (.int a1), some (.int a2), some (.int a3), none]) (own := RX10) (by decide +kernel) rfl (Nat.le_of_ble_eq_true rfl) rfl (fun b hC => ?_)
  unfold fX10_worth
  refine A_iload_n hC dX10_worth_0 rfl ?_
  refine A_iload_n hC dX10_worth_1 rfl ?_
  refine A_sipush (v := 300) hC dX10_worth_2 (by decide) ?_
  refine A_callSi (As := [.int a2, .int a3, .int (300 : Int32)]) (st := []) hC (fun l => mX10_isRange l g a2 a3 (300 : Int32) D) yc_X10_182 rfl rfl ⟨by decide, by decide⟩ (Nat.le_of_ble_eq_true rfl) rfl dX10_worth_5 (fun x1 D1 => ?_)
  refine A_if_ne (tgt := 13) hC dX10_worth_8 (by decide) ?_ ?_
  · refine A_aload_n hC dX10_worth_13 rfl ?_
    refine A_getr (kf := 3) hC kX10 (lX_0 hL) rfl (by decide) (by decide) rfl rfl w_308 dX10_worth_14 ?_
    refine A_aload_n hC dX10_worth_17 rfl ?_
    refine A_getr (kf := 0) hC kX10 (lX_0 hL) rfl (by decide) (by decide) rfl rfl w_305 dX10_worth_18 ?_
    refine A_iconst (v := 0) hC dX10_worth_21 (by decide) ?_
    refine A_iconst (v := 0) hC dX10_worth_22 (by decide) ?_
    refine A_callVi (As := [.ref (g.1 + 1), .int (0 : Int32), .int (0 : Int32)]) (st := []) hC (fun l => mX4_gather l g hL (0 : Int32) (0 : Int32) D1) (lX_43 hL) rfl (Nat.le_of_ble_eq_true rfl) yc_X10_174 rfl rfl ⟨by decide, by decide⟩ (Nat.le_of_ble_eq_true rfl) rfl dX10_worth_23 (fun x2 D2 => ?_)
    refine A_pop hC dX10_worth_26 rfl ?_
    refine A_aload_n hC dX10_worth_27 rfl ?_
    refine A_getr (kf := 3) hC kX10 (lX_0 hL) rfl (by decide) (by decide) rfl rfl w_308 dX10_worth_28 ?_
    refine A_iload_n hC dX10_worth_31 rfl ?_
    refine A_callVi (As := [.int a1]) (st := []) hC (fun l => mX4_indexOf l g hL a1 D2) (lX_43 hL) rfl (Nat.le_of_ble_eq_true rfl) yc_X10_248 rfl rfl ⟨by decide, by decide⟩ (Nat.le_of_ble_eq_true rfl) rfl dX10_worth_32 (fun x3 D3 => ?_)
    refine A_istore (lv2 := [some (.ref (g.1 + 0)), some (.int a1), some (.int a2), some (.int a3), some (.int x3)]) hC dX10_worth_35 (Nat.le_of_ble_eq_true rfl) rfl rfl ?_
    refine A_iload hC dX10_worth_37 rfl ?_
    refine A_iconst (v := -1) hC dX10_worth_39 (by decide) ?_
    refine A_icmp_ne (tgt := 45) hC dX10_worth_40 (by decide) ?_ ?_
    · refine A_aload_n hC dX10_worth_45 rfl ?_
      refine A_getr (kf := 4) hC kX10 (lX_0 hL) rfl (by decide) (by decide) rfl rfl w_309 dX10_worth_46 ?_
      refine A_aload_n hC dX10_worth_49 rfl ?_
      refine A_getr (kf := 3) hC kX10 (lX_0 hL) rfl (by decide) (by decide) rfl rfl w_308 dX10_worth_50 ?_
      refine A_iload_n hC dX10_worth_53 rfl ?_
      refine A_iload_n hC dX10_worth_54 rfl ?_
      refine A_callVv (As := [.ref (g.1 + 43), .int a2, .int a3]) (st := []) hC (fun l => mX7_scoreUnits l g hL a2 a3 D3) (lX_50 hL) rfl (Nat.le_of_ble_eq_true rfl) yc_X10_189 rfl rfl ⟨by decide, by decide⟩ (Nat.le_of_ble_eq_true rfl) rfl dX10_worth_55 (fun _ D4 => ?_)
      refine A_aload_n hC dX10_worth_58 rfl ?_
      refine A_getr (kf := 4) hC kX10 (lX_0 hL) rfl (by decide) (by decide) rfl rfl w_309 dX10_worth_59 ?_
      refine A_aload_n hC dX10_worth_62 rfl ?_
      refine A_getr (kf := 3) hC kX10 (lX_0 hL) rfl (by decide) (by decide) rfl rfl w_308 dX10_worth_63 ?_
      refine A_iload hC dX10_worth_66 rfl ?_
      refine A_callVi (As := [.ref (g.1 + 43), .int x3]) (st := []) hC (fun l => mX7_worthOf l g hL x3 D4) (lX_50 hL) rfl (Nat.le_of_ble_eq_true rfl) yc_X10_255 rfl rfl ⟨by decide, by decide⟩ (Nat.le_of_ble_eq_true rfl) rfl dX10_worth_68 (fun x4 D5 => ?_)
      exact A_iret hC dX10_worth_71
    · refine A_iconst (v := -1) hC dX10_worth_43 (by decide) ?_
      exact A_iret hC dX10_worth_44
  · refine A_iconst (v := -1) hC dX10_worth_11 (by decide) ?_
    exact A_iret hC dX10_worth_12
def lX11_bestOf_13 (a1 : Int32) (a2 : Int32) (j45 : Int32 → ADD → Option (Int32 × ADD)) (L13 : Int32 → Int32 → ADD → Option (Int32 × ADD)) (x3 : Int32) (x4 : Int32) (D3 : ADD) : Option (Int32 × ADD) := (if a2 < x4 then j45 x3 D3 else aBind (fX11_against a1 x4 x3 D3) (fun x5 D4 => aLet (fun (x6 : Int32) (D5 : ADD) => aLet (x4 + (1 : Int32)) (fun x7 => L13 x6 x7 D5)) (fun (j38 : Int32 → ADD → Option (Int32 × ADD)) => (if (aCmp x5 (0 : Int64)) < 0 then j38 x3 D4 else j38 x4 D4))))
def fX11_bestOf (a1 : Int32) (a2 : Int32) (D : ADD) : Option (Int32 × ADD) := aBind (fX11_findScores a1 a2 D) (fun _ D1 => aLet (a1 + (1 : Int32)) (fun x1 => aLet (fun (x2 : Int32) (D2 : ADD) => some (x2, D2)) (fun (j45 : Int32 → ADD → Option (Int32 × ADD)) => aLet (aFix aFuel (lX11_bestOf_13 a1 a2 j45) (fun _ _ _ => none)) (fun j13 => j13 a1 x1 D1))))
set_option maxHeartbeats 4000000 in
set_option maxRecDepth 100000 in
theorem mX11_bestOf (l : Launch) (g : AGl) (hL : aLM g) (a1 : Int32) (a2 : Int32) (D : ADD) : AM aVi l yX11_bestOf cX11_bestOf 5 (some .int) 5 g [.ref (g.1 + 0), .int a1, .int a2] D (fX11_bestOf a1 a2 D) := by
  refine AM_of (lv0 := [some (.ref (g.1 + 0)), some (.int a1), some (.int a2), none, none]) (own := RX11) (by decide +kernel) rfl (Nat.le_of_ble_eq_true rfl) rfl (fun b hC => ?_)
  unfold fX11_bestOf
  refine A_aload_n hC dX11_bestOf_0 rfl ?_
  refine A_iload_n hC dX11_bestOf_1 rfl ?_
  refine A_iload_n hC dX11_bestOf_2 rfl ?_
  refine A_callVv (As := [.int a1, .int a2]) (st := []) hC (fun l => mX11_findScores l g hL a1 a2 D) (lM_0 hL) rfl (Nat.le_of_ble_eq_true rfl) yc_X11_333 rfl rfl ⟨by decide, by decide⟩ (Nat.le_of_ble_eq_true rfl) rfl dX11_bestOf_3 (fun _ D1 => ?_)
  refine A_iload_n hC dX11_bestOf_6 rfl ?_
  refine A_istore_n (lv2 := [some (.ref (g.1 + 0)), some (.int a1), some (.int a2), some (.int a1), none]) hC dX11_bestOf_7 (Nat.le_of_ble_eq_true rfl) rfl rfl ?_
  refine A_iload_n hC dX11_bestOf_8 rfl ?_
  refine A_iconst (v := 1) hC dX11_bestOf_9 (by decide) ?_
  refine A_iadd hC dX11_bestOf_10 ?_
  refine A_topi (fun x1 => ?_)
  refine A_istore (lv2 := [some (.ref (g.1 + 0)), some (.int a1), some (.int a2), some (.int a1), some (.int x1)]) hC dX11_bestOf_11 (Nat.le_of_ble_eq_true rfl) rfl rfl ?_
  refine A_join (fun (J : Int32 → ADD → Option (Int32 × ADD)) => ∀ (x2 : Int32) (D2 : ADD), AT aVi g b 45 [none, none, none, some (.int x2), none] [] D2 (J x2 D2)) (fun x2 D2 => ?_) (fun j45 hj45 => ?_)
  · refine A_iload_n hC dX11_bestOf_45 rfl ?_
    exact A_iret hC dX11_bestOf_46
  refine A_join (fun (J : Int32 → Int32 → ADD → Option (Int32 × ADD)) => ∀ (x3 : Int32) (x4 : Int32) (D3 : ADD), AT aVi g b 13 [some (.ref (g.1 + 0)), some (.int a1), some (.int a2), some (.int x3), some (.int x4)] [] D3 (J x3 x4 D3)) (aFix_all (fun (J : Int32 → Int32 → ADD → Option (Int32 × ADD)) => ∀ (x3 : Int32) (x4 : Int32) (D3 : ADD), AT aVi g b 13 [some (.ref (g.1 + 0)), some (.int a1), some (.int a2), some (.int x3), some (.int x4)] [] D3 (J x3 x4 D3)) (fun _ _ _ => A_none) (fun L13 hL13 x3 x4 D3 => ?_) _) (fun j13 hj13 => ?_)
  · unfold lX11_bestOf_13
    refine A_iload hC dX11_bestOf_13 rfl ?_
    refine A_iload_n hC dX11_bestOf_15 rfl ?_
    refine A_icmp_gt (tgt := 45) hC dX11_bestOf_16 (by decide) ?_ ?_
    · exact A_to (hj45 x3 D3) (And.intro rfl (trivial))
    · refine A_aload_n hC dX11_bestOf_19 rfl ?_
      refine A_iload_n hC dX11_bestOf_20 rfl ?_
      refine A_iload hC dX11_bestOf_21 rfl ?_
      refine A_iload_n hC dX11_bestOf_23 rfl ?_
      refine A_callVl (As := [.int a1, .int x4, .int x3]) (st := []) hC (fun l => mX11_against l g hL a1 x4 x3 D3) (lM_0 hL) rfl (Nat.le_of_ble_eq_true rfl) yc_X11_336 rfl rfl ⟨by decide, by decide⟩ (Nat.le_of_ble_eq_true rfl) rfl dX11_bestOf_24 (fun x5 D4 => ?_)
      refine A_lconst (v := 0) hC dX11_bestOf_27 (by decide) ?_
      refine A_lcmp hC dX11_bestOf_28 ?_
      refine A_join (fun (J : Int32 → ADD → Option (Int32 × ADD)) => ∀ (x6 : Int32) (D5 : ADD), AT aVi g b 38 [some (.ref (g.1 + 0)), some (.int a1), some (.int a2), none, some (.int x4)] [.int x6] D5 (J x6 D5)) (fun x6 D5 => ?_) (fun j38 hj38 => ?_)
      · refine A_istore_n (lv2 := [some (.ref (g.1 + 0)), some (.int a1), some (.int a2), some (.int x6), some (.int x4)]) hC dX11_bestOf_38 (Nat.le_of_ble_eq_true rfl) rfl rfl ?_
        refine A_iincL (z := (1 : Int32)) (lv2 := fun x7 => [some (.ref (g.1 + 0)), some (.int a1), some (.int a2), some (.int x6), some (.int x7)]) hC dX11_bestOf_39 rfl (by decide) (Nat.le_of_ble_eq_true rfl) rfl (fun _ => rfl) (fun x7 => ?_)
        refine A_goto (tgt := 13) hC dX11_bestOf_42 (by decide) ?_
        exact A_to (hL13 x6 x7 D5) (And.intro rfl (And.intro rfl (And.intro rfl (And.intro rfl (And.intro rfl (trivial))))))
      refine A_if_lt (tgt := 37) hC dX11_bestOf_29 (by decide) ?_ ?_
      · refine A_iload_n hC dX11_bestOf_37 rfl ?_
        exact A_to (hj38 x3 D4) (And.intro rfl (And.intro rfl (And.intro rfl (And.intro rfl (trivial)))))
      · refine A_iload hC dX11_bestOf_32 rfl ?_
        refine A_goto (tgt := 38) hC dX11_bestOf_34 (by decide) ?_
        exact A_to (hj38 x4 D4) (And.intro rfl (And.intro rfl (And.intro rfl (And.intro rfl (trivial)))))
  exact A_to (hj13 a1 x1 D1) (And.intro rfl (And.intro rfl (And.intro rfl (And.intro rfl (And.intro rfl (trivial))))))
def fX11_chance (a1 : Int32) (D : ADD) : Option (Int32 × ADD) := aLet (aSI D 0 0 (0 : Int32)) (fun D1 => aBind (fX11_isUnit a1 D1) (fun x1 D2 => (if x1 = 0 then some ((-1 : Int32), D2) else aBind (fX11_look D2) (fun _ D3 => aBind (fX11_chanceOf a1 D3) (fun x2 D4 => some (x2.toInt32, D4))))))
set_option maxHeartbeats 4000000 in
set_option maxRecDepth 100000 in
theorem mX11_chance (l : Launch) (g : AGl) (hL : aLM g) (a1 : Int32) (D : ADD) : AM aVi l yX11_chance cX11_chance 2 (some .int) 5 g [.ref (g.1 + 0), .int a1] D (fX11_chance a1 D) := by
  refine AM_of (lv0 := [some (.ref (g.1 + 0)), some (.int a1)]) (own := RX11) (by decide +kernel) rfl (Nat.le_of_ble_eq_true rfl) rfl (fun b hC => ?_)
  unfold fX11_chance
  refine A_aload_n hC dX11_chance_0 rfl ?_
  refine A_iconst (v := 0) hC dX11_chance_1 (by decide) ?_
  refine A_puti (kf := 0) hC kX11 (lM_0 hL) rfl (by decide) (by decide) rfl rfl rfl w_1003 dX11_chance_2 (fun D1 => ?_)
  refine A_iload_n hC dX11_chance_5 rfl ?_
  refine A_callSi (As := [.int a1]) (st := []) hC (fun l => mX11_isUnit l g a1 D1) yc_X11_314 rfl rfl ⟨by decide, by decide⟩ (Nat.le_of_ble_eq_true rfl) rfl dX11_chance_6 (fun x1 D2 => ?_)
  refine A_if_ne (tgt := 14) hC dX11_chance_9 (by decide) ?_ ?_
  · refine A_aload_n hC dX11_chance_14 rfl ?_
    refine A_callVv (As := []) (st := []) hC (fun l => mX11_look l g hL D2) (lM_0 hL) rfl (Nat.le_of_ble_eq_true rfl) yc_X11_311 rfl rfl ⟨by decide, by decide⟩ (Nat.le_of_ble_eq_true rfl) rfl dX11_chance_15 (fun _ D3 => ?_)
    refine A_aload_n hC dX11_chance_18 rfl ?_
    refine A_iload_n hC dX11_chance_19 rfl ?_
    refine A_callVl (As := [.int a1]) (st := []) hC (fun l => mX11_chanceOf l g hL a1 D3) (lM_0 hL) rfl (Nat.le_of_ble_eq_true rfl) yc_X11_380 rfl rfl ⟨by decide, by decide⟩ (Nat.le_of_ble_eq_true rfl) rfl dX11_chance_20 (fun x2 D4 => ?_)
    refine A_l2i hC dX11_chance_23 ?_
    exact A_iret hC dX11_chance_24
  · refine A_iconst (v := -1) hC dX11_chance_12 (by decide) ?_
    exact A_iret hC dX11_chance_13
def lX11_findProof_113 (x4 : Int32) (j138 : Int32 → ADD → Option (Unit × ADD)) (L113 : Int32 → Int32 → ADD → Option (Unit × ADD)) (x14 : Int32) (x15 : Int32) (D21 : ADD) : Option (Unit × ADD) := (if (6 : Int32) ≤ x15 then j138 x14 D21 else aLet (x14 + ((x4 >>> (x15 &&& 31)) &&& (1 : Int32))) (fun x16 => aLet (x15 + (1 : Int32)) (fun x17 => L113 x16 x17 D21)))
def lX11_findProof_33 (a1 : Int32) (j107 : Int32 → Int32 → ADD → Option (Unit × ADD)) (L33 : Int32 → Int32 → Int32 → ADD → Option (Unit × ADD)) (x18 : Int32) (x19 : Int32) (x20 : Int32) (D22 : ADD) : Option (Unit × ADD) := (if (D22.1 0 41) ≤ x20 then j107 x18 x19 D22 else aIn x20 32 (aLet (fun (x21 : Int32) (x22 : Int32) (D23 : ADD) => aLet (x20 + (1 : Int32)) (fun x23 => L33 x21 x22 x23 D23)) (fun (j101 : Int32 → Int32 → ADD → Option (Unit × ADD)) => (if (aBz (D22.1 35 x20.toNatClampNeg)) = 0 then j101 x18 x19 D22 else aBind (fX11_off x20 a1 D22) (fun x24 D24 => (if a1 < ((8 : Int32) * x24) then j101 x18 x19 D24 else aBind (fX11_f x20 (4 : Int32) D24) (fun x25 D25 => aLet (x18 ||| ((1 : Int32) <<< (x25 &&& 31))) (fun x26 => aBind (fX11_f x20 (7 : Int32) D25) (fun x27 D26 => aLet (fun (x28 : Int32) (D27 : ADD) => aLet (x19 + x28) (fun x29 => j101 x26 x29 D27)) (fun (j98 : Int32 → ADD → Option (Unit × ADD)) => (if x27 ≤ 0 then j98 (0 : Int32) D26 else j98 (1 : Int32) D26)))))))))))
def fX11_findProof (a1 : Int32) (a2 : Int32) (a3 : Int32) (D : ADD) : Option (Unit × ADD) := aBind (fX11_those D) (fun x1 D1 => aBind (fX11_chanceOf a1 D1) (fun x2 D2 => aLet (x2 * ((a3 - a2) + (1 : Int32)).toInt64) (fun x3 => aLet (fun (x4 : Int32) (x5 : Int32) (D3 : ADD) => aLet (fun (x6 : Int32) (D4 : ADD) => aBind (fX11_findScores a2 a3 D4) (fun _ D5 => aIn (0 : Int32) 8 (aLet (aSI D5 30 (0 : Int32).toNatClampNeg x1) (fun D6 => aBind (fX11_nearOf a1 D6) (fun x7 D7 => aIn (1 : Int32) 8 (aLet (aSI D7 30 (1 : Int32).toNatClampNeg x7) (fun D8 => aLet (fun (x8 : Int32) (D9 : ADD) => aIn (2 : Int32) 8 (aLet (aSI D9 30 (2 : Int32).toNatClampNeg x8) (fun D10 => aBind (fX11_thousands x2 D10) (fun x9 D11 => aIn (3 : Int32) 8 (aLet (aSI D11 30 (3 : Int32).toNatClampNeg x9) (fun D12 => aLet (fun (x10 : Int64) (D13 : ADD) => aBind (fX11_thousands x10 D13) (fun x11 D14 => aIn (4 : Int32) 8 (aLet (aSI D14 30 (4 : Int32).toNatClampNeg x11) (fun D15 => aLet (fun (x12 : Int32) (D16 : ADD) => aIn (5 : Int32) 8 (aLet (aSI D16 30 (5 : Int32).toNatClampNeg x12) (fun D17 => aIn (6 : Int32) 8 (aLet (aSI D17 30 (6 : Int32).toNatClampNeg x6) (fun D18 => aIn (7 : Int32) 8 (aLet (aSI D18 30 (7 : Int32).toNatClampNeg x5) (fun D19 => some ((), D19)))))))) (fun (j259 : Int32 → ADD → Option (Unit × ADD)) => (if x1 = 0 then j259 (9999 : Int32) D15 else aBind (fX11_placeOf a2 a3 a1 D15) (fun x13 D20 => j259 x13 D20))))))) (fun (j232 : Int64 → ADD → Option (Unit × ADD)) => (if (aCmp x3 (1000000000 : Int64)) ≤ 0 then j232 x3 D12 else j232 (1000000000 : Int64) D12)))))))) (fun (j198 : Int32 → ADD → Option (Unit × ADD)) => (if x1 = 0 then j198 (0 : Int32) D8 else aIn (a1 - a2) 301 (aNZl (a1.toInt64 * x1.toInt64) (j198 (((1000 : Int64) * (D8.1 36 (a1 - a2).toNatClampNeg).toInt64) / (a1.toInt64 * x1.toInt64)).toInt32 D8))))))))))) (fun (j138 : Int32 → ADD → Option (Unit × ADD)) => aLet (aFix aFuel (lX11_findProof_113 x4 j138) (fun _ _ _ => none)) (fun j113 => j113 (0 : Int32) (0 : Int32) D3))) (fun (j107 : Int32 → Int32 → ADD → Option (Unit × ADD)) => aLet (aFix aFuel (lX11_findProof_33 a1 j107) (fun _ _ _ _ => none)) (fun j33 => j33 (0 : Int32) (0 : Int32) (0 : Int32) D2)))))
set_option maxHeartbeats 4000000 in
set_option maxRecDepth 100000 in
theorem mX11_findProof (l : Launch) (g : AGl) (hL : aLM g) (a1 : Int32) (a2 : Int32) (a3 : Int32) (D : ADD) : AM aVv l yX11_findProof cX11_findProof 13 none 5 g [.ref (g.1 + 0), .int a1, .int a2, .int a3] D (fX11_findProof a1 a2 a3 D) := by
  refine AM_of (lv0 := [some (.ref (g.1 + 0)), some (.int a1), some (.int a2), some (.int a3), none, none, none, none, none, none, none, none, none]) (own := RX11) (by decide +kernel) rfl (Nat.le_of_ble_eq_true rfl) rfl (fun b hC => ?_)
  unfold fX11_findProof
  refine A_aload_n hC dX11_findProof_0 rfl ?_
  refine A_callVi (As := []) (st := []) hC (fun l => mX11_those l g hL D) (lM_0 hL) rfl (Nat.le_of_ble_eq_true rfl) yc_X11_344 rfl rfl ⟨by decide, by decide⟩ (Nat.le_of_ble_eq_true rfl) rfl dX11_findProof_1 (fun x1 D1 => ?_)
  refine A_istore (lv2 := [some (.ref (g.1 + 0)), some (.int a1), some (.int a2), some (.int a3), some (.int x1), none, none, none, none, none, none, none, none]) hC dX11_findProof_4 (Nat.le_of_ble_eq_true rfl) rfl rfl ?_
  refine A_aload_n hC dX11_findProof_6 rfl ?_
  refine A_iload_n hC dX11_findProof_7 rfl ?_
  refine A_callVl (As := [.int a1]) (st := []) hC (fun l => mX11_chanceOf l g hL a1 D1) (lM_0 hL) rfl (Nat.le_of_ble_eq_true rfl) yc_X11_380 rfl rfl ⟨by decide, by decide⟩ (Nat.le_of_ble_eq_true rfl) rfl dX11_findProof_8 (fun x2 D2 => ?_)
  refine A_lstore (lv2 := [some (.ref (g.1 + 0)), some (.int a1), some (.int a2), some (.int a3), some (.int x1), some (.long x2), none, none, none, none, none, none, none]) hC dX11_findProof_11 (Nat.le_of_ble_eq_true rfl) rfl rfl ?_
  refine A_lload hC dX11_findProof_13 rfl ?_
  refine A_iload_n hC dX11_findProof_15 rfl ?_
  refine A_iload_n hC dX11_findProof_16 rfl ?_
  refine A_isub hC dX11_findProof_17 ?_
  refine A_iconst (v := 1) hC dX11_findProof_18 (by decide) ?_
  refine A_iadd hC dX11_findProof_19 ?_
  refine A_i2l hC dX11_findProof_20 ?_
  refine A_lmul hC dX11_findProof_21 ?_
  refine A_topl (fun x3 => ?_)
  refine A_lstore (lv2 := [some (.ref (g.1 + 0)), some (.int a1), some (.int a2), some (.int a3), some (.int x1), some (.long x2), none, some (.long x3), none, none, none, none, none]) hC dX11_findProof_22 (Nat.le_of_ble_eq_true rfl) rfl rfl ?_
  refine A_iconst (v := 0) hC dX11_findProof_24 (by decide) ?_
  refine A_istore (lv2 := [some (.ref (g.1 + 0)), some (.int a1), some (.int a2), some (.int a3), some (.int x1), some (.long x2), none, some (.long x3), none, some (.int (0 : Int32)), none, none, none]) hC dX11_findProof_25 (Nat.le_of_ble_eq_true rfl) rfl rfl ?_
  refine A_iconst (v := 0) hC dX11_findProof_27 (by decide) ?_
  refine A_istore (lv2 := [some (.ref (g.1 + 0)), some (.int a1), some (.int a2), some (.int a3), some (.int x1), some (.long x2), none, some (.long x3), none, some (.int (0 : Int32)), some (.int (0 : Int32)), none, none]) hC dX11_findProof_28 (Nat.le_of_ble_eq_true rfl) rfl rfl ?_
  refine A_iconst (v := 0) hC dX11_findProof_30 (by decide) ?_
  refine A_istore (lv2 := [some (.ref (g.1 + 0)), some (.int a1), some (.int a2), some (.int a3), some (.int x1), some (.long x2), none, some (.long x3), none, some (.int (0 : Int32)), some (.int (0 : Int32)), some (.int (0 : Int32)), none]) hC dX11_findProof_31 (Nat.le_of_ble_eq_true rfl) rfl rfl ?_
  refine A_join (fun (J : Int32 → Int32 → ADD → Option (Unit × ADD)) => ∀ (x4 : Int32) (x5 : Int32) (D3 : ADD), AT aVv g b 107 [some (.ref (g.1 + 0)), some (.int a1), some (.int a2), some (.int a3), some (.int x1), some (.long x2), none, some (.long x3), none, some (.int x4), some (.int x5), none, none] [] D3 (J x4 x5 D3)) (fun x4 x5 D3 => ?_) (fun j107 hj107 => ?_)
  · refine A_iconst (v := 0) hC dX11_findProof_107 (by decide) ?_
    refine A_istore (lv2 := [some (.ref (g.1 + 0)), some (.int a1), some (.int a2), some (.int a3), some (.int x1), some (.long x2), none, some (.long x3), none, some (.int x4), some (.int x5), some (.int (0 : Int32)), none]) hC dX11_findProof_108 (Nat.le_of_ble_eq_true rfl) rfl rfl ?_
    refine A_iconst (v := 0) hC dX11_findProof_110 (by decide) ?_
    refine A_istore (lv2 := [some (.ref (g.1 + 0)), some (.int a1), some (.int a2), some (.int a3), some (.int x1), some (.long x2), none, some (.long x3), none, some (.int x4), some (.int x5), some (.int (0 : Int32)), some (.int (0 : Int32))]) hC dX11_findProof_111 (Nat.le_of_ble_eq_true rfl) rfl rfl ?_
    refine A_join (fun (J : Int32 → ADD → Option (Unit × ADD)) => ∀ (x6 : Int32) (D4 : ADD), AT aVv g b 138 [some (.ref (g.1 + 0)), some (.int a1), some (.int a2), some (.int a3), some (.int x1), some (.long x2), none, some (.long x3), none, none, some (.int x5), some (.int x6), none] [] D4 (J x6 D4)) (fun x6 D4 => ?_) (fun j138 hj138 => ?_)
    · refine A_aload_n hC dX11_findProof_138 rfl ?_
      refine A_iload_n hC dX11_findProof_139 rfl ?_
      refine A_iload_n hC dX11_findProof_140 rfl ?_
      refine A_callVv (As := [.int a2, .int a3]) (st := []) hC (fun l => mX11_findScores l g hL a2 a3 D4) (lM_0 hL) rfl (Nat.le_of_ble_eq_true rfl) yc_X11_333 rfl rfl ⟨by decide, by decide⟩ (Nat.le_of_ble_eq_true rfl) rfl dX11_findProof_141 (fun _ D5 => ?_)
      refine A_aload_n hC dX11_findProof_144 rfl ?_
      refine A_getr (kf := 40) hC kX11 (lM_0 hL) rfl (by decide) (by decide) rfl rfl w_1043 dX11_findProof_145 ?_
      refine A_iconst (v := 0) hC dX11_findProof_148 (by decide) ?_
      refine A_iload hC dX11_findProof_149 rfl ?_
      refine A_iast hC (lM_30 hL) dX11_findProof_151 (fun D6 => ?_)
      refine A_aload_n hC dX11_findProof_152 rfl ?_
      refine A_getr (kf := 40) hC kX11 (lM_0 hL) rfl (by decide) (by decide) rfl rfl w_1043 dX11_findProof_153 ?_
      refine A_iconst (v := 1) hC dX11_findProof_156 (by decide) ?_
      refine A_aload_n hC dX11_findProof_157 rfl ?_
      refine A_iload_n hC dX11_findProof_158 rfl ?_
      refine A_callVi (As := [.int a1]) (st := [.int (1 : Int32), .ref (g.1 + 30)]) hC (fun l => mX11_nearOf l g hL a1 D6) (lM_0 hL) rfl (Nat.le_of_ble_eq_true rfl) yc_X11_373 rfl rfl ⟨by decide, by decide⟩ (Nat.le_of_ble_eq_true rfl) rfl dX11_findProof_159 (fun x7 D7 => ?_)
      refine A_iast hC (lM_30 hL) dX11_findProof_162 (fun D8 => ?_)
      refine A_aload_n hC dX11_findProof_163 rfl ?_
      refine A_getr (kf := 40) hC kX11 (lM_0 hL) rfl (by decide) (by decide) rfl rfl w_1043 dX11_findProof_164 ?_
      refine A_iconst (v := 2) hC dX11_findProof_167 (by decide) ?_
      refine A_iload hC dX11_findProof_168 rfl ?_
      refine A_join (fun (J : Int32 → ADD → Option (Unit × ADD)) => ∀ (x8 : Int32) (D9 : ADD), AT aVv g b 198 [some (.ref (g.1 + 0)), some (.int a1), some (.int a2), some (.int a3), some (.int x1), some (.long x2), none, some (.long x3), none, none, some (.int x5), some (.int x6), none] [.int x8, .int (2 : Int32), .ref (g.1 + 30)] D9 (J x8 D9)) (fun x8 D9 => ?_) (fun j198 hj198 => ?_)
      · refine A_iast hC (lM_30 hL) dX11_findProof_198 (fun D10 => ?_)
        refine A_aload_n hC dX11_findProof_199 rfl ?_
        refine A_getr (kf := 40) hC kX11 (lM_0 hL) rfl (by decide) (by decide) rfl rfl w_1043 dX11_findProof_200 ?_
        refine A_iconst (v := 3) hC dX11_findProof_203 (by decide) ?_
        refine A_lload hC dX11_findProof_204 rfl ?_
        refine A_callSi (As := [.long x2]) (st := [.int (3 : Int32), .ref (g.1 + 30)]) hC (fun l => mX11_thousands l g x2 D10) yc_X11_387 rfl rfl ⟨by decide, by decide⟩ (Nat.le_of_ble_eq_true rfl) rfl dX11_findProof_206 (fun x9 D11 => ?_)
        refine A_iast hC (lM_30 hL) dX11_findProof_209 (fun D12 => ?_)
        refine A_aload_n hC dX11_findProof_210 rfl ?_
        refine A_getr (kf := 40) hC kX11 (lM_0 hL) rfl (by decide) (by decide) rfl rfl w_1043 dX11_findProof_211 ?_
        refine A_iconst (v := 4) hC dX11_findProof_214 (by decide) ?_
        refine A_lload hC dX11_findProof_215 rfl ?_
        refine A_ldc2 hC dX11_findProof_217 w_1421 ?_
        refine A_lcmp hC dX11_findProof_220 ?_
        refine A_join (fun (J : Int64 → ADD → Option (Unit × ADD)) => ∀ (x10 : Int64) (D13 : ADD), AT aVv g b 232 [some (.ref (g.1 + 0)), some (.int a1), some (.int a2), some (.int a3), some (.int x1), none, none, none, none, none, some (.int x5), some (.int x6), none] [.long x10, .int (4 : Int32), .ref (g.1 + 30)] D13 (J x10 D13)) (fun x10 D13 => ?_) (fun j232 hj232 => ?_)
        · refine A_callSi (As := [.long x10]) (st := [.int (4 : Int32), .ref (g.1 + 30)]) hC (fun l => mX11_thousands l g x10 D13) yc_X11_387 rfl rfl ⟨by decide, by decide⟩ (Nat.le_of_ble_eq_true rfl) rfl dX11_findProof_232 (fun x11 D14 => ?_)
          refine A_iast hC (lM_30 hL) dX11_findProof_235 (fun D15 => ?_)
          refine A_aload_n hC dX11_findProof_236 rfl ?_
          refine A_getr (kf := 40) hC kX11 (lM_0 hL) rfl (by decide) (by decide) rfl rfl w_1043 dX11_findProof_237 ?_
          refine A_iconst (v := 5) hC dX11_findProof_240 (by decide) ?_
          refine A_iload hC dX11_findProof_241 rfl ?_
          refine A_join (fun (J : Int32 → ADD → Option (Unit × ADD)) => ∀ (x12 : Int32) (D16 : ADD), AT aVv g b 259 [some (.ref (g.1 + 0)), none, none, none, none, none, none, none, none, none, some (.int x5), some (.int x6), none] [.int x12, .int (5 : Int32), .ref (g.1 + 30)] D16 (J x12 D16)) (fun x12 D16 => ?_) (fun j259 hj259 => ?_)
          · refine A_iast hC (lM_30 hL) dX11_findProof_259 (fun D17 => ?_)
            refine A_aload_n hC dX11_findProof_260 rfl ?_
            refine A_getr (kf := 40) hC kX11 (lM_0 hL) rfl (by decide) (by decide) rfl rfl w_1043 dX11_findProof_261 ?_
            refine A_bipush (v := 6) hC dX11_findProof_264 (by decide) ?_
            refine A_iload hC dX11_findProof_266 rfl ?_
            refine A_iast hC (lM_30 hL) dX11_findProof_268 (fun D18 => ?_)
            refine A_aload_n hC dX11_findProof_269 rfl ?_
            refine A_getr (kf := 40) hC kX11 (lM_0 hL) rfl (by decide) (by decide) rfl rfl w_1043 dX11_findProof_270 ?_
            refine A_bipush (v := 7) hC dX11_findProof_273 (by decide) ?_
            refine A_iload hC dX11_findProof_275 rfl ?_
            refine A_iast hC (lM_30 hL) dX11_findProof_277 (fun D19 => ?_)
            exact A_vret hC dX11_findProof_278
          refine A_if_ne (tgt := 252) hC dX11_findProof_243 (by decide) ?_ ?_
          · refine A_aload_n hC dX11_findProof_252 rfl ?_
            refine A_iload_n hC dX11_findProof_253 rfl ?_
            refine A_iload_n hC dX11_findProof_254 rfl ?_
            refine A_iload_n hC dX11_findProof_255 rfl ?_
            refine A_callVi (As := [.int a2, .int a3, .int a1]) (st := [.int (5 : Int32), .ref (g.1 + 30)]) hC (fun l => mX11_placeOf l g hL a2 a3 a1 D15) (lM_0 hL) rfl (Nat.le_of_ble_eq_true rfl) yc_X11_353 rfl rfl ⟨by decide, by decide⟩ (Nat.le_of_ble_eq_true rfl) rfl dX11_findProof_256 (fun x13 D20 => ?_)
            exact A_to (hj259 x13 D20) (And.intro rfl (And.intro rfl (And.intro rfl (trivial))))
          · refine A_sipush (v := 9999) hC dX11_findProof_246 (by decide) ?_
            refine A_goto (tgt := 259) hC dX11_findProof_249 (by decide) ?_
            exact A_to (hj259 (9999 : Int32) D15) (And.intro rfl (And.intro rfl (And.intro rfl (trivial))))
        refine A_if_le (tgt := 230) hC dX11_findProof_221 (by decide) ?_ ?_
        · refine A_lload hC dX11_findProof_230 rfl ?_
          exact A_to (hj232 x3 D12) (And.intro rfl (And.intro rfl (And.intro rfl (And.intro rfl (And.intro rfl (And.intro rfl (And.intro rfl (trivial))))))))
        · refine A_ldc2 hC dX11_findProof_224 w_1421 ?_
          refine A_goto (tgt := 232) hC dX11_findProof_227 (by decide) ?_
          exact A_to (hj232 (1000000000 : Int64) D12) (And.intro rfl (And.intro rfl (And.intro rfl (And.intro rfl (And.intro rfl (And.intro rfl (And.intro rfl (trivial))))))))
      refine A_if_ne (tgt := 177) hC dX11_findProof_170 (by decide) ?_ ?_
      · refine A_ldc2 hC dX11_findProof_177 w_1445 ?_
        refine A_aload_n hC dX11_findProof_180 rfl ?_
        refine A_getr (kf := 47) hC kX11 (lM_0 hL) rfl (by decide) (by decide) rfl rfl w_1050 dX11_findProof_181 ?_
        refine A_iload_n hC dX11_findProof_184 rfl ?_
        refine A_iload_n hC dX11_findProof_185 rfl ?_
        refine A_isub hC dX11_findProof_186 ?_
        refine A_iald hC (lM_36 hL) dX11_findProof_187 ?_
        refine A_i2l hC dX11_findProof_188 ?_
        refine A_lmul hC dX11_findProof_189 ?_
        refine A_iload_n hC dX11_findProof_190 rfl ?_
        refine A_i2l hC dX11_findProof_191 ?_
        refine A_iload hC dX11_findProof_192 rfl ?_
        refine A_i2l hC dX11_findProof_194 ?_
        refine A_lmul hC dX11_findProof_195 ?_
        refine A_ldiv hC dX11_findProof_196 ?_
        refine A_l2i hC dX11_findProof_197 ?_
        exact A_to (hj198 (((1000 : Int64) * (D8.1 36 (a1 - a2).toNatClampNeg).toInt64) / (a1.toInt64 * x1.toInt64)).toInt32 D8) (And.intro rfl (And.intro rfl (And.intro rfl (And.intro rfl (And.intro rfl (And.intro rfl (And.intro rfl (And.intro rfl (And.intro rfl (trivial))))))))))
      · refine A_iconst (v := 0) hC dX11_findProof_173 (by decide) ?_
        refine A_goto (tgt := 198) hC dX11_findProof_174 (by decide) ?_
        exact A_to (hj198 (0 : Int32) D8) (And.intro rfl (And.intro rfl (And.intro rfl (And.intro rfl (And.intro rfl (And.intro rfl (And.intro rfl (And.intro rfl (And.intro rfl (trivial))))))))))
    refine A_join (fun (J : Int32 → Int32 → ADD → Option (Unit × ADD)) => ∀ (x14 : Int32) (x15 : Int32) (D21 : ADD), AT aVv g b 113 [some (.ref (g.1 + 0)), some (.int a1), some (.int a2), some (.int a3), some (.int x1), some (.long x2), none, some (.long x3), none, some (.int x4), some (.int x5), some (.int x14), some (.int x15)] [] D21 (J x14 x15 D21)) (aFix_all (fun (J : Int32 → Int32 → ADD → Option (Unit × ADD)) => ∀ (x14 : Int32) (x15 : Int32) (D21 : ADD), AT aVv g b 113 [some (.ref (g.1 + 0)), some (.int a1), some (.int a2), some (.int a3), some (.int x1), some (.long x2), none, some (.long x3), none, some (.int x4), some (.int x5), some (.int x14), some (.int x15)] [] D21 (J x14 x15 D21)) (fun _ _ _ => A_none) (fun L113 hL113 x14 x15 D21 => ?_) _) (fun j113 hj113 => ?_)
    · unfold lX11_findProof_113
      refine A_iload hC dX11_findProof_113 rfl ?_
      refine A_bipush (v := 6) hC dX11_findProof_115 (by decide) ?_
      refine A_icmp_ge (tgt := 138) hC dX11_findProof_117 (by decide) ?_ ?_
      · exact A_to (hj138 x14 D21) (And.intro rfl (And.intro rfl (And.intro rfl (And.intro rfl (And.intro rfl (And.intro rfl (And.intro rfl (And.intro rfl (And.intro rfl (trivial))))))))))
      · refine A_iload hC dX11_findProof_120 rfl ?_
        refine A_iload hC dX11_findProof_122 rfl ?_
        refine A_iload hC dX11_findProof_124 rfl ?_
        refine A_ishr hC dX11_findProof_126 ?_
        refine A_iconst (v := 1) hC dX11_findProof_127 (by decide) ?_
        refine A_iand hC dX11_findProof_128 ?_
        refine A_iadd hC dX11_findProof_129 ?_
        refine A_topi (fun x16 => ?_)
        refine A_istore (lv2 := [some (.ref (g.1 + 0)), some (.int a1), some (.int a2), some (.int a3), some (.int x1), some (.long x2), none, some (.long x3), none, some (.int x4), some (.int x5), some (.int x16), some (.int x15)]) hC dX11_findProof_130 (Nat.le_of_ble_eq_true rfl) rfl rfl ?_
        refine A_iincL (z := (1 : Int32)) (lv2 := fun x17 => [some (.ref (g.1 + 0)), some (.int a1), some (.int a2), some (.int a3), some (.int x1), some (.long x2), none, some (.long x3), none, some (.int x4), some (.int x5), some (.int x16), some (.int x17)]) hC dX11_findProof_132 rfl (by decide) (Nat.le_of_ble_eq_true rfl) rfl (fun _ => rfl) (fun x17 => ?_)
        refine A_goto (tgt := 113) hC dX11_findProof_135 (by decide) ?_
        exact A_to (hL113 x16 x17 D21) (And.intro rfl (And.intro rfl (And.intro rfl (And.intro rfl (And.intro rfl (And.intro rfl (And.intro rfl (And.intro rfl (And.intro rfl (And.intro rfl (And.intro rfl (trivial))))))))))))
    exact A_to (hj113 (0 : Int32) (0 : Int32) D3) (And.intro rfl (And.intro rfl (And.intro rfl (And.intro rfl (And.intro rfl (And.intro rfl (And.intro rfl (And.intro rfl (And.intro rfl (And.intro rfl (And.intro rfl (trivial))))))))))))
  refine A_join (fun (J : Int32 → Int32 → Int32 → ADD → Option (Unit × ADD)) => ∀ (x18 : Int32) (x19 : Int32) (x20 : Int32) (D22 : ADD), AT aVv g b 33 [some (.ref (g.1 + 0)), some (.int a1), some (.int a2), some (.int a3), some (.int x1), some (.long x2), none, some (.long x3), none, some (.int x18), some (.int x19), some (.int x20), none] [] D22 (J x18 x19 x20 D22)) (aFix_all (fun (J : Int32 → Int32 → Int32 → ADD → Option (Unit × ADD)) => ∀ (x18 : Int32) (x19 : Int32) (x20 : Int32) (D22 : ADD), AT aVv g b 33 [some (.ref (g.1 + 0)), some (.int a1), some (.int a2), some (.int a3), some (.int x1), some (.long x2), none, some (.long x3), none, some (.int x18), some (.int x19), some (.int x20), none] [] D22 (J x18 x19 x20 D22)) (fun _ _ _ _ => A_none) (fun L33 hL33 x18 x19 x20 D22 => ?_) _) (fun j33 hj33 => ?_)
  · unfold lX11_findProof_33
    refine A_iload hC dX11_findProof_33 rfl ?_
    refine A_aload_n hC dX11_findProof_35 rfl ?_
    refine A_geti (kf := 41) hC kX11 (lM_0 hL) rfl (by decide) (by decide) rfl w_1044 dX11_findProof_36 ?_
    refine A_icmp_ge (tgt := 107) hC dX11_findProof_39 (by decide) ?_ ?_
    · exact A_to (hj107 x18 x19 D22) (And.intro rfl (And.intro rfl (And.intro rfl (And.intro rfl (And.intro rfl (And.intro rfl (And.intro rfl (And.intro rfl (And.intro rfl (trivial))))))))))
    · refine A_aload_n hC dX11_findProof_42 rfl ?_
      refine A_getr (kf := 46) hC kX11 (lM_0 hL) rfl (by decide) (by decide) rfl rfl w_1049 dX11_findProof_43 ?_
      refine A_iload hC dX11_findProof_46 rfl ?_
      refine A_zald hC (lM_35 hL) dX11_findProof_48 ?_
      refine A_join (fun (J : Int32 → Int32 → ADD → Option (Unit × ADD)) => ∀ (x21 : Int32) (x22 : Int32) (D23 : ADD), AT aVv g b 101 [some (.ref (g.1 + 0)), some (.int a1), some (.int a2), some (.int a3), some (.int x1), some (.long x2), none, some (.long x3), none, some (.int x21), some (.int x22), some (.int x20), none] [] D23 (J x21 x22 D23)) (fun x21 x22 D23 => ?_) (fun j101 hj101 => ?_)
      · refine A_iincL (z := (1 : Int32)) (lv2 := fun x23 => [some (.ref (g.1 + 0)), some (.int a1), some (.int a2), some (.int a3), some (.int x1), some (.long x2), none, some (.long x3), none, some (.int x21), some (.int x22), some (.int x23), none]) hC dX11_findProof_101 rfl (by decide) (Nat.le_of_ble_eq_true rfl) rfl (fun _ => rfl) (fun x23 => ?_)
        refine A_goto (tgt := 33) hC dX11_findProof_104 (by decide) ?_
        exact A_to (hL33 x21 x22 x23 D23) (And.intro rfl (And.intro rfl (And.intro rfl (And.intro rfl (And.intro rfl (And.intro rfl (And.intro rfl (And.intro rfl (And.intro rfl (And.intro rfl (trivial)))))))))))
      refine A_if_eq (tgt := 101) hC dX11_findProof_49 (by decide) ?_ ?_
      · exact A_to (hj101 x18 x19 D22) (And.intro rfl (And.intro rfl (And.intro rfl (And.intro rfl (And.intro rfl (And.intro rfl (And.intro rfl (And.intro rfl (And.intro rfl (And.intro rfl (trivial)))))))))))
      · refine A_bipush (v := 8) hC dX11_findProof_52 (by decide) ?_
        refine A_aload_n hC dX11_findProof_54 rfl ?_
        refine A_iload hC dX11_findProof_55 rfl ?_
        refine A_iload_n hC dX11_findProof_57 rfl ?_
        refine A_callVi (As := [.int x20, .int a1]) (st := [.int (8 : Int32)]) hC (fun l => mX11_off l g hL x20 a1 D22) (lM_0 hL) rfl (Nat.le_of_ble_eq_true rfl) yc_X11_323 rfl rfl ⟨by decide, by decide⟩ (Nat.le_of_ble_eq_true rfl) rfl dX11_findProof_58 (fun x24 D24 => ?_)
        refine A_imul hC dX11_findProof_61 ?_
        refine A_iload_n hC dX11_findProof_62 rfl ?_
        refine A_icmp_gt (tgt := 101) hC dX11_findProof_63 (by decide) ?_ ?_
        · exact A_to (hj101 x18 x19 D24) (And.intro rfl (And.intro rfl (And.intro rfl (And.intro rfl (And.intro rfl (And.intro rfl (And.intro rfl (And.intro rfl (And.intro rfl (And.intro rfl (trivial)))))))))))
        · refine A_iload hC dX11_findProof_66 rfl ?_
          refine A_iconst (v := 1) hC dX11_findProof_68 (by decide) ?_
          refine A_aload_n hC dX11_findProof_69 rfl ?_
          refine A_iload hC dX11_findProof_70 rfl ?_
          refine A_iconst (v := 4) hC dX11_findProof_72 (by decide) ?_
          refine A_callVi (As := [.int x20, .int (4 : Int32)]) (st := [.int (1 : Int32), .int x18]) hC (fun l => mX11_f l g hL x20 (4 : Int32) D24) (lM_0 hL) rfl (Nat.le_of_ble_eq_true rfl) yc_X11_291 rfl rfl ⟨by decide, by decide⟩ (Nat.le_of_ble_eq_true rfl) rfl dX11_findProof_73 (fun x25 D25 => ?_)
          refine A_ishl hC dX11_findProof_76 ?_
          refine A_ior hC dX11_findProof_77 ?_
          refine A_topi (fun x26 => ?_)
          refine A_istore (lv2 := [some (.ref (g.1 + 0)), some (.int a1), some (.int a2), some (.int a3), some (.int x1), some (.long x2), none, some (.long x3), none, some (.int x26), some (.int x19), some (.int x20), none]) hC dX11_findProof_78 (Nat.le_of_ble_eq_true rfl) rfl rfl ?_
          refine A_iload hC dX11_findProof_80 rfl ?_
          refine A_aload_n hC dX11_findProof_82 rfl ?_
          refine A_iload hC dX11_findProof_83 rfl ?_
          refine A_bipush (v := 7) hC dX11_findProof_85 (by decide) ?_
          refine A_callVi (As := [.int x20, .int (7 : Int32)]) (st := [.int x19]) hC (fun l => mX11_f l g hL x20 (7 : Int32) D25) (lM_0 hL) rfl (Nat.le_of_ble_eq_true rfl) yc_X11_291 rfl rfl ⟨by decide, by decide⟩ (Nat.le_of_ble_eq_true rfl) rfl dX11_findProof_87 (fun x27 D26 => ?_)
          refine A_join (fun (J : Int32 → ADD → Option (Unit × ADD)) => ∀ (x28 : Int32) (D27 : ADD), AT aVv g b 98 [some (.ref (g.1 + 0)), some (.int a1), some (.int a2), some (.int a3), some (.int x1), some (.long x2), none, some (.long x3), none, some (.int x26), none, some (.int x20), none] [.int x28, .int x19] D27 (J x28 D27)) (fun x28 D27 => ?_) (fun j98 hj98 => ?_)
          · refine A_iadd hC dX11_findProof_98 ?_
            refine A_topi (fun x29 => ?_)
            refine A_istore (lv2 := [some (.ref (g.1 + 0)), some (.int a1), some (.int a2), some (.int a3), some (.int x1), some (.long x2), none, some (.long x3), none, some (.int x26), some (.int x29), some (.int x20), none]) hC dX11_findProof_99 (Nat.le_of_ble_eq_true rfl) rfl rfl ?_
            exact A_to (hj101 x26 x29 D27) (And.intro rfl (And.intro rfl (And.intro rfl (And.intro rfl (And.intro rfl (And.intro rfl (And.intro rfl (And.intro rfl (And.intro rfl (And.intro rfl (trivial)))))))))))
          refine A_if_le (tgt := 97) hC dX11_findProof_90 (by decide) ?_ ?_
          · refine A_iconst (v := 0) hC dX11_findProof_97 (by decide) ?_
            exact A_to (hj98 (0 : Int32) D26) (And.intro rfl (And.intro rfl (And.intro rfl (And.intro rfl (And.intro rfl (And.intro rfl (And.intro rfl (And.intro rfl (And.intro rfl (trivial))))))))))
          · refine A_iconst (v := 1) hC dX11_findProof_93 (by decide) ?_
            refine A_goto (tgt := 98) hC dX11_findProof_94 (by decide) ?_
            exact A_to (hj98 (1 : Int32) D26) (And.intro rfl (And.intro rfl (And.intro rfl (And.intro rfl (And.intro rfl (And.intro rfl (And.intro rfl (And.intro rfl (And.intro rfl (trivial))))))))))
  exact A_to (hj33 (0 : Int32) (0 : Int32) (0 : Int32) D2) (And.intro rfl (And.intro rfl (And.intro rfl (And.intro rfl (And.intro rfl (And.intro rfl (And.intro rfl (And.intro rfl (And.intro rfl (And.intro rfl (trivial)))))))))))
def lX11_peak_48 (a1 : Int32) (a2 : Int32) (a3 : Int32) (j75 : ADD → Option (Int32 × ADD)) (L48 : Int32 → ADD → Option (Int32 × ADD)) (x4 : Int32) (D9 : ADD) : Option (Int32 × ADD) := (if a2 < x4 then j75 D9 else aBind (fX11_placeOf a1 a2 x4 D9) (fun x5 D10 => (if x5 = a3 then some (x4, D10) else aLet (x4 + (1 : Int32)) (fun x6 => L48 x6 D10))))
def fX11_peak (a1 : Int32) (a2 : Int32) (a3 : Int32) (D : ADD) : Option (Int32 × ADD) := aLet (aSI D 0 0 (0 : Int32)) (fun D1 => aBind (fX11_areUnits a1 a2 D1) (fun x1 D2 => (if x1 = 0 then some ((-1 : Int32), D2) else aBind (fX11_look D2) (fun _ D3 => aBind (fX11_those D3) (fun x2 D4 => aLet (fun (D5 : ADD) => some ((-1 : Int32), D5)) (fun (j37 : ADD → Option (Int32 × ADD)) => (if x2 = 0 then j37 D4 else aBind (fX11_is a3 (0 : Int32) (a2 - a1) D4) (fun x3 D6 => (if x3 = 0 then j37 D6 else aBind (fX11_findScores a1 a2 D6) (fun _ D7 => aLet (fun (D8 : ADD) => some ((-1 : Int32), D8)) (fun (j75 : ADD → Option (Int32 × ADD)) => aLet (aFix aFuel (lX11_peak_48 a1 a2 a3 j75) (fun _ _ => none)) (fun j48 => j48 a1 D7))))))))))))
set_option maxHeartbeats 4000000 in
set_option maxRecDepth 100000 in
theorem mX11_peak (l : Launch) (g : AGl) (hL : aLM g) (a1 : Int32) (a2 : Int32) (a3 : Int32) (D : ADD) : AM aVi l yX11_peak cX11_peak 5 (some .int) 5 g [.ref (g.1 + 0), .int a1, .int a2, .int a3] D (fX11_peak a1 a2 a3 D) := by
  refine AM_of (lv0 := [some (.ref (g.1 + 0)), some (.int a1), some (.int a2), some (.int a3), none]) (own := RX11) (by decide +kernel) rfl (Nat.le_of_ble_eq_true rfl) rfl (fun b hC => ?_)
  unfold fX11_peak
  refine A_aload_n hC dX11_peak_0 rfl ?_
  refine A_iconst (v := 0) hC dX11_peak_1 (by decide) ?_
  refine A_puti (kf := 0) hC kX11 (lM_0 hL) rfl (by decide) (by decide) rfl rfl rfl w_1003 dX11_peak_2 (fun D1 => ?_)
  refine A_iload_n hC dX11_peak_5 rfl ?_
  refine A_iload_n hC dX11_peak_6 rfl ?_
  refine A_callSi (As := [.int a1, .int a2]) (st := []) hC (fun l => mX11_areUnits l g a1 a2 D1) yc_X11_340 rfl rfl ⟨by decide, by decide⟩ (Nat.le_of_ble_eq_true rfl) rfl dX11_peak_7 (fun x1 D2 => ?_)
  refine A_if_ne (tgt := 15) hC dX11_peak_10 (by decide) ?_ ?_
  · refine A_aload_n hC dX11_peak_15 rfl ?_
    refine A_callVv (As := []) (st := []) hC (fun l => mX11_look l g hL D2) (lM_0 hL) rfl (Nat.le_of_ble_eq_true rfl) yc_X11_311 rfl rfl ⟨by decide, by decide⟩ (Nat.le_of_ble_eq_true rfl) rfl dX11_peak_16 (fun _ D3 => ?_)
    refine A_aload_n hC dX11_peak_19 rfl ?_
    refine A_callVi (As := []) (st := []) hC (fun l => mX11_those l g hL D3) (lM_0 hL) rfl (Nat.le_of_ble_eq_true rfl) yc_X11_344 rfl rfl ⟨by decide, by decide⟩ (Nat.le_of_ble_eq_true rfl) rfl dX11_peak_20 (fun x2 D4 => ?_)
    refine A_join (fun (J : ADD → Option (Int32 × ADD)) => ∀ (D5 : ADD), AT aVi g b 37 [none, none, none, none, none] [] D5 (J D5)) (fun D5 => ?_) (fun j37 hj37 => ?_)
    · refine A_iconst (v := -1) hC dX11_peak_37 (by decide) ?_
      exact A_iret hC dX11_peak_38
    refine A_if_eq (tgt := 37) hC dX11_peak_23 (by decide) ?_ ?_
    · exact A_to (hj37 D4) (trivial)
    · refine A_iload_n hC dX11_peak_26 rfl ?_
      refine A_iconst (v := 0) hC dX11_peak_27 (by decide) ?_
      refine A_iload_n hC dX11_peak_28 rfl ?_
      refine A_iload_n hC dX11_peak_29 rfl ?_
      refine A_isub hC dX11_peak_30 ?_
      refine A_callSi (As := [.int a3, .int (0 : Int32), .int (a2 - a1)]) (st := []) hC (fun l => mX11_is l g a3 (0 : Int32) (a2 - a1) D4) yc_X11_138 rfl rfl ⟨by decide, by decide⟩ (Nat.le_of_ble_eq_true rfl) rfl dX11_peak_31 (fun x3 D6 => ?_)
      refine A_if_ne (tgt := 39) hC dX11_peak_34 (by decide) ?_ ?_
      · refine A_aload_n hC dX11_peak_39 rfl ?_
        refine A_iload_n hC dX11_peak_40 rfl ?_
        refine A_iload_n hC dX11_peak_41 rfl ?_
        refine A_callVv (As := [.int a1, .int a2]) (st := []) hC (fun l => mX11_findScores l g hL a1 a2 D6) (lM_0 hL) rfl (Nat.le_of_ble_eq_true rfl) yc_X11_333 rfl rfl ⟨by decide, by decide⟩ (Nat.le_of_ble_eq_true rfl) rfl dX11_peak_42 (fun _ D7 => ?_)
        refine A_iload_n hC dX11_peak_45 rfl ?_
        refine A_istore (lv2 := [some (.ref (g.1 + 0)), some (.int a1), some (.int a2), some (.int a3), some (.int a1)]) hC dX11_peak_46 (Nat.le_of_ble_eq_true rfl) rfl rfl ?_
        refine A_join (fun (J : ADD → Option (Int32 × ADD)) => ∀ (D8 : ADD), AT aVi g b 75 [none, none, none, none, none] [] D8 (J D8)) (fun D8 => ?_) (fun j75 hj75 => ?_)
        · refine A_iconst (v := -1) hC dX11_peak_75 (by decide) ?_
          exact A_iret hC dX11_peak_76
        refine A_join (fun (J : Int32 → ADD → Option (Int32 × ADD)) => ∀ (x4 : Int32) (D9 : ADD), AT aVi g b 48 [some (.ref (g.1 + 0)), some (.int a1), some (.int a2), some (.int a3), some (.int x4)] [] D9 (J x4 D9)) (aFix_all (fun (J : Int32 → ADD → Option (Int32 × ADD)) => ∀ (x4 : Int32) (D9 : ADD), AT aVi g b 48 [some (.ref (g.1 + 0)), some (.int a1), some (.int a2), some (.int a3), some (.int x4)] [] D9 (J x4 D9)) (fun _ _ => A_none) (fun L48 hL48 x4 D9 => ?_) _) (fun j48 hj48 => ?_)
        · unfold lX11_peak_48
          refine A_iload hC dX11_peak_48 rfl ?_
          refine A_iload_n hC dX11_peak_50 rfl ?_
          refine A_icmp_gt (tgt := 75) hC dX11_peak_51 (by decide) ?_ ?_
          · exact A_to (hj75 D9) (trivial)
          · refine A_aload_n hC dX11_peak_54 rfl ?_
            refine A_iload_n hC dX11_peak_55 rfl ?_
            refine A_iload_n hC dX11_peak_56 rfl ?_
            refine A_iload hC dX11_peak_57 rfl ?_
            refine A_callVi (As := [.int a1, .int a2, .int x4]) (st := []) hC (fun l => mX11_placeOf l g hL a1 a2 x4 D9) (lM_0 hL) rfl (Nat.le_of_ble_eq_true rfl) yc_X11_353 rfl rfl ⟨by decide, by decide⟩ (Nat.le_of_ble_eq_true rfl) rfl dX11_peak_59 (fun x5 D10 => ?_)
            refine A_iload_n hC dX11_peak_62 rfl ?_
            refine A_icmp_ne (tgt := 69) hC dX11_peak_63 (by decide) ?_ ?_
            · refine A_iincL (z := (1 : Int32)) (lv2 := fun x6 => [some (.ref (g.1 + 0)), some (.int a1), some (.int a2), some (.int a3), some (.int x6)]) hC dX11_peak_69 rfl (by decide) (Nat.le_of_ble_eq_true rfl) rfl (fun _ => rfl) (fun x6 => ?_)
              refine A_goto (tgt := 48) hC dX11_peak_72 (by decide) ?_
              exact A_to (hL48 x6 D10) (And.intro rfl (And.intro rfl (And.intro rfl (And.intro rfl (And.intro rfl (trivial))))))
            · refine A_iload hC dX11_peak_66 rfl ?_
              exact A_iret hC dX11_peak_68
        exact A_to (hj48 a1 D7) (And.intro rfl (And.intro rfl (And.intro rfl (And.intro rfl (And.intro rfl (trivial))))))
      · exact A_to (hj37 D6) (trivial)
  · refine A_iconst (v := -1) hC dX11_peak_13 (by decide) ?_
    exact A_iret hC dX11_peak_14
def fX10_best (a1 : Int32) (a2 : Int32) (D : ADD) : Option (Int32 × ADD) := aBind (fX10_isRange a1 a2 (300 : Int32) D) (fun x1 D1 => aLet (fun (x2 : Int32) (D2 : ADD) => some (x2, D2)) (fun (j23 : Int32 → ADD → Option (Int32 × ADD)) => (if x1 = 0 then j23 (-1 : Int32) D1 else aBind (fX10_bestAmong (0 : Int32) (0 : Int32) a1 a2 D1) (fun x3 D3 => j23 x3 D3))))
set_option maxHeartbeats 4000000 in
set_option maxRecDepth 100000 in
theorem mX10_best (l : Launch) (g : AGl) (hL : aLX g) (a1 : Int32) (a2 : Int32) (D : ADD) : AM aVi l yX10_best cX10_best 3 (some .int) 6 g [.ref (g.1 + 0), .int a1, .int a2] D (fX10_best a1 a2 D) := by
  refine AM_of (lv0 := [some (.ref (g.1 + 0)), some (.int a1), some (.int a2)]) (own := RX10) (by decide +kernel) rfl (Nat.le_of_ble_eq_true rfl) rfl (fun b hC => ?_)
  unfold fX10_best
  refine A_iload_n hC dX10_best_0 rfl ?_
  refine A_iload_n hC dX10_best_1 rfl ?_
  refine A_sipush (v := 300) hC dX10_best_2 (by decide) ?_
  refine A_callSi (As := [.int a1, .int a2, .int (300 : Int32)]) (st := []) hC (fun l => mX10_isRange l g a1 a2 (300 : Int32) D) yc_X10_182 rfl rfl ⟨by decide, by decide⟩ (Nat.le_of_ble_eq_true rfl) rfl dX10_best_5 (fun x1 D1 => ?_)
  refine A_join (fun (J : Int32 → ADD → Option (Int32 × ADD)) => ∀ (x2 : Int32) (D2 : ADD), AT aVi g b 23 [none, none, none] [.int x2] D2 (J x2 D2)) (fun x2 D2 => ?_) (fun j23 hj23 => ?_)
  · exact A_iret hC dX10_best_23
  refine A_if_eq (tgt := 22) hC dX10_best_8 (by decide) ?_ ?_
  · refine A_iconst (v := -1) hC dX10_best_22 (by decide) ?_
    exact A_to (hj23 (-1 : Int32) D1) (trivial)
  · refine A_aload_n hC dX10_best_11 rfl ?_
    refine A_iconst (v := 0) hC dX10_best_12 (by decide) ?_
    refine A_iconst (v := 0) hC dX10_best_13 (by decide) ?_
    refine A_iload_n hC dX10_best_14 rfl ?_
    refine A_iload_n hC dX10_best_15 rfl ?_
    refine A_callVi (As := [.int (0 : Int32), .int (0 : Int32), .int a1, .int a2]) (st := []) hC (fun l => mX10_bestAmong l g hL (0 : Int32) (0 : Int32) a1 a2 D1) (lX_0 hL) rfl (Nat.le_of_ble_eq_true rfl) yc_X10_185 rfl rfl ⟨by decide, by decide⟩ (Nat.le_of_ble_eq_true rfl) rfl dX10_best_16 (fun x3 D3 => ?_)
    refine A_goto (tgt := 23) hC dX10_best_19 (by decide) ?_
    exact A_to (hj23 x3 D3) (trivial)
def fX10_drift (a1 : Int32) (a2 : Int32) (a3 : Int32) (D : ADD) : Option (Int32 × ADD) := aBind (fX10_isRange a2 a3 (300 : Int32) D) (fun x1 D1 => (if x1 = 0 then some ((-100000 : Int32), D1) else aBind (fX10_bestAmong (2 : Int32) a1 a2 a3 D1) (fun x2 D2 => aBind (fX10_bestAmong (3 : Int32) a1 a2 a3 D2) (fun x3 D3 => aLet (fun (x4 : Int32) (D4 : ADD) => some (x4, D4)) (fun (j56 : Int32 → ADD → Option (Int32 × ADD)) => aLet (fun (D5 : ADD) => j56 (-100000 : Int32) D5) (fun (j46 : ADD → Option (Int32 × ADD)) => (if x2 = (-1 : Int32) then j46 D3 else (if x3 = (-1 : Int32) then j46 D3 else j56 (x2 - x3) D3))))))))
set_option maxHeartbeats 4000000 in
set_option maxRecDepth 100000 in
theorem mX10_drift (l : Launch) (g : AGl) (hL : aLX g) (a1 : Int32) (a2 : Int32) (a3 : Int32) (D : ADD) : AM aVi l yX10_drift cX10_drift 6 (some .int) 6 g [.ref (g.1 + 0), .int a1, .int a2, .int a3] D (fX10_drift a1 a2 a3 D) := by
  refine AM_of (lv0 := [some (.ref (g.1 + 0)), some (.int a1), some (.int a2), some (.int a3), none, none]) (own := RX10) (by decide +kernel) rfl (Nat.le_of_ble_eq_true rfl) rfl (fun b hC => ?_)
  unfold fX10_drift
  refine A_iload_n hC dX10_drift_0 rfl ?_
  refine A_iload_n hC dX10_drift_1 rfl ?_
  refine A_sipush (v := 300) hC dX10_drift_2 (by decide) ?_
  refine A_callSi (As := [.int a2, .int a3, .int (300 : Int32)]) (st := []) hC (fun l => mX10_isRange l g a2 a3 (300 : Int32) D) yc_X10_182 rfl rfl ⟨by decide, by decide⟩ (Nat.le_of_ble_eq_true rfl) rfl dX10_drift_5 (fun x1 D1 => ?_)
  refine A_if_ne (tgt := 14) hC dX10_drift_8 (by decide) ?_ ?_
  · refine A_aload_n hC dX10_drift_14 rfl ?_
    refine A_iconst (v := 2) hC dX10_drift_15 (by decide) ?_
    refine A_iload_n hC dX10_drift_16 rfl ?_
    refine A_iload_n hC dX10_drift_17 rfl ?_
    refine A_iload_n hC dX10_drift_18 rfl ?_
    refine A_callVi (As := [.int (2 : Int32), .int a1, .int a2, .int a3]) (st := []) hC (fun l => mX10_bestAmong l g hL (2 : Int32) a1 a2 a3 D1) (lX_0 hL) rfl (Nat.le_of_ble_eq_true rfl) yc_X10_185 rfl rfl ⟨by decide, by decide⟩ (Nat.le_of_ble_eq_true rfl) rfl dX10_drift_19 (fun x2 D2 => ?_)
    refine A_istore (lv2 := [some (.ref (g.1 + 0)), some (.int a1), some (.int a2), some (.int a3), some (.int x2), none]) hC dX10_drift_22 (Nat.le_of_ble_eq_true rfl) rfl rfl ?_
    refine A_aload_n hC dX10_drift_24 rfl ?_
    refine A_iconst (v := 3) hC dX10_drift_25 (by decide) ?_
    refine A_iload_n hC dX10_drift_26 rfl ?_
    refine A_iload_n hC dX10_drift_27 rfl ?_
    refine A_iload_n hC dX10_drift_28 rfl ?_
    refine A_callVi (As := [.int (3 : Int32), .int a1, .int a2, .int a3]) (st := []) hC (fun l => mX10_bestAmong l g hL (3 : Int32) a1 a2 a3 D2) (lX_0 hL) rfl (Nat.le_of_ble_eq_true rfl) yc_X10_185 rfl rfl ⟨by decide, by decide⟩ (Nat.le_of_ble_eq_true rfl) rfl dX10_drift_29 (fun x3 D3 => ?_)
    refine A_istore (lv2 := [some (.ref (g.1 + 0)), some (.int a1), some (.int a2), some (.int a3), some (.int x2), some (.int x3)]) hC dX10_drift_32 (Nat.le_of_ble_eq_true rfl) rfl rfl ?_
    refine A_iload hC dX10_drift_34 rfl ?_
    refine A_iconst (v := -1) hC dX10_drift_36 (by decide) ?_
    refine A_join (fun (J : Int32 → ADD → Option (Int32 × ADD)) => ∀ (x4 : Int32) (D4 : ADD), AT aVi g b 56 [none, none, none, none, none, none] [.int x4] D4 (J x4 D4)) (fun x4 D4 => ?_) (fun j56 hj56 => ?_)
    · exact A_iret hC dX10_drift_56
    refine A_join (fun (J : ADD → Option (Int32 × ADD)) => ∀ (D5 : ADD), AT aVi g b 46 [none, none, none, none, none, none] [] D5 (J D5)) (fun D5 => ?_) (fun j46 hj46 => ?_)
    · refine A_ldc hC dX10_drift_46 w_901 ?_
      refine A_goto (tgt := 56) hC dX10_drift_48 (by decide) ?_
      exact A_to (hj56 (-100000 : Int32) D5) (trivial)
    refine A_icmp_eq (tgt := 46) hC dX10_drift_37 (by decide) ?_ ?_
    · exact A_to (hj46 D3) (trivial)
    · refine A_iload hC dX10_drift_40 rfl ?_
      refine A_iconst (v := -1) hC dX10_drift_42 (by decide) ?_
      refine A_icmp_ne (tgt := 51) hC dX10_drift_43 (by decide) ?_ ?_
      · refine A_iload hC dX10_drift_51 rfl ?_
        refine A_iload hC dX10_drift_53 rfl ?_
        refine A_isub hC dX10_drift_55 ?_
        exact A_to (hj56 (x2 - x3) D3) (trivial)
      · exact A_to (hj46 D3) (trivial)
  · refine A_ldc hC dX10_drift_11 w_901 ?_
    exact A_iret hC dX10_drift_13
def fX10_rate (a1 : Int32) (a2 : Int32) (a3 : Int32) (a4 : Int32) (a5 : Int32) (D : ADD) : Option (Int32 × ADD) := aBind (fX10_isTown a1 D) (fun x1 D1 => aLet (fun (D2 : ADD) => some ((-1 : Int32), D2)) (fun (j44 : ADD → Option (Int32 × ADD)) => (if x1 = 0 then j44 D1 else aBind (fX10_isTown a2 D1) (fun x2 D3 => (if x2 = 0 then j44 D3 else (if a1 = a2 then j44 D3 else (if a5 < 0 then j44 D3 else (if (200 : Int32) < a5 then j44 D3 else aBind (fX10_isRange a3 a4 (300 : Int32) D3) (fun x3 D4 => (if x3 = 0 then j44 D4 else aBind (fX10_bestAmong (1 : Int32) a1 a3 a4 D4) (fun x4 D5 => aBind (fX10_bestAmong (1 : Int32) a2 a3 a4 D5) (fun x5 D6 => aLet (fun (x6 : Int32) (D7 : ADD) => some (x6, D7)) (fun (j93 : Int32 → ADD → Option (Int32 × ADD)) => aLet (fun (D8 : ADD) => j93 (-1 : Int32) D8) (fun (j80 : ADD → Option (Int32 × ADD)) => (if x4 = (-1 : Int32) then j80 D6 else (if x5 = (-1 : Int32) then j80 D6 else aBind (fX10_simplestRate x4 x5 a5 D6) (fun x7 D9 => j93 x7 D9)))))))))))))))))
set_option maxHeartbeats 4000000 in
set_option maxRecDepth 100000 in
theorem mX10_rate (l : Launch) (g : AGl) (hL : aLX g) (a1 : Int32) (a2 : Int32) (a3 : Int32) (a4 : Int32) (a5 : Int32) (D : ADD) : AM aVi l yX10_rate cX10_rate 8 (some .int) 6 g [.ref (g.1 + 0), .int a1, .int a2, .int a3, .int a4, .int a5] D (fX10_rate a1 a2 a3 a4 a5 D) := by
  refine AM_of (lv0 := [some (.ref (g.1 + 0)), some (.int a1), some (.int a2), some (.int a3), some (.int a4), some (.int a5), none, none]) (own := RX10) (by decide +kernel) rfl (Nat.le_of_ble_eq_true rfl) rfl (fun b hC => ?_)
  unfold fX10_rate
  refine A_iload_n hC dX10_rate_0 rfl ?_
  refine A_callSi (As := [.int a1]) (st := []) hC (fun l => mX10_isTown l g a1 D) yc_X10_235 rfl rfl ⟨by decide, by decide⟩ (Nat.le_of_ble_eq_true rfl) rfl dX10_rate_1 (fun x1 D1 => ?_)
  refine A_join (fun (J : ADD → Option (Int32 × ADD)) => ∀ (D2 : ADD), AT aVi g b 44 [none, none, none, none, none, none, none, none] [] D2 (J D2)) (fun D2 => ?_) (fun j44 hj44 => ?_)
  · refine A_iconst (v := -1) hC dX10_rate_44 (by decide) ?_
    exact A_iret hC dX10_rate_45
  refine A_if_eq (tgt := 44) hC dX10_rate_4 (by decide) ?_ ?_
  · exact A_to (hj44 D1) (trivial)
  · refine A_iload_n hC dX10_rate_7 rfl ?_
    refine A_callSi (As := [.int a2]) (st := []) hC (fun l => mX10_isTown l g a2 D1) yc_X10_235 rfl rfl ⟨by decide, by decide⟩ (Nat.le_of_ble_eq_true rfl) rfl dX10_rate_8 (fun x2 D3 => ?_)
    refine A_if_eq (tgt := 44) hC dX10_rate_11 (by decide) ?_ ?_
    · exact A_to (hj44 D3) (trivial)
    · refine A_iload_n hC dX10_rate_14 rfl ?_
      refine A_iload_n hC dX10_rate_15 rfl ?_
      refine A_icmp_eq (tgt := 44) hC dX10_rate_16 (by decide) ?_ ?_
      · exact A_to (hj44 D3) (trivial)
      · refine A_iload hC dX10_rate_19 rfl ?_
        refine A_if_lt (tgt := 44) hC dX10_rate_21 (by decide) ?_ ?_
        · exact A_to (hj44 D3) (trivial)
        · refine A_iload hC dX10_rate_24 rfl ?_
          refine A_sipush (v := 200) hC dX10_rate_26 (by decide) ?_
          refine A_icmp_gt (tgt := 44) hC dX10_rate_29 (by decide) ?_ ?_
          · exact A_to (hj44 D3) (trivial)
          · refine A_iload_n hC dX10_rate_32 rfl ?_
            refine A_iload hC dX10_rate_33 rfl ?_
            refine A_sipush (v := 300) hC dX10_rate_35 (by decide) ?_
            refine A_callSi (As := [.int a3, .int a4, .int (300 : Int32)]) (st := []) hC (fun l => mX10_isRange l g a3 a4 (300 : Int32) D3) yc_X10_182 rfl rfl ⟨by decide, by decide⟩ (Nat.le_of_ble_eq_true rfl) rfl dX10_rate_38 (fun x3 D4 => ?_)
            refine A_if_ne (tgt := 46) hC dX10_rate_41 (by decide) ?_ ?_
            · refine A_aload_n hC dX10_rate_46 rfl ?_
              refine A_iconst (v := 1) hC dX10_rate_47 (by decide) ?_
              refine A_iload_n hC dX10_rate_48 rfl ?_
              refine A_iload_n hC dX10_rate_49 rfl ?_
              refine A_iload hC dX10_rate_50 rfl ?_
              refine A_callVi (As := [.int (1 : Int32), .int a1, .int a3, .int a4]) (st := []) hC (fun l => mX10_bestAmong l g hL (1 : Int32) a1 a3 a4 D4) (lX_0 hL) rfl (Nat.le_of_ble_eq_true rfl) yc_X10_185 rfl rfl ⟨by decide, by decide⟩ (Nat.le_of_ble_eq_true rfl) rfl dX10_rate_52 (fun x4 D5 => ?_)
              refine A_istore (lv2 := [some (.ref (g.1 + 0)), some (.int a1), some (.int a2), some (.int a3), some (.int a4), some (.int a5), some (.int x4), none]) hC dX10_rate_55 (Nat.le_of_ble_eq_true rfl) rfl rfl ?_
              refine A_aload_n hC dX10_rate_57 rfl ?_
              refine A_iconst (v := 1) hC dX10_rate_58 (by decide) ?_
              refine A_iload_n hC dX10_rate_59 rfl ?_
              refine A_iload_n hC dX10_rate_60 rfl ?_
              refine A_iload hC dX10_rate_61 rfl ?_
              refine A_callVi (As := [.int (1 : Int32), .int a2, .int a3, .int a4]) (st := []) hC (fun l => mX10_bestAmong l g hL (1 : Int32) a2 a3 a4 D5) (lX_0 hL) rfl (Nat.le_of_ble_eq_true rfl) yc_X10_185 rfl rfl ⟨by decide, by decide⟩ (Nat.le_of_ble_eq_true rfl) rfl dX10_rate_63 (fun x5 D6 => ?_)
              refine A_istore (lv2 := [some (.ref (g.1 + 0)), some (.int a1), some (.int a2), some (.int a3), some (.int a4), some (.int a5), some (.int x4), some (.int x5)]) hC dX10_rate_66 (Nat.le_of_ble_eq_true rfl) rfl rfl ?_
              refine A_iload hC dX10_rate_68 rfl ?_
              refine A_iconst (v := -1) hC dX10_rate_70 (by decide) ?_
              refine A_join (fun (J : Int32 → ADD → Option (Int32 × ADD)) => ∀ (x6 : Int32) (D7 : ADD), AT aVi g b 93 [none, none, none, none, none, none, none, none] [.int x6] D7 (J x6 D7)) (fun x6 D7 => ?_) (fun j93 hj93 => ?_)
              · exact A_iret hC dX10_rate_93
              refine A_join (fun (J : ADD → Option (Int32 × ADD)) => ∀ (D8 : ADD), AT aVi g b 80 [none, none, none, none, none, none, none, none] [] D8 (J D8)) (fun D8 => ?_) (fun j80 hj80 => ?_)
              · refine A_iconst (v := -1) hC dX10_rate_80 (by decide) ?_
                refine A_goto (tgt := 93) hC dX10_rate_81 (by decide) ?_
                exact A_to (hj93 (-1 : Int32) D8) (trivial)
              refine A_icmp_eq (tgt := 80) hC dX10_rate_71 (by decide) ?_ ?_
              · exact A_to (hj80 D6) (trivial)
              · refine A_iload hC dX10_rate_74 rfl ?_
                refine A_iconst (v := -1) hC dX10_rate_76 (by decide) ?_
                refine A_icmp_ne (tgt := 84) hC dX10_rate_77 (by decide) ?_ ?_
                · refine A_iload hC dX10_rate_84 rfl ?_
                  refine A_iload hC dX10_rate_86 rfl ?_
                  refine A_iload hC dX10_rate_88 rfl ?_
                  refine A_callSi (As := [.int x4, .int x5, .int a5]) (st := []) hC (fun l => mX10_simplestRate l g x4 x5 a5 D6) yc_X10_238 rfl rfl ⟨by decide, by decide⟩ (Nat.le_of_ble_eq_true rfl) rfl dX10_rate_90 (fun x7 D9 => ?_)
                  exact A_to (hj93 x7 D9) (trivial)
                · exact A_to (hj80 D6) (trivial)
            · exact A_to (hj44 D4) (trivial)
