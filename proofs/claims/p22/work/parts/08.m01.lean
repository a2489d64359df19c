def lX11_chancesFrom_5 (j28 : Int64 → ADD → Option (Int64 × ADD)) (L5 : Int64 → Int32 → ADD → Option (Int64 × ADD)) (x2 : Int64) (x3 : Int32) (D2 : ADD) : Option (Int64 × ADD) := (if (32 : Int32) < x3 then j28 x2 D2 else aIn x3 33 (aLet (x2 + (D2.2 37 x3.toNatClampNeg)) (fun x4 => aLet (x3 + (1 : Int32)) (fun x5 => L5 x4 x5 D2))))
def fX11_chancesFrom (a1 : Int32) (D : ADD) : Option (Int64 × ADD) := aLet (fun (x1 : Int64) (D1 : ADD) => some (x1, D1)) (fun (j28 : Int64 → ADD → Option (Int64 × ADD)) => aLet (aFix aFuel (lX11_chancesFrom_5 j28) (fun _ _ _ => none)) (fun j5 => j5 (0 : Int64) a1 D))
set_option maxHeartbeats 4000000 in
set_option maxRecDepth 100000 in
theorem mX11_chancesFrom (l : Launch) (g : AGl) (hL : aLM g) (a1 : Int32) (D : ADD) : AM aVl l yX11_chancesFrom cX11_chancesFrom 5 (some .long) 0 g [.ref (g.1 + 0), .int a1] D (fX11_chancesFrom a1 D) := by
  refine AM_of (lv0 := [some (.ref (g.1 + 0)), some (.int a1), none, none, none]) (own := RX11) (by decide +kernel) rfl (Nat.le_of_ble_eq_true rfl) rfl (fun b hC => ?_)
  unfold fX11_chancesFrom
  refine A_lconst (v := 0) hC dX11_chancesFrom_0 (by decide) ?_
  refine A_lstore_n (lv2 := [some (.ref (g.1 + 0)), some (.int a1), some (.long (0 : Int64)), none, none]) hC dX11_chancesFrom_1 (Nat.le_of_ble_eq_true rfl) rfl rfl ?_
  refine A_iload_n hC dX11_chancesFrom_2 rfl ?_
  refine A_istore (lv2 := [some (.ref (g.1 + 0)), some (.int a1), some (.long (0 : Int64)), none, some (.int a1)]) hC dX11_chancesFrom_3 (Nat.le_of_ble_eq_true rfl) rfl rfl ?_
  refine A_join (fun (J : Int64 → ADD → Option (Int64 × ADD)) => ∀ (x1 : Int64) (D1 : ADD), AT aVl g b 28 [none, none, some (.long x1), none, none] [] D1 (J x1 D1)) (fun x1 D1 => ?_) (fun j28 hj28 => ?_)
  · refine A_lload_n hC dX11_chancesFrom_28 rfl ?_
    exact A_lret hC dX11_chancesFrom_29
  refine A_join (fun (J : Int64 → Int32 → ADD → Option (Int64 × ADD)) => ∀ (x2 : Int64) (x3 : Int32) (D2 : ADD), AT aVl g b 5 [some (.ref (g.1 + 0)), none, some (.long x2), none, some (.int x3)] [] D2 (J x2 x3 D2)) (aFix_all (fun (J : Int64 → Int32 → ADD → Option (Int64 × ADD)) => ∀ (x2 : Int64) (x3 : Int32) (D2 : ADD), AT aVl g b 5 [some (.ref (g.1 + 0)), none, some (.long x2), none, some (.int x3)] [] D2 (J x2 x3 D2)) (fun _ _ _ => A_none) (fun L5 hL5 x2 x3 D2 => ?_) _) (fun j5 hj5 => ?_)
  · unfold lX11_chancesFrom_5
    refine A_iload hC dX11_chancesFrom_5 rfl ?_
    refine A_bipush (v := 32) hC dX11_chancesFrom_7 (by decide) ?_
    refine A_icmp_gt (tgt := 28) hC dX11_chancesFrom_9 (by decide) ?_ ?_
    · exact A_to (hj28 x2 D2) (And.intro rfl (trivial))
    · refine A_lload_n hC dX11_chancesFrom_12 rfl ?_
      refine A_aload_n hC dX11_chancesFrom_13 rfl ?_
      refine A_getr (kf := 48) hC kX11 (lM_0 hL) rfl (by decide) (by decide) rfl rfl w_1051 dX11_chancesFrom_14 ?_
      refine A_iload hC dX11_chancesFrom_17 rfl ?_
      refine A_lald hC (lM_37 hL) dX11_chancesFrom_19 ?_
      refine A_ladd hC dX11_chancesFrom_20 ?_
      refine A_topl (fun x4 => ?_)
      refine A_lstore_n (lv2 := [some (.ref (g.1 + 0)), none, some (.long x4), none, some (.int x3)]) hC dX11_chancesFrom_21 (Nat.le_of_ble_eq_true rfl) rfl rfl ?_
      refine A_iincL (z := (1 : Int32)) (lv2 := fun x5 => [some (.ref (g.1 + 0)), none, some (.long x4), none, some (.int x5)]) hC dX11_chancesFrom_22 rfl (by decide) (Nat.le_of_ble_eq_true rfl) rfl (fun _ => rfl) (fun x5 => ?_)
      refine A_goto (tgt := 5) hC dX11_chancesFrom_25 (by decide) ?_
      exact A_to (hL5 x4 x5 D2) (And.intro rfl (And.intro rfl (And.intro rfl (trivial))))
  exact A_to (hj5 (0 : Int64) a1 D) (And.intro rfl (And.intro rfl (And.intro rfl (trivial))))
def fX11_dayOfView (D : ADD) : Option (Int32 × ADD) := aIn (0 : Int32) 4 (aLet (fun (x1 : Int32) (D1 : ADD) => some (x1, D1)) (fun (j25 : Int32 → ADD → Option (Int32 × ADD)) => (if (D.1 7 (0 : Int32).toNatClampNeg) = (-1 : Int32) then aIn (0 : Int32) 4 (j25 (D.1 6 (0 : Int32).toNatClampNeg) D) else aIn (0 : Int32) 4 (j25 (D.1 7 (0 : Int32).toNatClampNeg) D))))
set_option maxHeartbeats 4000000 in
set_option maxRecDepth 100000 in
theorem mX11_dayOfView (l : Launch) (g : AGl) (hL : aLM g) (D : ADD) : AM aVi l yX11_dayOfView cX11_dayOfView 1 (some .int) 0 g [.ref (g.1 + 0)] D (fX11_dayOfView D) := by
  refine AM_of (lv0 := [some (.ref (g.1 + 0))]) (own := RX11) (by decide +kernel) rfl (Nat.le_of_ble_eq_true rfl) rfl (fun b hC => ?_)
  unfold fX11_dayOfView
  refine A_aload_n hC dX11_dayOfView_0 rfl ?_
  refine A_getr (kf := 7) hC kX11 (lM_0 hL) rfl (by decide) (by decide) rfl rfl w_1010 dX11_dayOfView_1 ?_
  refine A_iconst (v := 0) hC dX11_dayOfView_4 (by decide) ?_
  refine A_iald hC (lM_7 hL) dX11_dayOfView_5 ?_
  refine A_iconst (v := -1) hC dX11_dayOfView_6 (by decide) ?_
  refine A_join (fun (J : Int32 → ADD → Option (Int32 × ADD)) => ∀ (x1 : Int32) (D1 : ADD), AT aVi g b 25 [none] [.int x1] D1 (J x1 D1)) (fun x1 D1 => ?_) (fun j25 hj25 => ?_)
  · exact A_iret hC dX11_dayOfView_25
  refine A_icmp_ne (tgt := 19) hC dX11_dayOfView_7 (by decide) ?_ ?_
  · refine A_aload_n hC dX11_dayOfView_19 rfl ?_
    refine A_getr (kf := 7) hC kX11 (lM_0 hL) rfl (by decide) (by decide) rfl rfl w_1010 dX11_dayOfView_20 ?_
    refine A_iconst (v := 0) hC dX11_dayOfView_23 (by decide) ?_
    refine A_iald hC (lM_7 hL) dX11_dayOfView_24 ?_
    exact A_to (hj25 (D.1 7 (0 : Int32).toNatClampNeg) D) (trivial)
  · refine A_aload_n hC dX11_dayOfView_10 rfl ?_
    refine A_getr (kf := 6) hC kX11 (lM_0 hL) rfl (by decide) (by decide) rfl rfl w_1009 dX11_dayOfView_11 ?_
    refine A_iconst (v := 0) hC dX11_dayOfView_14 (by decide) ?_
    refine A_iald hC (lM_6 hL) dX11_dayOfView_15 ?_
    refine A_goto (tgt := 25) hC dX11_dayOfView_16 (by decide) ?_
    exact A_to (hj25 (D.1 6 (0 : Int32).toNatClampNeg) D) (trivial)
def lX11_draw_3 (a1 : Int32) (a2 : Int32) (j53 : ADD → Option (Unit × ADD)) (L3 : Int32 → ADD → Option (Unit × ADD)) (x1 : Int32) (D2 : ADD) : Option (Unit × ADD) := (if x1 < 0 then j53 D2 else aIn x1 33 (aLet (fun (x2 : Int64) (D3 : ADD) => aNZl a2.toInt64 (aIn x1 33 (aLet (aSL D3 37 x1.toNatClampNeg ((((D2.2 37 x1.toNatClampNeg) * (a2 - a1).toInt64) + x2) / a2.toInt64)) (fun D4 => aLet (x1 + (-1 : Int32)) (fun x3 => L3 x3 D4))))) (fun (j42 : Int64 → ADD → Option (Unit × ADD)) => (if x1 ≤ 0 then j42 (0 : Int64) D2 else aIn (x1 - (1 : Int32)) 33 (j42 ((D2.2 37 (x1 - (1 : Int32)).toNatClampNeg) * a1.toInt64) D2)))))
def fX11_draw (a1 : Int32) (a2 : Int32) (D : ADD) : Option (Unit × ADD) := aLet (fun (D1 : ADD) => some ((), D1)) (fun (j53 : ADD → Option (Unit × ADD)) => aLet (aFix aFuel (lX11_draw_3 a1 a2 j53) (fun _ _ => none)) (fun j3 => j3 (32 : Int32) D))
set_option maxHeartbeats 4000000 in
set_option maxRecDepth 100000 in
theorem mX11_draw (l : Launch) (g : AGl) (hL : aLM g) (a1 : Int32) (a2 : Int32) (D : ADD) : AM aVv l yX11_draw cX11_draw 4 none 0 g [.ref (g.1 + 0), .int a1, .int a2] D (fX11_draw a1 a2 D) := by
  refine AM_of (lv0 := [some (.ref (g.1 + 0)), some (.int a1), some (.int a2), none]) (own := RX11) (by decide +kernel) rfl (Nat.le_of_ble_eq_true rfl) rfl (fun b hC => ?_)
  unfold fX11_draw
  refine A_bipush (v := 32) hC dX11_draw_0 (by decide) ?_
  refine A_istore_n (lv2 := [some (.ref (g.1 + 0)), some (.int a1), some (.int a2), some (.int (32 : Int32))]) hC dX11_draw_2 (Nat.le_of_ble_eq_true rfl) rfl rfl ?_
  refine A_join (fun (J : ADD → Option (Unit × ADD)) => ∀ (D1 : ADD), AT aVv g b 53 [none, none, none, none] [] D1 (J D1)) (fun D1 => ?_) (fun j53 hj53 => ?_)
  · exact A_vret hC dX11_draw_53
  refine A_join (fun (J : Int32 → ADD → Option (Unit × ADD)) => ∀ (x1 : Int32) (D2 : ADD), AT aVv g b 3 [some (.ref (g.1 + 0)), some (.int a1), some (.int a2), some (.int x1)] [] D2 (J x1 D2)) (aFix_all (fun (J : Int32 → ADD → Option (Unit × ADD)) => ∀ (x1 : Int32) (D2 : ADD), AT aVv g b 3 [some (.ref (g.1 + 0)), some (.int a1), some (.int a2), some (.int x1)] [] D2 (J x1 D2)) (fun _ _ => A_none) (fun L3 hL3 x1 D2 => ?_) _) (fun j3 hj3 => ?_)
  · unfold lX11_draw_3
    refine A_iload_n hC dX11_draw_3 rfl ?_
    refine A_if_lt (tgt := 53) hC dX11_draw_4 (by decide) ?_ ?_
    · exact A_to (hj53 D2) (trivial)
    · refine A_aload_n hC dX11_draw_7 rfl ?_
      refine A_getr (kf := 48) hC kX11 (lM_0 hL) rfl (by decide) (by decide) rfl rfl w_1051 dX11_draw_8 ?_
      refine A_iload_n hC dX11_draw_11 rfl ?_
      refine A_aload_n hC dX11_draw_12 rfl ?_
      refine A_getr (kf := 48) hC kX11 (lM_0 hL) rfl (by decide) (by decide) rfl rfl w_1051 dX11_draw_13 ?_
      refine A_iload_n hC dX11_draw_16 rfl ?_
      refine A_lald hC (lM_37 hL) dX11_draw_17 ?_
      refine A_iload_n hC dX11_draw_18 rfl ?_
      refine A_iload_n hC dX11_draw_19 rfl ?_
      refine A_isub hC dX11_draw_20 ?_
      refine A_i2l hC dX11_draw_21 ?_
      refine A_lmul hC dX11_draw_22 ?_
      refine A_iload_n hC dX11_draw_23 rfl ?_
      refine A_join (fun (J : Int64 → ADD → Option (Unit × ADD)) => ∀ (x2 : Int64) (D3 : ADD), AT aVv g b 42 [some (.ref (g.1 + 0)), some (.int a1), some (.int a2), some (.int x1)] [.long x2, .long ((D2.2 37 x1.toNatClampNeg) * (a2 - a1).toInt64), .int x1, .ref (g.1 + 37)] D3 (J x2 D3)) (fun x2 D3 => ?_) (fun j42 hj42 => ?_)
      · refine A_ladd hC dX11_draw_42 ?_
        refine A_iload_n hC dX11_draw_43 rfl ?_
        refine A_i2l hC dX11_draw_44 ?_
        refine A_ldiv hC dX11_draw_45 ?_
        refine A_last hC (lM_37 hL) dX11_draw_46 (fun D4 => ?_)
        refine A_iincL (z := (-1 : Int32)) (lv2 := fun x3 => [some (.ref (g.1 + 0)), some (.int a1), some (.int a2), some (.int x3)]) hC dX11_draw_47 rfl (by decide) (Nat.le_of_ble_eq_true rfl) rfl (fun _ => rfl) (fun x3 => ?_)
        refine A_goto (tgt := 3) hC dX11_draw_50 (by decide) ?_
        exact A_to (hL3 x3 D4) (And.intro rfl (And.intro rfl (And.intro rfl (And.intro rfl (trivial)))))
      refine A_if_le (tgt := 41) hC dX11_draw_24 (by decide) ?_ ?_
      · refine A_lconst (v := 0) hC dX11_draw_41 (by decide) ?_
        exact A_to (hj42 (0 : Int64) D2) (And.intro rfl (And.intro rfl (And.intro rfl (And.intro rfl (trivial)))))
      · refine A_aload_n hC dX11_draw_27 rfl ?_
        refine A_getr (kf := 48) hC kX11 (lM_0 hL) rfl (by decide) (by decide) rfl rfl w_1051 dX11_draw_28 ?_
        refine A_iload_n hC dX11_draw_31 rfl ?_
        refine A_iconst (v := 1) hC dX11_draw_32 (by decide) ?_
        refine A_isub hC dX11_draw_33 ?_
        refine A_lald hC (lM_37 hL) dX11_draw_34 ?_
        refine A_iload_n hC dX11_draw_35 rfl ?_
        refine A_i2l hC dX11_draw_36 ?_
        refine A_lmul hC dX11_draw_37 ?_
        refine A_goto (tgt := 42) hC dX11_draw_38 (by decide) ?_
        exact A_to (hj42 ((D2.2 37 (x1 - (1 : Int32)).toNatClampNeg) * a1.toInt64) D2) (And.intro rfl (And.intro rfl (And.intro rfl (And.intro rfl (trivial)))))
  exact A_to (hj3 (32 : Int32) D) (And.intro rfl (And.intro rfl (And.intro rfl (And.intro rfl (trivial)))))
def fX11_enter (a1 : Int32) (a2 : Int32) (a3 : Int32) (D : ADD) : Option (Unit × ADD) := aIn (0 : Int32) 4 (aLet ((4 : Int32) * (D.1 8 (0 : Int32).toNatClampNeg)) (fun x1 => aIn (0 : Int32) 4 (aIn x1 6400 (aLet (aSI D 9 x1.toNatClampNeg (D.1 6 (0 : Int32).toNatClampNeg)) (fun D1 => aIn (x1 + (1 : Int32)) 6400 (aLet (aSI D1 9 (x1 + (1 : Int32)).toNatClampNeg a1) (fun D2 => aIn (x1 + (2 : Int32)) 6400 (aLet (aSI D2 9 (x1 + (2 : Int32)).toNatClampNeg a2) (fun D3 => aIn (x1 + (3 : Int32)) 6400 (aLet (aSI D3 9 (x1 + (3 : Int32)).toNatClampNeg a3) (fun D4 => aIn (0 : Int32) 4 (aIn (0 : Int32) 4 (aLet (aSI D4 8 (0 : Int32).toNatClampNeg ((D4.1 8 (0 : Int32).toNatClampNeg) + (1 : Int32))) (fun D5 => some ((), D5)))))))))))))))
set_option maxHeartbeats 4000000 in
set_option maxRecDepth 100000 in
theorem mX11_enter (l : Launch) (g : AGl) (hL : aLM g) (a1 : Int32) (a2 : Int32) (a3 : Int32) (D : ADD) : AM aVv l yX11_enter cX11_enter 5 none 0 g [.ref (g.1 + 0), .int a1, .int a2, .int a3] D (fX11_enter a1 a2 a3 D) := by
  refine AM_of (lv0 := [some (.ref (g.1 + 0)), some (.int a1), some (.int a2), some (.int a3), none]) (own := RX11) (by decide +kernel) rfl (Nat.le_of_ble_eq_true rfl) rfl (fun b hC => ?_)
  unfold fX11_enter
  refine A_iconst (v := 4) hC dX11_enter_0 (by decide) ?_
  refine A_aload_n hC dX11_enter_1 rfl ?_
  refine A_getr (kf := 8) hC kX11 (lM_0 hL) rfl (by decide) (by decide) rfl rfl w_1011 dX11_enter_2 ?_
  refine A_iconst (v := 0) hC dX11_enter_5 (by decide) ?_
  refine A_iald hC (lM_8 hL) dX11_enter_6 ?_
  refine A_imul hC dX11_enter_7 ?_
  refine A_topi (fun x1 => ?_)
  refine A_istore (lv2 := [some (.ref (g.1 + 0)), some (.int a1), some (.int a2), some (.int a3), some (.int x1)]) hC dX11_enter_8 (Nat.le_of_ble_eq_true rfl) rfl rfl ?_
  refine A_aload_n hC dX11_enter_10 rfl ?_
  refine A_getr (kf := 9) hC kX11 (lM_0 hL) rfl (by decide) (by decide) rfl rfl w_1012 dX11_enter_11 ?_
  refine A_iload hC dX11_enter_14 rfl ?_
  refine A_aload_n hC dX11_enter_16 rfl ?_
  refine A_getr (kf := 6) hC kX11 (lM_0 hL) rfl (by decide) (by decide) rfl rfl w_1009 dX11_enter_17 ?_
  refine A_iconst (v := 0) hC dX11_enter_20 (by decide) ?_
  refine A_iald hC (lM_6 hL) dX11_enter_21 ?_
  refine A_iast hC (lM_9 hL) dX11_enter_22 (fun D1 => ?_)
  refine A_aload_n hC dX11_enter_23 rfl ?_
  refine A_getr (kf := 9) hC kX11 (lM_0 hL) rfl (by decide) (by decide) rfl rfl w_1012 dX11_enter_24 ?_
  refine A_iload hC dX11_enter_27 rfl ?_
  refine A_iconst (v := 1) hC dX11_enter_29 (by decide) ?_
  refine A_iadd hC dX11_enter_30 ?_
  refine A_iload_n hC dX11_enter_31 rfl ?_
  refine A_iast hC (lM_9 hL) dX11_enter_32 (fun D2 => ?_)
  refine A_aload_n hC dX11_enter_33 rfl ?_
  refine A_getr (kf := 9) hC kX11 (lM_0 hL) rfl (by decide) (by decide) rfl rfl w_1012 dX11_enter_34 ?_
  refine A_iload hC dX11_enter_37 rfl ?_
  refine A_iconst (v := 2) hC dX11_enter_39 (by decide) ?_
  refine A_iadd hC dX11_enter_40 ?_
  refine A_iload_n hC dX11_enter_41 rfl ?_
  refine A_iast hC (lM_9 hL) dX11_enter_42 (fun D3 => ?_)
  refine A_aload_n hC dX11_enter_43 rfl ?_
  refine A_getr (kf := 9) hC kX11 (lM_0 hL) rfl (by decide) (by decide) rfl rfl w_1012 dX11_enter_44 ?_
  refine A_iload hC dX11_enter_47 rfl ?_
  refine A_iconst (v := 3) hC dX11_enter_49 (by decide) ?_
  refine A_iadd hC dX11_enter_50 ?_
  refine A_iload_n hC dX11_enter_51 rfl ?_
  refine A_iast hC (lM_9 hL) dX11_enter_52 (fun D4 => ?_)
  refine A_aload_n hC dX11_enter_53 rfl ?_
  refine A_getr (kf := 8) hC kX11 (lM_0 hL) rfl (by decide) (by decide) rfl rfl w_1011 dX11_enter_54 ?_
  refine A_iconst (v := 0) hC dX11_enter_57 (by decide) ?_
  refine A_dup2 hC dX11_enter_58 rfl rfl ?_
  refine A_iald hC (lM_8 hL) dX11_enter_59 ?_
  refine A_iconst (v := 1) hC dX11_enter_60 (by decide) ?_
  refine A_iadd hC dX11_enter_61 ?_
  refine A_iast hC (lM_8 hL) dX11_enter_62 (fun D5 => ?_)
  exact A_vret hC dX11_enter_63
def fX11_f (a1 : Int32) (a2 : Int32) (D : ADD) : Option (Int32 × ADD) := aIn (((11 : Int32) * a1) + a2) 352 (some ((D.1 32 (((11 : Int32) * a1) + a2).toNatClampNeg), D))
set_option maxHeartbeats 4000000 in
set_option maxRecDepth 100000 in
theorem mX11_f (l : Launch) (g : AGl) (hL : aLM g) (a1 : Int32) (a2 : Int32) (D : ADD) : AM aVi l yX11_f cX11_f 3 (some .int) 0 g [.ref (g.1 + 0), .int a1, .int a2] D (fX11_f a1 a2 D) := by
  refine AM_of (lv0 := [some (.ref (g.1 + 0)), some (.int a1), some (.int a2)]) (own := RX11) (by decide +kernel) rfl (Nat.le_of_ble_eq_true rfl) rfl (fun b hC => ?_)
  unfold fX11_f
  refine A_aload_n hC dX11_f_0 rfl ?_
  refine A_getr (kf := 43) hC kX11 (lM_0 hL) rfl (by decide) (by decide) rfl rfl w_1046 dX11_f_1 ?_
  refine A_bipush (v := 11) hC dX11_f_4 (by decide) ?_
  refine A_iload_n hC dX11_f_6 rfl ?_
  refine A_imul hC dX11_f_7 ?_
  refine A_iload_n hC dX11_f_8 rfl ?_
  refine A_iadd hC dX11_f_9 ?_
  refine A_iald hC (lM_32 hL) dX11_f_10 ?_
  exact A_iret hC dX11_f_11
def lX11_factOn_75 (a1 : Int32) (a2 : Int32) (a3 : Int32) (j175 : Int32 → ADD → Option (Int32 × ADD)) (L75 : Int32 → Int32 → ADD → Option (Int32 × ADD)) (x3 : Int32) (x4 : Int32) (D3 : ADD) : Option (Int32 × ADD) := aIn (0 : Int32) 4 ((if (D3.1 8 (0 : Int32).toNatClampNeg) ≤ x4 then j175 x3 D3 else aLet ((4 : Int32) * x4) (fun x5 => aIn (x5 + (1 : Int32)) 6400 (aLet (fun (x6 : Int32) (D4 : ADD) => aLet (fun (x7 : Int32) (D5 : ADD) => aLet (x4 + (1 : Int32)) (fun x8 => L75 x7 x8 D5)) (fun (j169 : Int32 → ADD → Option (Int32 × ADD)) => (if x6 = 0 then j169 x3 D4 else aIn (x5 + (2 : Int32)) 6400 (aLet (fun (D6 : ADD) => aIn (x5 + (3 : Int32)) 6400 (aLet (D6.1 9 (x5 + (3 : Int32)).toNatClampNeg) (fun x9 => j169 x9 D6))) (fun (j158 : ADD → Option (Int32 × ADD)) => (if (D4.1 9 (x5 + (2 : Int32)).toNatClampNeg) = a2 then j158 D4 else aIn (x5 + (2 : Int32)) 6400 ((if (D4.1 9 (x5 + (2 : Int32)).toNatClampNeg) = (-1 : Int32) then (if a2 = 0 then j158 D4 else j169 x3 D4) else j169 x3 D4)))))))) (fun (j121 : Int32 → ADD → Option (Int32 × ADD)) => aLet (fun (D7 : ADD) => j121 (0 : Int32) D7) (fun (j120 : ADD → Option (Int32 × ADD)) => (if (D3.1 9 (x5 + (1 : Int32)).toNatClampNeg) = a1 then aIn x5 6400 ((if a3 < (D3.1 9 x5.toNatClampNeg) then j120 D3 else j121 (1 : Int32) D3)) else j120 D3)))))))
def fX11_factOn (a1 : Int32) (a2 : Int32) (a3 : Int32) (D : ADD) : Option (Int32 × ADD) := aLet (fun (x1 : Int32) (D1 : ADD) => aLet (fun (x2 : Int32) (D2 : ADD) => some (x2, D2)) (fun (j175 : Int32 → ADD → Option (Int32 × ADD)) => aLet (aFix aFuel (lX11_factOn_75 a1 a2 a3 j175) (fun _ _ _ => none)) (fun j75 => j75 x1 (0 : Int32) D1))) (fun (j70 : Int32 → ADD → Option (Int32 × ADD)) => (if a2 = (1 : Int32) then aIn (((3 : Int32) * a1) + (1 : Int32)) 384 (j70 (D.1 10 (((3 : Int32) * a1) + (1 : Int32)).toNatClampNeg) D) else (if a2 = (4 : Int32) then aIn (((3 : Int32) * a1) + (2 : Int32)) 384 (j70 (D.1 10 (((3 : Int32) * a1) + (2 : Int32)).toNatClampNeg) D) else (if a2 = (5 : Int32) then j70 (-3000 : Int32) D else (if a2 = (6 : Int32) then j70 (1900 : Int32) D else (if a2 = (9 : Int32) then j70 (1 : Int32) D else j70 (0 : Int32) D))))))
set_option maxHeartbeats 4000000 in
set_option maxRecDepth 100000 in
theorem mX11_factOn (l : Launch) (g : AGl) (hL : aLM g) (a1 : Int32) (a2 : Int32) (a3 : Int32) (D : ADD) : AM aVi l yX11_factOn cX11_factOn 8 (some .int) 0 g [.ref (g.1 + 0), .int a1, .int a2, .int a3] D (fX11_factOn a1 a2 a3 D) := by
  refine AM_of (lv0 := [some (.ref (g.1 + 0)), some (.int a1), some (.int a2), some (.int a3), none, none, none, none]) (own := RX11) (by decide +kernel) rfl (Nat.le_of_ble_eq_true rfl) rfl (fun b hC => ?_)
  unfold fX11_factOn
  refine A_iload_n hC dX11_factOn_0 rfl ?_
  refine A_iconst (v := 1) hC dX11_factOn_1 (by decide) ?_
  refine A_join (fun (J : Int32 → ADD → Option (Int32 × ADD)) => ∀ (x1 : Int32) (D1 : ADD), AT aVi g b 70 [some (.ref (g.1 + 0)), some (.int a1), some (.int a2), some (.int a3), none, none, none, none] [.int x1] D1 (J x1 D1)) (fun x1 D1 => ?_) (fun j70 hj70 => ?_)
  · refine A_istore (lv2 := [some (.ref (g.1 + 0)), some (.int a1), some (.int a2), some (.int a3), some (.int x1), none, none, none]) hC dX11_factOn_70 (Nat.le_of_ble_eq_true rfl) rfl rfl ?_
    refine A_iconst (v := 0) hC dX11_factOn_72 (by decide) ?_
    refine A_istore (lv2 := [some (.ref (g.1 + 0)), some (.int a1), some (.int a2), some (.int a3), some (.int x1), some (.int (0 : Int32)), none, none]) hC dX11_factOn_73 (Nat.le_of_ble_eq_true rfl) rfl rfl ?_
    refine A_join (fun (J : Int32 → ADD → Option (Int32 × ADD)) => ∀ (x2 : Int32) (D2 : ADD), AT aVi g b 175 [none, none, none, none, some (.int x2), none, none, none] [] D2 (J x2 D2)) (fun x2 D2 => ?_) (fun j175 hj175 => ?_)
    · refine A_iload hC dX11_factOn_175 rfl ?_
      exact A_iret hC dX11_factOn_177
    refine A_join (fun (J : Int32 → Int32 → ADD → Option (Int32 × ADD)) => ∀ (x3 : Int32) (x4 : Int32) (D3 : ADD), AT aVi g b 75 [some (.ref (g.1 + 0)), some (.int a1), some (.int a2), some (.int a3), some (.int x3), some (.int x4), none, none] [] D3 (J x3 x4 D3)) (aFix_all (fun (J : Int32 → Int32 → ADD → Option (Int32 × ADD)) => ∀ (x3 : Int32) (x4 : Int32) (D3 : ADD), AT aVi g b 75 [some (.ref (g.1 + 0)), some (.int a1), some (.int a2), some (.int a3), some (.int x3), some (.int x4), none, none] [] D3 (J x3 x4 D3)) (fun _ _ _ => A_none) (fun L75 hL75 x3 x4 D3 => ?_) _) (fun j75 hj75 => ?_)
    · unfold lX11_factOn_75
      refine A_iload hC dX11_factOn_75 rfl ?_
      refine A_aload_n hC dX11_factOn_77 rfl ?_
      refine A_getr (kf := 8) hC kX11 (lM_0 hL) rfl (by decide) (by decide) rfl rfl w_1011 dX11_factOn_78 ?_
      refine A_iconst (v := 0) hC dX11_factOn_81 (by decide) ?_
      refine A_iald hC (lM_8 hL) dX11_factOn_82 ?_
      refine A_icmp_ge (tgt := 175) hC dX11_factOn_83 (by decide) ?_ ?_
      · exact A_to (hj175 x3 D3) (And.intro rfl (trivial))
      · refine A_iconst (v := 4) hC dX11_factOn_86 (by decide) ?_
        refine A_iload hC dX11_factOn_87 rfl ?_
        refine A_imul hC dX11_factOn_89 ?_
        refine A_topi (fun x5 => ?_)
        refine A_istore (lv2 := [some (.ref (g.1 + 0)), some (.int a1), some (.int a2), some (.int a3), some (.int x3), some (.int x4), some (.int x5), none]) hC dX11_factOn_90 (Nat.le_of_ble_eq_true rfl) rfl rfl ?_
        refine A_aload_n hC dX11_factOn_92 rfl ?_
        refine A_getr (kf := 9) hC kX11 (lM_0 hL) rfl (by decide) (by decide) rfl rfl w_1012 dX11_factOn_93 ?_
        refine A_iload hC dX11_factOn_96 rfl ?_
        refine A_iconst (v := 1) hC dX11_factOn_98 (by decide) ?_
        refine A_iadd hC dX11_factOn_99 ?_
        refine A_iald hC (lM_9 hL) dX11_factOn_100 ?_
        refine A_iload_n hC dX11_factOn_101 rfl ?_
        refine A_join (fun (J : Int32 → ADD → Option (Int32 × ADD)) => ∀ (x6 : Int32) (D4 : ADD), AT aVi g b 121 [some (.ref (g.1 + 0)), some (.int a1), some (.int a2), some (.int a3), some (.int x3), some (.int x4), some (.int x5), none] [.int x6] D4 (J x6 D4)) (fun x6 D4 => ?_) (fun j121 hj121 => ?_)
        · refine A_istore (lv2 := [some (.ref (g.1 + 0)), some (.int a1), some (.int a2), some (.int a3), some (.int x3), some (.int x4), some (.int x5), some (.int x6)]) hC dX11_factOn_121 (Nat.le_of_ble_eq_true rfl) rfl rfl ?_
          refine A_iload hC dX11_factOn_123 rfl ?_
          refine A_join (fun (J : Int32 → ADD → Option (Int32 × ADD)) => ∀ (x7 : Int32) (D5 : ADD), AT aVi g b 169 [some (.ref (g.1 + 0)), some (.int a1), some (.int a2), some (.int a3), some (.int x7), some (.int x4), none, none] [] D5 (J x7 D5)) (fun x7 D5 => ?_) (fun j169 hj169 => ?_)
          · refine A_iincL (z := (1 : Int32)) (lv2 := fun x8 => [some (.ref (g.1 + 0)), some (.int a1), some (.int a2), some (.int a3), some (.int x7), some (.int x8), none, none]) hC dX11_factOn_169 rfl (by decide) (Nat.le_of_ble_eq_true rfl) rfl (fun _ => rfl) (fun x8 => ?_)
            refine A_goto (tgt := 75) hC dX11_factOn_172 (by decide) ?_
            exact A_to (hL75 x7 x8 D5) (And.intro rfl (And.intro rfl (And.intro rfl (And.intro rfl (And.intro rfl (And.intro rfl (trivial)))))))
          refine A_if_eq (tgt := 169) hC dX11_factOn_125 (by decide) ?_ ?_
          · exact A_to (hj169 x3 D4) (And.intro rfl (And.intro rfl (And.intro rfl (And.intro rfl (And.intro rfl (And.intro rfl (trivial)))))))
          · refine A_aload_n hC dX11_factOn_128 rfl ?_
            refine A_getr (kf := 9) hC kX11 (lM_0 hL) rfl (by decide) (by decide) rfl rfl w_1012 dX11_factOn_129 ?_
            refine A_iload hC dX11_factOn_132 rfl ?_
            refine A_iconst (v := 2) hC dX11_factOn_134 (by decide) ?_
            refine A_iadd hC dX11_factOn_135 ?_
            refine A_iald hC (lM_9 hL) dX11_factOn_136 ?_
            refine A_iload_n hC dX11_factOn_137 rfl ?_
            refine A_join (fun (J : ADD → Option (Int32 × ADD)) => ∀ (D6 : ADD), AT aVi g b 158 [some (.ref (g.1 + 0)), some (.int a1), some (.int a2), some (.int a3), none, some (.int x4), some (.int x5), none] [] D6 (J D6)) (fun D6 => ?_) (fun j158 hj158 => ?_)
            · refine A_aload_n hC dX11_factOn_158 rfl ?_
              refine A_getr (kf := 9) hC kX11 (lM_0 hL) rfl (by decide) (by decide) rfl rfl w_1012 dX11_factOn_159 ?_
              refine A_iload hC dX11_factOn_162 rfl ?_
              refine A_iconst (v := 3) hC dX11_factOn_164 (by decide) ?_
              refine A_iadd hC dX11_factOn_165 ?_
              refine A_iald hC (lM_9 hL) dX11_factOn_166 ?_
              refine A_topi (fun x9 => ?_)
              refine A_istore (lv2 := [some (.ref (g.1 + 0)), some (.int a1), some (.int a2), some (.int a3), some (.int x9), some (.int x4), some (.int x5), none]) hC dX11_factOn_167 (Nat.le_of_ble_eq_true rfl) rfl rfl ?_
              exact A_to (hj169 x9 D6) (And.intro rfl (And.intro rfl (And.intro rfl (And.intro rfl (And.intro rfl (And.intro rfl (trivial)))))))
            refine A_icmp_eq (tgt := 158) hC dX11_factOn_138 (by decide) ?_ ?_
            · exact A_to (hj158 D4) (And.intro rfl (And.intro rfl (And.intro rfl (And.intro rfl (And.intro rfl (And.intro rfl (trivial)))))))
            · refine A_aload_n hC dX11_factOn_141 rfl ?_
              refine A_getr (kf := 9) hC kX11 (lM_0 hL) rfl (by decide) (by decide) rfl rfl w_1012 dX11_factOn_142 ?_
              refine A_iload hC dX11_factOn_145 rfl ?_
              refine A_iconst (v := 2) hC dX11_factOn_147 (by decide) ?_
              refine A_iadd hC dX11_factOn_148 ?_
              refine A_iald hC (lM_9 hL) dX11_factOn_149 ?_
              refine A_iconst (v := -1) hC dX11_factOn_150 (by decide) ?_
              refine A_icmp_ne (tgt := 169) hC dX11_factOn_151 (by decide) ?_ ?_
              · exact A_to (hj169 x3 D4) (And.intro rfl (And.intro rfl (And.intro rfl (And.intro rfl (And.intro rfl (And.intro rfl (trivial)))))))
              · refine A_iload_n hC dX11_factOn_154 rfl ?_
                refine A_if_ne (tgt := 169) hC dX11_factOn_155 (by decide) ?_ ?_
                · exact A_to (hj169 x3 D4) (And.intro rfl (And.intro rfl (And.intro rfl (And.intro rfl (And.intro rfl (And.intro rfl (trivial)))))))
                · exact A_to (hj158 D4) (And.intro rfl (And.intro rfl (And.intro rfl (And.intro rfl (And.intro rfl (And.intro rfl (trivial)))))))
        refine A_join (fun (J : ADD → Option (Int32 × ADD)) => ∀ (D7 : ADD), AT aVi g b 120 [some (.ref (g.1 + 0)), some (.int a1), some (.int a2), some (.int a3), some (.int x3), some (.int x4), some (.int x5), none] [] D7 (J D7)) (fun D7 => ?_) (fun j120 hj120 => ?_)
        · refine A_iconst (v := 0) hC dX11_factOn_120 (by decide) ?_
          exact A_to (hj121 (0 : Int32) D7) (And.intro rfl (And.intro rfl (And.intro rfl (And.intro rfl (And.intro rfl (And.intro rfl (And.intro rfl (trivial))))))))
        refine A_icmp_ne (tgt := 120) hC dX11_factOn_102 (by decide) ?_ ?_
        · exact A_to (hj120 D3) (And.intro rfl (And.intro rfl (And.intro rfl (And.intro rfl (And.intro rfl (And.intro rfl (And.intro rfl (trivial))))))))
        · refine A_aload_n hC dX11_factOn_105 rfl ?_
          refine A_getr (kf := 9) hC kX11 (lM_0 hL) rfl (by decide) (by decide) rfl rfl w_1012 dX11_factOn_106 ?_
          refine A_iload hC dX11_factOn_109 rfl ?_
          refine A_iald hC (lM_9 hL) dX11_factOn_111 ?_
          refine A_iload_n hC dX11_factOn_112 rfl ?_
          refine A_icmp_gt (tgt := 120) hC dX11_factOn_113 (by decide) ?_ ?_
          · exact A_to (hj120 D3) (And.intro rfl (And.intro rfl (And.intro rfl (And.intro rfl (And.intro rfl (And.intro rfl (And.intro rfl (trivial))))))))
          · refine A_iconst (v := 1) hC dX11_factOn_116 (by decide) ?_
            refine A_goto (tgt := 121) hC dX11_factOn_117 (by decide) ?_
            exact A_to (hj121 (1 : Int32) D3) (And.intro rfl (And.intro rfl (And.intro rfl (And.intro rfl (And.intro rfl (And.intro rfl (And.intro rfl (trivial))))))))
    exact A_to (hj75 x1 (0 : Int32) D1) (And.intro rfl (And.intro rfl (And.intro rfl (And.intro rfl (And.intro rfl (And.intro rfl (trivial)))))))
  refine A_icmp_ne (tgt := 18) hC dX11_factOn_2 (by decide) ?_ ?_
  · refine A_iload_n hC dX11_factOn_18 rfl ?_
    refine A_iconst (v := 4) hC dX11_factOn_19 (by decide) ?_
    refine A_icmp_ne (tgt := 36) hC dX11_factOn_20 (by decide) ?_ ?_
    · refine A_iload_n hC dX11_factOn_36 rfl ?_
      refine A_iconst (v := 5) hC dX11_factOn_37 (by decide) ?_
      refine A_icmp_ne (tgt := 47) hC dX11_factOn_38 (by decide) ?_ ?_
      · refine A_iload_n hC dX11_factOn_47 rfl ?_
        refine A_bipush (v := 6) hC dX11_factOn_48 (by decide) ?_
        refine A_icmp_ne (tgt := 59) hC dX11_factOn_50 (by decide) ?_ ?_
        · refine A_iload_n hC dX11_factOn_59 rfl ?_
          refine A_bipush (v := 9) hC dX11_factOn_60 (by decide) ?_
          refine A_icmp_ne (tgt := 69) hC dX11_factOn_62 (by decide) ?_ ?_
          · refine A_iconst (v := 0) hC dX11_factOn_69 (by decide) ?_
            exact A_to (hj70 (0 : Int32) D) (And.intro rfl (And.intro rfl (And.intro rfl (And.intro rfl (trivial)))))
          · refine A_iconst (v := 1) hC dX11_factOn_65 (by decide) ?_
            refine A_goto (tgt := 70) hC dX11_factOn_66 (by decide) ?_
            exact A_to (hj70 (1 : Int32) D) (And.intro rfl (And.intro rfl (And.intro rfl (And.intro rfl (trivial)))))
        · refine A_sipush (v := 1900) hC dX11_factOn_53 (by decide) ?_
          refine A_goto (tgt := 70) hC dX11_factOn_56 (by decide) ?_
          exact A_to (hj70 (1900 : Int32) D) (And.intro rfl (And.intro rfl (And.intro rfl (And.intro rfl (trivial)))))
      · refine A_sipush (v := -3000) hC dX11_factOn_41 (by decide) ?_
        refine A_goto (tgt := 70) hC dX11_factOn_44 (by decide) ?_
        exact A_to (hj70 (-3000 : Int32) D) (And.intro rfl (And.intro rfl (And.intro rfl (And.intro rfl (trivial)))))
    · refine A_aload_n hC dX11_factOn_23 rfl ?_
      refine A_getr (kf := 10) hC kX11 (lM_0 hL) rfl (by decide) (by decide) rfl rfl w_1013 dX11_factOn_24 ?_
      refine A_iconst (v := 3) hC dX11_factOn_27 (by decide) ?_
      refine A_iload_n hC dX11_factOn_28 rfl ?_
      refine A_imul hC dX11_factOn_29 ?_
      refine A_iconst (v := 2) hC dX11_factOn_30 (by decide) ?_
      refine A_iadd hC dX11_factOn_31 ?_
      refine A_iald hC (lM_10 hL) dX11_factOn_32 ?_
      refine A_goto (tgt := 70) hC dX11_factOn_33 (by decide) ?_
      exact A_to (hj70 (D.1 10 (((3 : Int32) * a1) + (2 : Int32)).toNatClampNeg) D) (And.intro rfl (And.intro rfl (And.intro rfl (And.intro rfl (trivial)))))
  · refine A_aload_n hC dX11_factOn_5 rfl ?_
    refine A_getr (kf := 10) hC kX11 (lM_0 hL) rfl (by decide) (by decide) rfl rfl w_1013 dX11_factOn_6 ?_
    refine A_iconst (v := 3) hC dX11_factOn_9 (by decide) ?_
    refine A_iload_n hC dX11_factOn_10 rfl ?_
    refine A_imul hC dX11_factOn_11 ?_
    refine A_iconst (v := 1) hC dX11_factOn_12 (by decide) ?_
    refine A_iadd hC dX11_factOn_13 ?_
    refine A_iald hC (lM_10 hL) dX11_factOn_14 ?_
    refine A_goto (tgt := 70) hC dX11_factOn_15 (by decide) ?_
    exact A_to (hj70 (D.1 10 (((3 : Int32) * a1) + (1 : Int32)).toNatClampNeg) D) (And.intro rfl (And.intro rfl (And.intro rfl (And.intro rfl (trivial)))))
def fX11_far (a1 : Int32) (a2 : Int32) (a3 : Int32) (D : ADD) : Option (Int32 × ADD) := aLet (fun (x1 : Int32) (D1 : ADD) => some (x1, D1)) (fun (j23 : Int32 → ADD → Option (Int32 × ADD)) => (if a1 ≤ a3 then (if a3 ≤ a2 then j23 (0 : Int32) D else j23 (a3 - a2) D) else j23 (a1 - a3) D))
set_option maxHeartbeats 4000000 in
set_option maxRecDepth 100000 in
theorem mX11_far (l : Launch) (g : AGl) (a1 : Int32) (a2 : Int32) (a3 : Int32) (D : ADD) : AM aVi l yX11_far cX11_far 3 (some .int) 0 g [.int a1, .int a2, .int a3] D (fX11_far a1 a2 a3 D) := by
  refine AM_of (lv0 := [some (.int a1), some (.int a2), some (.int a3)]) (own := RX11) (by decide +kernel) rfl (Nat.le_of_ble_eq_true rfl) rfl (fun b hC => ?_)
  unfold fX11_far
  refine A_iload_n hC dX11_far_0 rfl ?_
  refine A_iload_n hC dX11_far_1 rfl ?_
  refine A_join (fun (J : Int32 → ADD → Option (Int32 × ADD)) => ∀ (x1 : Int32) (D1 : ADD), AT aVi g b 23 [none, none, none] [.int x1] D1 (J x1 D1)) (fun x1 D1 => ?_) (fun j23 hj23 => ?_)
  · exact A_iret hC dX11_far_23
  refine A_icmp_ge (tgt := 11) hC dX11_far_2 (by decide) ?_ ?_
  · refine A_iload_n hC dX11_far_11 rfl ?_
    refine A_iload_n hC dX11_far_12 rfl ?_
    refine A_icmp_le (tgt := 22) hC dX11_far_13 (by decide) ?_ ?_
    · refine A_iconst (v := 0) hC dX11_far_22 (by decide) ?_
      exact A_to (hj23 (0 : Int32) D) (trivial)
    · refine A_iload_n hC dX11_far_16 rfl ?_
      refine A_iload_n hC dX11_far_17 rfl ?_
      refine A_isub hC dX11_far_18 ?_
      refine A_goto (tgt := 23) hC dX11_far_19 (by decide) ?_
      exact A_to (hj23 (a3 - a2) D) (trivial)
  · refine A_iload_n hC dX11_far_5 rfl ?_
    refine A_iload_n hC dX11_far_6 rfl ?_
    refine A_isub hC dX11_far_7 ?_
    refine A_goto (tgt := 23) hC dX11_far_8 (by decide) ?_
    exact A_to (hj23 (a1 - a3) D) (trivial)
def fX11_fault (a1 : Int32) (D : ADD) : Option (Int32 × ADD) := aLet (aSI D 0 0 (0 : Int32)) (fun D1 => aLet (fun (x1 : Int32) (D2 : ADD) => some (x1, D2)) (fun (j33 : Int32 → ADD → Option (Int32 × ADD)) => (if a1 = 0 then aIn (0 : Int32) 4 (j33 (D1.1 3 (0 : Int32).toNatClampNeg) D1) else (if a1 = (1 : Int32) then aIn (0 : Int32) 4 (j33 (D1.1 4 (0 : Int32).toNatClampNeg) D1) else j33 (-1 : Int32) D1))))
set_option maxHeartbeats 4000000 in
set_option maxRecDepth 100000 in
theorem mX11_fault (l : Launch) (g : AGl) (hL : aLM g) (a1 : Int32) (D : ADD) : AM aVi l yX11_fault cX11_fault 2 (some .int) 0 g [.ref (g.1 + 0), .int a1] D (fX11_fault a1 D) := by
  refine AM_of (lv0 := [some (.ref (g.1 + 0)), some (.int a1)]) (own := RX11) (by decide +kernel) rfl (Nat.le_of_ble_eq_true rfl) rfl (fun b hC => ?_)
  unfold fX11_fault
  refine A_aload_n hC dX11_fault_0 rfl ?_
  refine A_iconst (v := 0) hC dX11_fault_1 (by decide) ?_
  refine A_puti (kf := 0) hC kX11 (lM_0 hL) rfl (by decide) (by decide) rfl rfl rfl w_1003 dX11_fault_2 (fun D1 => ?_)
  refine A_iload_n hC dX11_fault_5 rfl ?_
  refine A_join (fun (J : Int32 → ADD → Option (Int32 × ADD)) => ∀ (x1 : Int32) (D2 : ADD), AT aVi g b 33 [none, none] [.int x1] D2 (J x1 D2)) (fun x1 D2 => ?_) (fun j33 hj33 => ?_)
  · exact A_iret hC dX11_fault_33
  refine A_if_ne (tgt := 18) hC dX11_fault_6 (by decide) ?_ ?_
  · refine A_iload_n hC dX11_fault_18 rfl ?_
    refine A_iconst (v := 1) hC dX11_fault_19 (by decide) ?_
    refine A_icmp_ne (tgt := 32) hC dX11_fault_20 (by decide) ?_ ?_
    · refine A_iconst (v := -1) hC dX11_fault_32 (by decide) ?_
      exact A_to (hj33 (-1 : Int32) D1) (trivial)
    · refine A_aload_n hC dX11_fault_23 rfl ?_
      refine A_getr (kf := 4) hC kX11 (lM_0 hL) rfl (by decide) (by decide) rfl rfl w_1007 dX11_fault_24 ?_
      refine A_iconst (v := 0) hC dX11_fault_27 (by decide) ?_
      refine A_iald hC (lM_4 hL) dX11_fault_28 ?_
      refine A_goto (tgt := 33) hC dX11_fault_29 (by decide) ?_
      exact A_to (hj33 (D1.1 4 (0 : Int32).toNatClampNeg) D1) (trivial)
  · refine A_aload_n hC dX11_fault_9 rfl ?_
    refine A_getr (kf := 3) hC kX11 (lM_0 hL) rfl (by decide) (by decide) rfl rfl w_1006 dX11_fault_10 ?_
    refine A_iconst (v := 0) hC dX11_fault_13 (by decide) ?_
    refine A_iald hC (lM_3 hL) dX11_fault_14 ?_
    refine A_goto (tgt := 33) hC dX11_fault_15 (by decide) ?_
    exact A_to (hj33 (D1.1 3 (0 : Int32).toNatClampNeg) D1) (trivial)
def lX11_four_3 (a1 : Int32) (j38 : ADD → Option (Unit × ADD)) (L3 : Int32 → ADD → Option (Unit × ADD)) (x1 : Int32) (D2 : ADD) : Option (Unit × ADD) := (if x1 < 0 then j38 D2 else aIn (0 : Int32) 4 (aIn (D2.1 2 (0 : Int32).toNatClampNeg) 2000 (aLet (aSI D2 1 (D2.1 2 (0 : Int32).toNatClampNeg).toNatClampNeg (a1 >>> (x1 &&& 31)).toInt8.toInt32) (fun D3 => aIn (0 : Int32) 4 (aIn (0 : Int32) 4 (aLet (aSI D3 2 (0 : Int32).toNatClampNeg ((D3.1 2 (0 : Int32).toNatClampNeg) + (1 : Int32))) (fun D4 => aLet (x1 + (-8 : Int32)) (fun x2 => L3 x2 D4))))))))
def fX11_four (a1 : Int32) (D : ADD) : Option (Unit × ADD) := aLet (fun (D1 : ADD) => some ((), D1)) (fun (j38 : ADD → Option (Unit × ADD)) => aLet (aFix aFuel (lX11_four_3 a1 j38) (fun _ _ => none)) (fun j3 => j3 (24 : Int32) D))
set_option maxHeartbeats 4000000 in
set_option maxRecDepth 100000 in
theorem mX11_four (l : Launch) (g : AGl) (hL : aLM g) (a1 : Int32) (D : ADD) : AM aVv l yX11_four cX11_four 3 none 0 g [.ref (g.1 + 0), .int a1] D (fX11_four a1 D) := by
  refine AM_of (lv0 := [some (.ref (g.1 + 0)), some (.int a1), none]) (own := RX11) (by decide +kernel) rfl (Nat.le_of_ble_eq_true rfl) rfl (fun b hC => ?_)
  unfold fX11_four
  refine A_bipush (v := 24) hC dX11_four_0 (by decide) ?_
  refine A_istore_n (lv2 := [some (.ref (g.1 + 0)), some (.int a1), some (.int (24 : Int32))]) hC dX11_four_2 (Nat.le_of_ble_eq_true rfl) rfl rfl ?_
  refine A_join (fun (J : ADD → Option (Unit × ADD)) => ∀ (D1 : ADD), AT aVv g b 38 [none, none, none] [] D1 (J D1)) (fun D1 => ?_) (fun j38 hj38 => ?_)
  · exact A_vret hC dX11_four_38
  refine A_join (fun (J : Int32 → ADD → Option (Unit × ADD)) => ∀ (x1 : Int32) (D2 : ADD), AT aVv g b 3 [some (.ref (g.1 + 0)), some (.int a1), some (.int x1)] [] D2 (J x1 D2)) (aFix_all (fun (J : Int32 → ADD → Option (Unit × ADD)) => ∀ (x1 : Int32) (D2 : ADD), AT aVv g b 3 [some (.ref (g.1 + 0)), some (.int a1), some (.int x1)] [] D2 (J x1 D2)) (fun _ _ => A_none) (fun L3 hL3 x1 D2 => ?_) _) (fun j3 hj3 => ?_)
  · unfold lX11_four_3
    refine A_iload_n hC dX11_four_3 rfl ?_
    refine A_if_lt (tgt := 38) hC dX11_four_4 (by decide) ?_ ?_
    · exact A_to (hj38 D2) (trivial)
    · refine A_aload_n hC dX11_four_7 rfl ?_
      refine A_getr (kf := 1) hC kX11 (lM_0 hL) rfl (by decide) (by decide) rfl rfl w_1004 dX11_four_8 ?_
      refine A_aload_n hC dX11_four_11 rfl ?_
      refine A_getr (kf := 2) hC kX11 (lM_0 hL) rfl (by decide) (by decide) rfl rfl w_1005 dX11_four_12 ?_
      refine A_iconst (v := 0) hC dX11_four_15 (by decide) ?_
      refine A_iald hC (lM_2 hL) dX11_four_16 ?_
      refine A_iload_n hC dX11_four_17 rfl ?_
      refine A_iload_n hC dX11_four_18 rfl ?_
      refine A_ishr hC dX11_four_19 ?_
      refine A_i2b hC dX11_four_20 ?_
      refine A_bast hC (lM_1 hL) dX11_four_21 (fun D3 => ?_)
      refine A_aload_n hC dX11_four_22 rfl ?_
      refine A_getr (kf := 2) hC kX11 (lM_0 hL) rfl (by decide) (by decide) rfl rfl w_1005 dX11_four_23 ?_
      refine A_iconst (v := 0) hC dX11_four_26 (by decide) ?_
      refine A_dup2 hC dX11_four_27 rfl rfl ?_
      refine A_iald hC (lM_2 hL) dX11_four_28 ?_
      refine A_iconst (v := 1) hC dX11_four_29 (by decide) ?_
      refine A_iadd hC dX11_four_30 ?_
      refine A_iast hC (lM_2 hL) dX11_four_31 (fun D4 => ?_)
      refine A_iincL (z := (-8 : Int32)) (lv2 := fun x2 => [some (.ref (g.1 + 0)), some (.int a1), some (.int x2)]) hC dX11_four_32 rfl (by decide) (Nat.le_of_ble_eq_true rfl) rfl (fun _ => rfl) (fun x2 => ?_)
      refine A_goto (tgt := 3) hC dX11_four_35 (by decide) ?_
      exact A_to (hL3 x2 D4) (And.intro rfl (And.intro rfl (And.intro rfl (trivial))))
  exact A_to (hj3 (24 : Int32) D) (And.intro rfl (And.intro rfl (And.intro rfl (trivial))))
def lX11_gcd_4 (j21 : Int32 → ADD → Option (Int32 × ADD)) (L4 : Int32 → Int32 → ADD → Option (Int32 × ADD)) (x2 : Int32) (x3 : Int32) (D2 : ADD) : Option (Int32 × ADD) := (if x3 = 0 then j21 x2 D2 else aNZ x3 (aLet (x2 - x2 / x3 * x3) (fun x4 => L4 x3 x4 D2)))
def fX11_gcd (a1 : Int32) (a2 : Int32) (D : ADD) : Option (Int32 × ADD) := aLet (fun (x1 : Int32) (D1 : ADD) => some (x1, D1)) (fun (j21 : Int32 → ADD → Option (Int32 × ADD)) => aLet (aFix aFuel (lX11_gcd_4 j21) (fun _ _ _ => none)) (fun j4 => j4 a1 a2 D))
set_option maxHeartbeats 4000000 in
set_option maxRecDepth 100000 in
theorem mX11_gcd (l : Launch) (g : AGl) (a1 : Int32) (a2 : Int32) (D : ADD) : AM aVi l yX11_gcd cX11_gcd 5 (some .int) 0 g [.int a1, .int a2] D (fX11_gcd a1 a2 D) := by
  refine AM_of (lv0 := [some (.int a1), some (.int a2), none, none, none]) (own := RX11) (by decide +kernel) rfl (Nat.le_of_ble_eq_true rfl) rfl (fun b hC => ?_)
  unfold fX11_gcd
  refine A_iload_n hC dX11_gcd_0 rfl ?_
  refine A_istore_n (lv2 := [some (.int a1), some (.int a2), some (.int a1), none, none]) hC dX11_gcd_1 (Nat.le_of_ble_eq_true rfl) rfl rfl ?_
  refine A_iload_n hC dX11_gcd_2 rfl ?_
  refine A_istore_n (lv2 := [some (.int a1), some (.int a2), some (.int a1), some (.int a2), none]) hC dX11_gcd_3 (Nat.le_of_ble_eq_true rfl) rfl rfl ?_
  refine A_join (fun (J : Int32 → ADD → Option (Int32 × ADD)) => ∀ (x1 : Int32) (D1 : ADD), AT aVi g b 21 [none, none, some (.int x1), none, none] [] D1 (J x1 D1)) (fun x1 D1 => ?_) (fun j21 hj21 => ?_)
  · refine A_iload_n hC dX11_gcd_21 rfl ?_
    exact A_iret hC dX11_gcd_22
  refine A_join (fun (J : Int32 → Int32 → ADD → Option (Int32 × ADD)) => ∀ (x2 : Int32) (x3 : Int32) (D2 : ADD), AT aVi g b 4 [none, none, some (.int x2), some (.int x3), none] [] D2 (J x2 x3 D2)) (aFix_all (fun (J : Int32 → Int32 → ADD → Option (Int32 × ADD)) => ∀ (x2 : Int32) (x3 : Int32) (D2 : ADD), AT aVi g b 4 [none, none, some (.int x2), some (.int x3), none] [] D2 (J x2 x3 D2)) (fun _ _ _ => A_none) (fun L4 hL4 x2 x3 D2 => ?_) _) (fun j4 hj4 => ?_)
  · unfold lX11_gcd_4
    refine A_iload_n hC dX11_gcd_4 rfl ?_
    refine A_if_eq (tgt := 21) hC dX11_gcd_5 (by decide) ?_ ?_
    · exact A_to (hj21 x2 D2) (And.intro rfl (trivial))
    · refine A_iload_n hC dX11_gcd_8 rfl ?_
      refine A_iload_n hC dX11_gcd_9 rfl ?_
      refine A_irem hC dX11_gcd_10 ?_
      refine A_topi (fun x4 => ?_)
      refine A_istore (lv2 := [none, none, some (.int x2), some (.int x3), some (.int x4)]) hC dX11_gcd_11 (Nat.le_of_ble_eq_true rfl) rfl rfl ?_
      refine A_iload_n hC dX11_gcd_13 rfl ?_
      refine A_istore_n (lv2 := [none, none, some (.int x3), some (.int x3), some (.int x4)]) hC dX11_gcd_14 (Nat.le_of_ble_eq_true rfl) rfl rfl ?_
      refine A_iload hC dX11_gcd_15 rfl ?_
      refine A_istore_n (lv2 := [none, none, some (.int x3), some (.int x4), some (.int x4)]) hC dX11_gcd_17 (Nat.le_of_ble_eq_true rfl) rfl rfl ?_
      refine A_goto (tgt := 4) hC dX11_gcd_18 (by decide) ?_
      exact A_to (hL4 x3 x4 D2) (And.intro rfl (And.intro rfl (trivial)))
  exact A_to (hj4 a1 a2 D) (And.intro rfl (And.intro rfl (trivial)))
def fX11_held (a1 : Int32) (D : ADD) : Option (Int32 × ADD) := aLet (fun (x1 : Int32) (D1 : ADD) => some (x1, D1)) (fun (j27 : Int32 → ADD → Option (Int32 × ADD)) => (if (-500 : Int32) ≤ a1 then (if a1 ≤ (1000 : Int32) then j27 a1 D else j27 (1000 : Int32) D) else j27 (-500 : Int32) D))
set_option maxHeartbeats 4000000 in
set_option maxRecDepth 100000 in
theorem mX11_held (l : Launch) (g : AGl) (a1 : Int32) (D : ADD) : AM aVi l yX11_held cX11_held 1 (some .int) 0 g [.int a1] D (fX11_held a1 D) := by
  refine AM_of (lv0 := [some (.int a1)]) (own := RX11) (by decide +kernel) rfl (Nat.le_of_ble_eq_true rfl) rfl (fun b hC => ?_)
  unfold fX11_held
  refine A_iload_n hC dX11_held_0 rfl ?_
  refine A_sipush (v := -500) hC dX11_held_1 (by decide) ?_
  refine A_join (fun (J : Int32 → ADD → Option (Int32 × ADD)) => ∀ (x1 : Int32) (D1 : ADD), AT aVi g b 27 [none] [.int x1] D1 (J x1 D1)) (fun x1 D1 => ?_) (fun j27 hj27 => ?_)
  · exact A_iret hC dX11_held_27
  refine A_icmp_ge (tgt := 13) hC dX11_held_4 (by decide) ?_ ?_
  · refine A_iload_n hC dX11_held_13 rfl ?_
    refine A_sipush (v := 1000) hC dX11_held_14 (by decide) ?_
    refine A_icmp_le (tgt := 26) hC dX11_held_17 (by decide) ?_ ?_
    · refine A_iload_n hC dX11_held_26 rfl ?_
      exact A_to (hj27 a1 D) (trivial)
    · refine A_sipush (v := 1000) hC dX11_held_20 (by decide) ?_
      refine A_goto (tgt := 27) hC dX11_held_23 (by decide) ?_
      exact A_to (hj27 (1000 : Int32) D) (trivial)
  · refine A_sipush (v := -500) hC dX11_held_7 (by decide) ?_
    refine A_goto (tgt := 27) hC dX11_held_10 (by decide) ?_
    exact A_to (hj27 (-500 : Int32) D) (trivial)
def lX11_holds_4 (a1 : Int32) (j133 : ADD → Option (Int32 × ADD)) (L4 : Int32 → ADD → Option (Int32 × ADD)) (x2 : Int32) (D2 : ADD) : Option (Int32 × ADD) := aIn a1 128 ((if (((4 : Int32) * a1) + (D2.1 16 a1.toNatClampNeg)) ≤ x2 then j133 D2 else aIn x2 512 (aIn ((D2.1 17 x2.toNatClampNeg) &&& (7 : Int32)) 8 (aLet (D2.1 30 ((D2.1 17 x2.toNatClampNeg) &&& (7 : Int32)).toNatClampNeg) (fun x3 => aIn x2 512 (aLet (D2.1 19 x2.toNatClampNeg) (fun x4 => aIn x2 512 (aLet (fun (x5 : Int32) (D3 : ADD) => aIn x2 512 (aLet (fun (x6 : Int32) (D4 : ADD) => (if x5 = x6 then some ((0 : Int32), D4) else aLet (x2 + (1 : Int32)) (fun x7 => L4 x7 D4))) (fun (j122 : Int32 → ADD → Option (Int32 × ADD)) => (if (D3.1 17 x2.toNatClampNeg) ≤ (7 : Int32) then j122 (0 : Int32) D3 else j122 (1 : Int32) D3)))) (fun (j102 : Int32 → ADD → Option (Int32 × ADD)) => (if (D2.1 18 x2.toNatClampNeg) = (60 : Int32) then (if x4 ≤ x3 then j102 (0 : Int32) D2 else j102 (1 : Int32) D2) else aIn x2 512 ((if (D2.1 18 x2.toNatClampNeg) = (62 : Int32) then (if x3 ≤ x4 then j102 (0 : Int32) D2 else j102 (1 : Int32) D2) else (if x3 = x4 then j102 (1 : Int32) D2 else j102 (0 : Int32) D2)))))))))))))
def fX11_holds (a1 : Int32) (D : ADD) : Option (Int32 × ADD) := aLet ((4 : Int32) * a1) (fun x1 => aLet (fun (D1 : ADD) => some ((1 : Int32), D1)) (fun (j133 : ADD → Option (Int32 × ADD)) => aLet (aFix aFuel (lX11_holds_4 a1 j133) (fun _ _ => none)) (fun j4 => j4 x1 D)))
set_option maxHeartbeats 4000000 in
set_option maxRecDepth 100000 in
theorem mX11_holds (l : Launch) (g : AGl) (hL : aLM g) (a1 : Int32) (D : ADD) : AM aVi l yX11_holds cX11_holds 6 (some .boolean) 0 g [.ref (g.1 + 0), .int a1] D (fX11_holds a1 D) := by
  refine AM_of (lv0 := [some (.ref (g.1 + 0)), some (.int a1), none, none, none, none]) (own := RX11) (by decide +kernel) rfl (Nat.le_of_ble_eq_true rfl) rfl (fun b hC => ?_)
  unfold fX11_holds
  refine A_iconst (v := 4) hC dX11_holds_0 (by decide) ?_
  refine A_iload_n hC dX11_holds_1 rfl ?_
  refine A_imul hC dX11_holds_2 ?_
  refine A_topi (fun x1 => ?_)
  refine A_istore_n (lv2 := [some (.ref (g.1 + 0)), some (.int a1), some (.int x1), none, none, none]) hC dX11_holds_3 (Nat.le_of_ble_eq_true rfl) rfl rfl ?_
  refine A_join (fun (J : ADD → Option (Int32 × ADD)) => ∀ (D1 : ADD), AT aVi g b 133 [none, none, none, none, none, none] [] D1 (J D1)) (fun D1 => ?_) (fun j133 hj133 => ?_)
  · refine A_iconst (v := 1) hC dX11_holds_133 (by decide) ?_
    exact A_zret hC dX11_holds_134 (Or.inr rfl)
  refine A_join (fun (J : Int32 → ADD → Option (Int32 × ADD)) => ∀ (x2 : Int32) (D2 : ADD), AT aVi g b 4 [some (.ref (g.1 + 0)), some (.int a1), some (.int x2), none, none, none] [] D2 (J x2 D2)) (aFix_all (fun (J : Int32 → ADD → Option (Int32 × ADD)) => ∀ (x2 : Int32) (D2 : ADD), AT aVi g b 4 [some (.ref (g.1 + 0)), some (.int a1), some (.int x2), none, none, none] [] D2 (J x2 D2)) (fun _ _ => A_none) (fun L4 hL4 x2 D2 => ?_) _) (fun j4 hj4 => ?_)
  · unfold lX11_holds_4
    refine A_iload_n hC dX11_holds_4 rfl ?_
    refine A_iconst (v := 4) hC dX11_holds_5 (by decide) ?_
    refine A_iload_n hC dX11_holds_6 rfl ?_
    refine A_imul hC dX11_holds_7 ?_
    refine A_aload_n hC dX11_holds_8 rfl ?_
    refine A_getr (kf := 16) hC kX11 (lM_0 hL) rfl (by decide) (by decide) rfl rfl w_1019 dX11_holds_9 ?_
    refine A_iload_n hC dX11_holds_12 rfl ?_
    refine A_iald hC (lM_16 hL) dX11_holds_13 ?_
    refine A_iadd hC dX11_holds_14 ?_
    refine A_icmp_ge (tgt := 133) hC dX11_holds_15 (by decide) ?_ ?_
    · exact A_to (hj133 D2) (trivial)
    · refine A_aload_n hC dX11_holds_18 rfl ?_
      refine A_getr (kf := 40) hC kX11 (lM_0 hL) rfl (by decide) (by decide) rfl rfl w_1043 dX11_holds_19 ?_
      refine A_aload_n hC dX11_holds_22 rfl ?_
      refine A_getr (kf := 17) hC kX11 (lM_0 hL) rfl (by decide) (by decide) rfl rfl w_1020 dX11_holds_23 ?_
      refine A_iload_n hC dX11_holds_26 rfl ?_
      refine A_iald hC (lM_17 hL) dX11_holds_27 ?_
      refine A_bipush (v := 7) hC dX11_holds_28 (by decide) ?_
      refine A_iand hC dX11_holds_30 ?_
      refine A_iald hC (lM_30 hL) dX11_holds_31 ?_
      refine A_topi (fun x3 => ?_)
      refine A_istore_n (lv2 := [some (.ref (g.1 + 0)), some (.int a1), some (.int x2), some (.int x3), none, none]) hC dX11_holds_32 (Nat.le_of_ble_eq_true rfl) rfl rfl ?_
      refine A_aload_n hC dX11_holds_33 rfl ?_
      refine A_getr (kf := 19) hC kX11 (lM_0 hL) rfl (by decide) (by decide) rfl rfl w_1022 dX11_holds_34 ?_
      refine A_iload_n hC dX11_holds_37 rfl ?_
      refine A_iald hC (lM_19 hL) dX11_holds_38 ?_
      refine A_topi (fun x4 => ?_)
      refine A_istore (lv2 := [some (.ref (g.1 + 0)), some (.int a1), some (.int x2), some (.int x3), some (.int x4), none]) hC dX11_holds_39 (Nat.le_of_ble_eq_true rfl) rfl rfl ?_
      refine A_aload_n hC dX11_holds_41 rfl ?_
      refine A_getr (kf := 18) hC kX11 (lM_0 hL) rfl (by decide) (by decide) rfl rfl w_1021 dX11_holds_42 ?_
      refine A_iload_n hC dX11_holds_45 rfl ?_
      refine A_iald hC (lM_18 hL) dX11_holds_46 ?_
      refine A_bipush (v := 60) hC dX11_holds_47 (by decide) ?_
      refine A_join (fun (J : Int32 → ADD → Option (Int32 × ADD)) => ∀ (x5 : Int32) (D3 : ADD), AT aVi g b 102 [some (.ref (g.1 + 0)), some (.int a1), some (.int x2), none, none, none] [.int x5] D3 (J x5 D3)) (fun x5 D3 => ?_) (fun j102 hj102 => ?_)
      · refine A_istore (lv2 := [some (.ref (g.1 + 0)), some (.int a1), some (.int x2), none, none, some (.int x5)]) hC dX11_holds_102 (Nat.le_of_ble_eq_true rfl) rfl rfl ?_
        refine A_iload hC dX11_holds_104 rfl ?_
        refine A_aload_n hC dX11_holds_106 rfl ?_
        refine A_getr (kf := 17) hC kX11 (lM_0 hL) rfl (by decide) (by decide) rfl rfl w_1020 dX11_holds_107 ?_
        refine A_iload_n hC dX11_holds_110 rfl ?_
        refine A_iald hC (lM_17 hL) dX11_holds_111 ?_
        refine A_bipush (v := 7) hC dX11_holds_112 (by decide) ?_
        refine A_join (fun (J : Int32 → ADD → Option (Int32 × ADD)) => ∀ (x6 : Int32) (D4 : ADD), AT aVi g b 122 [some (.ref (g.1 + 0)), some (.int a1), some (.int x2), none, none, none] [.int x6, .int x5] D4 (J x6 D4)) (fun x6 D4 => ?_) (fun j122 hj122 => ?_)
        · refine A_icmp_ne (tgt := 127) hC dX11_holds_122 (by decide) ?_ ?_
          · refine A_iincL (z := (1 : Int32)) (lv2 := fun x7 => [some (.ref (g.1 + 0)), some (.int a1), some (.int x7), none, none, none]) hC dX11_holds_127 rfl (by decide) (Nat.le_of_ble_eq_true rfl) rfl (fun _ => rfl) (fun x7 => ?_)
            refine A_goto (tgt := 4) hC dX11_holds_130 (by decide) ?_
            exact A_to (hL4 x7 D4) (And.intro rfl (And.intro rfl (And.intro rfl (trivial))))
          · refine A_iconst (v := 0) hC dX11_holds_125 (by decide) ?_
            exact A_zret hC dX11_holds_126 (Or.inl rfl)
        refine A_icmp_le (tgt := 121) hC dX11_holds_114 (by decide) ?_ ?_
        · refine A_iconst (v := 0) hC dX11_holds_121 (by decide) ?_
          exact A_to (hj122 (0 : Int32) D3) (And.intro rfl (And.intro rfl (And.intro rfl (trivial))))
        · refine A_iconst (v := 1) hC dX11_holds_117 (by decide) ?_
          refine A_goto (tgt := 122) hC dX11_holds_118 (by decide) ?_
          exact A_to (hj122 (1 : Int32) D3) (And.intro rfl (And.intro rfl (And.intro rfl (trivial))))
      refine A_icmp_ne (tgt := 66) hC dX11_holds_49 (by decide) ?_ ?_
      · refine A_aload_n hC dX11_holds_66 rfl ?_
        refine A_getr (kf := 18) hC kX11 (lM_0 hL) rfl (by decide) (by decide) rfl rfl w_1021 dX11_holds_67 ?_
        refine A_iload_n hC dX11_holds_70 rfl ?_
        refine A_iald hC (lM_18 hL) dX11_holds_71 ?_
        refine A_bipush (v := 62) hC dX11_holds_72 (by decide) ?_
        refine A_icmp_ne (tgt := 91) hC dX11_holds_74 (by decide) ?_ ?_
        · refine A_iload_n hC dX11_holds_91 rfl ?_
          refine A_iload hC dX11_holds_92 rfl ?_
          refine A_icmp_ne (tgt := 101) hC dX11_holds_94 (by decide) ?_ ?_
          · refine A_iconst (v := 0) hC dX11_holds_101 (by decide) ?_
            exact A_to (hj102 (0 : Int32) D2) (And.intro rfl (And.intro rfl (And.intro rfl (trivial))))
          · refine A_iconst (v := 1) hC dX11_holds_97 (by decide) ?_
            refine A_goto (tgt := 102) hC dX11_holds_98 (by decide) ?_
            exact A_to (hj102 (1 : Int32) D2) (And.intro rfl (And.intro rfl (And.intro rfl (trivial))))
        · refine A_iload_n hC dX11_holds_77 rfl ?_
          refine A_iload hC dX11_holds_78 rfl ?_
          refine A_icmp_le (tgt := 87) hC dX11_holds_80 (by decide) ?_ ?_
          · refine A_iconst (v := 0) hC dX11_holds_87 (by decide) ?_
            refine A_goto (tgt := 102) hC dX11_holds_88 (by decide) ?_
            exact A_to (hj102 (0 : Int32) D2) (And.intro rfl (And.intro rfl (And.intro rfl (trivial))))
          · refine A_iconst (v := 1) hC dX11_holds_83 (by decide) ?_
            refine A_goto (tgt := 102) hC dX11_holds_84 (by decide) ?_
            exact A_to (hj102 (1 : Int32) D2) (And.intro rfl (And.intro rfl (And.intro rfl (trivial))))
      · refine A_iload_n hC dX11_holds_52 rfl ?_
        refine A_iload hC dX11_holds_53 rfl ?_
        refine A_icmp_ge (tgt := 62) hC dX11_holds_55 (by decide) ?_ ?_
        · refine A_iconst (v := 0) hC dX11_holds_62 (by decide) ?_
          refine A_goto (tgt := 102) hC dX11_holds_63 (by decide) ?_
          exact A_to (hj102 (0 : Int32) D2) (And.intro rfl (And.intro rfl (And.intro rfl (trivial))))
        · refine A_iconst (v := 1) hC dX11_holds_58 (by decide) ?_
          refine A_goto (tgt := 102) hC dX11_holds_59 (by decide) ?_
          exact A_to (hj102 (1 : Int32) D2) (And.intro rfl (And.intro rfl (And.intro rfl (trivial))))
  exact A_to (hj4 x1 D) (And.intro rfl (And.intro rfl (And.intro rfl (trivial))))
def fX11_is (a1 : Int32) (a2 : Int32) (a3 : Int32) (D : ADD) : Option (Int32 × ADD) := aLet (fun (x1 : Int32) (D1 : ADD) => aZ x1 (some (x1, D1))) (fun (j15 : Int32 → ADD → Option (Int32 × ADD)) => aLet (fun (D2 : ADD) => j15 (0 : Int32) D2) (fun (j14 : ADD → Option (Int32 × ADD)) => (if a1 < a2 then j14 D else (if a3 < a1 then j14 D else j15 (1 : Int32) D))))
set_option maxHeartbeats 4000000 in
set_option maxRecDepth 100000 in
theorem mX11_is (l : Launch) (g : AGl) (a1 : Int32) (a2 : Int32) (a3 : Int32) (D : ADD) : AM aVi l yX11_is cX11_is 3 (some .boolean) 0 g [.int a1, .int a2, .int a3] D (fX11_is a1 a2 a3 D) := by
  refine AM_of (lv0 := [some (.int a1), some (.int a2), some (.int a3)]) (own := RX11) (by decide +kernel) rfl (Nat.le_of_ble_eq_true rfl) rfl (fun b hC => ?_)
  unfold fX11_is
  refine A_iload_n hC dX11_is_0 rfl ?_
  refine A_iload_n hC dX11_is_1 rfl ?_
  refine A_join (fun (J : Int32 → ADD → Option (Int32 × ADD)) => ∀ (x1 : Int32) (D1 : ADD), AT aVi g b 15 [none, none, none] [.int x1] D1 (J x1 D1)) (fun x1 D1 => ?_) (fun j15 hj15 => ?_)
  · exact A_zretc hC dX11_is_15
  refine A_join (fun (J : ADD → Option (Int32 × ADD)) => ∀ (D2 : ADD), AT aVi g b 14 [none, none, none] [] D2 (J D2)) (fun D2 => ?_) (fun j14 hj14 => ?_)
  · refine A_iconst (v := 0) hC dX11_is_14 (by decide) ?_
    exact A_to (hj15 (0 : Int32) D2) (trivial)
  refine A_icmp_lt (tgt := 14) hC dX11_is_2 (by decide) ?_ ?_
  · exact A_to (hj14 D) (trivial)
  · refine A_iload_n hC dX11_is_5 rfl ?_
    refine A_iload_n hC dX11_is_6 rfl ?_
    refine A_icmp_gt (tgt := 14) hC dX11_is_7 (by decide) ?_ ?_
    · exact A_to (hj14 D) (trivial)
    · refine A_iconst (v := 1) hC dX11_is_10 (by decide) ?_
      refine A_goto (tgt := 15) hC dX11_is_11 (by decide) ?_
      exact A_to (hj15 (1 : Int32) D) (trivial)
def fX11_isSign (a1 : Int32) (D : ADD) : Option (Int32 × ADD) := aLet (fun (x1 : Int32) (D1 : ADD) => aZ x1 (some (x1, D1))) (fun (j21 : Int32 → ADD → Option (Int32 × ADD)) => aLet (fun (D2 : ADD) => j21 (0 : Int32) D2) (fun (j20 : ADD → Option (Int32 × ADD)) => (if (D.1 0 26) = (4 : Int32) then (if (D.1 0 27) = a1 then j21 (1 : Int32) D else j20 D) else j20 D)))
set_option maxHeartbeats 4000000 in
set_option maxRecDepth 100000 in
theorem mX11_isSign (l : Launch) (g : AGl) (hL : aLM g) (a1 : Int32) (D : ADD) : AM aVi l yX11_isSign cX11_isSign 2 (some .boolean) 0 g [.ref (g.1 + 0), .int a1] D (fX11_isSign a1 D) := by
  refine AM_of (lv0 := [some (.ref (g.1 + 0)), some (.int a1)]) (own := RX11) (by decide +kernel) rfl (Nat.le_of_ble_eq_true rfl) rfl (fun b hC => ?_)
  unfold fX11_isSign
  refine A_aload_n hC dX11_isSign_0 rfl ?_
  refine A_geti (kf := 26) hC kX11 (lM_0 hL) rfl (by decide) (by decide) rfl w_1029 dX11_isSign_1 ?_
  refine A_iconst (v := 4) hC dX11_isSign_4 (by decide) ?_
  refine A_join (fun (J : Int32 → ADD → Option (Int32 × ADD)) => ∀ (x1 : Int32) (D1 : ADD), AT aVi g b 21 [none, none] [.int x1] D1 (J x1 D1)) (fun x1 D1 => ?_) (fun j21 hj21 => ?_)
  · exact A_zretc hC dX11_isSign_21
  refine A_join (fun (J : ADD → Option (Int32 × ADD)) => ∀ (D2 : ADD), AT aVi g b 20 [none, none] [] D2 (J D2)) (fun D2 => ?_) (fun j20 hj20 => ?_)
  · refine A_iconst (v := 0) hC dX11_isSign_20 (by decide) ?_
    exact A_to (hj21 (0 : Int32) D2) (trivial)
  refine A_icmp_ne (tgt := 20) hC dX11_isSign_5 (by decide) ?_ ?_
  · exact A_to (hj20 D) (trivial)
  · refine A_aload_n hC dX11_isSign_8 rfl ?_
    refine A_geti (kf := 27) hC kX11 (lM_0 hL) rfl (by decide) (by decide) rfl w_1030 dX11_isSign_9 ?_
    refine A_iload_n hC dX11_isSign_12 rfl ?_
    refine A_icmp_ne (tgt := 20) hC dX11_isSign_13 (by decide) ?_ ?_
    · exact A_to (hj20 D) (trivial)
    · refine A_iconst (v := 1) hC dX11_isSign_16 (by decide) ?_
      refine A_goto (tgt := 21) hC dX11_isSign_17 (by decide) ?_
      exact A_to (hj21 (1 : Int32) D) (trivial)
