def fX11_isWord (a1 : Int64) (D : ADD) : Option (Int32 × ADD) := aLet (fun (x1 : Int32) (D1 : ADD) => aZ x1 (some (x1, D1))) (fun (j22 : Int32 → ADD → Option (Int32 × ADD)) => aLet (fun (D2 : ADD) => j22 (0 : Int32) D2) (fun (j21 : ADD → Option (Int32 × ADD)) => (if (D.1 0 26) = (2 : Int32) then (if (aCmp (D.2 0 28) a1) = 0 then j22 (1 : Int32) D else j21 D) else j21 D)))
set_option maxHeartbeats 4000000 in
set_option maxRecDepth 100000 in
theorem mX11_isWord (l : Launch) (g : AGl) (hL : aLM g) (a1 : Int64) (D : ADD) : AM aVi l yX11_isWord cX11_isWord 3 (some .boolean) 0 g [.ref (g.1 + 0), .long a1] D (fX11_isWord a1 D) := by
  refine AM_of (lv0 := [some (.ref (g.1 + 0)), some (.long a1), none]) (own := RX11) (by decide +kernel) rfl (Nat.le_of_ble_eq_true rfl) rfl (fun b hC => ?_)
  unfold fX11_isWord
  refine A_aload_n hC dX11_isWord_0 rfl ?_
  refine A_geti (kf := 26) hC kX11 (lM_0 hL) rfl (by decide) (by decide) rfl w_1029 dX11_isWord_1 ?_
  refine A_iconst (v := 2) hC dX11_isWord_4 (by decide) ?_
  refine A_join (fun (J : Int32 → ADD → Option (Int32 × ADD)) => ∀ (x1 : Int32) (D1 : ADD), AT aVi g b 22 [none, none, none] [.int x1] D1 (J x1 D1)) (fun x1 D1 => ?_) (fun j22 hj22 => ?_)
  · exact A_zretc hC dX11_isWord_22
  refine A_join (fun (J : ADD → Option (Int32 × ADD)) => ∀ (D2 : ADD), AT aVi g b 21 [none, none, none] [] D2 (J D2)) (fun D2 => ?_) (fun j21 hj21 => ?_)
  · refine A_iconst (v := 0) hC dX11_isWord_21 (by decide) ?_
    exact A_to (hj22 (0 : Int32) D2) (trivial)
  refine A_icmp_ne (tgt := 21) hC dX11_isWord_5 (by decide) ?_ ?_
  · exact A_to (hj21 D) (trivial)
  · refine A_aload_n hC dX11_isWord_8 rfl ?_
    refine A_getl (kf := 28) hC kX11 (lM_0 hL) rfl (by decide) (by decide) rfl w_1031 dX11_isWord_9 ?_
    refine A_lload_n hC dX11_isWord_12 rfl ?_
    refine A_lcmp hC dX11_isWord_13 ?_
    refine A_if_ne (tgt := 21) hC dX11_isWord_14 (by decide) ?_ ?_
    · exact A_to (hj21 D) (trivial)
    · refine A_iconst (v := 1) hC dX11_isWord_17 (by decide) ?_
      refine A_goto (tgt := 22) hC dX11_isWord_18 (by decide) ?_
      exact A_to (hj22 (1 : Int32) D) (trivial)
def lX11_keepChosen_2 (j28 : ADD → Option (Unit × ADD)) (L2 : Int32 → ADD → Option (Unit × ADD)) (x1 : Int32) (D2 : ADD) : Option (Unit × ADD) := (if (D2.1 0 41) ≤ x1 then j28 D2 else aIn x1 32 (aIn x1 32 (aLet (aSI D2 38 x1.toNatClampNeg (aBz (D2.1 35 x1.toNatClampNeg))) (fun D3 => aLet (x1 + (1 : Int32)) (fun x2 => L2 x2 D3)))))
def fX11_keepChosen (D : ADD) : Option (Unit × ADD) := aLet (fun (D1 : ADD) => some ((), D1)) (fun (j28 : ADD → Option (Unit × ADD)) => aLet (aFix aFuel (lX11_keepChosen_2 j28) (fun _ _ => none)) (fun j2 => j2 (0 : Int32) D))
set_option maxHeartbeats 4000000 in
set_option maxRecDepth 100000 in
theorem mX11_keepChosen (l : Launch) (g : AGl) (hL : aLM g) (D : ADD) : AM aVv l yX11_keepChosen cX11_keepChosen 2 none 0 g [.ref (g.1 + 0)] D (fX11_keepChosen D) := by
  refine AM_of (lv0 := [some (.ref (g.1 + 0)), none]) (own := RX11) (by decide +kernel) rfl (Nat.le_of_ble_eq_true rfl) rfl (fun b hC => ?_)
  unfold fX11_keepChosen
  refine A_iconst (v := 0) hC dX11_keepChosen_0 (by decide) ?_
  refine A_istore_n (lv2 := [some (.ref (g.1 + 0)), some (.int (0 : Int32))]) hC dX11_keepChosen_1 (Nat.le_of_ble_eq_true rfl) rfl rfl ?_
  refine A_join (fun (J : ADD → Option (Unit × ADD)) => ∀ (D1 : ADD), AT aVv g b 28 [none, none] [] D1 (J D1)) (fun D1 => ?_) (fun j28 hj28 => ?_)
  · exact A_vret hC dX11_keepChosen_28
  refine A_join (fun (J : Int32 → ADD → Option (Unit × ADD)) => ∀ (x1 : Int32) (D2 : ADD), AT aVv g b 2 [some (.ref (g.1 + 0)), some (.int x1)] [] D2 (J x1 D2)) (aFix_all (fun (J : Int32 → ADD → Option (Unit × ADD)) => ∀ (x1 : Int32) (D2 : ADD), AT aVv g b 2 [some (.ref (g.1 + 0)), some (.int x1)] [] D2 (J x1 D2)) (fun _ _ => A_none) (fun L2 hL2 x1 D2 => ?_) _) (fun j2 hj2 => ?_)
  · unfold lX11_keepChosen_2
    refine A_iload_n hC dX11_keepChosen_2 rfl ?_
    refine A_aload_n hC dX11_keepChosen_3 rfl ?_
    refine A_geti (kf := 41) hC kX11 (lM_0 hL) rfl (by decide) (by decide) rfl w_1044 dX11_keepChosen_4 ?_
    refine A_icmp_ge (tgt := 28) hC dX11_keepChosen_7 (by decide) ?_ ?_
    · exact A_to (hj28 D2) (trivial)
    · refine A_aload_n hC dX11_keepChosen_10 rfl ?_
      refine A_getr (kf := 49) hC kX11 (lM_0 hL) rfl (by decide) (by decide) rfl rfl w_1052 dX11_keepChosen_11 ?_
      refine A_iload_n hC dX11_keepChosen_14 rfl ?_
      refine A_aload_n hC dX11_keepChosen_15 rfl ?_
      refine A_getr (kf := 46) hC kX11 (lM_0 hL) rfl (by decide) (by decide) rfl rfl w_1049 dX11_keepChosen_16 ?_
      refine A_iload_n hC dX11_keepChosen_19 rfl ?_
      refine A_zald hC (lM_35 hL) dX11_keepChosen_20 ?_
      refine A_zast hC (lM_38 hL) dX11_keepChosen_21 (fun D3 => ?_)
      refine A_iincL (z := (1 : Int32)) (lv2 := fun x2 => [some (.ref (g.1 + 0)), some (.int x2)]) hC dX11_keepChosen_22 rfl (by decide) (Nat.le_of_ble_eq_true rfl) rfl (fun _ => rfl) (fun x2 => ?_)
      refine A_goto (tgt := 2) hC dX11_keepChosen_25 (by decide) ?_
      exact A_to (hL2 x2 D3) (And.intro rfl (And.intro rfl (trivial)))
  exact A_to (hj2 (0 : Int32) D) (And.intro rfl (And.intro rfl (trivial)))
def fX11_later (a1 : Int32) (a2 : Int32) (D : ADD) : Option (Unit × ADD) := aLet (fun (D1 : ADD) => some ((), D1)) (fun (j17 : ADD → Option (Unit × ADD)) => (if (D.1 0 30) = 0 then aLet (aSI D 0 30 a1) (fun D2 => aLet (aSI D2 0 31 a2) (fun D3 => j17 D3)) else j17 D))
set_option maxHeartbeats 4000000 in
set_option maxRecDepth 100000 in
theorem mX11_later (l : Launch) (g : AGl) (hL : aLM g) (a1 : Int32) (a2 : Int32) (D : ADD) : AM aVv l yX11_later cX11_later 3 none 0 g [.ref (g.1 + 0), .int a1, .int a2] D (fX11_later a1 a2 D) := by
  refine AM_of (lv0 := [some (.ref (g.1 + 0)), some (.int a1), some (.int a2)]) (own := RX11) (by decide +kernel) rfl (Nat.le_of_ble_eq_true rfl) rfl (fun b hC => ?_)
  unfold fX11_later
  refine A_aload_n hC dX11_later_0 rfl ?_
  refine A_geti (kf := 30) hC kX11 (lM_0 hL) rfl (by decide) (by decide) rfl w_1033 dX11_later_1 ?_
  refine A_join (fun (J : ADD → Option (Unit × ADD)) => ∀ (D1 : ADD), AT aVv g b 17 [none, none, none] [] D1 (J D1)) (fun D1 => ?_) (fun j17 hj17 => ?_)
  · exact A_vret hC dX11_later_17
  refine A_if_ne (tgt := 17) hC dX11_later_4 (by decide) ?_ ?_
  · exact A_to (hj17 D) (trivial)
  · refine A_aload_n hC dX11_later_7 rfl ?_
    refine A_iload_n hC dX11_later_8 rfl ?_
    refine A_puti (kf := 30) hC kX11 (lM_0 hL) rfl (by decide) (by decide) rfl rfl rfl w_1033 dX11_later_9 (fun D2 => ?_)
    refine A_aload_n hC dX11_later_12 rfl ?_
    refine A_iload_n hC dX11_later_13 rfl ?_
    refine A_puti (kf := 31) hC kX11 (lM_0 hL) rfl (by decide) (by decide) rfl rfl rfl w_1034 dX11_later_14 (fun D3 => ?_)
    exact A_to (hj17 D3) (trivial)
def lX11_move_3 (r : Nat) (n : Nat) (a1 : Int32) (a2 : Int32) (a3 : Int32) (j31 : ADD → Option (Unit × ADD)) (L3 : Int32 → ADD → Option (Unit × ADD)) (x1 : Int32) (D2 : ADD) : Option (Unit × ADD) := (if a1 ≤ x1 then j31 D2 else aIn ((a1 * a2) + x1) n (aIn ((a1 * a3) + x1) n (aLet (aSI D2 r ((a1 * a3) + x1).toNatClampNeg (D2.1 r ((a1 * a2) + x1).toNatClampNeg)) (fun D3 => aLet (x1 + (1 : Int32)) (fun x2 => L3 x2 D3)))))
def fX11_move (r : Nat) (n : Nat) (a1 : Int32) (a2 : Int32) (a3 : Int32) (D : ADD) : Option (Unit × ADD) := aLet (fun (D1 : ADD) => some ((), D1)) (fun (j31 : ADD → Option (Unit × ADD)) => aLet (aFix aFuel (lX11_move_3 r n a1 a2 a3 j31) (fun _ _ => none)) (fun j3 => j3 (0 : Int32) D))
set_option maxHeartbeats 4000000 in
set_option maxRecDepth 100000 in
theorem mX11_move (l : Launch) (g : AGl) (r : Nat) (n : Nat) (hr : aAt g r (11, n, fun _ => none)) (a1 : Int32) (a2 : Int32) (a3 : Int32) (D : ADD) : AM aVv l yX11_move cX11_move 5 none 0 g [.ref (g.1 + r), .int a1, .int a2, .int a3] D (fX11_move r n a1 a2 a3 D) := by
  refine AM_of (lv0 := [some (.ref (g.1 + r)), some (.int a1), some (.int a2), some (.int a3), none]) (own := RX11) (by decide +kernel) rfl (Nat.le_of_ble_eq_true rfl) rfl (fun b hC => ?_)
  unfold fX11_move
  refine A_iconst (v := 0) hC dX11_move_0 (by decide) ?_
  refine A_istore (lv2 := [some (.ref (g.1 + r)), some (.int a1), some (.int a2), some (.int a3), some (.int (0 : Int32))]) hC dX11_move_1 (Nat.le_of_ble_eq_true rfl) rfl rfl ?_
  refine A_join (fun (J : ADD → Option (Unit × ADD)) => ∀ (D1 : ADD), AT aVv g b 31 [none, none, none, none, none] [] D1 (J D1)) (fun D1 => ?_) (fun j31 hj31 => ?_)
  · exact A_vret hC dX11_move_31
  refine A_join (fun (J : Int32 → ADD → Option (Unit × ADD)) => ∀ (x1 : Int32) (D2 : ADD), AT aVv g b 3 [some (.ref (g.1 + r)), some (.int a1), some (.int a2), some (.int a3), some (.int x1)] [] D2 (J x1 D2)) (aFix_all (fun (J : Int32 → ADD → Option (Unit × ADD)) => ∀ (x1 : Int32) (D2 : ADD), AT aVv g b 3 [some (.ref (g.1 + r)), some (.int a1), some (.int a2), some (.int a3), some (.int x1)] [] D2 (J x1 D2)) (fun _ _ => A_none) (fun L3 hL3 x1 D2 => ?_) _) (fun j3 hj3 => ?_)
  · unfold lX11_move_3
    refine A_iload hC dX11_move_3 rfl ?_
    refine A_iload_n hC dX11_move_5 rfl ?_
    refine A_icmp_ge (tgt := 31) hC dX11_move_6 (by decide) ?_ ?_
    · exact A_to (hj31 D2) (trivial)
    · refine A_aload_n hC dX11_move_9 rfl ?_
      refine A_iload_n hC dX11_move_10 rfl ?_
      refine A_iload_n hC dX11_move_11 rfl ?_
      refine A_imul hC dX11_move_12 ?_
      refine A_iload hC dX11_move_13 rfl ?_
      refine A_iadd hC dX11_move_15 ?_
      refine A_aload_n hC dX11_move_16 rfl ?_
      refine A_iload_n hC dX11_move_17 rfl ?_
      refine A_iload_n hC dX11_move_18 rfl ?_
      refine A_imul hC dX11_move_19 ?_
      refine A_iload hC dX11_move_20 rfl ?_
      refine A_iadd hC dX11_move_22 ?_
      refine A_iald hC hr dX11_move_23 ?_
      refine A_iast hC hr dX11_move_24 (fun D3 => ?_)
      refine A_iincL (z := (1 : Int32)) (lv2 := fun x2 => [some (.ref (g.1 + r)), some (.int a1), some (.int a2), some (.int a3), some (.int x2)]) hC dX11_move_25 rfl (by decide) (Nat.le_of_ble_eq_true rfl) rfl (fun _ => rfl) (fun x2 => ?_)
      refine A_goto (tgt := 3) hC dX11_move_28 (by decide) ?_
      exact A_to (hL3 x2 D3) (And.intro rfl (And.intro rfl (And.intro rfl (And.intro rfl (And.intro rfl (trivial))))))
  exact A_to (hj3 (0 : Int32) D) (And.intro rfl (And.intro rfl (And.intro rfl (And.intro rfl (And.intro rfl (trivial))))))
def fX11_see (D : ADD) : Option (Int32 × ADD) := aLet (fun (x1 : Int32) (D1 : ADD) => some (x1, D1)) (fun (j28 : Int32 → ADD → Option (Int32 × ADD)) => (if (D.1 0 24) ≤ (D.1 0 23) then j28 (-1 : Int32) D else aIn (D.1 0 23) 2000 (j28 ((aB (D.1 1 (D.1 0 23).toNatClampNeg)) &&& (255 : Int32)) D)))
set_option maxHeartbeats 4000000 in
set_option maxRecDepth 100000 in
theorem mX11_see (l : Launch) (g : AGl) (hL : aLM g) (D : ADD) : AM aVi l yX11_see cX11_see 1 (some .int) 0 g [.ref (g.1 + 0)] D (fX11_see D) := by
  refine AM_of (lv0 := [some (.ref (g.1 + 0))]) (own := RX11) (by decide +kernel) rfl (Nat.le_of_ble_eq_true rfl) rfl (fun b hC => ?_)
  unfold fX11_see
  refine A_aload_n hC dX11_see_0 rfl ?_
  refine A_geti (kf := 23) hC kX11 (lM_0 hL) rfl (by decide) (by decide) rfl w_1026 dX11_see_1 ?_
  refine A_aload_n hC dX11_see_4 rfl ?_
  refine A_geti (kf := 24) hC kX11 (lM_0 hL) rfl (by decide) (by decide) rfl w_1027 dX11_see_5 ?_
  refine A_join (fun (J : Int32 → ADD → Option (Int32 × ADD)) => ∀ (x1 : Int32) (D1 : ADD), AT aVi g b 28 [none] [.int x1] D1 (J x1 D1)) (fun x1 D1 => ?_) (fun j28 hj28 => ?_)
  · exact A_iret hC dX11_see_28
  refine A_icmp_ge (tgt := 27) hC dX11_see_8 (by decide) ?_ ?_
  · refine A_iconst (v := -1) hC dX11_see_27 (by decide) ?_
    exact A_to (hj28 (-1 : Int32) D) (trivial)
  · refine A_aload_n hC dX11_see_11 rfl ?_
    refine A_getr (kf := 1) hC kX11 (lM_0 hL) rfl (by decide) (by decide) rfl rfl w_1004 dX11_see_12 ?_
    refine A_aload_n hC dX11_see_15 rfl ?_
    refine A_geti (kf := 23) hC kX11 (lM_0 hL) rfl (by decide) (by decide) rfl w_1026 dX11_see_16 ?_
    refine A_bald hC (lM_1 hL) dX11_see_19 ?_
    refine A_sipush (v := 255) hC dX11_see_20 (by decide) ?_
    refine A_iand hC dX11_see_23 ?_
    refine A_goto (tgt := 28) hC dX11_see_24 (by decide) ?_
    exact A_to (hj28 ((aB (D.1 1 (D.1 0 23).toNatClampNeg)) &&& (255 : Int32)) D) (trivial)
def lX11_those_4 (j35 : Int32 → ADD → Option (Int32 × ADD)) (L4 : Int32 → Int32 → ADD → Option (Int32 × ADD)) (x2 : Int32) (x3 : Int32) (D2 : ADD) : Option (Int32 × ADD) := (if (D2.1 0 41) ≤ x3 then j35 x2 D2 else aIn x3 32 (aLet (fun (x4 : Int32) (D3 : ADD) => aLet (x2 + x4) (fun x5 => aLet (x3 + (1 : Int32)) (fun x6 => L4 x5 x6 D3))) (fun (j27 : Int32 → ADD → Option (Int32 × ADD)) => (if (aBz (D2.1 35 x3.toNatClampNeg)) = 0 then j27 (0 : Int32) D2 else j27 (1 : Int32) D2))))
def fX11_those (D : ADD) : Option (Int32 × ADD) := aLet (fun (x1 : Int32) (D1 : ADD) => some (x1, D1)) (fun (j35 : Int32 → ADD → Option (Int32 × ADD)) => aLet (aFix aFuel (lX11_those_4 j35) (fun _ _ _ => none)) (fun j4 => j4 (0 : Int32) (0 : Int32) D))
set_option maxHeartbeats 4000000 in
set_option maxRecDepth 100000 in
theorem mX11_those (l : Launch) (g : AGl) (hL : aLM g) (D : ADD) : AM aVi l yX11_those cX11_those 3 (some .int) 0 g [.ref (g.1 + 0)] D (fX11_those D) := by
  refine AM_of (lv0 := [some (.ref (g.1 + 0)), none, none]) (own := RX11) (by decide +kernel) rfl (Nat.le_of_ble_eq_true rfl) rfl (fun b hC => ?_)
  unfold fX11_those
  refine A_iconst (v := 0) hC dX11_those_0 (by decide) ?_
  refine A_istore_n (lv2 := [some (.ref (g.1 + 0)), some (.int (0 : Int32)), none]) hC dX11_those_1 (Nat.le_of_ble_eq_true rfl) rfl rfl ?_
  refine A_iconst (v := 0) hC dX11_those_2 (by decide) ?_
  refine A_istore_n (lv2 := [some (.ref (g.1 + 0)), some (.int (0 : Int32)), some (.int (0 : Int32))]) hC dX11_those_3 (Nat.le_of_ble_eq_true rfl) rfl rfl ?_
  refine A_join (fun (J : Int32 → ADD → Option (Int32 × ADD)) => ∀ (x1 : Int32) (D1 : ADD), AT aVi g b 35 [none, some (.int x1), none] [] D1 (J x1 D1)) (fun x1 D1 => ?_) (fun j35 hj35 => ?_)
  · refine A_iload_n hC dX11_those_35 rfl ?_
    exact A_iret hC dX11_those_36
  refine A_join (fun (J : Int32 → Int32 → ADD → Option (Int32 × ADD)) => ∀ (x2 : Int32) (x3 : Int32) (D2 : ADD), AT aVi g b 4 [some (.ref (g.1 + 0)), some (.int x2), some (.int x3)] [] D2 (J x2 x3 D2)) (aFix_all (fun (J : Int32 → Int32 → ADD → Option (Int32 × ADD)) => ∀ (x2 : Int32) (x3 : Int32) (D2 : ADD), AT aVi g b 4 [some (.ref (g.1 + 0)), some (.int x2), some (.int x3)] [] D2 (J x2 x3 D2)) (fun _ _ _ => A_none) (fun L4 hL4 x2 x3 D2 => ?_) _) (fun j4 hj4 => ?_)
  · unfold lX11_those_4
    refine A_iload_n hC dX11_those_4 rfl ?_
    refine A_aload_n hC dX11_those_5 rfl ?_
    refine A_geti (kf := 41) hC kX11 (lM_0 hL) rfl (by decide) (by decide) rfl w_1044 dX11_those_6 ?_
    refine A_icmp_ge (tgt := 35) hC dX11_those_9 (by decide) ?_ ?_
    · exact A_to (hj35 x2 D2) (And.intro rfl (trivial))
    · refine A_iload_n hC dX11_those_12 rfl ?_
      refine A_aload_n hC dX11_those_13 rfl ?_
      refine A_getr (kf := 46) hC kX11 (lM_0 hL) rfl (by decide) (by decide) rfl rfl w_1049 dX11_those_14 ?_
      refine A_iload_n hC dX11_those_17 rfl ?_
      refine A_zald hC (lM_35 hL) dX11_those_18 ?_
      refine A_join (fun (J : Int32 → ADD → Option (Int32 × ADD)) => ∀ (x4 : Int32) (D3 : ADD), AT aVi g b 27 [some (.ref (g.1 + 0)), none, some (.int x3)] [.int x4, .int x2] D3 (J x4 D3)) (fun x4 D3 => ?_) (fun j27 hj27 => ?_)
      · refine A_iadd hC dX11_those_27 ?_
        refine A_topi (fun x5 => ?_)
        refine A_istore_n (lv2 := [some (.ref (g.1 + 0)), some (.int x5), some (.int x3)]) hC dX11_those_28 (Nat.le_of_ble_eq_true rfl) rfl rfl ?_
        refine A_iincL (z := (1 : Int32)) (lv2 := fun x6 => [some (.ref (g.1 + 0)), some (.int x5), some (.int x6)]) hC dX11_those_29 rfl (by decide) (Nat.le_of_ble_eq_true rfl) rfl (fun _ => rfl) (fun x6 => ?_)
        refine A_goto (tgt := 4) hC dX11_those_32 (by decide) ?_
        exact A_to (hL4 x5 x6 D3) (And.intro rfl (And.intro rfl (And.intro rfl (trivial))))
      refine A_if_eq (tgt := 26) hC dX11_those_19 (by decide) ?_ ?_
      · refine A_iconst (v := 0) hC dX11_those_26 (by decide) ?_
        exact A_to (hj27 (0 : Int32) D2) (And.intro rfl (And.intro rfl (trivial)))
      · refine A_iconst (v := 1) hC dX11_those_22 (by decide) ?_
        refine A_goto (tgt := 27) hC dX11_those_23 (by decide) ?_
        exact A_to (hj27 (1 : Int32) D2) (And.intro rfl (And.intro rfl (trivial)))
  exact A_to (hj4 (0 : Int32) (0 : Int32) D) (And.intro rfl (And.intro rfl (And.intro rfl (trivial))))
def fX11_thousands (a1 : Int64) (D : ADD) : Option (Int32 × ADD) := aNZl (1000 : Int64) (aLet (a1 / (1000 : Int64)) (fun x1 => aLet (fun (x2 : Int32) (D1 : ADD) => some (x2, D1)) (fun (j22 : Int32 → ADD → Option (Int32 × ADD)) => (if (aCmp x1 (9999 : Int64)) ≤ 0 then j22 x1.toInt32 D else j22 (9999 : Int32) D))))
set_option maxHeartbeats 4000000 in
set_option maxRecDepth 100000 in
theorem mX11_thousands (l : Launch) (g : AGl) (a1 : Int64) (D : ADD) : AM aVi l yX11_thousands cX11_thousands 4 (some .int) 0 g [.long a1] D (fX11_thousands a1 D) := by
  refine AM_of (lv0 := [some (.long a1), none, none, none]) (own := RX11) (by decide +kernel) rfl (Nat.le_of_ble_eq_true rfl) rfl (fun b hC => ?_)
  unfold fX11_thousands
  refine A_lload_n hC dX11_thousands_0 rfl ?_
  refine A_ldc2 hC dX11_thousands_1 w_1445 ?_
  refine A_ldiv hC dX11_thousands_4 ?_
  refine A_topl (fun x1 => ?_)
  refine A_lstore_n (lv2 := [some (.long a1), none, some (.long x1), none]) hC dX11_thousands_5 (Nat.le_of_ble_eq_true rfl) rfl rfl ?_
  refine A_lload_n hC dX11_thousands_6 rfl ?_
  refine A_ldc2 hC dX11_thousands_7 w_1449 ?_
  refine A_lcmp hC dX11_thousands_10 ?_
  refine A_join (fun (J : Int32 → ADD → Option (Int32 × ADD)) => ∀ (x2 : Int32) (D1 : ADD), AT aVi g b 22 [none, none, none, none] [.int x2] D1 (J x2 D1)) (fun x2 D1 => ?_) (fun j22 hj22 => ?_)
  · exact A_iret hC dX11_thousands_22
  refine A_if_le (tgt := 20) hC dX11_thousands_11 (by decide) ?_ ?_
  · refine A_lload_n hC dX11_thousands_20 rfl ?_
    refine A_l2i hC dX11_thousands_21 ?_
    exact A_to (hj22 x1.toInt32 D) (trivial)
  · refine A_sipush (v := 9999) hC dX11_thousands_14 (by decide) ?_
    refine A_goto (tgt := 22) hC dX11_thousands_17 (by decide) ?_
    exact A_to (hj22 (9999 : Int32) D) (trivial)
def fX11_wrong (D : ADD) : Option (Int32 × ADD) := aLet (aSI D 0 29 (D.1 0 25)) (fun D1 => some ((0 : Int32), D1))
set_option maxHeartbeats 4000000 in
set_option maxRecDepth 100000 in
theorem mX11_wrong (l : Launch) (g : AGl) (hL : aLM g) (D : ADD) : AM aVi l yX11_wrong cX11_wrong 1 (some .boolean) 0 g [.ref (g.1 + 0)] D (fX11_wrong D) := by
  refine AM_of (lv0 := [some (.ref (g.1 + 0))]) (own := RX11) (by decide +kernel) rfl (Nat.le_of_ble_eq_true rfl) rfl (fun b hC => ?_)
  unfold fX11_wrong
  refine A_aload_n hC dX11_wrong_0 rfl ?_
  refine A_aload_n hC dX11_wrong_1 rfl ?_
  refine A_geti (kf := 25) hC kX11 (lM_0 hL) rfl (by decide) (by decide) rfl w_1028 dX11_wrong_2 ?_
  refine A_puti (kf := 29) hC kX11 (lM_0 hL) rfl (by decide) (by decide) rfl rfl rfl w_1032 dX11_wrong_5 (fun D1 => ?_)
  refine A_iconst (v := 0) hC dX11_wrong_8 (by decide) ?_
  exact A_zret hC dX11_wrong_9 (Or.inl rfl)
def fX1_change (a1 : Int32) (a2 : Int32) (a3 : Int32) (a4 : Int32) (a5 : Int32) (D : ADD) : Option (Int32 × ADD) := aLet (fun (D1 : ADD) => some ((0 : Int32), D1)) (fun (j32 : ADD → Option (Int32 × ADD)) => (if a3 < (-3000 : Int32) then j32 D else (if (1900 : Int32) < a4 then j32 D else (if a4 < a3 then j32 D else (if a5 < 0 then j32 D else (if a5 ≤ (2 : Int32) then aLet (aSI D 31 0 (a1 &&& (63 : Int32))) (fun D2 => aLet (aSI D2 31 1 (a2 &&& (31 : Int32))) (fun D3 => aLet (aSI D3 31 2 a3) (fun D4 => aLet (aSI D4 31 3 a4) (fun D5 => aLet (aSI D5 31 4 a5) (fun D6 => some ((1 : Int32), D6)))))) else j32 D))))))
set_option maxHeartbeats 4000000 in
set_option maxRecDepth 100000 in
theorem mX1_change (l : Launch) (g : AGl) (hL : aLX g) (a1 : Int32) (a2 : Int32) (a3 : Int32) (a4 : Int32) (a5 : Int32) (D : ADD) : AM aVi l yX1_change cX1_change 6 (some .boolean) 0 g [.ref (g.1 + 31), .int a1, .int a2, .int a3, .int a4, .int a5] D (fX1_change a1 a2 a3 a4 a5 D) := by
  refine AM_of (lv0 := [some (.ref (g.1 + 31)), some (.int a1), some (.int a2), some (.int a3), some (.int a4), some (.int a5)]) (own := RX1) (by decide +kernel) rfl (Nat.le_of_ble_eq_true rfl) rfl (fun b hC => ?_)
  unfold fX1_change
  refine A_iload_n hC dX1_change_0 rfl ?_
  refine A_sipush (v := -3000) hC dX1_change_1 (by decide) ?_
  refine A_join (fun (J : ADD → Option (Int32 × ADD)) => ∀ (D1 : ADD), AT aVi g b 32 [none, none, none, none, none, none] [] D1 (J D1)) (fun D1 => ?_) (fun j32 hj32 => ?_)
  · refine A_iconst (v := 0) hC dX1_change_32 (by decide) ?_
    exact A_zret hC dX1_change_33 (Or.inl rfl)
  refine A_icmp_lt (tgt := 32) hC dX1_change_4 (by decide) ?_ ?_
  · exact A_to (hj32 D) (trivial)
  · refine A_iload hC dX1_change_7 rfl ?_
    refine A_sipush (v := 1900) hC dX1_change_9 (by decide) ?_
    refine A_icmp_gt (tgt := 32) hC dX1_change_12 (by decide) ?_ ?_
    · exact A_to (hj32 D) (trivial)
    · refine A_iload_n hC dX1_change_15 rfl ?_
      refine A_iload hC dX1_change_16 rfl ?_
      refine A_icmp_gt (tgt := 32) hC dX1_change_18 (by decide) ?_ ?_
      · exact A_to (hj32 D) (trivial)
      · refine A_iload hC dX1_change_21 rfl ?_
        refine A_if_lt (tgt := 32) hC dX1_change_23 (by decide) ?_ ?_
        · exact A_to (hj32 D) (trivial)
        · refine A_iload hC dX1_change_26 rfl ?_
          refine A_iconst (v := 2) hC dX1_change_28 (by decide) ?_
          refine A_icmp_le (tgt := 34) hC dX1_change_29 (by decide) ?_ ?_
          · refine A_aload_n hC dX1_change_34 rfl ?_
            refine A_iload_n hC dX1_change_35 rfl ?_
            refine A_bipush (v := 63) hC dX1_change_36 (by decide) ?_
            refine A_iand hC dX1_change_38 ?_
            refine A_puti (kf := 0) hC kX1 (lX_31 hL) rfl (by decide) (by decide) rfl rfl rfl w_146 dX1_change_39 (fun D2 => ?_)
            refine A_aload_n hC dX1_change_42 rfl ?_
            refine A_iload_n hC dX1_change_43 rfl ?_
            refine A_bipush (v := 31) hC dX1_change_44 (by decide) ?_
            refine A_iand hC dX1_change_46 ?_
            refine A_puti (kf := 1) hC kX1 (lX_31 hL) rfl (by decide) (by decide) rfl rfl rfl w_147 dX1_change_47 (fun D3 => ?_)
            refine A_aload_n hC dX1_change_50 rfl ?_
            refine A_iload_n hC dX1_change_51 rfl ?_
            refine A_puti (kf := 2) hC kX1 (lX_31 hL) rfl (by decide) (by decide) rfl rfl rfl w_148 dX1_change_52 (fun D4 => ?_)
            refine A_aload_n hC dX1_change_55 rfl ?_
            refine A_iload hC dX1_change_56 rfl ?_
            refine A_puti (kf := 3) hC kX1 (lX_31 hL) rfl (by decide) (by decide) rfl rfl rfl w_149 dX1_change_58 (fun D5 => ?_)
            refine A_aload_n hC dX1_change_61 rfl ?_
            refine A_iload hC dX1_change_62 rfl ?_
            refine A_puti (kf := 4) hC kX1 (lX_31 hL) rfl (by decide) (by decide) rfl rfl rfl w_150 dX1_change_64 (fun D6 => ?_)
            refine A_iconst (v := 1) hC dX1_change_67 (by decide) ?_
            exact A_zret hC dX1_change_68 (Or.inr rfl)
          · exact A_to (hj32 D) (trivial)
def fX1_copyFrom (o : Nat) (p : Nat) (D : ADD) : Option (Unit × ADD) := aLet (aSI D o 0 (D.1 p 0)) (fun D1 => aLet (aSI D1 o 1 (D1.1 p 1)) (fun D2 => aLet (aSI D2 o 2 (D2.1 p 2)) (fun D3 => aLet (aSI D3 o 3 (D3.1 p 3)) (fun D4 => aLet (aSI D4 o 4 (D4.1 p 4)) (fun D5 => some ((), D5))))))
set_option maxHeartbeats 4000000 in
set_option maxRecDepth 100000 in
theorem mX1_copyFrom (l : Launch) (g : AGl) (o : Nat) (p : Nat) (hO : aLC g o) (hP : aLC g p) (D : ADD) : AM aVv l yX1_copyFrom cX1_copyFrom 2 none 0 g [.ref (g.1 + o), .ref (g.1 + p)] D (fX1_copyFrom o p D) := by
  refine AM_of (lv0 := [some (.ref (g.1 + o)), some (.ref (g.1 + p))]) (own := RX1) (by decide +kernel) rfl (Nat.le_of_ble_eq_true rfl) rfl (fun b hC => ?_)
  unfold fX1_copyFrom
  refine A_aload_n hC dX1_copyFrom_0 rfl ?_
  refine A_aload_n hC dX1_copyFrom_1 rfl ?_
  refine A_geti (kf := 0) hC kX1 hP rfl (by decide) (by decide) rfl w_146 dX1_copyFrom_2 ?_
  refine A_puti (kf := 0) hC kX1 hO rfl (by decide) (by decide) rfl rfl rfl w_146 dX1_copyFrom_5 (fun D1 => ?_)
  refine A_aload_n hC dX1_copyFrom_8 rfl ?_
  refine A_aload_n hC dX1_copyFrom_9 rfl ?_
  refine A_geti (kf := 1) hC kX1 hP rfl (by decide) (by decide) rfl w_147 dX1_copyFrom_10 ?_
  refine A_puti (kf := 1) hC kX1 hO rfl (by decide) (by decide) rfl rfl rfl w_147 dX1_copyFrom_13 (fun D2 => ?_)
  refine A_aload_n hC dX1_copyFrom_16 rfl ?_
  refine A_aload_n hC dX1_copyFrom_17 rfl ?_
  refine A_geti (kf := 2) hC kX1 hP rfl (by decide) (by decide) rfl w_148 dX1_copyFrom_18 ?_
  refine A_puti (kf := 2) hC kX1 hO rfl (by decide) (by decide) rfl rfl rfl w_148 dX1_copyFrom_21 (fun D3 => ?_)
  refine A_aload_n hC dX1_copyFrom_24 rfl ?_
  refine A_aload_n hC dX1_copyFrom_25 rfl ?_
  refine A_geti (kf := 3) hC kX1 hP rfl (by decide) (by decide) rfl w_149 dX1_copyFrom_26 ?_
  refine A_puti (kf := 3) hC kX1 hO rfl (by decide) (by decide) rfl rfl rfl w_149 dX1_copyFrom_29 (fun D4 => ?_)
  refine A_aload_n hC dX1_copyFrom_32 rfl ?_
  refine A_aload_n hC dX1_copyFrom_33 rfl ?_
  refine A_geti (kf := 4) hC kX1 hP rfl (by decide) (by decide) rfl w_150 dX1_copyFrom_34 ?_
  refine A_puti (kf := 4) hC kX1 hO rfl (by decide) (by decide) rfl rfl rfl w_150 dX1_copyFrom_37 (fun D5 => ?_)
  exact A_vret hC dX1_copyFrom_40
def fX1_takesMark (a1 : Int32) (D : ADD) : Option (Int32 × ADD) := aLet (fun (x1 : Int32) (D1 : ADD) => aZ x1 (some (x1, D1))) (fun (j37 : Int32 → ADD → Option (Int32 × ADD)) => aLet (fun (D2 : ADD) => j37 (1 : Int32) D2) (fun (j32 : ADD → Option (Int32 × ADD)) => (if (D.1 31 4) = 0 then j32 D else aLet (fun (x2 : Int32) (D3 : ADD) => aLet (fun (x3 : Int32) (D4 : ADD) => (if x2 = x3 then j32 D4 else j37 (0 : Int32) D4)) (fun (j29 : Int32 → ADD → Option (Int32 × ADD)) => (if a1 ≤ 0 then j29 (0 : Int32) D3 else j29 (1 : Int32) D3))) (fun (j20 : Int32 → ADD → Option (Int32 × ADD)) => (if (D.1 31 4) = (1 : Int32) then j20 (1 : Int32) D else j20 (0 : Int32) D)))))
set_option maxHeartbeats 4000000 in
set_option maxRecDepth 100000 in
theorem mX1_takesMark (l : Launch) (g : AGl) (hL : aLX g) (a1 : Int32) (D : ADD) : AM aVi l yX1_takesMark cX1_takesMark 2 (some .boolean) 0 g [.ref (g.1 + 31), .int a1] D (fX1_takesMark a1 D) := by
  refine AM_of (lv0 := [some (.ref (g.1 + 31)), some (.int a1)]) (own := RX1) (by decide +kernel) rfl (Nat.le_of_ble_eq_true rfl) rfl (fun b hC => ?_)
  unfold fX1_takesMark
  refine A_aload_n hC dX1_takesMark_0 rfl ?_
  refine A_geti (kf := 4) hC kX1 (lX_31 hL) rfl (by decide) (by decide) rfl w_150 dX1_takesMark_1 ?_
  refine A_join (fun (J : Int32 → ADD → Option (Int32 × ADD)) => ∀ (x1 : Int32) (D1 : ADD), AT aVi g b 37 [none, none] [.int x1] D1 (J x1 D1)) (fun x1 D1 => ?_) (fun j37 hj37 => ?_)
  · exact A_zretc hC dX1_takesMark_37
  refine A_join (fun (J : ADD → Option (Int32 × ADD)) => ∀ (D2 : ADD), AT aVi g b 32 [none, none] [] D2 (J D2)) (fun D2 => ?_) (fun j32 hj32 => ?_)
  · refine A_iconst (v := 1) hC dX1_takesMark_32 (by decide) ?_
    refine A_goto (tgt := 37) hC dX1_takesMark_33 (by decide) ?_
    exact A_to (hj37 (1 : Int32) D2) (trivial)
  refine A_if_eq (tgt := 32) hC dX1_takesMark_4 (by decide) ?_ ?_
  · exact A_to (hj32 D) (trivial)
  · refine A_aload_n hC dX1_takesMark_7 rfl ?_
    refine A_geti (kf := 4) hC kX1 (lX_31 hL) rfl (by decide) (by decide) rfl w_150 dX1_takesMark_8 ?_
    refine A_iconst (v := 1) hC dX1_takesMark_11 (by decide) ?_
    refine A_join (fun (J : Int32 → ADD → Option (Int32 × ADD)) => ∀ (x2 : Int32) (D3 : ADD), AT aVi g b 20 [none, some (.int a1)] [.int x2] D3 (J x2 D3)) (fun x2 D3 => ?_) (fun j20 hj20 => ?_)
    · refine A_iload_n hC dX1_takesMark_20 rfl ?_
      refine A_join (fun (J : Int32 → ADD → Option (Int32 × ADD)) => ∀ (x3 : Int32) (D4 : ADD), AT aVi g b 29 [none, none] [.int x3, .int x2] D4 (J x3 D4)) (fun x3 D4 => ?_) (fun j29 hj29 => ?_)
      · refine A_icmp_ne (tgt := 36) hC dX1_takesMark_29 (by decide) ?_ ?_
        · refine A_iconst (v := 0) hC dX1_takesMark_36 (by decide) ?_
          exact A_to (hj37 (0 : Int32) D4) (trivial)
        · exact A_to (hj32 D4) (trivial)
      refine A_if_le (tgt := 28) hC dX1_takesMark_21 (by decide) ?_ ?_
      · refine A_iconst (v := 0) hC dX1_takesMark_28 (by decide) ?_
        exact A_to (hj29 (0 : Int32) D3) (trivial)
      · refine A_iconst (v := 1) hC dX1_takesMark_24 (by decide) ?_
        refine A_goto (tgt := 29) hC dX1_takesMark_25 (by decide) ?_
        exact A_to (hj29 (1 : Int32) D3) (trivial)
    refine A_icmp_ne (tgt := 19) hC dX1_takesMark_12 (by decide) ?_ ?_
    · refine A_iconst (v := 0) hC dX1_takesMark_19 (by decide) ?_
      exact A_to (hj20 (0 : Int32) D) (And.intro rfl (trivial))
    · refine A_iconst (v := 1) hC dX1_takesMark_15 (by decide) ?_
      refine A_goto (tgt := 20) hC dX1_takesMark_16 (by decide) ?_
      exact A_to (hj20 (1 : Int32) D) (And.intro rfl (trivial))
def fX2_times (a1 : Int32) (a2 : Int32) (a3 : Int32) (a4 : Int32) (D : ADD) : Option (Int32 × ADD) := (if a3 ≤ 0 then aLet (fun (x1 : Int32) (D1 : ADD) => (if (1 : Int32) ≤ x1 then aLet (a1 - (x1 * a4)) (fun x2 => aLet (((x1 + (1 : Int32)) * a4) - a2) (fun x3 => aLet (fun (x4 : Int32) (D2 : ADD) => some (x4, D2)) (fun (j66 : Int32 → ADD → Option (Int32 × ADD)) => aLet (fun (D3 : ADD) => j66 x1 D3) (fun (j57 : ADD → Option (Int32 × ADD)) => (if x2 ≤ x3 then j57 D1 else (if x2 = 0 then j57 D1 else j66 (x1 + (1 : Int32)) D1)))))) else some ((1 : Int32), D1))) (fun (j17 : Int32 → ADD → Option (Int32 × ADD)) => (if a4 ≤ 0 then j17 (0 : Int32) D else aNZ a4 (j17 (a1 / a4) D))) else some (a3, D))
set_option maxHeartbeats 4000000 in
set_option maxRecDepth 100000 in
theorem mX2_times (l : Launch) (g : AGl) (a1 : Int32) (a2 : Int32) (a3 : Int32) (a4 : Int32) (D : ADD) : AM aVi l yX2_times cX2_times 7 (some .int) 0 g [.int a1, .int a2, .int a3, .int a4] D (fX2_times a1 a2 a3 a4 D) := by
  refine AM_of (lv0 := [some (.int a1), some (.int a2), some (.int a3), some (.int a4), none, none, none]) (own := RX2) (by decide +kernel) rfl (Nat.le_of_ble_eq_true rfl) rfl (fun b hC => ?_)
  unfold fX2_times
  refine A_iload_n hC dX2_times_0 rfl ?_
  refine A_if_le (tgt := 6) hC dX2_times_1 (by decide) ?_ ?_
  · refine A_iload_n hC dX2_times_6 rfl ?_
    refine A_join (fun (J : Int32 → ADD → Option (Int32 × ADD)) => ∀ (x1 : Int32) (D1 : ADD), AT aVi g b 17 [some (.int a1), some (.int a2), none, some (.int a4), none, none, none] [.int x1] D1 (J x1 D1)) (fun x1 D1 => ?_) (fun j17 hj17 => ?_)
    · refine A_istore (lv2 := [some (.int a1), some (.int a2), none, some (.int a4), some (.int x1), none, none]) hC dX2_times_17 (Nat.le_of_ble_eq_true rfl) rfl rfl ?_
      refine A_iload hC dX2_times_19 rfl ?_
      refine A_iconst (v := 1) hC dX2_times_21 (by decide) ?_
      refine A_icmp_ge (tgt := 27) hC dX2_times_22 (by decide) ?_ ?_
      · refine A_iload_n hC dX2_times_27 rfl ?_
        refine A_iload hC dX2_times_28 rfl ?_
        refine A_iload_n hC dX2_times_30 rfl ?_
        refine A_imul hC dX2_times_31 ?_
        refine A_isub hC dX2_times_32 ?_
        refine A_topi (fun x2 => ?_)
        refine A_istore (lv2 := [some (.int a1), some (.int a2), none, some (.int a4), some (.int x1), some (.int x2), none]) hC dX2_times_33 (Nat.le_of_ble_eq_true rfl) rfl rfl ?_
        refine A_iload hC dX2_times_35 rfl ?_
        refine A_iconst (v := 1) hC dX2_times_37 (by decide) ?_
        refine A_iadd hC dX2_times_38 ?_
        refine A_iload_n hC dX2_times_39 rfl ?_
        refine A_imul hC dX2_times_40 ?_
        refine A_iload_n hC dX2_times_41 rfl ?_
        refine A_isub hC dX2_times_42 ?_
        refine A_topi (fun x3 => ?_)
        refine A_istore (lv2 := [some (.int a1), some (.int a2), none, some (.int a4), some (.int x1), some (.int x2), some (.int x3)]) hC dX2_times_43 (Nat.le_of_ble_eq_true rfl) rfl rfl ?_
        refine A_iload hC dX2_times_45 rfl ?_
        refine A_iload hC dX2_times_47 rfl ?_
        refine A_join (fun (J : Int32 → ADD → Option (Int32 × ADD)) => ∀ (x4 : Int32) (D2 : ADD), AT aVi g b 66 [none, none, none, none, none, none, none] [.int x4] D2 (J x4 D2)) (fun x4 D2 => ?_) (fun j66 hj66 => ?_)
        · exact A_iret hC dX2_times_66
        refine A_join (fun (J : ADD → Option (Int32 × ADD)) => ∀ (D3 : ADD), AT aVi g b 57 [none, none, none, none, some (.int x1), none, none] [] D3 (J D3)) (fun D3 => ?_) (fun j57 hj57 => ?_)
        · refine A_iload hC dX2_times_57 rfl ?_
          refine A_goto (tgt := 66) hC dX2_times_59 (by decide) ?_
          exact A_to (hj66 x1 D3) (trivial)
        refine A_icmp_le (tgt := 57) hC dX2_times_49 (by decide) ?_ ?_
        · exact A_to (hj57 D1) (And.intro rfl (trivial))
        · refine A_iload hC dX2_times_52 rfl ?_
          refine A_if_ne (tgt := 62) hC dX2_times_54 (by decide) ?_ ?_
          · refine A_iload hC dX2_times_62 rfl ?_
            refine A_iconst (v := 1) hC dX2_times_64 (by decide) ?_
            refine A_iadd hC dX2_times_65 ?_
            exact A_to (hj66 (x1 + (1 : Int32)) D1) (trivial)
          · exact A_to (hj57 D1) (And.intro rfl (trivial))
      · refine A_iconst (v := 1) hC dX2_times_25 (by decide) ?_
        exact A_iret hC dX2_times_26
    refine A_if_le (tgt := 16) hC dX2_times_7 (by decide) ?_ ?_
    · refine A_iconst (v := 0) hC dX2_times_16 (by decide) ?_
      exact A_to (hj17 (0 : Int32) D) (And.intro rfl (And.intro rfl (And.intro rfl (trivial))))
    · refine A_iload_n hC dX2_times_10 rfl ?_
      refine A_iload_n hC dX2_times_11 rfl ?_
      refine A_idiv hC dX2_times_12 ?_
      refine A_goto (tgt := 17) hC dX2_times_13 (by decide) ?_
      exact A_to (hj17 (a1 / a4) D) (And.intro rfl (And.intro rfl (And.intro rfl (trivial))))
  · refine A_iload_n hC dX2_times_4 rfl ?_
    exact A_iret hC dX2_times_5
def lX3_begin_11 (j30 : ADD → Option (Unit × ADD)) (L11 : Int32 → ADD → Option (Unit × ADD)) (x1 : Int32) (D3 : ADD) : Option (Unit × ADD) := (if (32 : Int32) < x1 then j30 D3 else aIn x1 33 (aLet (aSL D3 56 x1.toNatClampNeg (0 : Int64)) (fun D4 => aLet (x1 + (1 : Int32)) (fun x2 => L11 x2 D4))))
def fX3_begin (D : ADD) : Option (Unit × ADD) := aIn (0 : Int32) 33 (aLet (aSL D 56 (0 : Int32).toNatClampNeg (1000000000 : Int64)) (fun D1 => aLet (fun (D2 : ADD) => some ((), D2)) (fun (j30 : ADD → Option (Unit × ADD)) => aLet (aFix aFuel (lX3_begin_11 j30) (fun _ _ => none)) (fun j11 => j11 (1 : Int32) D1))))
set_option maxHeartbeats 4000000 in
set_option maxRecDepth 100000 in
theorem mX3_begin (l : Launch) (g : AGl) (hL : aLX g) (D : ADD) : AM aVv l yX3_begin cX3_begin 2 none 0 g [.ref (g.1 + 55)] D (fX3_begin D) := by
  refine AM_of (lv0 := [some (.ref (g.1 + 55)), none]) (own := RX3) (by decide +kernel) rfl (Nat.le_of_ble_eq_true rfl) rfl (fun b hC => ?_)
  unfold fX3_begin
  refine A_aload_n hC dX3_begin_0 rfl ?_
  refine A_getr (kf := 0) hC kX3 (lX_55 hL) rfl (by decide) (by decide) rfl rfl w_300 dX3_begin_1 ?_
  refine A_iconst (v := 0) hC dX3_begin_4 (by decide) ?_
  refine A_ldc2 hC dX3_begin_5 w_800 ?_
  refine A_last hC (lX_56 hL) dX3_begin_8 (fun D1 => ?_)
  refine A_iconst (v := 1) hC dX3_begin_9 (by decide) ?_
  refine A_istore_n (lv2 := [some (.ref (g.1 + 55)), some (.int (1 : Int32))]) hC dX3_begin_10 (Nat.le_of_ble_eq_true rfl) rfl rfl ?_
  refine A_join (fun (J : ADD → Option (Unit × ADD)) => ∀ (D2 : ADD), AT aVv g b 30 [none, none] [] D2 (J D2)) (fun D2 => ?_) (fun j30 hj30 => ?_)
  · exact A_vret hC dX3_begin_30
  refine A_join (fun (J : Int32 → ADD → Option (Unit × ADD)) => ∀ (x1 : Int32) (D3 : ADD), AT aVv g b 11 [some (.ref (g.1 + 55)), some (.int x1)] [] D3 (J x1 D3)) (aFix_all (fun (J : Int32 → ADD → Option (Unit × ADD)) => ∀ (x1 : Int32) (D3 : ADD), AT aVv g b 11 [some (.ref (g.1 + 55)), some (.int x1)] [] D3 (J x1 D3)) (fun _ _ => A_none) (fun L11 hL11 x1 D3 => ?_) _) (fun j11 hj11 => ?_)
  · unfold lX3_begin_11
    refine A_iload_n hC dX3_begin_11 rfl ?_
    refine A_bipush (v := 32) hC dX3_begin_12 (by decide) ?_
    refine A_icmp_gt (tgt := 30) hC dX3_begin_14 (by decide) ?_ ?_
    · exact A_to (hj30 D3) (trivial)
    · refine A_aload_n hC dX3_begin_17 rfl ?_
      refine A_getr (kf := 0) hC kX3 (lX_55 hL) rfl (by decide) (by decide) rfl rfl w_300 dX3_begin_18 ?_
      refine A_iload_n hC dX3_begin_21 rfl ?_
      refine A_lconst (v := 0) hC dX3_begin_22 (by decide) ?_
      refine A_last hC (lX_56 hL) dX3_begin_23 (fun D4 => ?_)
      refine A_iincL (z := (1 : Int32)) (lv2 := fun x2 => [some (.ref (g.1 + 55)), some (.int x2)]) hC dX3_begin_24 rfl (by decide) (Nat.le_of_ble_eq_true rfl) rfl (fun _ => rfl) (fun x2 => ?_)
      refine A_goto (tgt := 11) hC dX3_begin_27 (by decide) ?_
      exact A_to (hL11 x2 D4) (And.intro rfl (And.intro rfl (trivial)))
  exact A_to (hj11 (1 : Int32) D1) (And.intro rfl (And.intro rfl (trivial)))
def lX3_draw_9 (a1 : Int32) (a2 : Int32) (j51 : ADD → Option (Unit × ADD)) (L9 : Int32 → ADD → Option (Unit × ADD)) (x1 : Int32) (D3 : ADD) : Option (Unit × ADD) := (if x1 ≤ 0 then j51 D3 else aIn x1 33 (aIn (x1 - (1 : Int32)) 33 (aNZl a2.toInt64 (aIn x1 33 (aLet (aSL D3 56 x1.toNatClampNeg ((((D3.2 56 x1.toNatClampNeg) * (a2 - a1).toInt64) + ((D3.2 56 (x1 - (1 : Int32)).toNatClampNeg) * a1.toInt64)) / a2.toInt64)) (fun D4 => aLet (x1 + (-1 : Int32)) (fun x2 => L9 x2 D4)))))))
def fX3_draw (a1 : Int32) (a2 : Int32) (D : ADD) : Option (Unit × ADD) := (if (1 : Int32) ≤ a2 then aLet (fun (D1 : ADD) => aIn (0 : Int32) 33 (aNZl a2.toInt64 (aIn (0 : Int32) 33 (aLet (aSL D1 56 (0 : Int32).toNatClampNeg (((D1.2 56 (0 : Int32).toNatClampNeg) * (a2 - a1).toInt64) / a2.toInt64)) (fun D2 => some ((), D2)))))) (fun (j51 : ADD → Option (Unit × ADD)) => aLet (aFix aFuel (lX3_draw_9 a1 a2 j51) (fun _ _ => none)) (fun j9 => j9 (32 : Int32) D)) else some ((), D))
set_option maxHeartbeats 4000000 in
set_option maxRecDepth 100000 in
theorem mX3_draw (l : Launch) (g : AGl) (hL : aLX g) (a1 : Int32) (a2 : Int32) (D : ADD) : AM aVv l yX3_draw cX3_draw 4 none 0 g [.ref (g.1 + 55), .int a1, .int a2] D (fX3_draw a1 a2 D) := by
  refine AM_of (lv0 := [some (.ref (g.1 + 55)), some (.int a1), some (.int a2), none]) (own := RX3) (by decide +kernel) rfl (Nat.le_of_ble_eq_true rfl) rfl (fun b hC => ?_)
  unfold fX3_draw
  refine A_iload_n hC dX3_draw_0 rfl ?_
  refine A_iconst (v := 1) hC dX3_draw_1 (by decide) ?_
  refine A_icmp_ge (tgt := 6) hC dX3_draw_2 (by decide) ?_ ?_
  · refine A_bipush (v := 32) hC dX3_draw_6 (by decide) ?_
    refine A_istore_n (lv2 := [some (.ref (g.1 + 55)), some (.int a1), some (.int a2), some (.int (32 : Int32))]) hC dX3_draw_8 (Nat.le_of_ble_eq_true rfl) rfl rfl ?_
    refine A_join (fun (J : ADD → Option (Unit × ADD)) => ∀ (D1 : ADD), AT aVv g b 51 [some (.ref (g.1 + 55)), some (.int a1), some (.int a2), none] [] D1 (J D1)) (fun D1 => ?_) (fun j51 hj51 => ?_)
    · refine A_aload_n hC dX3_draw_51 rfl ?_
      refine A_getr (kf := 0) hC kX3 (lX_55 hL) rfl (by decide) (by decide) rfl rfl w_300 dX3_draw_52 ?_
      refine A_iconst (v := 0) hC dX3_draw_55 (by decide) ?_
      refine A_aload_n hC dX3_draw_56 rfl ?_
      refine A_getr (kf := 0) hC kX3 (lX_55 hL) rfl (by decide) (by decide) rfl rfl w_300 dX3_draw_57 ?_
      refine A_iconst (v := 0) hC dX3_draw_60 (by decide) ?_
      refine A_lald hC (lX_56 hL) dX3_draw_61 ?_
      refine A_iload_n hC dX3_draw_62 rfl ?_
      refine A_iload_n hC dX3_draw_63 rfl ?_
      refine A_isub hC dX3_draw_64 ?_
      refine A_i2l hC dX3_draw_65 ?_
      refine A_lmul hC dX3_draw_66 ?_
      refine A_iload_n hC dX3_draw_67 rfl ?_
      refine A_i2l hC dX3_draw_68 ?_
      refine A_ldiv hC dX3_draw_69 ?_
      refine A_last hC (lX_56 hL) dX3_draw_70 (fun D2 => ?_)
      exact A_vret hC dX3_draw_71
    refine A_join (fun (J : Int32 → ADD → Option (Unit × ADD)) => ∀ (x1 : Int32) (D3 : ADD), AT aVv g b 9 [some (.ref (g.1 + 55)), some (.int a1), some (.int a2), some (.int x1)] [] D3 (J x1 D3)) (aFix_all (fun (J : Int32 → ADD → Option (Unit × ADD)) => ∀ (x1 : Int32) (D3 : ADD), AT aVv g b 9 [some (.ref (g.1 + 55)), some (.int a1), some (.int a2), some (.int x1)] [] D3 (J x1 D3)) (fun _ _ => A_none) (fun L9 hL9 x1 D3 => ?_) _) (fun j9 hj9 => ?_)
    · unfold lX3_draw_9
      refine A_iload_n hC dX3_draw_9 rfl ?_
      refine A_if_le (tgt := 51) hC dX3_draw_10 (by decide) ?_ ?_
      · exact A_to (hj51 D3) (And.intro rfl (And.intro rfl (And.intro rfl (trivial))))
      · refine A_aload_n hC dX3_draw_13 rfl ?_
        refine A_getr (kf := 0) hC kX3 (lX_55 hL) rfl (by decide) (by decide) rfl rfl w_300 dX3_draw_14 ?_
        refine A_iload_n hC dX3_draw_17 rfl ?_
        refine A_aload_n hC dX3_draw_18 rfl ?_
        refine A_getr (kf := 0) hC kX3 (lX_55 hL) rfl (by decide) (by decide) rfl rfl w_300 dX3_draw_19 ?_
        refine A_iload_n hC dX3_draw_22 rfl ?_
        refine A_lald hC (lX_56 hL) dX3_draw_23 ?_
        refine A_iload_n hC dX3_draw_24 rfl ?_
        refine A_iload_n hC dX3_draw_25 rfl ?_
        refine A_isub hC dX3_draw_26 ?_
        refine A_i2l hC dX3_draw_27 ?_
        refine A_lmul hC dX3_draw_28 ?_
        refine A_aload_n hC dX3_draw_29 rfl ?_
        refine A_getr (kf := 0) hC kX3 (lX_55 hL) rfl (by decide) (by decide) rfl rfl w_300 dX3_draw_30 ?_
        refine A_iload_n hC dX3_draw_33 rfl ?_
        refine A_iconst (v := 1) hC dX3_draw_34 (by decide) ?_
        refine A_isub hC dX3_draw_35 ?_
        refine A_lald hC (lX_56 hL) dX3_draw_36 ?_
        refine A_iload_n hC dX3_draw_37 rfl ?_
        refine A_i2l hC dX3_draw_38 ?_
        refine A_lmul hC dX3_draw_39 ?_
        refine A_ladd hC dX3_draw_40 ?_
        refine A_iload_n hC dX3_draw_41 rfl ?_
        refine A_i2l hC dX3_draw_42 ?_
        refine A_ldiv hC dX3_draw_43 ?_
        refine A_last hC (lX_56 hL) dX3_draw_44 (fun D4 => ?_)
        refine A_iincL (z := (-1 : Int32)) (lv2 := fun x2 => [some (.ref (g.1 + 55)), some (.int a1), some (.int a2), some (.int x2)]) hC dX3_draw_45 rfl (by decide) (Nat.le_of_ble_eq_true rfl) rfl (fun _ => rfl) (fun x2 => ?_)
        refine A_goto (tgt := 9) hC dX3_draw_48 (by decide) ?_
        exact A_to (hL9 x2 D4) (And.intro rfl (And.intro rfl (And.intro rfl (And.intro rfl (trivial)))))
    exact A_to (hj9 (32 : Int32) D) (And.intro rfl (And.intro rfl (And.intro rfl (And.intro rfl (trivial)))))
  · exact A_vret hC dX3_draw_5
