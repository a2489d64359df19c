def lX4_firstIn_2 (a1 : Int64) (j26 : ADD → Option (Int32 × ADD)) (L2 : Int32 → ADD → Option (Int32 × ADD)) (x1 : Int32) (D2 : ADD) : Option (Int32 × ADD) := (if (32 : Int32) ≤ x1 then j26 D2 else (if (aCmp ((a1 >>> (x1.toInt64 &&& 63)) &&& (1 : Int64)) (1 : Int64)) = 0 then some (x1, D2) else aLet (x1 + (1 : Int32)) (fun x2 => L2 x2 D2)))
def fX4_firstIn (a1 : Int64) (D : ADD) : Option (Int32 × ADD) := aLet (fun (D1 : ADD) => some ((-1 : Int32), D1)) (fun (j26 : ADD → Option (Int32 × ADD)) => aLet (aFix aFuel (lX4_firstIn_2 a1 j26) (fun _ _ => none)) (fun j2 => j2 (0 : Int32) D))
set_option maxHeartbeats 4000000 in
set_option maxRecDepth 100000 in
theorem mX4_firstIn (l : Launch) (g : AGl) (a1 : Int64) (D : ADD) : AM aVi l yX4_firstIn cX4_firstIn 3 (some .int) 0 g [.long a1] D (fX4_firstIn a1 D) := by
  refine AM_of (lv0 := [some (.long a1), none, none]) (own := RX4) (by decide +kernel) rfl (Nat.le_of_ble_eq_true rfl) rfl (fun b hC => ?_)
  unfold fX4_firstIn
  refine A_iconst (v := 0) hC dX4_firstIn_0 (by decide) ?_
  refine A_istore_n (lv2 := [some (.long a1), none, some (.int (0 : Int32))]) hC dX4_firstIn_1 (Nat.le_of_ble_eq_true rfl) rfl rfl ?_
  refine A_join (fun (J : ADD → Option (Int32 × ADD)) => ∀ (D1 : ADD), AT aVi g b 26 [none, none, none] [] D1 (J D1)) (fun D1 => ?_) (fun j26 hj26 => ?_)
  · refine A_iconst (v := -1) hC dX4_firstIn_26 (by decide) ?_
    exact A_iret hC dX4_firstIn_27
  refine A_join (fun (J : Int32 → ADD → Option (Int32 × ADD)) => ∀ (x1 : Int32) (D2 : ADD), AT aVi g b 2 [some (.long a1), none, some (.int x1)] [] D2 (J x1 D2)) (aFix_all (fun (J : Int32 → ADD → Option (Int32 × ADD)) => ∀ (x1 : Int32) (D2 : ADD), AT aVi g b 2 [some (.long a1), none, some (.int x1)] [] D2 (J x1 D2)) (fun _ _ => A_none) (fun L2 hL2 x1 D2 => ?_) _) (fun j2 hj2 => ?_)
  · unfold lX4_firstIn_2
    refine A_iload_n hC dX4_firstIn_2 rfl ?_
    refine A_bipush (v := 32) hC dX4_firstIn_3 (by decide) ?_
    refine A_icmp_ge (tgt := 26) hC dX4_firstIn_5 (by decide) ?_ ?_
    · exact A_to (hj26 D2) (trivial)
    · refine A_lload_n hC dX4_firstIn_8 rfl ?_
      refine A_iload_n hC dX4_firstIn_9 rfl ?_
      refine A_lshr hC dX4_firstIn_10 ?_
      refine A_lconst (v := 1) hC dX4_firstIn_11 (by decide) ?_
      refine A_land hC dX4_firstIn_12 ?_
      refine A_lconst (v := 1) hC dX4_firstIn_13 (by decide) ?_
      refine A_lcmp hC dX4_firstIn_14 ?_
      refine A_if_ne (tgt := 20) hC dX4_firstIn_15 (by decide) ?_ ?_
      · refine A_iincL (z := (1 : Int32)) (lv2 := fun x2 => [some (.long a1), none, some (.int x2)]) hC dX4_firstIn_20 rfl (by decide) (Nat.le_of_ble_eq_true rfl) rfl (fun _ => rfl) (fun x2 => ?_)
        refine A_goto (tgt := 2) hC dX4_firstIn_23 (by decide) ?_
        exact A_to (hL2 x2 D2) (And.intro rfl (And.intro rfl (trivial)))
      · refine A_iload_n hC dX4_firstIn_18 rfl ?_
        exact A_iret hC dX4_firstIn_19
  exact A_to (hj2 (0 : Int32) D) (And.intro rfl (And.intro rfl (trivial)))
def fX4_has (a1 : Int32) (D : ADD) : Option (Int32 × ADD) := aLet (fun (x1 : Int32) (D1 : ADD) => aZ x1 (some (x1, D1))) (fun (j23 : Int32 → ADD → Option (Int32 × ADD)) => aLet (fun (D2 : ADD) => j23 (0 : Int32) D2) (fun (j22 : ADD → Option (Int32 × ADD)) => (if a1 < 0 then j22 D else (if (D.1 43 0) ≤ a1 then j22 D else (if (32 : Int32) ≤ a1 then j22 D else j23 (1 : Int32) D)))))
set_option maxHeartbeats 4000000 in
set_option maxRecDepth 100000 in
theorem mX4_has (l : Launch) (g : AGl) (hL : aLX g) (a1 : Int32) (D : ADD) : AM aVi l yX4_has cX4_has 2 (some .boolean) 0 g [.ref (g.1 + 43), .int a1] D (fX4_has a1 D) := by
  refine AM_of (lv0 := [some (.ref (g.1 + 43)), some (.int a1)]) (own := RX4) (by decide +kernel) rfl (Nat.le_of_ble_eq_true rfl) rfl (fun b hC => ?_)
  unfold fX4_has
  refine A_iload_n hC dX4_has_0 rfl ?_
  refine A_join (fun (J : Int32 → ADD → Option (Int32 × ADD)) => ∀ (x1 : Int32) (D1 : ADD), AT aVi g b 23 [none, none] [.int x1] D1 (J x1 D1)) (fun x1 D1 => ?_) (fun j23 hj23 => ?_)
  · exact A_zretc hC dX4_has_23
  refine A_join (fun (J : ADD → Option (Int32 × ADD)) => ∀ (D2 : ADD), AT aVi g b 22 [none, none] [] D2 (J D2)) (fun D2 => ?_) (fun j22 hj22 => ?_)
  · refine A_iconst (v := 0) hC dX4_has_22 (by decide) ?_
    exact A_to (hj23 (0 : Int32) D2) (trivial)
  refine A_if_lt (tgt := 22) hC dX4_has_1 (by decide) ?_ ?_
  · exact A_to (hj22 D) (trivial)
  · refine A_iload_n hC dX4_has_4 rfl ?_
    refine A_aload_n hC dX4_has_5 rfl ?_
    refine A_geti (kf := 0) hC kX4 (lX_43 hL) rfl (by decide) (by decide) rfl w_237 dX4_has_6 ?_
    refine A_icmp_ge (tgt := 22) hC dX4_has_9 (by decide) ?_ ?_
    · exact A_to (hj22 D) (trivial)
    · refine A_iload_n hC dX4_has_12 rfl ?_
      refine A_bipush (v := 32) hC dX4_has_13 (by decide) ?_
      refine A_icmp_ge (tgt := 22) hC dX4_has_15 (by decide) ?_ ?_
      · exact A_to (hj22 D) (trivial)
      · refine A_iconst (v := 1) hC dX4_has_18 (by decide) ?_
        refine A_goto (tgt := 23) hC dX4_has_19 (by decide) ?_
        exact A_to (hj23 (1 : Int32) D) (trivial)
def fX5_isBlank (a1 : Int32) (D : ADD) : Option (Int32 × ADD) := aLet (fun (x1 : Int32) (D1 : ADD) => aZ x1 (some (x1, D1))) (fun (j17 : Int32 → ADD → Option (Int32 × ADD)) => aLet (fun (D2 : ADD) => j17 (1 : Int32) D2) (fun (j12 : ADD → Option (Int32 × ADD)) => (if a1 = (10 : Int32) then j12 D else (if a1 = (32 : Int32) then j12 D else j17 (0 : Int32) D))))
set_option maxHeartbeats 4000000 in
set_option maxRecDepth 100000 in
theorem mX5_isBlank (l : Launch) (g : AGl) (a1 : Int32) (D : ADD) : AM aVi l yX5_isBlank cX5_isBlank 1 (some .boolean) 0 g [.int a1] D (fX5_isBlank a1 D) := by
  refine AM_of (lv0 := [some (.int a1)]) (own := RX5) (by decide +kernel) rfl (Nat.le_of_ble_eq_true rfl) rfl (fun b hC => ?_)
  unfold fX5_isBlank
  refine A_iload_n hC dX5_isBlank_0 rfl ?_
  refine A_bipush (v := 10) hC dX5_isBlank_1 (by decide) ?_
  refine A_join (fun (J : Int32 → ADD → Option (Int32 × ADD)) => ∀ (x1 : Int32) (D1 : ADD), AT aVi g b 17 [none] [.int x1] D1 (J x1 D1)) (fun x1 D1 => ?_) (fun j17 hj17 => ?_)
  · exact A_zretc hC dX5_isBlank_17
  refine A_join (fun (J : ADD → Option (Int32 × ADD)) => ∀ (D2 : ADD), AT aVi g b 12 [none] [] D2 (J D2)) (fun D2 => ?_) (fun j12 hj12 => ?_)
  · refine A_iconst (v := 1) hC dX5_isBlank_12 (by decide) ?_
    refine A_goto (tgt := 17) hC dX5_isBlank_13 (by decide) ?_
    exact A_to (hj17 (1 : Int32) D2) (trivial)
  refine A_icmp_eq (tgt := 12) hC dX5_isBlank_3 (by decide) ?_ ?_
  · exact A_to (hj12 D) (trivial)
  · refine A_iload_n hC dX5_isBlank_6 rfl ?_
    refine A_bipush (v := 32) hC dX5_isBlank_7 (by decide) ?_
    refine A_icmp_ne (tgt := 16) hC dX5_isBlank_9 (by decide) ?_ ?_
    · refine A_iconst (v := 0) hC dX5_isBlank_16 (by decide) ?_
      exact A_to (hj17 (0 : Int32) D) (trivial)
    · exact A_to (hj12 D) (trivial)
def fX5_isDigit (a1 : Int32) (D : ADD) : Option (Int32 × ADD) := aLet (fun (x1 : Int32) (D1 : ADD) => aZ x1 (some (x1, D1))) (fun (j17 : Int32 → ADD → Option (Int32 × ADD)) => aLet (fun (D2 : ADD) => j17 (0 : Int32) D2) (fun (j16 : ADD → Option (Int32 × ADD)) => (if a1 < (48 : Int32) then j16 D else (if (57 : Int32) < a1 then j16 D else j17 (1 : Int32) D))))
set_option maxHeartbeats 4000000 in
set_option maxRecDepth 100000 in
theorem mX5_isDigit (l : Launch) (g : AGl) (a1 : Int32) (D : ADD) : AM aVi l yX5_isDigit cX5_isDigit 1 (some .boolean) 0 g [.int a1] D (fX5_isDigit a1 D) := by
  refine AM_of (lv0 := [some (.int a1)]) (own := RX5) (by decide +kernel) rfl (Nat.le_of_ble_eq_true rfl) rfl (fun b hC => ?_)
  unfold fX5_isDigit
  refine A_iload_n hC dX5_isDigit_0 rfl ?_
  refine A_bipush (v := 48) hC dX5_isDigit_1 (by decide) ?_
  refine A_join (fun (J : Int32 → ADD → Option (Int32 × ADD)) => ∀ (x1 : Int32) (D1 : ADD), AT aVi g b 17 [none] [.int x1] D1 (J x1 D1)) (fun x1 D1 => ?_) (fun j17 hj17 => ?_)
  · exact A_zretc hC dX5_isDigit_17
  refine A_join (fun (J : ADD → Option (Int32 × ADD)) => ∀ (D2 : ADD), AT aVi g b 16 [none] [] D2 (J D2)) (fun D2 => ?_) (fun j16 hj16 => ?_)
  · refine A_iconst (v := 0) hC dX5_isDigit_16 (by decide) ?_
    exact A_to (hj17 (0 : Int32) D2) (trivial)
  refine A_icmp_lt (tgt := 16) hC dX5_isDigit_3 (by decide) ?_ ?_
  · exact A_to (hj16 D) (trivial)
  · refine A_iload_n hC dX5_isDigit_6 rfl ?_
    refine A_bipush (v := 57) hC dX5_isDigit_7 (by decide) ?_
    refine A_icmp_gt (tgt := 16) hC dX5_isDigit_9 (by decide) ?_ ?_
    · exact A_to (hj16 D) (trivial)
    · refine A_iconst (v := 1) hC dX5_isDigit_12 (by decide) ?_
      refine A_goto (tgt := 17) hC dX5_isDigit_13 (by decide) ?_
      exact A_to (hj17 (1 : Int32) D) (trivial)
def fX5_isLetter (a1 : Int32) (D : ADD) : Option (Int32 × ADD) := aLet (fun (x1 : Int32) (D1 : ADD) => aZ x1 (some (x1, D1))) (fun (j17 : Int32 → ADD → Option (Int32 × ADD)) => aLet (fun (D2 : ADD) => j17 (0 : Int32) D2) (fun (j16 : ADD → Option (Int32 × ADD)) => (if a1 < (97 : Int32) then j16 D else (if (122 : Int32) < a1 then j16 D else j17 (1 : Int32) D))))
set_option maxHeartbeats 4000000 in
set_option maxRecDepth 100000 in
theorem mX5_isLetter (l : Launch) (g : AGl) (a1 : Int32) (D : ADD) : AM aVi l yX5_isLetter cX5_isLetter 1 (some .boolean) 0 g [.int a1] D (fX5_isLetter a1 D) := by
  refine AM_of (lv0 := [some (.int a1)]) (own := RX5) (by decide +kernel) rfl (Nat.le_of_ble_eq_true rfl) rfl (fun b hC => ?_)
  unfold fX5_isLetter
  refine A_iload_n hC dX5_isLetter_0 rfl ?_
  refine A_bipush (v := 97) hC dX5_isLetter_1 (by decide) ?_
  refine A_join (fun (J : Int32 → ADD → Option (Int32 × ADD)) => ∀ (x1 : Int32) (D1 : ADD), AT aVi g b 17 [none] [.int x1] D1 (J x1 D1)) (fun x1 D1 => ?_) (fun j17 hj17 => ?_)
  · exact A_zretc hC dX5_isLetter_17
  refine A_join (fun (J : ADD → Option (Int32 × ADD)) => ∀ (D2 : ADD), AT aVi g b 16 [none] [] D2 (J D2)) (fun D2 => ?_) (fun j16 hj16 => ?_)
  · refine A_iconst (v := 0) hC dX5_isLetter_16 (by decide) ?_
    exact A_to (hj17 (0 : Int32) D2) (trivial)
  refine A_icmp_lt (tgt := 16) hC dX5_isLetter_3 (by decide) ?_ ?_
  · exact A_to (hj16 D) (trivial)
  · refine A_iload_n hC dX5_isLetter_6 rfl ?_
    refine A_bipush (v := 122) hC dX5_isLetter_7 (by decide) ?_
    refine A_icmp_gt (tgt := 16) hC dX5_isLetter_9 (by decide) ?_ ?_
    · exact A_to (hj16 D) (trivial)
    · refine A_iconst (v := 1) hC dX5_isLetter_12 (by decide) ?_
      refine A_goto (tgt := 17) hC dX5_isLetter_13 (by decide) ?_
      exact A_to (hj17 (1 : Int32) D) (trivial)
def fX5_isSignByte (a1 : Int32) (D : ADD) : Option (Int32 × ADD) := aLet (fun (x1 : Int32) (D1 : ADD) => aZ x1 (some (x1, D1))) (fun (j35 : Int32 → ADD → Option (Int32 × ADD)) => aLet (fun (D2 : ADD) => j35 (1 : Int32) D2) (fun (j30 : ADD → Option (Int32 × ADD)) => (if a1 = (58 : Int32) then j30 D else (if a1 = (59 : Int32) then j30 D else (if a1 = (60 : Int32) then j30 D else (if a1 = (62 : Int32) then j30 D else (if a1 = (61 : Int32) then j30 D else j35 (0 : Int32) D)))))))
set_option maxHeartbeats 4000000 in
set_option maxRecDepth 100000 in
theorem mX5_isSignByte (l : Launch) (g : AGl) (a1 : Int32) (D : ADD) : AM aVi l yX5_isSignByte cX5_isSignByte 1 (some .boolean) 0 g [.int a1] D (fX5_isSignByte a1 D) := by
  refine AM_of (lv0 := [some (.int a1)]) (own := RX5) (by decide +kernel) rfl (Nat.le_of_ble_eq_true rfl) rfl (fun b hC => ?_)
  unfold fX5_isSignByte
  refine A_iload_n hC dX5_isSignByte_0 rfl ?_
  refine A_bipush (v := 58) hC dX5_isSignByte_1 (by decide) ?_
  refine A_join (fun (J : Int32 → ADD → Option (Int32 × ADD)) => ∀ (x1 : Int32) (D1 : ADD), AT aVi g b 35 [none] [.int x1] D1 (J x1 D1)) (fun x1 D1 => ?_) (fun j35 hj35 => ?_)
  · exact A_zretc hC dX5_isSignByte_35
  refine A_join (fun (J : ADD → Option (Int32 × ADD)) => ∀ (D2 : ADD), AT aVi g b 30 [none] [] D2 (J D2)) (fun D2 => ?_) (fun j30 hj30 => ?_)
  · refine A_iconst (v := 1) hC dX5_isSignByte_30 (by decide) ?_
    refine A_goto (tgt := 35) hC dX5_isSignByte_31 (by decide) ?_
    exact A_to (hj35 (1 : Int32) D2) (trivial)
  refine A_icmp_eq (tgt := 30) hC dX5_isSignByte_3 (by decide) ?_ ?_
  · exact A_to (hj30 D) (trivial)
  · refine A_iload_n hC dX5_isSignByte_6 rfl ?_
    refine A_bipush (v := 59) hC dX5_isSignByte_7 (by decide) ?_
    refine A_icmp_eq (tgt := 30) hC dX5_isSignByte_9 (by decide) ?_ ?_
    · exact A_to (hj30 D) (trivial)
    · refine A_iload_n hC dX5_isSignByte_12 rfl ?_
      refine A_bipush (v := 60) hC dX5_isSignByte_13 (by decide) ?_
      refine A_icmp_eq (tgt := 30) hC dX5_isSignByte_15 (by decide) ?_ ?_
      · exact A_to (hj30 D) (trivial)
      · refine A_iload_n hC dX5_isSignByte_18 rfl ?_
        refine A_bipush (v := 62) hC dX5_isSignByte_19 (by decide) ?_
        refine A_icmp_eq (tgt := 30) hC dX5_isSignByte_21 (by decide) ?_ ?_
        · exact A_to (hj30 D) (trivial)
        · refine A_iload_n hC dX5_isSignByte_24 rfl ?_
          refine A_bipush (v := 61) hC dX5_isSignByte_25 (by decide) ?_
          refine A_icmp_ne (tgt := 34) hC dX5_isSignByte_27 (by decide) ?_ ?_
          · refine A_iconst (v := 0) hC dX5_isSignByte_34 (by decide) ?_
            exact A_to (hj35 (0 : Int32) D) (trivial)
          · exact A_to (hj30 D) (trivial)
def fX5_refuse (D : ADD) : Option (Int32 × ADD) := aLet (aSI D 33 1 (1 : Int32)) (fun D1 => aLet (aSI D1 33 2 (D1.1 33 6)) (fun D2 => some ((0 : Int32), D2)))
set_option maxHeartbeats 4000000 in
set_option maxRecDepth 100000 in
theorem mX5_refuse (l : Launch) (g : AGl) (hL : aLX g) (D : ADD) : AM aVi l yX5_refuse cX5_refuse 1 (some .boolean) 0 g [.ref (g.1 + 33)] D (fX5_refuse D) := by
  refine AM_of (lv0 := [some (.ref (g.1 + 33))]) (own := RX5) (by decide +kernel) rfl (Nat.le_of_ble_eq_true rfl) rfl (fun b hC => ?_)
  unfold fX5_refuse
  refine A_aload_n hC dX5_refuse_0 rfl ?_
  refine A_iconst (v := 1) hC dX5_refuse_1 (by decide) ?_
  refine A_puti (kf := 1) hC kX5 (lX_33 hL) rfl (by decide) (by decide) rfl rfl rfl w_205 dX5_refuse_2 (fun D1 => ?_)
  refine A_aload_n hC dX5_refuse_5 rfl ?_
  refine A_aload_n hC dX5_refuse_6 rfl ?_
  refine A_geti (kf := 6) hC kX5 (lX_33 hL) rfl (by decide) (by decide) rfl w_212 dX5_refuse_7 ?_
  refine A_puti (kf := 2) hC kX5 (lX_33 hL) rfl (by decide) (by decide) rfl rfl rfl w_207 dX5_refuse_10 (fun D2 => ?_)
  refine A_iconst (v := 0) hC dX5_refuse_13 (by decide) ?_
  exact A_zret hC dX5_refuse_14 (Or.inl rfl)
def fX5_remark (a1 : Int32) (a2 : Int32) (D : ADD) : Option (Unit × ADD) := aLet (fun (D1 : ADD) => some ((), D1)) (fun (j17 : ADD → Option (Unit × ADD)) => (if (D.1 33 1) = 0 then aLet (aSI D 33 1 a1) (fun D2 => aLet (aSI D2 33 2 a2) (fun D3 => j17 D3)) else j17 D))
set_option maxHeartbeats 4000000 in
set_option maxRecDepth 100000 in
theorem mX5_remark (l : Launch) (g : AGl) (hL : aLX g) (a1 : Int32) (a2 : Int32) (D : ADD) : AM aVv l yX5_remark cX5_remark 3 none 0 g [.ref (g.1 + 33), .int a1, .int a2] D (fX5_remark a1 a2 D) := by
  refine AM_of (lv0 := [some (.ref (g.1 + 33)), some (.int a1), some (.int a2)]) (own := RX5) (by decide +kernel) rfl (Nat.le_of_ble_eq_true rfl) rfl (fun b hC => ?_)
  unfold fX5_remark
  refine A_aload_n hC dX5_remark_0 rfl ?_
  refine A_geti (kf := 1) hC kX5 (lX_33 hL) rfl (by decide) (by decide) rfl w_205 dX5_remark_1 ?_
  refine A_join (fun (J : ADD → Option (Unit × ADD)) => ∀ (D1 : ADD), AT aVv g b 17 [none, none, none] [] D1 (J D1)) (fun D1 => ?_) (fun j17 hj17 => ?_)
  · exact A_vret hC dX5_remark_17
  refine A_if_ne (tgt := 17) hC dX5_remark_4 (by decide) ?_ ?_
  · exact A_to (hj17 D) (trivial)
  · refine A_aload_n hC dX5_remark_7 rfl ?_
    refine A_iload_n hC dX5_remark_8 rfl ?_
    refine A_puti (kf := 1) hC kX5 (lX_33 hL) rfl (by decide) (by decide) rfl rfl rfl w_205 dX5_remark_9 (fun D2 => ?_)
    refine A_aload_n hC dX5_remark_12 rfl ?_
    refine A_iload_n hC dX5_remark_13 rfl ?_
    refine A_puti (kf := 2) hC kX5 (lX_33 hL) rfl (by decide) (by decide) rfl rfl rfl w_207 dX5_remark_14 (fun D3 => ?_)
    exact A_to (hj17 D3) (trivial)
def fX6_hasLine (a1 : Int32) (D : ADD) : Option (Int32 × ADD) := aLet (fun (x1 : Int32) (D1 : ADD) => aZ x1 (some (x1, D1))) (fun (j15 : Int32 → ADD → Option (Int32 × ADD)) => aLet (fun (D2 : ADD) => j15 (0 : Int32) D2) (fun (j14 : ADD → Option (Int32 × ADD)) => (if a1 < 0 then j14 D else (if (16 : Int32) ≤ a1 then j14 D else j15 (1 : Int32) D))))
set_option maxHeartbeats 4000000 in
set_option maxRecDepth 100000 in
theorem mX6_hasLine (l : Launch) (g : AGl) (a1 : Int32) (D : ADD) : AM aVi l yX6_hasLine cX6_hasLine 1 (some .boolean) 0 g [.int a1] D (fX6_hasLine a1 D) := by
  refine AM_of (lv0 := [some (.int a1)]) (own := RX6) (by decide +kernel) rfl (Nat.le_of_ble_eq_true rfl) rfl (fun b hC => ?_)
  unfold fX6_hasLine
  refine A_iload_n hC dX6_hasLine_0 rfl ?_
  refine A_join (fun (J : Int32 → ADD → Option (Int32 × ADD)) => ∀ (x1 : Int32) (D1 : ADD), AT aVi g b 15 [none] [.int x1] D1 (J x1 D1)) (fun x1 D1 => ?_) (fun j15 hj15 => ?_)
  · exact A_zretc hC dX6_hasLine_15
  refine A_join (fun (J : ADD → Option (Int32 × ADD)) => ∀ (D2 : ADD), AT aVi g b 14 [none] [] D2 (J D2)) (fun D2 => ?_) (fun j14 hj14 => ?_)
  · refine A_iconst (v := 0) hC dX6_hasLine_14 (by decide) ?_
    exact A_to (hj15 (0 : Int32) D2) (trivial)
  refine A_if_lt (tgt := 14) hC dX6_hasLine_1 (by decide) ?_ ?_
  · exact A_to (hj14 D) (trivial)
  · refine A_iload_n hC dX6_hasLine_4 rfl ?_
    refine A_bipush (v := 16) hC dX6_hasLine_5 (by decide) ?_
    refine A_icmp_ge (tgt := 14) hC dX6_hasLine_7 (by decide) ?_ ?_
    · exact A_to (hj14 D) (trivial)
    · refine A_iconst (v := 1) hC dX6_hasLine_10 (by decide) ?_
      refine A_goto (tgt := 15) hC dX6_hasLine_11 (by decide) ?_
      exact A_to (hj15 (1 : Int32) D) (trivial)
def fX6_passes (o : Nat) (v : Nat) (a1 : Int32) (D : ADD) : Option (Int32 × ADD) := aIn a1 64 (aLet (D.1 (o + 5) a1.toNatClampNeg) (fun x1 => aLet (fun (D1 : ADD) => some ((0 : Int32), D1)) (fun (j17 : ADD → Option (Int32 × ADD)) => (if x1 < 0 then j17 D else (if x1 < (Int32.ofNat 8) then aIn a1 64 ((if (D.1 (o + 6) a1.toNatClampNeg) = (60 : Int32) then aIn x1 8 (aIn a1 64 (aLet (fun (x2 : Int32) (D2 : ADD) => aZ x2 (some (x2, D2))) (fun (j69 : Int32 → ADD → Option (Int32 × ADD)) => (if (D.1 (o + 7) a1.toNatClampNeg) ≤ (D.1 v x1.toNatClampNeg) then j69 (0 : Int32) D else j69 (1 : Int32) D)))) else if (D.1 (o + 6) a1.toNatClampNeg) = (62 : Int32) then aIn x1 8 (aIn a1 64 (aLet (fun (x3 : Int32) (D3 : ADD) => aZ x3 (some (x3, D3))) (fun (j87 : Int32 → ADD → Option (Int32 × ADD)) => (if (D.1 v x1.toNatClampNeg) ≤ (D.1 (o + 7) a1.toNatClampNeg) then j87 (0 : Int32) D else j87 (1 : Int32) D)))) else aIn x1 8 (aIn a1 64 (aLet (fun (x4 : Int32) (D4 : ADD) => aZ x4 (some (x4, D4))) (fun (j105 : Int32 → ADD → Option (Int32 × ADD)) => (if (D.1 v x1.toNatClampNeg) = (D.1 (o + 7) a1.toNatClampNeg) then j105 (1 : Int32) D else j105 (0 : Int32) D)))))) else j17 D)))))
set_option maxHeartbeats 4000000 in
set_option maxRecDepth 100000 in
theorem mX6_passes (l : Launch) (g : AGl) (o : Nat) (v : Nat) (hO : aLR g o) (hv : aAt g v (11, 8, fun _ => none)) (a1 : Int32) (D : ADD) : AM aVi l yX6_passes cX6_passes 4 (some .boolean) 0 g [.ref (g.1 + o), .int a1, .ref (g.1 + v)] D (fX6_passes o v a1 D) := by
  refine AM_of (lv0 := [some (.ref (g.1 + o)), some (.int a1), some (.ref (g.1 + v)), none]) (own := RX6) (by decide +kernel) rfl (Nat.le_of_ble_eq_true rfl) rfl (fun b hC => ?_)
  unfold fX6_passes
  refine A_aload_n hC dX6_passes_0 rfl ?_
  refine A_getr (kf := 5) hC kX6 hO.1 rfl (by decide) (by decide) rfl rfl w_116 dX6_passes_1 ?_
  refine A_iload_n hC dX6_passes_4 rfl ?_
  refine A_iald hC hO.2.2.2.2.2.1 dX6_passes_5 ?_
  refine A_topi (fun x1 => ?_)
  refine A_istore_n (lv2 := [some (.ref (g.1 + o)), some (.int a1), some (.ref (g.1 + v)), some (.int x1)]) hC dX6_passes_6 (Nat.le_of_ble_eq_true rfl) rfl rfl ?_
  refine A_iload_n hC dX6_passes_7 rfl ?_
  refine A_join (fun (J : ADD → Option (Int32 × ADD)) => ∀ (D1 : ADD), AT aVi g b 17 [none, none, none, none] [] D1 (J D1)) (fun D1 => ?_) (fun j17 hj17 => ?_)
  · refine A_iconst (v := 0) hC dX6_passes_17 (by decide) ?_
    exact A_zret hC dX6_passes_18 (Or.inl rfl)
  refine A_if_lt (tgt := 17) hC dX6_passes_8 (by decide) ?_ ?_
  · exact A_to (hj17 D) (trivial)
  · refine A_iload_n hC dX6_passes_11 rfl ?_
    refine A_aload_n hC dX6_passes_12 rfl ?_
    refine A_aleni hC hv dX6_passes_13 ?_
    refine A_icmp_lt (tgt := 19) hC dX6_passes_14 (by decide) ?_ ?_
    · refine A_aload_n hC dX6_passes_19 rfl ?_
      refine A_getr (kf := 6) hC kX6 hO.1 rfl (by decide) (by decide) rfl rfl w_117 dX6_passes_20 ?_
      refine A_iload_n hC dX6_passes_23 rfl ?_
      refine A_iald hC hO.2.2.2.2.2.2.1 dX6_passes_24 ?_
      refine A_look2 (t0 := 52) (t1 := 70) (td := 88) (z0 := 60) (z1 := 62) hC dX6_passes_25 (by decide) (by decide) (by decide) (by decide) (by decide) (by decide) ?_ ?_ ?_
      · refine A_aload_n hC dX6_passes_52 rfl ?_
        refine A_iload_n hC dX6_passes_53 rfl ?_
        refine A_iald hC hv dX6_passes_54 ?_
        refine A_aload_n hC dX6_passes_55 rfl ?_
        refine A_getr (kf := 7) hC kX6 hO.1 rfl (by decide) (by decide) rfl rfl w_118 dX6_passes_56 ?_
        refine A_iload_n hC dX6_passes_59 rfl ?_
        refine A_iald hC hO.2.2.2.2.2.2.2.1 dX6_passes_60 ?_
        refine A_join (fun (J : Int32 → ADD → Option (Int32 × ADD)) => ∀ (x2 : Int32) (D2 : ADD), AT aVi g b 69 [none, none, none, none] [.int x2] D2 (J x2 D2)) (fun x2 D2 => ?_) (fun j69 hj69 => ?_)
        · exact A_zretc hC dX6_passes_69
        refine A_icmp_ge (tgt := 68) hC dX6_passes_61 (by decide) ?_ ?_
        · refine A_iconst (v := 0) hC dX6_passes_68 (by decide) ?_
          exact A_to (hj69 (0 : Int32) D) (trivial)
        · refine A_iconst (v := 1) hC dX6_passes_64 (by decide) ?_
          refine A_goto (tgt := 69) hC dX6_passes_65 (by decide) ?_
          exact A_to (hj69 (1 : Int32) D) (trivial)
      · refine A_aload_n hC dX6_passes_70 rfl ?_
        refine A_iload_n hC dX6_passes_71 rfl ?_
        refine A_iald hC hv dX6_passes_72 ?_
        refine A_aload_n hC dX6_passes_73 rfl ?_
        refine A_getr (kf := 7) hC kX6 hO.1 rfl (by decide) (by decide) rfl rfl w_118 dX6_passes_74 ?_
        refine A_iload_n hC dX6_passes_77 rfl ?_
        refine A_iald hC hO.2.2.2.2.2.2.2.1 dX6_passes_78 ?_
        refine A_join (fun (J : Int32 → ADD → Option (Int32 × ADD)) => ∀ (x3 : Int32) (D3 : ADD), AT aVi g b 87 [none, none, none, none] [.int x3] D3 (J x3 D3)) (fun x3 D3 => ?_) (fun j87 hj87 => ?_)
        · exact A_zretc hC dX6_passes_87
        refine A_icmp_le (tgt := 86) hC dX6_passes_79 (by decide) ?_ ?_
        · refine A_iconst (v := 0) hC dX6_passes_86 (by decide) ?_
          exact A_to (hj87 (0 : Int32) D) (trivial)
        · refine A_iconst (v := 1) hC dX6_passes_82 (by decide) ?_
          refine A_goto (tgt := 87) hC dX6_passes_83 (by decide) ?_
          exact A_to (hj87 (1 : Int32) D) (trivial)
      · refine A_aload_n hC dX6_passes_88 rfl ?_
        refine A_iload_n hC dX6_passes_89 rfl ?_
        refine A_iald hC hv dX6_passes_90 ?_
        refine A_aload_n hC dX6_passes_91 rfl ?_
        refine A_getr (kf := 7) hC kX6 hO.1 rfl (by decide) (by decide) rfl rfl w_118 dX6_passes_92 ?_
        refine A_iload_n hC dX6_passes_95 rfl ?_
        refine A_iald hC hO.2.2.2.2.2.2.2.1 dX6_passes_96 ?_
        refine A_join (fun (J : Int32 → ADD → Option (Int32 × ADD)) => ∀ (x4 : Int32) (D4 : ADD), AT aVi g b 105 [none, none, none, none] [.int x4] D4 (J x4 D4)) (fun x4 D4 => ?_) (fun j105 hj105 => ?_)
        · exact A_zretc hC dX6_passes_105
        refine A_icmp_ne (tgt := 104) hC dX6_passes_97 (by decide) ?_ ?_
        · refine A_iconst (v := 0) hC dX6_passes_104 (by decide) ?_
          exact A_to (hj105 (0 : Int32) D) (trivial)
        · refine A_iconst (v := 1) hC dX6_passes_100 (by decide) ?_
          refine A_goto (tgt := 105) hC dX6_passes_101 (by decide) ?_
          exact A_to (hj105 (1 : Int32) D) (trivial)
    · exact A_to (hj17 D) (trivial)
def fX7_inReach (a1 : Int32) (D : ADD) : Option (Int32 × ADD) := aLet (fun (x1 : Int32) (D1 : ADD) => aZ x1 (some (x1, D1))) (fun (j33 : Int32 → ADD → Option (Int32 × ADD)) => aLet (fun (D2 : ADD) => j33 (0 : Int32) D2) (fun (j32 : ADD → Option (Int32 × ADD)) => (if a1 < (D.1 50 0) then j32 D else (if (D.1 50 1) < a1 then j32 D else (if (300 : Int32) < (a1 - (D.1 50 0)) then j32 D else j33 (1 : Int32) D)))))
set_option maxHeartbeats 4000000 in
set_option maxRecDepth 100000 in
theorem mX7_inReach (l : Launch) (g : AGl) (hL : aLX g) (a1 : Int32) (D : ADD) : AM aVi l yX7_inReach cX7_inReach 2 (some .boolean) 0 g [.ref (g.1 + 50), .int a1] D (fX7_inReach a1 D) := by
  refine AM_of (lv0 := [some (.ref (g.1 + 50)), some (.int a1)]) (own := RX7) (by decide +kernel) rfl (Nat.le_of_ble_eq_true rfl) rfl (fun b hC => ?_)
  unfold fX7_inReach
  refine A_iload_n hC dX7_inReach_0 rfl ?_
  refine A_aload_n hC dX7_inReach_1 rfl ?_
  refine A_geti (kf := 0) hC kX7 (lX_50 hL) rfl (by decide) (by decide) rfl w_272 dX7_inReach_2 ?_
  refine A_join (fun (J : Int32 → ADD → Option (Int32 × ADD)) => ∀ (x1 : Int32) (D1 : ADD), AT aVi g b 33 [none, none] [.int x1] D1 (J x1 D1)) (fun x1 D1 => ?_) (fun j33 hj33 => ?_)
  · exact A_zretc hC dX7_inReach_33
  refine A_join (fun (J : ADD → Option (Int32 × ADD)) => ∀ (D2 : ADD), AT aVi g b 32 [none, none] [] D2 (J D2)) (fun D2 => ?_) (fun j32 hj32 => ?_)
  · refine A_iconst (v := 0) hC dX7_inReach_32 (by decide) ?_
    exact A_to (hj33 (0 : Int32) D2) (trivial)
  refine A_icmp_lt (tgt := 32) hC dX7_inReach_5 (by decide) ?_ ?_
  · exact A_to (hj32 D) (trivial)
  · refine A_iload_n hC dX7_inReach_8 rfl ?_
    refine A_aload_n hC dX7_inReach_9 rfl ?_
    refine A_geti (kf := 1) hC kX7 (lX_50 hL) rfl (by decide) (by decide) rfl w_273 dX7_inReach_10 ?_
    refine A_icmp_gt (tgt := 32) hC dX7_inReach_13 (by decide) ?_ ?_
    · exact A_to (hj32 D) (trivial)
    · refine A_iload_n hC dX7_inReach_16 rfl ?_
      refine A_aload_n hC dX7_inReach_17 rfl ?_
      refine A_geti (kf := 0) hC kX7 (lX_50 hL) rfl (by decide) (by decide) rfl w_272 dX7_inReach_18 ?_
      refine A_isub hC dX7_inReach_21 ?_
      refine A_sipush (v := 300) hC dX7_inReach_22 (by decide) ?_
      refine A_icmp_gt (tgt := 32) hC dX7_inReach_25 (by decide) ?_ ?_
      · exact A_to (hj32 D) (trivial)
      · refine A_iconst (v := 1) hC dX7_inReach_28 (by decide) ?_
        refine A_goto (tgt := 33) hC dX7_inReach_29 (by decide) ?_
        exact A_to (hj33 (1 : Int32) D) (trivial)
def lX9_add_3 (a1 : Int32) (j46 : ADD → Option (Unit × ADD)) (L3 : Int32 → ADD → Option (Unit × ADD)) (x1 : Int32) (D2 : ADD) : Option (Unit × ADD) := (if x1 < 0 then j46 D2 else (if (500 : Int32) ≤ (D2.1 11 1) then j46 D2 else aIn (D2.1 11 1) 500 (aLet (aSI D2 12 (D2.1 11 1).toNatClampNeg (a1 >>> (x1 &&& 31)).toInt8.toInt32) (fun D3 => aLet (aSI D3 11 1 ((D3.1 11 1) + (1 : Int32))) (fun D4 => aLet (x1 + (-8 : Int32)) (fun x2 => L3 x2 D4))))))
def fX9_add (a1 : Int32) (D : ADD) : Option (Unit × ADD) := aLet (fun (D1 : ADD) => some ((), D1)) (fun (j46 : ADD → Option (Unit × ADD)) => aLet (aFix aFuel (lX9_add_3 a1 j46) (fun _ _ => none)) (fun j3 => j3 (24 : Int32) D))
set_option maxHeartbeats 4000000 in
set_option maxRecDepth 100000 in
theorem mX9_add (l : Launch) (g : AGl) (hL : aLX g) (a1 : Int32) (D : ADD) : AM aVv l yX9_add cX9_add 3 none 0 g [.ref (g.1 + 11), .int a1] D (fX9_add a1 D) := by
  refine AM_of (lv0 := [some (.ref (g.1 + 11)), some (.int a1), none]) (own := RX9) (by decide +kernel) rfl (Nat.le_of_ble_eq_true rfl) rfl (fun b hC => ?_)
  unfold fX9_add
  refine A_bipush (v := 24) hC dX9_add_0 (by decide) ?_
  refine A_istore_n (lv2 := [some (.ref (g.1 + 11)), some (.int a1), some (.int (24 : Int32))]) hC dX9_add_2 (Nat.le_of_ble_eq_true rfl) rfl rfl ?_
  refine A_join (fun (J : ADD → Option (Unit × ADD)) => ∀ (D1 : ADD), AT aVv g b 46 [none, none, none] [] D1 (J D1)) (fun D1 => ?_) (fun j46 hj46 => ?_)
  · exact A_vret hC dX9_add_46
  refine A_join (fun (J : Int32 → ADD → Option (Unit × ADD)) => ∀ (x1 : Int32) (D2 : ADD), AT aVv g b 3 [some (.ref (g.1 + 11)), some (.int a1), some (.int x1)] [] D2 (J x1 D2)) (aFix_all (fun (J : Int32 → ADD → Option (Unit × ADD)) => ∀ (x1 : Int32) (D2 : ADD), AT aVv g b 3 [some (.ref (g.1 + 11)), some (.int a1), some (.int x1)] [] D2 (J x1 D2)) (fun _ _ => A_none) (fun L3 hL3 x1 D2 => ?_) _) (fun j3 hj3 => ?_)
  · unfold lX9_add_3
    refine A_iload_n hC dX9_add_3 rfl ?_
    refine A_if_lt (tgt := 46) hC dX9_add_4 (by decide) ?_ ?_
    · exact A_to (hj46 D2) (trivial)
    · refine A_aload_n hC dX9_add_7 rfl ?_
      refine A_geti (kf := 1) hC kX9 (lX_11 hL) rfl (by decide) (by decide) rfl w_94 dX9_add_8 ?_
      refine A_sipush (v := 500) hC dX9_add_11 (by decide) ?_
      refine A_icmp_ge (tgt := 46) hC dX9_add_14 (by decide) ?_ ?_
      · exact A_to (hj46 D2) (trivial)
      · refine A_aload_n hC dX9_add_17 rfl ?_
        refine A_getr (kf := 0) hC kX9 (lX_11 hL) rfl (by decide) (by decide) rfl rfl w_93 dX9_add_18 ?_
        refine A_aload_n hC dX9_add_21 rfl ?_
        refine A_geti (kf := 1) hC kX9 (lX_11 hL) rfl (by decide) (by decide) rfl w_94 dX9_add_22 ?_
        refine A_iload_n hC dX9_add_25 rfl ?_
        refine A_iload_n hC dX9_add_26 rfl ?_
        refine A_ishr hC dX9_add_27 ?_
        refine A_i2b hC dX9_add_28 ?_
        refine A_bast hC (lX_12 hL) dX9_add_29 (fun D3 => ?_)
        refine A_aload_n hC dX9_add_30 rfl ?_
        refine A_dup hC dX9_add_31 rfl ?_
        refine A_geti (kf := 1) hC kX9 (lX_11 hL) rfl (by decide) (by decide) rfl w_94 dX9_add_32 ?_
        refine A_iconst (v := 1) hC dX9_add_35 (by decide) ?_
        refine A_iadd hC dX9_add_36 ?_
        refine A_puti (kf := 1) hC kX9 (lX_11 hL) rfl (by decide) (by decide) rfl rfl rfl w_94 dX9_add_37 (fun D4 => ?_)
        refine A_iincL (z := (-8 : Int32)) (lv2 := fun x2 => [some (.ref (g.1 + 11)), some (.int a1), some (.int x2)]) hC dX9_add_40 rfl (by decide) (Nat.le_of_ble_eq_true rfl) rfl (fun _ => rfl) (fun x2 => ?_)
        refine A_goto (tgt := 3) hC dX9_add_43 (by decide) ?_
        exact A_to (hL3 x2 D4) (And.intro rfl (And.intro rfl (And.intro rfl (trivial))))
  exact A_to (hj3 (24 : Int32) D) (And.intro rfl (And.intro rfl (And.intro rfl (trivial))))
def fX9_byteAt (a1 : Int32) (D : ADD) : Option (Int32 × ADD) := aLet (fun (x1 : Int32) (D1 : ADD) => some (x1, D1)) (fun (j33 : Int32 → ADD → Option (Int32 × ADD)) => aLet (fun (D2 : ADD) => j33 (-1 : Int32) D2) (fun (j32 : ADD → Option (Int32 × ADD)) => (if a1 < 0 then j32 D else (if (D.1 11 1) ≤ a1 then j32 D else (if (500 : Int32) ≤ a1 then j32 D else aIn a1 500 (j33 ((aB (D.1 12 a1.toNatClampNeg)) &&& (255 : Int32)) D))))))
set_option maxHeartbeats 4000000 in
set_option maxRecDepth 100000 in
theorem mX9_byteAt (l : Launch) (g : AGl) (hL : aLX g) (a1 : Int32) (D : ADD) : AM aVi l yX9_byteAt cX9_byteAt 2 (some .int) 0 g [.ref (g.1 + 11), .int a1] D (fX9_byteAt a1 D) := by
  refine AM_of (lv0 := [some (.ref (g.1 + 11)), some (.int a1)]) (own := RX9) (by decide +kernel) rfl (Nat.le_of_ble_eq_true rfl) rfl (fun b hC => ?_)
  unfold fX9_byteAt
  refine A_iload_n hC dX9_byteAt_0 rfl ?_
  refine A_join (fun (J : Int32 → ADD → Option (Int32 × ADD)) => ∀ (x1 : Int32) (D1 : ADD), AT aVi g b 33 [none, none] [.int x1] D1 (J x1 D1)) (fun x1 D1 => ?_) (fun j33 hj33 => ?_)
  · exact A_iret hC dX9_byteAt_33
  refine A_join (fun (J : ADD → Option (Int32 × ADD)) => ∀ (D2 : ADD), AT aVi g b 32 [none, none] [] D2 (J D2)) (fun D2 => ?_) (fun j32 hj32 => ?_)
  · refine A_iconst (v := -1) hC dX9_byteAt_32 (by decide) ?_
    exact A_to (hj33 (-1 : Int32) D2) (trivial)
  refine A_if_lt (tgt := 32) hC dX9_byteAt_1 (by decide) ?_ ?_
  · exact A_to (hj32 D) (trivial)
  · refine A_iload_n hC dX9_byteAt_4 rfl ?_
    refine A_aload_n hC dX9_byteAt_5 rfl ?_
    refine A_geti (kf := 1) hC kX9 (lX_11 hL) rfl (by decide) (by decide) rfl w_94 dX9_byteAt_6 ?_
    refine A_icmp_ge (tgt := 32) hC dX9_byteAt_9 (by decide) ?_ ?_
    · exact A_to (hj32 D) (trivial)
    · refine A_iload_n hC dX9_byteAt_12 rfl ?_
      refine A_sipush (v := 500) hC dX9_byteAt_13 (by decide) ?_
      refine A_icmp_ge (tgt := 32) hC dX9_byteAt_16 (by decide) ?_ ?_
      · exact A_to (hj32 D) (trivial)
      · refine A_aload_n hC dX9_byteAt_19 rfl ?_
        refine A_getr (kf := 0) hC kX9 (lX_11 hL) rfl (by decide) (by decide) rfl rfl w_93 dX9_byteAt_20 ?_
        refine A_iload_n hC dX9_byteAt_23 rfl ?_
        refine A_bald hC (lX_12 hL) dX9_byteAt_24 ?_
        refine A_sipush (v := 255) hC dX9_byteAt_25 (by decide) ?_
        refine A_iand hC dX9_byteAt_28 ?_
        refine A_goto (tgt := 33) hC dX9_byteAt_29 (by decide) ?_
        exact A_to (hj33 ((aB (D.1 12 a1.toNatClampNeg)) &&& (255 : Int32)) D) (trivial)
def fX9_cut (a1 : Int32) (D : ADD) : Option (Int32 × ADD) := aLet (fun (D1 : ADD) => some ((0 : Int32), D1)) (fun (j12 : ADD → Option (Int32 × ADD)) => (if a1 < 0 then j12 D else (if a1 ≤ (D.1 11 1) then aLet (aSI D 11 1 a1) (fun D2 => some ((1 : Int32), D2)) else j12 D)))
set_option maxHeartbeats 4000000 in
set_option maxRecDepth 100000 in
theorem mX9_cut (l : Launch) (g : AGl) (hL : aLX g) (a1 : Int32) (D : ADD) : AM aVi l yX9_cut cX9_cut 2 (some .boolean) 0 g [.ref (g.1 + 11), .int a1] D (fX9_cut a1 D) := by
  refine AM_of (lv0 := [some (.ref (g.1 + 11)), some (.int a1)]) (own := RX9) (by decide +kernel) rfl (Nat.le_of_ble_eq_true rfl) rfl (fun b hC => ?_)
  unfold fX9_cut
  refine A_iload_n hC dX9_cut_0 rfl ?_
  refine A_join (fun (J : ADD → Option (Int32 × ADD)) => ∀ (D1 : ADD), AT aVi g b 12 [none, none] [] D1 (J D1)) (fun D1 => ?_) (fun j12 hj12 => ?_)
  · refine A_iconst (v := 0) hC dX9_cut_12 (by decide) ?_
    exact A_zret hC dX9_cut_13 (Or.inl rfl)
  refine A_if_lt (tgt := 12) hC dX9_cut_1 (by decide) ?_ ?_
  · exact A_to (hj12 D) (trivial)
  · refine A_iload_n hC dX9_cut_4 rfl ?_
    refine A_aload_n hC dX9_cut_5 rfl ?_
    refine A_geti (kf := 1) hC kX9 (lX_11 hL) rfl (by decide) (by decide) rfl w_94 dX9_cut_6 ?_
    refine A_icmp_le (tgt := 14) hC dX9_cut_9 (by decide) ?_ ?_
    · refine A_aload_n hC dX9_cut_14 rfl ?_
      refine A_iload_n hC dX9_cut_15 rfl ?_
      refine A_puti (kf := 1) hC kX9 (lX_11 hL) rfl (by decide) (by decide) rfl rfl rfl w_94 dX9_cut_16 (fun D2 => ?_)
      refine A_iconst (v := 1) hC dX9_cut_19 (by decide) ?_
      exact A_zret hC dX9_cut_20 (Or.inr rfl)
    · exact A_to (hj12 D) (trivial)
