def fX5_readLine (a1 : Int32) (D : ADD) : Option (Int32 × ADD) := aBind (fX6_clearTests 34 a1 D) (fun _ D1 => aBind (fX5_wordIn 0 D1) (fun x1 D2 => aLet (fun (D3 : ADD) => aBind (fX5_readDeed a1 D3) (fun x2 D4 => aLet (fun (x3 : Int32) (D5 : ADD) => aZ x3 (some (x3, D5))) (fun (j49 : Int32 → ADD → Option (Int32 × ADD)) => aLet (fun (D6 : ADD) => j49 (0 : Int32) D6) (fun (j48 : ADD → Option (Int32 × ADD)) => (if x2 = 0 then j48 D4 else aBind (fX5_pass (59 : Int32) D4) (fun x4 D7 => (if x4 = 0 then j48 D7 else j49 (1 : Int32) D7))))))) (fun (j27 : ADD → Option (Int32 × ADD)) => (if x1 = 0 then aBind (fX5_readTests a1 D2) (fun x5 D8 => (if x5 = 0 then some ((0 : Int32), D8) else j27 D8)) else j27 D2))))
set_option maxHeartbeats 4000000 in
set_option maxRecDepth 100000 in
theorem mX5_readLine (l : Launch) (g : AGl) (hL : aLX g) (a1 : Int32) (D : ADD) : AM aVi l yX5_readLine cX5_readLine 2 (some .boolean) 9 g [.ref (g.1 + 33), .int a1] D (fX5_readLine a1 D) := by
  refine AM_of (lv0 := [some (.ref (g.1 + 33)), some (.int a1)]) (own := RX5) (by decide +kernel) rfl (Nat.le_of_ble_eq_true rfl) rfl (fun b hC => ?_)
  unfold fX5_readLine
  refine A_aload_n hC dX5_readLine_0 rfl ?_
  refine A_getr (kf := 0) hC kX5 (lX_33 hL) rfl (by decide) (by decide) rfl rfl w_203 dX5_readLine_1 ?_
  refine A_iload_n hC dX5_readLine_4 rfl ?_
  refine A_callVv (As := [.int a1]) (st := []) hC (fun l => mX6_clearTests l g 34 (lR_34 hL) a1 D) (lX_34 hL) rfl (Nat.le_of_ble_eq_true rfl) yc_X5_62 rfl rfl ⟨by decide, by decide⟩ (Nat.le_of_ble_eq_true rfl) rfl dX5_readLine_5 (fun _ D1 => ?_)
  refine A_aload_n hC dX5_readLine_8 rfl ?_
  refine A_ldcs (i := 0) hC rfl dX5_readLine_9 ?_
  refine A_callVi (As := [.ref (g.2.2.2.2.1.2.2.1 0)]) (st := []) hC (fun l => mX5_wordIn l g hL 0 (by decide) D1) (lX_33 hL) rfl (Nat.le_of_ble_eq_true rfl) yc_X5_68 rfl rfl ⟨by decide, by decide⟩ (Nat.le_of_ble_eq_true rfl) rfl dX5_readLine_11 (fun x1 D2 => ?_)
  refine A_join (fun (J : ADD → Option (Int32 × ADD)) => ∀ (D3 : ADD), AT aVi g b 27 [some (.ref (g.1 + 33)), some (.int a1)] [] D3 (J D3)) (fun D3 => ?_) (fun j27 hj27 => ?_)
  · refine A_aload_n hC dX5_readLine_27 rfl ?_
    refine A_iload_n hC dX5_readLine_28 rfl ?_
    refine A_callVi (As := [.int a1]) (st := []) hC (fun l => mX5_readDeed l g hL a1 D3) (lX_33 hL) rfl (Nat.le_of_ble_eq_true rfl) yc_X5_75 rfl rfl ⟨by decide, by decide⟩ (Nat.le_of_ble_eq_true rfl) rfl dX5_readLine_29 (fun x2 D4 => ?_)
    refine A_join (fun (J : Int32 → ADD → Option (Int32 × ADD)) => ∀ (x3 : Int32) (D5 : ADD), AT aVi g b 49 [none, none] [.int x3] D5 (J x3 D5)) (fun x3 D5 => ?_) (fun j49 hj49 => ?_)
    · exact A_zretc hC dX5_readLine_49
    refine A_join (fun (J : ADD → Option (Int32 × ADD)) => ∀ (D6 : ADD), AT aVi g b 48 [none, none] [] D6 (J D6)) (fun D6 => ?_) (fun j48 hj48 => ?_)
    · refine A_iconst (v := 0) hC dX5_readLine_48 (by decide) ?_
      exact A_to (hj49 (0 : Int32) D6) (trivial)
    refine A_if_eq (tgt := 48) hC dX5_readLine_32 (by decide) ?_ ?_
    · exact A_to (hj48 D4) (trivial)
    · refine A_aload_n hC dX5_readLine_35 rfl ?_
      refine A_bipush (v := 59) hC dX5_readLine_36 (by decide) ?_
      refine A_callVi (As := [.int (59 : Int32)]) (st := []) hC (fun l => mX5_pass l g hL (59 : Int32) D4) (lX_33 hL) rfl (Nat.le_of_ble_eq_true rfl) yc_X5_78 rfl rfl ⟨by decide, by decide⟩ (Nat.le_of_ble_eq_true rfl) rfl dX5_readLine_38 (fun x4 D7 => ?_)
      refine A_if_eq (tgt := 48) hC dX5_readLine_41 (by decide) ?_ ?_
      · exact A_to (hj48 D7) (trivial)
      · refine A_iconst (v := 1) hC dX5_readLine_44 (by decide) ?_
        refine A_goto (tgt := 49) hC dX5_readLine_45 (by decide) ?_
        exact A_to (hj49 (1 : Int32) D7) (trivial)
  refine A_if_ne (tgt := 27) hC dX5_readLine_14 (by decide) ?_ ?_
  · exact A_to (hj27 D2) (And.intro rfl (And.intro rfl (trivial)))
  · refine A_aload_n hC dX5_readLine_17 rfl ?_
    refine A_iload_n hC dX5_readLine_18 rfl ?_
    refine A_callVi (As := [.int a1]) (st := []) hC (fun l => mX5_readTests l g hL a1 D2) (lX_33 hL) rfl (Nat.le_of_ble_eq_true rfl) yc_X5_72 rfl rfl ⟨by decide, by decide⟩ (Nat.le_of_ble_eq_true rfl) rfl dX5_readLine_19 (fun x5 D8 => ?_)
    refine A_if_ne (tgt := 27) hC dX5_readLine_22 (by decide) ?_ ?_
    · exact A_to (hj27 D8) (And.intro rfl (And.intro rfl (trivial)))
    · refine A_iconst (v := 0) hC dX5_readLine_25 (by decide) ?_
      exact A_zret hC dX5_readLine_26 (Or.inl rfl)
def lX5_read_34 (j79 : Int32 → ADD → Option (Int32 × ADD)) (L34 : Int32 → ADD → Option (Int32 × ADD)) (x3 : Int32) (D10 : ADD) : Option (Int32 × ADD) := (if (D10.1 33 5) = 0 then j79 x3 D10 else (if (500 : Int32) ≤ x3 then j79 x3 D10 else aLet (fun (D11 : ADD) => aBind (fX5_readLine x3 D11) (fun x4 D12 => (if x4 = 0 then some ((0 : Int32), D12) else aLet (x3 + (1 : Int32)) (fun x5 => L34 x5 D12)))) (fun (j63 : ADD → Option (Int32 × ADD)) => (if x3 = (16 : Int32) then aBind (fX5_remark (3 : Int32) (D10.1 33 6) D10) (fun _ D13 => j63 D13) else j63 D10))))
def fX5_read (a1 : Int32) (D : ADD) : Option (Int32 × ADD) := aZ a1 (aLet (aSI D 33 4 a1) (fun D1 => aLet (aSI D1 33 1 (0 : Int32)) (fun D2 => aLet (aSI D2 33 2 (-1 : Int32)) (fun D3 => aLet (aSI D3 34 0 (0 : Int32)) (fun D4 => aLet (aSI D4 33 7 (0 : Int32)) (fun D5 => aBind (fX5_advance D5) (fun _ D6 => aLet (fun (x1 : Int32) (D7 : ADD) => aLet (aSI D7 34 0 (aMin x1 (16 : Int32))) (fun D8 => aLet (fun (x2 : Int32) (D9 : ADD) => aZ x2 (some (x2, D9))) (fun (j104 : Int32 → ADD → Option (Int32 × ADD)) => (if (D8.1 33 1) = 0 then j104 (1 : Int32) D8 else j104 (0 : Int32) D8)))) (fun (j79 : Int32 → ADD → Option (Int32 × ADD)) => aLet (aFix aFuel (lX5_read_34 j79) (fun _ _ => none)) (fun j34 => j34 (0 : Int32) D6)))))))))
set_option maxHeartbeats 4000000 in
set_option maxRecDepth 100000 in
theorem mX5_read (l : Launch) (g : AGl) (hL : aLX g) (a1 : Int32) (D : ADD) : AM aVi l yX5_read cX5_read 3 (some .boolean) 10 g [.ref (g.1 + 33), .int a1] D (fX5_read a1 D) := by
  refine AM_of (lv0 := [some (.ref (g.1 + 33)), some (.int a1), none]) (own := RX5) (by decide +kernel) rfl (Nat.le_of_ble_eq_true rfl) rfl (fun b hC => ?_)
  unfold fX5_read
  refine A_aload_n hC dX5_read_0 rfl ?_
  refine A_iload_n hC dX5_read_1 rfl ?_
  refine A_putz (kf := 4) hC kX5 (lX_33 hL) rfl (by decide) (by decide) rfl rfl rfl w_210 dX5_read_2 (fun D1 => ?_)
  refine A_aload_n hC dX5_read_5 rfl ?_
  refine A_iconst (v := 0) hC dX5_read_6 (by decide) ?_
  refine A_puti (kf := 1) hC kX5 (lX_33 hL) rfl (by decide) (by decide) rfl rfl rfl w_205 dX5_read_7 (fun D2 => ?_)
  refine A_aload_n hC dX5_read_10 rfl ?_
  refine A_iconst (v := -1) hC dX5_read_11 (by decide) ?_
  refine A_puti (kf := 2) hC kX5 (lX_33 hL) rfl (by decide) (by decide) rfl rfl rfl w_207 dX5_read_12 (fun D3 => ?_)
  refine A_aload_n hC dX5_read_15 rfl ?_
  refine A_getr (kf := 0) hC kX5 (lX_33 hL) rfl (by decide) (by decide) rfl rfl w_203 dX5_read_16 ?_
  refine A_iconst (v := 0) hC dX5_read_19 (by decide) ?_
  refine A_puti (kf := 0) hC kX6 (lX_34 hL) rfl (by decide) (by decide) rfl rfl rfl w_109 dX5_read_20 (fun D4 => ?_)
  refine A_aload_n hC dX5_read_23 rfl ?_
  refine A_iconst (v := 0) hC dX5_read_24 (by decide) ?_
  refine A_puti (kf := 7) hC kX5 (lX_33 hL) rfl (by decide) (by decide) rfl rfl rfl w_213 dX5_read_25 (fun D5 => ?_)
  refine A_aload_n hC dX5_read_28 rfl ?_
  refine A_callVv (As := []) (st := []) hC (fun l => mX5_advance l g hL D5) (lX_33 hL) rfl (Nat.le_of_ble_eq_true rfl) yc_X5_45 rfl rfl ⟨by decide, by decide⟩ (Nat.le_of_ble_eq_true rfl) rfl dX5_read_29 (fun _ D6 => ?_)
  refine A_iconst (v := 0) hC dX5_read_32 (by decide) ?_
  refine A_istore_n (lv2 := [some (.ref (g.1 + 33)), some (.int a1), some (.int (0 : Int32))]) hC dX5_read_33 (Nat.le_of_ble_eq_true rfl) rfl rfl ?_
  refine A_join (fun (J : Int32 → ADD → Option (Int32 × ADD)) => ∀ (x1 : Int32) (D7 : ADD), AT aVi g b 79 [some (.ref (g.1 + 33)), none, some (.int x1)] [] D7 (J x1 D7)) (fun x1 D7 => ?_) (fun j79 hj79 => ?_)
  · refine A_aload_n hC dX5_read_79 rfl ?_
    refine A_getr (kf := 0) hC kX5 (lX_33 hL) rfl (by decide) (by decide) rfl rfl w_203 dX5_read_80 ?_
    refine A_iload_n hC dX5_read_83 rfl ?_
    refine A_bipush (v := 16) hC dX5_read_84 (by decide) ?_
    refine A_mmin hC w_566 w_567 w_16 w_568 rfl (by decide) (Nat.le_of_ble_eq_true rfl) dX5_read_86 ?_
    refine A_puti (kf := 0) hC kX6 (lX_34 hL) rfl (by decide) (by decide) rfl rfl rfl w_109 dX5_read_89 (fun D8 => ?_)
    refine A_aload_n hC dX5_read_92 rfl ?_
    refine A_geti (kf := 1) hC kX5 (lX_33 hL) rfl (by decide) (by decide) rfl w_205 dX5_read_93 ?_
    refine A_join (fun (J : Int32 → ADD → Option (Int32 × ADD)) => ∀ (x2 : Int32) (D9 : ADD), AT aVi g b 104 [none, none, none] [.int x2] D9 (J x2 D9)) (fun x2 D9 => ?_) (fun j104 hj104 => ?_)
    · exact A_zretc hC dX5_read_104
    refine A_if_ne (tgt := 103) hC dX5_read_96 (by decide) ?_ ?_
    · refine A_iconst (v := 0) hC dX5_read_103 (by decide) ?_
      exact A_to (hj104 (0 : Int32) D8) (trivial)
    · refine A_iconst (v := 1) hC dX5_read_99 (by decide) ?_
      refine A_goto (tgt := 104) hC dX5_read_100 (by decide) ?_
      exact A_to (hj104 (1 : Int32) D8) (trivial)
  refine A_join (fun (J : Int32 → ADD → Option (Int32 × ADD)) => ∀ (x3 : Int32) (D10 : ADD), AT aVi g b 34 [some (.ref (g.1 + 33)), none, some (.int x3)] [] D10 (J x3 D10)) (aFix_all (fun (J : Int32 → ADD → Option (Int32 × ADD)) => ∀ (x3 : Int32) (D10 : ADD), AT aVi g b 34 [some (.ref (g.1 + 33)), none, some (.int x3)] [] D10 (J x3 D10)) (fun _ _ => A_none) (fun L34 hL34 x3 D10 => ?_) _) (fun j34 hj34 => ?_)
  · unfold lX5_read_34
    refine A_aload_n hC dX5_read_34 rfl ?_
    refine A_geti (kf := 5) hC kX5 (lX_33 hL) rfl (by decide) (by decide) rfl w_211 dX5_read_35 ?_
    refine A_if_eq (tgt := 79) hC dX5_read_38 (by decide) ?_ ?_
    · exact A_to (hj79 x3 D10) (And.intro rfl (And.intro rfl (trivial)))
    · refine A_iload_n hC dX5_read_41 rfl ?_
      refine A_sipush (v := 500) hC dX5_read_42 (by decide) ?_
      refine A_icmp_ge (tgt := 79) hC dX5_read_45 (by decide) ?_ ?_
      · exact A_to (hj79 x3 D10) (And.intro rfl (And.intro rfl (trivial)))
      · refine A_iload_n hC dX5_read_48 rfl ?_
        refine A_bipush (v := 16) hC dX5_read_49 (by decide) ?_
        refine A_join (fun (J : ADD → Option (Int32 × ADD)) => ∀ (D11 : ADD), AT aVi g b 63 [some (.ref (g.1 + 33)), none, some (.int x3)] [] D11 (J D11)) (fun D11 => ?_) (fun j63 hj63 => ?_)
        · refine A_aload_n hC dX5_read_63 rfl ?_
          refine A_iload_n hC dX5_read_64 rfl ?_
          refine A_callVi (As := [.int x3]) (st := []) hC (fun l => mX5_readLine l g hL x3 D11) (lX_33 hL) rfl (Nat.le_of_ble_eq_true rfl) yc_X5_52 rfl rfl ⟨by decide, by decide⟩ (Nat.le_of_ble_eq_true rfl) rfl dX5_read_65 (fun x4 D12 => ?_)
          refine A_if_ne (tgt := 73) hC dX5_read_68 (by decide) ?_ ?_
          · refine A_iincL (z := (1 : Int32)) (lv2 := fun x5 => [some (.ref (g.1 + 33)), none, some (.int x5)]) hC dX5_read_73 rfl (by decide) (Nat.le_of_ble_eq_true rfl) rfl (fun _ => rfl) (fun x5 => ?_)
            refine A_goto (tgt := 34) hC dX5_read_76 (by decide) ?_
            exact A_to (hL34 x5 D12) (And.intro rfl (And.intro rfl (trivial)))
          · refine A_iconst (v := 0) hC dX5_read_71 (by decide) ?_
            exact A_zret hC dX5_read_72 (Or.inl rfl)
        refine A_icmp_ne (tgt := 63) hC dX5_read_51 (by decide) ?_ ?_
        · exact A_to (hj63 D10) (And.intro rfl (And.intro rfl (trivial)))
        · refine A_aload_n hC dX5_read_54 rfl ?_
          refine A_iconst (v := 3) hC dX5_read_55 (by decide) ?_
          refine A_aload_n hC dX5_read_56 rfl ?_
          refine A_geti (kf := 6) hC kX5 (lX_33 hL) rfl (by decide) (by decide) rfl w_212 dX5_read_57 ?_
          refine A_callVv (As := [.int (3 : Int32), .int (D10.1 33 6)]) (st := []) hC (fun l => mX5_remark l g hL (3 : Int32) (D10.1 33 6) D10) (lX_33 hL) rfl (Nat.le_of_ble_eq_true rfl) yc_X5_48 rfl rfl ⟨by decide, by decide⟩ (Nat.le_of_ble_eq_true rfl) rfl dX5_read_60 (fun _ D13 => ?_)
          exact A_to (hj63 D13) (And.intro rfl (And.intro rfl (trivial)))
  exact A_to (hj34 (0 : Int32) D6) (And.intro rfl (And.intro rfl (trivial)))
def fX10_text (a1 : Int32) (D : ADD) : Option (Int32 × ADD) := aBind (fX5_read a1 D) (fun x1 D1 => aLet (aSI D1 1 5 (D1.1 33 1)) (fun D2 => aLet (aSI D2 1 6 (D2.1 33 2)) (fun D3 => aBind (fX9_cut (0 : Int32) D3) (fun x2 D4 => (if x1 = 0 then some ((-1 : Int32), D4) else (if a1 = 0 then aBind (fX6_copyFrom 13 34 D4) (fun _ D5 => some ((D5.1 13 0), D5)) else aBind (fX6_copyFrom 22 34 D4) (fun _ D6 => some ((D6.1 22 0), D6))))))))
set_option maxHeartbeats 4000000 in
set_option maxRecDepth 100000 in
theorem mX10_text (l : Launch) (g : AGl) (hL : aLX g) (a1 : Int32) (D : ADD) : AM aVi l yX10_text cX10_text 4 (some .int) 11 g [.ref (g.1 + 0), .int a1] D (fX10_text a1 D) := by
  refine AM_of (lv0 := [some (.ref (g.1 + 0)), some (.int a1), none, none]) (own := RX10) (by decide +kernel) rfl (Nat.le_of_ble_eq_true rfl) rfl (fun b hC => ?_)
  unfold fX10_text
  refine A_aload_n hC dX10_text_0 rfl ?_
  refine A_getr (kf := 2) hC kX10 (lX_0 hL) rfl (by decide) (by decide) rfl rfl w_307 dX10_text_1 ?_
  refine A_iload_n hC dX10_text_4 rfl ?_
  refine A_callVi (As := [.int a1]) (st := []) hC (fun l => mX5_read l g hL a1 D) (lX_33 hL) rfl (Nat.le_of_ble_eq_true rfl) yc_X10_102 rfl rfl ⟨by decide, by decide⟩ (Nat.le_of_ble_eq_true rfl) rfl dX10_text_5 (fun x1 D1 => ?_)
  refine A_istore_n (lv2 := [some (.ref (g.1 + 0)), some (.int a1), some (.int x1), none]) hC dX10_text_8 (Nat.le_of_ble_eq_true rfl) rfl rfl ?_
  refine A_aload_n hC dX10_text_9 rfl ?_
  refine A_getr (kf := 0) hC kX10 (lX_0 hL) rfl (by decide) (by decide) rfl rfl w_305 dX10_text_10 ?_
  refine A_aload_n hC dX10_text_13 rfl ?_
  refine A_getr (kf := 2) hC kX10 (lX_0 hL) rfl (by decide) (by decide) rfl rfl w_307 dX10_text_14 ?_
  refine A_geti (kf := 1) hC kX5 (lX_33 hL) rfl (by decide) (by decide) rfl w_206 dX10_text_17 ?_
  refine A_puti (kf := 5) hC kX8 (lX_1 hL) rfl (by decide) (by decide) rfl rfl rfl w_176 dX10_text_20 (fun D2 => ?_)
  refine A_aload_n hC dX10_text_23 rfl ?_
  refine A_getr (kf := 0) hC kX10 (lX_0 hL) rfl (by decide) (by decide) rfl rfl w_305 dX10_text_24 ?_
  refine A_aload_n hC dX10_text_27 rfl ?_
  refine A_getr (kf := 2) hC kX10 (lX_0 hL) rfl (by decide) (by decide) rfl rfl w_307 dX10_text_28 ?_
  refine A_geti (kf := 2) hC kX5 (lX_33 hL) rfl (by decide) (by decide) rfl w_208 dX10_text_31 ?_
  refine A_puti (kf := 6) hC kX8 (lX_1 hL) rfl (by decide) (by decide) rfl rfl rfl w_178 dX10_text_34 (fun D3 => ?_)
  refine A_aload_n hC dX10_text_37 rfl ?_
  refine A_getr (kf := 0) hC kX10 (lX_0 hL) rfl (by decide) (by decide) rfl rfl w_305 dX10_text_38 ?_
  refine A_getr (kf := 1) hC kX8 (lX_1 hL) rfl (by decide) (by decide) rfl rfl w_166 dX10_text_41 ?_
  refine A_iconst (v := 0) hC dX10_text_44 (by decide) ?_
  refine A_callVi (As := [.int (0 : Int32)]) (st := []) hC (fun l => mX9_cut l g hL (0 : Int32) D3) (lX_11 hL) rfl (Nat.le_of_ble_eq_true rfl) yc_X10_99 rfl rfl ⟨by decide, by decide⟩ (Nat.le_of_ble_eq_true rfl) rfl dX10_text_45 (fun x2 D4 => ?_)
  refine A_pop hC dX10_text_48 rfl ?_
  refine A_iload_n hC dX10_text_49 rfl ?_
  refine A_if_ne (tgt := 55) hC dX10_text_50 (by decide) ?_ ?_
  · refine A_iload_n hC dX10_text_55 rfl ?_
    refine A_if_eq (tgt := 69) hC dX10_text_56 (by decide) ?_ ?_
    · refine A_aload_n hC dX10_text_69 rfl ?_
      refine A_getr (kf := 0) hC kX10 (lX_0 hL) rfl (by decide) (by decide) rfl rfl w_305 dX10_text_70 ?_
      refine A_getr (kf := 2) hC kX8 (lX_1 hL) rfl (by decide) (by decide) rfl rfl w_168 dX10_text_73 ?_
      refine A_astore_n (lv2 := [some (.ref (g.1 + 0)), some (.int a1), some (.int x1), some (.ref (g.1 + 13))]) hC dX10_text_76 (Nat.le_of_ble_eq_true rfl) rfl rfl ?_
      refine A_aload_n hC dX10_text_77 rfl ?_
      refine A_aload_n hC dX10_text_78 rfl ?_
      refine A_getr (kf := 2) hC kX10 (lX_0 hL) rfl (by decide) (by decide) rfl rfl w_307 dX10_text_79 ?_
      refine A_getr (kf := 0) hC kX5 (lX_33 hL) rfl (by decide) (by decide) rfl rfl w_204 dX10_text_82 ?_
      refine A_callVv (As := [.ref (g.1 + 34)]) (st := []) hC (fun l => mX6_copyFrom l g 13 34 (lR_13 hL) (lR_34 hL) D4) (lX_13 hL) rfl (Nat.le_of_ble_eq_true rfl) yc_X10_124 rfl rfl ⟨by decide, by decide⟩ (Nat.le_of_ble_eq_true rfl) rfl dX10_text_85 (fun _ D5 => ?_)
      refine A_aload_n hC dX10_text_88 rfl ?_
      refine A_geti (kf := 0) hC kX6 (lX_13 hL) rfl (by decide) (by decide) rfl w_110 dX10_text_89 ?_
      exact A_iret hC dX10_text_92
    · refine A_aload_n hC dX10_text_59 rfl ?_
      refine A_getr (kf := 0) hC kX10 (lX_0 hL) rfl (by decide) (by decide) rfl rfl w_305 dX10_text_60 ?_
      refine A_getr (kf := 3) hC kX8 (lX_1 hL) rfl (by decide) (by decide) rfl rfl w_171 dX10_text_63 ?_
      refine A_goto (tgt := 76) hC dX10_text_66 (by decide) ?_
      refine A_astore_n (lv2 := [some (.ref (g.1 + 0)), some (.int a1), some (.int x1), some (.ref (g.1 + 22))]) hC dX10_text_76 (Nat.le_of_ble_eq_true rfl) rfl rfl ?_
      refine A_aload_n hC dX10_text_77 rfl ?_
      refine A_aload_n hC dX10_text_78 rfl ?_
      refine A_getr (kf := 2) hC kX10 (lX_0 hL) rfl (by decide) (by decide) rfl rfl w_307 dX10_text_79 ?_
      refine A_getr (kf := 0) hC kX5 (lX_33 hL) rfl (by decide) (by decide) rfl rfl w_204 dX10_text_82 ?_
      refine A_callVv (As := [.ref (g.1 + 34)]) (st := []) hC (fun l => mX6_copyFrom l g 22 34 (lR_22 hL) (lR_34 hL) D4) (lX_22 hL) rfl (Nat.le_of_ble_eq_true rfl) yc_X10_124 rfl rfl ⟨by decide, by decide⟩ (Nat.le_of_ble_eq_true rfl) rfl dX10_text_85 (fun _ D6 => ?_)
      refine A_aload_n hC dX10_text_88 rfl ?_
      refine A_geti (kf := 0) hC kX6 (lX_22 hL) rfl (by decide) (by decide) rfl w_110 dX10_text_89 ?_
      exact A_iret hC dX10_text_92
  · refine A_iconst (v := -1) hC dX10_text_53 (by decide) ?_
    exact A_iret hC dX10_text_54
