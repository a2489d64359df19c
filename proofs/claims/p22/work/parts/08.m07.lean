def fX4_timesOf (a1 : Int32) (a2 : Int32) (D : ADD) : Option (Int32 × ADD) := aBind (fX4_has a1 D) (fun x1 D1 => aLet (fun (x2 : Int32) (D2 : ADD) => some (x2, D2)) (fun (j34 : Int32 → ADD → Option (Int32 × ADD)) => (if x1 = 0 then j34 (0 : Int32) D1 else aIn a1 32 (aIn a1 32 (aIn a1 32 (aBind (fX2_times (D1.1 44 a1.toNatClampNeg) (D1.1 45 a1.toNatClampNeg) (D1.1 47 a1.toNatClampNeg) a2 D1) (fun x3 D3 => j34 x3 D3)))))))
set_option maxHeartbeats 4000000 in
set_option maxRecDepth 100000 in
theorem mX4_timesOf (l : Launch) (g : AGl) (hL : aLX g) (a1 : Int32) (a2 : Int32) (D : ADD) : AM aVi l yX4_timesOf cX4_timesOf 3 (some .int) 1 g [.ref (g.1 + 43), .int a1, .int a2] D (fX4_timesOf a1 a2 D) := by
  refine AM_of (lv0 := [some (.ref (g.1 + 43)), some (.int a1), some (.int a2)]) (own := RX4) (by decide +kernel) rfl (Nat.le_of_ble_eq_true rfl) rfl (fun b hC => ?_)
  unfold fX4_timesOf
  refine A_aload_n hC dX4_timesOf_0 rfl ?_
  refine A_iload_n hC dX4_timesOf_1 rfl ?_
  refine A_callVi (As := [.int a1]) (st := []) hC (fun l => mX4_has l g hL a1 D) (lX_43 hL) rfl (Nat.le_of_ble_eq_true rfl) yc_X4_53 rfl rfl ⟨by decide, by decide⟩ (Nat.le_of_ble_eq_true rfl) rfl dX4_timesOf_2 (fun x1 D1 => ?_)
  refine A_join (fun (J : Int32 → ADD → Option (Int32 × ADD)) => ∀ (x2 : Int32) (D2 : ADD), AT aVi g b 34 [none, none, none] [.int x2] D2 (J x2 D2)) (fun x2 D2 => ?_) (fun j34 hj34 => ?_)
  · exact A_iret hC dX4_timesOf_34
  refine A_if_eq (tgt := 33) hC dX4_timesOf_5 (by decide) ?_ ?_
  · refine A_iconst (v := 0) hC dX4_timesOf_33 (by decide) ?_
    exact A_to (hj34 (0 : Int32) D1) (trivial)
  · refine A_aload_n hC dX4_timesOf_8 rfl ?_
    refine A_getr (kf := 1) hC kX4 (lX_43 hL) rfl (by decide) (by decide) rfl rfl w_241 dX4_timesOf_9 ?_
    refine A_iload_n hC dX4_timesOf_12 rfl ?_
    refine A_iald hC (lX_44 hL) dX4_timesOf_13 ?_
    refine A_aload_n hC dX4_timesOf_14 rfl ?_
    refine A_getr (kf := 2) hC kX4 (lX_43 hL) rfl (by decide) (by decide) rfl rfl w_244 dX4_timesOf_15 ?_
    refine A_iload_n hC dX4_timesOf_18 rfl ?_
    refine A_iald hC (lX_45 hL) dX4_timesOf_19 ?_
    refine A_aload_n hC dX4_timesOf_20 rfl ?_
    refine A_getr (kf := 4) hC kX4 (lX_43 hL) rfl (by decide) (by decide) rfl rfl w_248 dX4_timesOf_21 ?_
    refine A_iload_n hC dX4_timesOf_24 rfl ?_
    refine A_iald hC (lX_47 hL) dX4_timesOf_25 ?_
    refine A_iload_n hC dX4_timesOf_26 rfl ?_
    refine A_callSi (As := [.int (D1.1 44 a1.toNatClampNeg), .int (D1.1 45 a1.toNatClampNeg), .int (D1.1 47 a1.toNatClampNeg), .int a2]) (st := []) hC (fun l => mX2_times l g (D1.1 44 a1.toNatClampNeg) (D1.1 45 a1.toNatClampNeg) (D1.1 47 a1.toNatClampNeg) a2 D1) yc_X4_71 rfl rfl ⟨by decide, by decide⟩ (Nat.le_of_ble_eq_true rfl) rfl dX4_timesOf_27 (fun x3 D3 => ?_)
    refine A_goto (tgt := 34) hC dX4_timesOf_30 (by decide) ?_
    exact A_to (hj34 x3 D3) (trivial)
def fX4_townOf (a1 : Int32) (D : ADD) : Option (Int32 × ADD) := aBind (fX4_has a1 D) (fun x1 D1 => aLet (fun (x2 : Int32) (D2 : ADD) => some (x2, D2)) (fun (j18 : Int32 → ADD → Option (Int32 × ADD)) => (if x1 = 0 then j18 (0 : Int32) D1 else aIn a1 32 (j18 (D1.1 48 a1.toNatClampNeg) D1))))
set_option maxHeartbeats 4000000 in
set_option maxRecDepth 100000 in
theorem mX4_townOf (l : Launch) (g : AGl) (hL : aLX g) (a1 : Int32) (D : ADD) : AM aVi l yX4_townOf cX4_townOf 2 (some .int) 1 g [.ref (g.1 + 43), .int a1] D (fX4_townOf a1 D) := by
  refine AM_of (lv0 := [some (.ref (g.1 + 43)), some (.int a1)]) (own := RX4) (by decide +kernel) rfl (Nat.le_of_ble_eq_true rfl) rfl (fun b hC => ?_)
  unfold fX4_townOf
  refine A_aload_n hC dX4_townOf_0 rfl ?_
  refine A_iload_n hC dX4_townOf_1 rfl ?_
  refine A_callVi (As := [.int a1]) (st := []) hC (fun l => mX4_has l g hL a1 D) (lX_43 hL) rfl (Nat.le_of_ble_eq_true rfl) yc_X4_53 rfl rfl ⟨by decide, by decide⟩ (Nat.le_of_ble_eq_true rfl) rfl dX4_townOf_2 (fun x1 D1 => ?_)
  refine A_join (fun (J : Int32 → ADD → Option (Int32 × ADD)) => ∀ (x2 : Int32) (D2 : ADD), AT aVi g b 18 [none, none] [.int x2] D2 (J x2 D2)) (fun x2 D2 => ?_) (fun j18 hj18 => ?_)
  · exact A_iret hC dX4_townOf_18
  refine A_if_eq (tgt := 17) hC dX4_townOf_5 (by decide) ?_ ?_
  · refine A_iconst (v := 0) hC dX4_townOf_17 (by decide) ?_
    exact A_to (hj18 (0 : Int32) D1) (trivial)
  · refine A_aload_n hC dX4_townOf_8 rfl ?_
    refine A_getr (kf := 5) hC kX4 (lX_43 hL) rfl (by decide) (by decide) rfl rfl w_249 dX4_townOf_9 ?_
    refine A_iload_n hC dX4_townOf_12 rfl ?_
    refine A_iald hC (lX_48 hL) dX4_townOf_13 ?_
    refine A_goto (tgt := 18) hC dX4_townOf_14 (by decide) ?_
    exact A_to (hj18 (D1.1 48 a1.toNatClampNeg) D1) (trivial)
def lX5_advance_75 (j115 : ADD → Option (Unit × ADD)) (L75 : ADD → Option (Unit × ADD)) (D9 : ADD) : Option (Unit × ADD) := (if (500 : Int32) ≤ (D9.1 33 7) then j115 D9 else aBind (fX9_byteAt (D9.1 33 7) D9) (fun x3 D10 => aBind (fX5_isLetter x3 D10) (fun x4 D11 => (if x4 = 0 then j115 D11 else aLet (aSI D11 33 7 ((D11.1 33 7) + (1 : Int32))) (fun D12 => L75 D12)))))
def lX5_advance_130 (j170 : ADD → Option (Unit × ADD)) (L130 : ADD → Option (Unit × ADD)) (D17 : ADD) : Option (Unit × ADD) := (if (500 : Int32) ≤ (D17.1 33 7) then j170 D17 else aBind (fX9_byteAt (D17.1 33 7) D17) (fun x7 D18 => aBind (fX5_isDigit x7 D18) (fun x8 D19 => (if x8 = 0 then j170 D19 else aLet (aSI D19 33 7 ((D19.1 33 7) + (1 : Int32))) (fun D20 => L130 D20)))))
def lX5_advance_8 (j48 : ADD → Option (Unit × ADD)) (L8 : ADD → Option (Unit × ADD)) (D26 : ADD) : Option (Unit × ADD) := (if (500 : Int32) ≤ (D26.1 33 6) then j48 D26 else aBind (fX9_byteAt (D26.1 33 6) D26) (fun x11 D27 => aBind (fX5_isBlank x11 D27) (fun x12 D28 => (if x12 = 0 then j48 D28 else aLet (aSI D28 33 6 ((D28.1 33 6) + (1 : Int32))) (fun D29 => L8 D29)))))
def fX5_advance (D : ADD) : Option (Unit × ADD) := aLet (aSI D 33 6 (D.1 33 7)) (fun D1 => aLet (fun (D2 : ADD) => aBind (fX9_byteAt (D2.1 33 6) D2) (fun x1 D3 => aLet (aSI D3 33 7 (D3.1 33 6)) (fun D4 => aBind (fX5_isLetter x1 D4) (fun x2 D5 => aLet (fun (D6 : ADD) => some ((), D6)) (fun (j234 : ADD → Option (Unit × ADD)) => aLet (fun (D7 : ADD) => aLet (aSI D7 33 5 (1 : Int32)) (fun D8 => j234 D8)) (fun (j115 : ADD → Option (Unit × ADD)) => aLet (aFix aFuel (lX5_advance_75 j115) (fun _ => none)) (fun j75 => (if x2 = 0 then aBind (fX5_isDigit x1 D5) (fun x5 D13 => aLet (fun (D14 : ADD) => aLet (fun (x6 : Int32) (D15 : ADD) => aLet (aSI D15 33 5 x6) (fun D16 => j234 D16)) (fun (j189 : Int32 → ADD → Option (Unit × ADD)) => (if (4 : Int32) < ((D14.1 33 7) - (D14.1 33 6)) then j189 (4 : Int32) D14 else j189 (2 : Int32) D14))) (fun (j170 : ADD → Option (Unit × ADD)) => aLet (aFix aFuel (lX5_advance_130 j170) (fun _ => none)) (fun j130 => (if x5 = 0 then (if x1 = (-1 : Int32) then aLet (aSI D13 33 5 (0 : Int32)) (fun D25 => j234 D25) else aLet (aSI D13 33 7 ((D13.1 33 7) + (1 : Int32))) (fun D21 => aBind (fX5_isSignByte x1 D21) (fun x9 D22 => aLet (fun (x10 : Int32) (D23 : ADD) => aLet (aSI D23 33 5 x10) (fun D24 => j234 D24)) (fun (j231 : Int32 → ADD → Option (Unit × ADD)) => (if x9 = 0 then j231 (4 : Int32) D22 else j231 (3 : Int32) D22))))) else j130 D13)))) else j75 D5)))))))) (fun (j48 : ADD → Option (Unit × ADD)) => aLet (aFix aFuel (lX5_advance_8 j48) (fun _ => none)) (fun j8 => j8 D1)))
set_option maxHeartbeats 4000000 in
set_option maxRecDepth 100000 in
theorem mX5_advance (l : Launch) (g : AGl) (hL : aLX g) (D : ADD) : AM aVv l yX5_advance cX5_advance 2 none 1 g [.ref (g.1 + 33)] D (fX5_advance D) := by
  refine AM_of (lv0 := [some (.ref (g.1 + 33)), none]) (own := RX5) (by decide +kernel) rfl (Nat.le_of_ble_eq_true rfl) rfl (fun b hC => ?_)
  unfold fX5_advance
  refine A_aload_n hC dX5_advance_0 rfl ?_
  refine A_aload_n hC dX5_advance_1 rfl ?_
  refine A_geti (kf := 7) hC kX5 (lX_33 hL) rfl (by decide) (by decide) rfl w_213 dX5_advance_2 ?_
  refine A_puti (kf := 6) hC kX5 (lX_33 hL) rfl (by decide) (by decide) rfl rfl rfl w_212 dX5_advance_5 (fun D1 => ?_)
  refine A_join (fun (J : ADD → Option (Unit × ADD)) => ∀ (D2 : ADD), AT aVv g b 48 [some (.ref (g.1 + 33)), none] [] D2 (J D2)) (fun D2 => ?_) (fun j48 hj48 => ?_)
  · refine A_aload_n hC dX5_advance_48 rfl ?_
    refine A_getr (kf := 3) hC kX5 (lX_33 hL) rfl (by decide) (by decide) rfl rfl w_209 dX5_advance_49 ?_
    refine A_aload_n hC dX5_advance_52 rfl ?_
    refine A_geti (kf := 6) hC kX5 (lX_33 hL) rfl (by decide) (by decide) rfl w_212 dX5_advance_53 ?_
    refine A_callVi (As := [.int (D2.1 33 6)]) (st := []) hC (fun l => mX9_byteAt l g hL (D2.1 33 6) D2) (lX_11 hL) rfl (Nat.le_of_ble_eq_true rfl) yc_X5_99 rfl rfl ⟨by decide, by decide⟩ (Nat.le_of_ble_eq_true rfl) rfl dX5_advance_56 (fun x1 D3 => ?_)
    refine A_istore_n (lv2 := [some (.ref (g.1 + 33)), some (.int x1)]) hC dX5_advance_59 (Nat.le_of_ble_eq_true rfl) rfl rfl ?_
    refine A_aload_n hC dX5_advance_60 rfl ?_
    refine A_aload_n hC dX5_advance_61 rfl ?_
    refine A_geti (kf := 6) hC kX5 (lX_33 hL) rfl (by decide) (by decide) rfl w_212 dX5_advance_62 ?_
    refine A_puti (kf := 7) hC kX5 (lX_33 hL) rfl (by decide) (by decide) rfl rfl rfl w_213 dX5_advance_65 (fun D4 => ?_)
    refine A_iload_n hC dX5_advance_68 rfl ?_
    refine A_callSi (As := [.int x1]) (st := []) hC (fun l => mX5_isLetter l g x1 D4) yc_X5_139 rfl rfl ⟨by decide, by decide⟩ (Nat.le_of_ble_eq_true rfl) rfl dX5_advance_69 (fun x2 D5 => ?_)
    refine A_join (fun (J : ADD → Option (Unit × ADD)) => ∀ (D6 : ADD), AT aVv g b 234 [none, none] [] D6 (J D6)) (fun D6 => ?_) (fun j234 hj234 => ?_)
    · exact A_vret hC dX5_advance_234
    refine A_join (fun (J : ADD → Option (Unit × ADD)) => ∀ (D7 : ADD), AT aVv g b 115 [some (.ref (g.1 + 33)), none] [] D7 (J D7)) (fun D7 => ?_) (fun j115 hj115 => ?_)
    · refine A_aload_n hC dX5_advance_115 rfl ?_
      refine A_iconst (v := 1) hC dX5_advance_116 (by decide) ?_
      refine A_puti (kf := 5) hC kX5 (lX_33 hL) rfl (by decide) (by decide) rfl rfl rfl w_211 dX5_advance_117 (fun D8 => ?_)
      refine A_goto (tgt := 234) hC dX5_advance_120 (by decide) ?_
      exact A_to (hj234 D8) (trivial)
    refine A_join (fun (J : ADD → Option (Unit × ADD)) => ∀ (D9 : ADD), AT aVv g b 75 [some (.ref (g.1 + 33)), none] [] D9 (J D9)) (aFix_all (fun (J : ADD → Option (Unit × ADD)) => ∀ (D9 : ADD), AT aVv g b 75 [some (.ref (g.1 + 33)), none] [] D9 (J D9)) (fun _ => A_none) (fun L75 hL75 D9 => ?_) _) (fun j75 hj75 => ?_)
    · unfold lX5_advance_75
      refine A_aload_n hC dX5_advance_75 rfl ?_
      refine A_geti (kf := 7) hC kX5 (lX_33 hL) rfl (by decide) (by decide) rfl w_213 dX5_advance_76 ?_
      refine A_sipush (v := 500) hC dX5_advance_79 (by decide) ?_
      refine A_icmp_ge (tgt := 115) hC dX5_advance_82 (by decide) ?_ ?_
      · exact A_to (hj115 D9) (And.intro rfl (trivial))
      · refine A_aload_n hC dX5_advance_85 rfl ?_
        refine A_getr (kf := 3) hC kX5 (lX_33 hL) rfl (by decide) (by decide) rfl rfl w_209 dX5_advance_86 ?_
        refine A_aload_n hC dX5_advance_89 rfl ?_
        refine A_geti (kf := 7) hC kX5 (lX_33 hL) rfl (by decide) (by decide) rfl w_213 dX5_advance_90 ?_
        refine A_callVi (As := [.int (D9.1 33 7)]) (st := []) hC (fun l => mX9_byteAt l g hL (D9.1 33 7) D9) (lX_11 hL) rfl (Nat.le_of_ble_eq_true rfl) yc_X5_99 rfl rfl ⟨by decide, by decide⟩ (Nat.le_of_ble_eq_true rfl) rfl dX5_advance_93 (fun x3 D10 => ?_)
        refine A_callSi (As := [.int x3]) (st := []) hC (fun l => mX5_isLetter l g x3 D10) yc_X5_139 rfl rfl ⟨by decide, by decide⟩ (Nat.le_of_ble_eq_true rfl) rfl dX5_advance_96 (fun x4 D11 => ?_)
        refine A_if_eq (tgt := 115) hC dX5_advance_99 (by decide) ?_ ?_
        · exact A_to (hj115 D11) (And.intro rfl (trivial))
        · refine A_aload_n hC dX5_advance_102 rfl ?_
          refine A_dup hC dX5_advance_103 rfl ?_
          refine A_geti (kf := 7) hC kX5 (lX_33 hL) rfl (by decide) (by decide) rfl w_213 dX5_advance_104 ?_
          refine A_iconst (v := 1) hC dX5_advance_107 (by decide) ?_
          refine A_iadd hC dX5_advance_108 ?_
          refine A_puti (kf := 7) hC kX5 (lX_33 hL) rfl (by decide) (by decide) rfl rfl rfl w_213 dX5_advance_109 (fun D12 => ?_)
          refine A_goto (tgt := 75) hC dX5_advance_112 (by decide) ?_
          exact A_to (hL75 D12) (And.intro rfl (trivial))
    refine A_if_eq (tgt := 123) hC dX5_advance_72 (by decide) ?_ ?_
    · refine A_iload_n hC dX5_advance_123 rfl ?_
      refine A_callSi (As := [.int x1]) (st := []) hC (fun l => mX5_isDigit l g x1 D5) yc_X5_142 rfl rfl ⟨by decide, by decide⟩ (Nat.le_of_ble_eq_true rfl) rfl dX5_advance_124 (fun x5 D13 => ?_)
      refine A_join (fun (J : ADD → Option (Unit × ADD)) => ∀ (D14 : ADD), AT aVv g b 170 [some (.ref (g.1 + 33)), none] [] D14 (J D14)) (fun D14 => ?_) (fun j170 hj170 => ?_)
      · refine A_aload_n hC dX5_advance_170 rfl ?_
        refine A_aload_n hC dX5_advance_171 rfl ?_
        refine A_geti (kf := 7) hC kX5 (lX_33 hL) rfl (by decide) (by decide) rfl w_213 dX5_advance_172 ?_
        refine A_aload_n hC dX5_advance_175 rfl ?_
        refine A_geti (kf := 6) hC kX5 (lX_33 hL) rfl (by decide) (by decide) rfl w_212 dX5_advance_176 ?_
        refine A_isub hC dX5_advance_179 ?_
        refine A_iconst (v := 4) hC dX5_advance_180 (by decide) ?_
        refine A_join (fun (J : Int32 → ADD → Option (Unit × ADD)) => ∀ (x6 : Int32) (D15 : ADD), AT aVv g b 189 [none, none] [.int x6, .ref (g.1 + 33)] D15 (J x6 D15)) (fun x6 D15 => ?_) (fun j189 hj189 => ?_)
        · refine A_puti (kf := 5) hC kX5 (lX_33 hL) rfl (by decide) (by decide) rfl rfl rfl w_211 dX5_advance_189 (fun D16 => ?_)
          refine A_goto (tgt := 234) hC dX5_advance_192 (by decide) ?_
          exact A_to (hj234 D16) (trivial)
        refine A_icmp_gt (tgt := 188) hC dX5_advance_181 (by decide) ?_ ?_
        · refine A_iconst (v := 4) hC dX5_advance_188 (by decide) ?_
          exact A_to (hj189 (4 : Int32) D14) (trivial)
        · refine A_iconst (v := 2) hC dX5_advance_184 (by decide) ?_
          refine A_goto (tgt := 189) hC dX5_advance_185 (by decide) ?_
          exact A_to (hj189 (2 : Int32) D14) (trivial)
      refine A_join (fun (J : ADD → Option (Unit × ADD)) => ∀ (D17 : ADD), AT aVv g b 130 [some (.ref (g.1 + 33)), none] [] D17 (J D17)) (aFix_all (fun (J : ADD → Option (Unit × ADD)) => ∀ (D17 : ADD), AT aVv g b 130 [some (.ref (g.1 + 33)), none] [] D17 (J D17)) (fun _ => A_none) (fun L130 hL130 D17 => ?_) _) (fun j130 hj130 => ?_)
      · unfold lX5_advance_130
        refine A_aload_n hC dX5_advance_130 rfl ?_
        refine A_geti (kf := 7) hC kX5 (lX_33 hL) rfl (by decide) (by decide) rfl w_213 dX5_advance_131 ?_
        refine A_sipush (v := 500) hC dX5_advance_134 (by decide) ?_
        refine A_icmp_ge (tgt := 170) hC dX5_advance_137 (by decide) ?_ ?_
        · exact A_to (hj170 D17) (And.intro rfl (trivial))
        · refine A_aload_n hC dX5_advance_140 rfl ?_
          refine A_getr (kf := 3) hC kX5 (lX_33 hL) rfl (by decide) (by decide) rfl rfl w_209 dX5_advance_141 ?_
          refine A_aload_n hC dX5_advance_144 rfl ?_
          refine A_geti (kf := 7) hC kX5 (lX_33 hL) rfl (by decide) (by decide) rfl w_213 dX5_advance_145 ?_
          refine A_callVi (As := [.int (D17.1 33 7)]) (st := []) hC (fun l => mX9_byteAt l g hL (D17.1 33 7) D17) (lX_11 hL) rfl (Nat.le_of_ble_eq_true rfl) yc_X5_99 rfl rfl ⟨by decide, by decide⟩ (Nat.le_of_ble_eq_true rfl) rfl dX5_advance_148 (fun x7 D18 => ?_)
          refine A_callSi (As := [.int x7]) (st := []) hC (fun l => mX5_isDigit l g x7 D18) yc_X5_142 rfl rfl ⟨by decide, by decide⟩ (Nat.le_of_ble_eq_true rfl) rfl dX5_advance_151 (fun x8 D19 => ?_)
          refine A_if_eq (tgt := 170) hC dX5_advance_154 (by decide) ?_ ?_
          · exact A_to (hj170 D19) (And.intro rfl (trivial))
          · refine A_aload_n hC dX5_advance_157 rfl ?_
            refine A_dup hC dX5_advance_158 rfl ?_
            refine A_geti (kf := 7) hC kX5 (lX_33 hL) rfl (by decide) (by decide) rfl w_213 dX5_advance_159 ?_
            refine A_iconst (v := 1) hC dX5_advance_162 (by decide) ?_
            refine A_iadd hC dX5_advance_163 ?_
            refine A_puti (kf := 7) hC kX5 (lX_33 hL) rfl (by decide) (by decide) rfl rfl rfl w_213 dX5_advance_164 (fun D20 => ?_)
            refine A_goto (tgt := 130) hC dX5_advance_167 (by decide) ?_
            exact A_to (hL130 D20) (And.intro rfl (trivial))
      refine A_if_eq (tgt := 195) hC dX5_advance_127 (by decide) ?_ ?_
      · refine A_iload_n hC dX5_advance_195 rfl ?_
        refine A_iconst (v := -1) hC dX5_advance_196 (by decide) ?_
        refine A_icmp_ne (tgt := 208) hC dX5_advance_197 (by decide) ?_ ?_
        · refine A_aload_n hC dX5_advance_208 rfl ?_
          refine A_dup hC dX5_advance_209 rfl ?_
          refine A_geti (kf := 7) hC kX5 (lX_33 hL) rfl (by decide) (by decide) rfl w_213 dX5_advance_210 ?_
          refine A_iconst (v := 1) hC dX5_advance_213 (by decide) ?_
          refine A_iadd hC dX5_advance_214 ?_
          refine A_puti (kf := 7) hC kX5 (lX_33 hL) rfl (by decide) (by decide) rfl rfl rfl w_213 dX5_advance_215 (fun D21 => ?_)
          refine A_aload_n hC dX5_advance_218 rfl ?_
          refine A_iload_n hC dX5_advance_219 rfl ?_
          refine A_callSi (As := [.int x1]) (st := [.ref (g.1 + 33)]) hC (fun l => mX5_isSignByte l g x1 D21) yc_X5_145 rfl rfl ⟨by decide, by decide⟩ (Nat.le_of_ble_eq_true rfl) rfl dX5_advance_220 (fun x9 D22 => ?_)
          refine A_join (fun (J : Int32 → ADD → Option (Unit × ADD)) => ∀ (x10 : Int32) (D23 : ADD), AT aVv g b 231 [none, none] [.int x10, .ref (g.1 + 33)] D23 (J x10 D23)) (fun x10 D23 => ?_) (fun j231 hj231 => ?_)
          · refine A_puti (kf := 5) hC kX5 (lX_33 hL) rfl (by decide) (by decide) rfl rfl rfl w_211 dX5_advance_231 (fun D24 => ?_)
            exact A_to (hj234 D24) (trivial)
          refine A_if_eq (tgt := 230) hC dX5_advance_223 (by decide) ?_ ?_
          · refine A_iconst (v := 4) hC dX5_advance_230 (by decide) ?_
            exact A_to (hj231 (4 : Int32) D22) (trivial)
          · refine A_iconst (v := 3) hC dX5_advance_226 (by decide) ?_
            refine A_goto (tgt := 231) hC dX5_advance_227 (by decide) ?_
            exact A_to (hj231 (3 : Int32) D22) (trivial)
        · refine A_aload_n hC dX5_advance_200 rfl ?_
          refine A_iconst (v := 0) hC dX5_advance_201 (by decide) ?_
          refine A_puti (kf := 5) hC kX5 (lX_33 hL) rfl (by decide) (by decide) rfl rfl rfl w_211 dX5_advance_202 (fun D25 => ?_)
          refine A_goto (tgt := 234) hC dX5_advance_205 (by decide) ?_
          exact A_to (hj234 D25) (trivial)
      · exact A_to (hj130 D13) (And.intro rfl (trivial))
    · exact A_to (hj75 D5) (And.intro rfl (trivial))
  refine A_join (fun (J : ADD → Option (Unit × ADD)) => ∀ (D26 : ADD), AT aVv g b 8 [some (.ref (g.1 + 33)), none] [] D26 (J D26)) (aFix_all (fun (J : ADD → Option (Unit × ADD)) => ∀ (D26 : ADD), AT aVv g b 8 [some (.ref (g.1 + 33)), none] [] D26 (J D26)) (fun _ => A_none) (fun L8 hL8 D26 => ?_) _) (fun j8 hj8 => ?_)
  · unfold lX5_advance_8
    refine A_aload_n hC dX5_advance_8 rfl ?_
    refine A_geti (kf := 6) hC kX5 (lX_33 hL) rfl (by decide) (by decide) rfl w_212 dX5_advance_9 ?_
    refine A_sipush (v := 500) hC dX5_advance_12 (by decide) ?_
    refine A_icmp_ge (tgt := 48) hC dX5_advance_15 (by decide) ?_ ?_
    · exact A_to (hj48 D26) (And.intro rfl (trivial))
    · refine A_aload_n hC dX5_advance_18 rfl ?_
      refine A_getr (kf := 3) hC kX5 (lX_33 hL) rfl (by decide) (by decide) rfl rfl w_209 dX5_advance_19 ?_
      refine A_aload_n hC dX5_advance_22 rfl ?_
      refine A_geti (kf := 6) hC kX5 (lX_33 hL) rfl (by decide) (by decide) rfl w_212 dX5_advance_23 ?_
      refine A_callVi (As := [.int (D26.1 33 6)]) (st := []) hC (fun l => mX9_byteAt l g hL (D26.1 33 6) D26) (lX_11 hL) rfl (Nat.le_of_ble_eq_true rfl) yc_X5_99 rfl rfl ⟨by decide, by decide⟩ (Nat.le_of_ble_eq_true rfl) rfl dX5_advance_26 (fun x11 D27 => ?_)
      refine A_callSi (As := [.int x11]) (st := []) hC (fun l => mX5_isBlank l g x11 D27) yc_X5_136 rfl rfl ⟨by decide, by decide⟩ (Nat.le_of_ble_eq_true rfl) rfl dX5_advance_29 (fun x12 D28 => ?_)
      refine A_if_eq (tgt := 48) hC dX5_advance_32 (by decide) ?_ ?_
      · exact A_to (hj48 D28) (And.intro rfl (trivial))
      · refine A_aload_n hC dX5_advance_35 rfl ?_
        refine A_dup hC dX5_advance_36 rfl ?_
        refine A_geti (kf := 6) hC kX5 (lX_33 hL) rfl (by decide) (by decide) rfl w_212 dX5_advance_37 ?_
        refine A_iconst (v := 1) hC dX5_advance_40 (by decide) ?_
        refine A_iadd hC dX5_advance_41 ?_
        refine A_puti (kf := 6) hC kX5 (lX_33 hL) rfl (by decide) (by decide) rfl rfl rfl w_212 dX5_advance_42 (fun D29 => ?_)
        refine A_goto (tgt := 8) hC dX5_advance_45 (by decide) ?_
        exact A_to (hL8 D29) (And.intro rfl (trivial))
  exact A_to (hj8 D1) (And.intro rfl (trivial))
def fX5_isSign (a1 : Int32) (D : ADD) : Option (Int32 × ADD) := aLet (fun (x1 : Int32) (D1 : ADD) => aZ x1 (some (x1, D1))) (fun (j28 : Int32 → ADD → Option (Int32 × ADD)) => aLet (fun (D2 : ADD) => j28 (0 : Int32) D2) (fun (j27 : ADD → Option (Int32 × ADD)) => (if (D.1 33 5) = (3 : Int32) then aBind (fX9_byteAt (D.1 33 6) D) (fun x2 D3 => (if x2 = a1 then j28 (1 : Int32) D3 else j27 D3)) else j27 D)))
set_option maxHeartbeats 4000000 in
set_option maxRecDepth 100000 in
theorem mX5_isSign (l : Launch) (g : AGl) (hL : aLX g) (a1 : Int32) (D : ADD) : AM aVi l yX5_isSign cX5_isSign 2 (some .boolean) 1 g [.ref (g.1 + 33), .int a1] D (fX5_isSign a1 D) := by
  refine AM_of (lv0 := [some (.ref (g.1 + 33)), some (.int a1)]) (own := RX5) (by decide +kernel) rfl (Nat.le_of_ble_eq_true rfl) rfl (fun b hC => ?_)
  unfold fX5_isSign
  refine A_aload_n hC dX5_isSign_0 rfl ?_
  refine A_geti (kf := 5) hC kX5 (lX_33 hL) rfl (by decide) (by decide) rfl w_211 dX5_isSign_1 ?_
  refine A_iconst (v := 3) hC dX5_isSign_4 (by decide) ?_
  refine A_join (fun (J : Int32 → ADD → Option (Int32 × ADD)) => ∀ (x1 : Int32) (D1 : ADD), AT aVi g b 28 [none, none] [.int x1] D1 (J x1 D1)) (fun x1 D1 => ?_) (fun j28 hj28 => ?_)
  · exact A_zretc hC dX5_isSign_28
  refine A_join (fun (J : ADD → Option (Int32 × ADD)) => ∀ (D2 : ADD), AT aVi g b 27 [none, none] [] D2 (J D2)) (fun D2 => ?_) (fun j27 hj27 => ?_)
  · refine A_iconst (v := 0) hC dX5_isSign_27 (by decide) ?_
    exact A_to (hj28 (0 : Int32) D2) (trivial)
  refine A_icmp_ne (tgt := 27) hC dX5_isSign_5 (by decide) ?_ ?_
  · exact A_to (hj27 D) (trivial)
  · refine A_aload_n hC dX5_isSign_8 rfl ?_
    refine A_getr (kf := 3) hC kX5 (lX_33 hL) rfl (by decide) (by decide) rfl rfl w_209 dX5_isSign_9 ?_
    refine A_aload_n hC dX5_isSign_12 rfl ?_
    refine A_geti (kf := 6) hC kX5 (lX_33 hL) rfl (by decide) (by decide) rfl w_212 dX5_isSign_13 ?_
    refine A_callVi (As := [.int (D.1 33 6)]) (st := []) hC (fun l => mX9_byteAt l g hL (D.1 33 6) D) (lX_11 hL) rfl (Nat.le_of_ble_eq_true rfl) yc_X5_99 rfl rfl ⟨by decide, by decide⟩ (Nat.le_of_ble_eq_true rfl) rfl dX5_isSign_16 (fun x2 D3 => ?_)
    refine A_iload_n hC dX5_isSign_19 rfl ?_
    refine A_icmp_ne (tgt := 27) hC dX5_isSign_20 (by decide) ?_ ?_
    · exact A_to (hj27 D3) (trivial)
    · refine A_iconst (v := 1) hC dX5_isSign_23 (by decide) ?_
      refine A_goto (tgt := 28) hC dX5_isSign_24 (by decide) ?_
      exact A_to (hj28 (1 : Int32) D3) (trivial)
def lX5_number_7 (j38 : Int32 → ADD → Option (Int32 × ADD)) (L7 : Int32 → Int32 → ADD → Option (Int32 × ADD)) (x3 : Int32) (x4 : Int32) (D2 : ADD) : Option (Int32 × ADD) := (if (D2.1 33 7) ≤ x4 then j38 x3 D2 else aBind (fX9_byteAt x4 D2) (fun x5 D3 => aLet (((x3 * (10 : Int32)) + x5) - (48 : Int32)) (fun x6 => aLet (x4 + (1 : Int32)) (fun x7 => L7 x6 x7 D3))))
def fX5_number (D : ADD) : Option (Int32 × ADD) := aLet (D.1 33 6) (fun x1 => aLet (fun (x2 : Int32) (D1 : ADD) => some (x2, D1)) (fun (j38 : Int32 → ADD → Option (Int32 × ADD)) => aLet (aFix aFuel (lX5_number_7 j38) (fun _ _ _ => none)) (fun j7 => j7 (0 : Int32) x1 D)))
set_option maxHeartbeats 4000000 in
set_option maxRecDepth 100000 in
theorem mX5_number (l : Launch) (g : AGl) (hL : aLX g) (D : ADD) : AM aVi l yX5_number cX5_number 3 (some .int) 1 g [.ref (g.1 + 33)] D (fX5_number D) := by
  refine AM_of (lv0 := [some (.ref (g.1 + 33)), none, none]) (own := RX5) (by decide +kernel) rfl (Nat.le_of_ble_eq_true rfl) rfl (fun b hC => ?_)
  unfold fX5_number
  refine A_iconst (v := 0) hC dX5_number_0 (by decide) ?_
  refine A_istore_n (lv2 := [some (.ref (g.1 + 33)), some (.int (0 : Int32)), none]) hC dX5_number_1 (Nat.le_of_ble_eq_true rfl) rfl rfl ?_
  refine A_aload_n hC dX5_number_2 rfl ?_
  refine A_geti (kf := 6) hC kX5 (lX_33 hL) rfl (by decide) (by decide) rfl w_212 dX5_number_3 ?_
  refine A_topi (fun x1 => ?_)
  refine A_istore_n (lv2 := [some (.ref (g.1 + 33)), some (.int (0 : Int32)), some (.int x1)]) hC dX5_number_6 (Nat.le_of_ble_eq_true rfl) rfl rfl ?_
  refine A_join (fun (J : Int32 → ADD → Option (Int32 × ADD)) => ∀ (x2 : Int32) (D1 : ADD), AT aVi g b 38 [none, some (.int x2), none] [] D1 (J x2 D1)) (fun x2 D1 => ?_) (fun j38 hj38 => ?_)
  · refine A_iload_n hC dX5_number_38 rfl ?_
    exact A_iret hC dX5_number_39
  refine A_join (fun (J : Int32 → Int32 → ADD → Option (Int32 × ADD)) => ∀ (x3 : Int32) (x4 : Int32) (D2 : ADD), AT aVi g b 7 [some (.ref (g.1 + 33)), some (.int x3), some (.int x4)] [] D2 (J x3 x4 D2)) (aFix_all (fun (J : Int32 → Int32 → ADD → Option (Int32 × ADD)) => ∀ (x3 : Int32) (x4 : Int32) (D2 : ADD), AT aVi g b 7 [some (.ref (g.1 + 33)), some (.int x3), some (.int x4)] [] D2 (J x3 x4 D2)) (fun _ _ _ => A_none) (fun L7 hL7 x3 x4 D2 => ?_) _) (fun j7 hj7 => ?_)
  · unfold lX5_number_7
    refine A_iload_n hC dX5_number_7 rfl ?_
    refine A_aload_n hC dX5_number_8 rfl ?_
    refine A_geti (kf := 7) hC kX5 (lX_33 hL) rfl (by decide) (by decide) rfl w_213 dX5_number_9 ?_
    refine A_icmp_ge (tgt := 38) hC dX5_number_12 (by decide) ?_ ?_
    · exact A_to (hj38 x3 D2) (And.intro rfl (trivial))
    · refine A_iload_n hC dX5_number_15 rfl ?_
      refine A_bipush (v := 10) hC dX5_number_16 (by decide) ?_
      refine A_imul hC dX5_number_18 ?_
      refine A_aload_n hC dX5_number_19 rfl ?_
      refine A_getr (kf := 3) hC kX5 (lX_33 hL) rfl (by decide) (by decide) rfl rfl w_209 dX5_number_20 ?_
      refine A_iload_n hC dX5_number_23 rfl ?_
      refine A_callVi (As := [.int x4]) (st := [.int (x3 * (10 : Int32))]) hC (fun l => mX9_byteAt l g hL x4 D2) (lX_11 hL) rfl (Nat.le_of_ble_eq_true rfl) yc_X5_99 rfl rfl ⟨by decide, by decide⟩ (Nat.le_of_ble_eq_true rfl) rfl dX5_number_24 (fun x5 D3 => ?_)
      refine A_iadd hC dX5_number_27 ?_
      refine A_bipush (v := 48) hC dX5_number_28 (by decide) ?_
      refine A_isub hC dX5_number_30 ?_
      refine A_topi (fun x6 => ?_)
      refine A_istore_n (lv2 := [some (.ref (g.1 + 33)), some (.int x6), some (.int x4)]) hC dX5_number_31 (Nat.le_of_ble_eq_true rfl) rfl rfl ?_
      refine A_iincL (z := (1 : Int32)) (lv2 := fun x7 => [some (.ref (g.1 + 33)), some (.int x6), some (.int x7)]) hC dX5_number_32 rfl (by decide) (Nat.le_of_ble_eq_true rfl) rfl (fun _ => rfl) (fun x7 => ?_)
      refine A_goto (tgt := 7) hC dX5_number_35 (by decide) ?_
      exact A_to (hL7 x6 x7 D3) (And.intro rfl (And.intro rfl (And.intro rfl (trivial))))
  exact A_to (hj7 (0 : Int32) x1 D) (And.intro rfl (And.intro rfl (And.intro rfl (trivial))))
def fX6_addTest (o : Nat) (a1 : Int32) (a2 : Int32) (a3 : Int32) (a4 : Int32) (a5 : Int32) (D : ADD) : Option (Unit × ADD) := aBind (fX6_hasLine a1 D) (fun x1 D1 => aLet (fun (D2 : ADD) => some ((), D2)) (fun (j17 : ADD → Option (Unit × ADD)) => (if x1 = 0 then j17 D1 else aIn a1 16 ((if (D1.1 (o + 4) a1.toNatClampNeg) < (4 : Int32) then aIn a1 16 (aLet ((a1 * (4 : Int32)) + (D1.1 (o + 4) a1.toNatClampNeg)) (fun x2 => aIn x2 64 (aLet (aSI D1 (o + 8) x2.toNatClampNeg a2) (fun D3 => aIn x2 64 (aLet (aSI D3 (o + 5) x2.toNatClampNeg a3) (fun D4 => aIn x2 64 (aLet (aSI D4 (o + 6) x2.toNatClampNeg a4) (fun D5 => aIn x2 64 (aLet (aSI D5 (o + 7) x2.toNatClampNeg a5) (fun D6 => aIn a1 16 (aIn a1 16 (aLet (aSI D6 (o + 4) a1.toNatClampNeg ((D6.1 (o + 4) a1.toNatClampNeg) + (1 : Int32))) (fun D7 => some ((), D7)))))))))))))) else j17 D1)))))
set_option maxHeartbeats 4000000 in
set_option maxRecDepth 100000 in
theorem mX6_addTest (l : Launch) (g : AGl) (o : Nat) (hO : aLR g o) (a1 : Int32) (a2 : Int32) (a3 : Int32) (a4 : Int32) (a5 : Int32) (D : ADD) : AM aVv l yX6_addTest cX6_addTest 7 none 1 g [.ref (g.1 + o), .int a1, .int a2, .int a3, .int a4, .int a5] D (fX6_addTest o a1 a2 a3 a4 a5 D) := by
  refine AM_of (lv0 := [some (.ref (g.1 + o)), some (.int a1), some (.int a2), some (.int a3), some (.int a4), some (.int a5), none]) (own := RX6) (by decide +kernel) rfl (Nat.le_of_ble_eq_true rfl) rfl (fun b hC => ?_)
  unfold fX6_addTest
  refine A_iload_n hC dX6_addTest_0 rfl ?_
  refine A_callSi (As := [.int a1]) (st := []) hC (fun l => mX6_hasLine l g a1 D) yc_X6_41 rfl rfl ⟨by decide, by decide⟩ (Nat.le_of_ble_eq_true rfl) rfl dX6_addTest_1 (fun x1 D1 => ?_)
  refine A_join (fun (J : ADD → Option (Unit × ADD)) => ∀ (D2 : ADD), AT aVv g b 17 [none, none, none, none, none, none, none] [] D2 (J D2)) (fun D2 => ?_) (fun j17 hj17 => ?_)
  · exact A_vret hC dX6_addTest_17
  refine A_if_eq (tgt := 17) hC dX6_addTest_4 (by decide) ?_ ?_
  · exact A_to (hj17 D1) (trivial)
  · refine A_aload_n hC dX6_addTest_7 rfl ?_
    refine A_getr (kf := 4) hC kX6 hO.1 rfl (by decide) (by decide) rfl rfl w_115 dX6_addTest_8 ?_
    refine A_iload_n hC dX6_addTest_11 rfl ?_
    refine A_iald hC hO.2.2.2.2.1 dX6_addTest_12 ?_
    refine A_iconst (v := 4) hC dX6_addTest_13 (by decide) ?_
    refine A_icmp_lt (tgt := 18) hC dX6_addTest_14 (by decide) ?_ ?_
    · refine A_iload_n hC dX6_addTest_18 rfl ?_
      refine A_iconst (v := 4) hC dX6_addTest_19 (by decide) ?_
      refine A_imul hC dX6_addTest_20 ?_
      refine A_aload_n hC dX6_addTest_21 rfl ?_
      refine A_getr (kf := 4) hC kX6 hO.1 rfl (by decide) (by decide) rfl rfl w_115 dX6_addTest_22 ?_
      refine A_iload_n hC dX6_addTest_25 rfl ?_
      refine A_iald hC hO.2.2.2.2.1 dX6_addTest_26 ?_
      refine A_iadd hC dX6_addTest_27 ?_
      refine A_topi (fun x2 => ?_)
      refine A_istore (lv2 := [some (.ref (g.1 + o)), some (.int a1), some (.int a2), some (.int a3), some (.int a4), some (.int a5), some (.int x2)]) hC dX6_addTest_28 (Nat.le_of_ble_eq_true rfl) rfl rfl ?_
      refine A_aload_n hC dX6_addTest_30 rfl ?_
      refine A_getr (kf := 8) hC kX6 hO.1 rfl (by decide) (by decide) rfl rfl w_119 dX6_addTest_31 ?_
      refine A_iload hC dX6_addTest_34 rfl ?_
      refine A_iload_n hC dX6_addTest_36 rfl ?_
      refine A_zast hC hO.2.2.2.2.2.2.2.2 dX6_addTest_37 (fun D3 => ?_)
      refine A_aload_n hC dX6_addTest_38 rfl ?_
      refine A_getr (kf := 5) hC kX6 hO.1 rfl (by decide) (by decide) rfl rfl w_116 dX6_addTest_39 ?_
      refine A_iload hC dX6_addTest_42 rfl ?_
      refine A_iload_n hC dX6_addTest_44 rfl ?_
      refine A_iast hC hO.2.2.2.2.2.1 dX6_addTest_45 (fun D4 => ?_)
      refine A_aload_n hC dX6_addTest_46 rfl ?_
      refine A_getr (kf := 6) hC kX6 hO.1 rfl (by decide) (by decide) rfl rfl w_117 dX6_addTest_47 ?_
      refine A_iload hC dX6_addTest_50 rfl ?_
      refine A_iload hC dX6_addTest_52 rfl ?_
      refine A_iast hC hO.2.2.2.2.2.2.1 dX6_addTest_54 (fun D5 => ?_)
      refine A_aload_n hC dX6_addTest_55 rfl ?_
      refine A_getr (kf := 7) hC kX6 hO.1 rfl (by decide) (by decide) rfl rfl w_118 dX6_addTest_56 ?_
      refine A_iload hC dX6_addTest_59 rfl ?_
      refine A_iload hC dX6_addTest_61 rfl ?_
      refine A_iast hC hO.2.2.2.2.2.2.2.1 dX6_addTest_63 (fun D6 => ?_)
      refine A_aload_n hC dX6_addTest_64 rfl ?_
      refine A_getr (kf := 4) hC kX6 hO.1 rfl (by decide) (by decide) rfl rfl w_115 dX6_addTest_65 ?_
      refine A_iload_n hC dX6_addTest_68 rfl ?_
      refine A_dup2 hC dX6_addTest_69 rfl rfl ?_
      refine A_iald hC hO.2.2.2.2.1 dX6_addTest_70 ?_
      refine A_iconst (v := 1) hC dX6_addTest_71 (by decide) ?_
      refine A_iadd hC dX6_addTest_72 ?_
      refine A_iast hC hO.2.2.2.2.1 dX6_addTest_73 (fun D7 => ?_)
      exact A_vret hC dX6_addTest_74
    · exact A_to (hj17 D1) (trivial)
def fX6_clearTests (o : Nat) (a1 : Int32) (D : ADD) : Option (Unit × ADD) := aBind (fX6_hasLine a1 D) (fun x1 D1 => aLet (fun (D2 : ADD) => some ((), D2)) (fun (j14 : ADD → Option (Unit × ADD)) => (if x1 = 0 then j14 D1 else aIn a1 16 (aLet (aSI D1 (o + 4) a1.toNatClampNeg (0 : Int32)) (fun D3 => j14 D3)))))
set_option maxHeartbeats 4000000 in
set_option maxRecDepth 100000 in
theorem mX6_clearTests (l : Launch) (g : AGl) (o : Nat) (hO : aLR g o) (a1 : Int32) (D : ADD) : AM aVv l yX6_clearTests cX6_clearTests 2 none 1 g [.ref (g.1 + o), .int a1] D (fX6_clearTests o a1 D) := by
  refine AM_of (lv0 := [some (.ref (g.1 + o)), some (.int a1)]) (own := RX6) (by decide +kernel) rfl (Nat.le_of_ble_eq_true rfl) rfl (fun b hC => ?_)
  unfold fX6_clearTests
  refine A_iload_n hC dX6_clearTests_0 rfl ?_
  refine A_callSi (As := [.int a1]) (st := []) hC (fun l => mX6_hasLine l g a1 D) yc_X6_41 rfl rfl ⟨by decide, by decide⟩ (Nat.le_of_ble_eq_true rfl) rfl dX6_clearTests_1 (fun x1 D1 => ?_)
  refine A_join (fun (J : ADD → Option (Unit × ADD)) => ∀ (D2 : ADD), AT aVv g b 14 [none, none] [] D2 (J D2)) (fun D2 => ?_) (fun j14 hj14 => ?_)
  · exact A_vret hC dX6_clearTests_14
  refine A_if_eq (tgt := 14) hC dX6_clearTests_4 (by decide) ?_ ?_
  · exact A_to (hj14 D1) (trivial)
  · refine A_aload_n hC dX6_clearTests_7 rfl ?_
    refine A_getr (kf := 4) hC kX6 hO.1 rfl (by decide) (by decide) rfl rfl w_115 dX6_clearTests_8 ?_
    refine A_iload_n hC dX6_clearTests_11 rfl ?_
    refine A_iconst (v := 0) hC dX6_clearTests_12 (by decide) ?_
    refine A_iast hC hO.2.2.2.2.1 dX6_clearTests_13 (fun D3 => ?_)
    exact A_to (hj14 D3) (trivial)
def fX6_copyFrom (o : Nat) (p : Nat) (D : ADD) : Option (Unit × ADD) := aLet (aSI D o 0 (D.1 p 0)) (fun D1 => aLet (aCp D1 (p + 1) (o + 1) 16) (fun D2 => aLet (aCp D2 (p + 2) (o + 2) 16) (fun D3 => aLet (aCp D3 (p + 3) (o + 3) 16) (fun D4 => aLet (aCp D4 (p + 4) (o + 4) 16) (fun D5 => aLet (aCp D5 (p + 5) (o + 5) 64) (fun D6 => aLet (aCp D6 (p + 6) (o + 6) 64) (fun D7 => aLet (aCp D7 (p + 7) (o + 7) 64) (fun D8 => aLet (aCp D8 (p + 8) (o + 8) 64) (fun D9 => some ((), D9))))))))))
set_option maxHeartbeats 4000000 in
set_option maxRecDepth 100000 in
theorem mX6_copyFrom (l : Launch) (g : AGl) (o : Nat) (p : Nat) (hO : aLR g o) (hP : aLR g p) (D : ADD) : AM aVv l yX6_copyFrom cX6_copyFrom 2 none 1 g [.ref (g.1 + o), .ref (g.1 + p)] D (fX6_copyFrom o p D) := by
  refine AM_of (lv0 := [some (.ref (g.1 + o)), some (.ref (g.1 + p))]) (own := RX6) (by decide +kernel) rfl (Nat.le_of_ble_eq_true rfl) rfl (fun b hC => ?_)
  unfold fX6_copyFrom
  refine A_aload_n hC dX6_copyFrom_0 rfl ?_
  refine A_aload_n hC dX6_copyFrom_1 rfl ?_
  refine A_geti (kf := 0) hC kX6 hP.1 rfl (by decide) (by decide) rfl w_108 dX6_copyFrom_2 ?_
  refine A_puti (kf := 0) hC kX6 hO.1 rfl (by decide) (by decide) rfl rfl rfl w_108 dX6_copyFrom_5 (fun D1 => ?_)
  refine A_aload_n hC dX6_copyFrom_8 rfl ?_
  refine A_getr (kf := 1) hC kX6 hP.1 rfl (by decide) (by decide) rfl rfl w_112 dX6_copyFrom_9 ?_
  refine A_iconst (v := 0) hC dX6_copyFrom_12 (by decide) ?_
  refine A_aload_n hC dX6_copyFrom_13 rfl ?_
  refine A_getr (kf := 1) hC kX6 hO.1 rfl (by decide) (by decide) rfl rfl w_112 dX6_copyFrom_14 ?_
  refine A_iconst (v := 0) hC dX6_copyFrom_17 (by decide) ?_
  refine A_bipush (v := 16) hC dX6_copyFrom_18 (by decide) ?_
  refine A_copyi (n := (16 : Int32)) hC hP.2.1 hO.2.1 (by decide) (by decide) w_573 w_575 w_574 w_17 rfl (by decide) (Nat.le_of_ble_eq_true rfl) dX6_copyFrom_20 (fun D2 => ?_)
  refine A_aload_n hC dX6_copyFrom_23 rfl ?_
  refine A_getr (kf := 2) hC kX6 hP.1 rfl (by decide) (by decide) rfl rfl w_113 dX6_copyFrom_24 ?_
  refine A_iconst (v := 0) hC dX6_copyFrom_27 (by decide) ?_
  refine A_aload_n hC dX6_copyFrom_28 rfl ?_
  refine A_getr (kf := 2) hC kX6 hO.1 rfl (by decide) (by decide) rfl rfl w_113 dX6_copyFrom_29 ?_
  refine A_iconst (v := 0) hC dX6_copyFrom_32 (by decide) ?_
  refine A_bipush (v := 16) hC dX6_copyFrom_33 (by decide) ?_
  refine A_copyi (n := (16 : Int32)) hC hP.2.2.1 hO.2.2.1 (by decide) (by decide) w_573 w_575 w_574 w_17 rfl (by decide) (Nat.le_of_ble_eq_true rfl) dX6_copyFrom_35 (fun D3 => ?_)
  refine A_aload_n hC dX6_copyFrom_38 rfl ?_
  refine A_getr (kf := 3) hC kX6 hP.1 rfl (by decide) (by decide) rfl rfl w_114 dX6_copyFrom_39 ?_
  refine A_iconst (v := 0) hC dX6_copyFrom_42 (by decide) ?_
  refine A_aload_n hC dX6_copyFrom_43 rfl ?_
  refine A_getr (kf := 3) hC kX6 hO.1 rfl (by decide) (by decide) rfl rfl w_114 dX6_copyFrom_44 ?_
  refine A_iconst (v := 0) hC dX6_copyFrom_47 (by decide) ?_
  refine A_bipush (v := 16) hC dX6_copyFrom_48 (by decide) ?_
  refine A_copyi (n := (16 : Int32)) hC hP.2.2.2.1 hO.2.2.2.1 (by decide) (by decide) w_573 w_575 w_574 w_17 rfl (by decide) (Nat.le_of_ble_eq_true rfl) dX6_copyFrom_50 (fun D4 => ?_)
  refine A_aload_n hC dX6_copyFrom_53 rfl ?_
  refine A_getr (kf := 4) hC kX6 hP.1 rfl (by decide) (by decide) rfl rfl w_115 dX6_copyFrom_54 ?_
  refine A_iconst (v := 0) hC dX6_copyFrom_57 (by decide) ?_
  refine A_aload_n hC dX6_copyFrom_58 rfl ?_
  refine A_getr (kf := 4) hC kX6 hO.1 rfl (by decide) (by decide) rfl rfl w_115 dX6_copyFrom_59 ?_
  refine A_iconst (v := 0) hC dX6_copyFrom_62 (by decide) ?_
  refine A_bipush (v := 16) hC dX6_copyFrom_63 (by decide) ?_
  refine A_copyi (n := (16 : Int32)) hC hP.2.2.2.2.1 hO.2.2.2.2.1 (by decide) (by decide) w_573 w_575 w_574 w_17 rfl (by decide) (Nat.le_of_ble_eq_true rfl) dX6_copyFrom_65 (fun D5 => ?_)
  refine A_aload_n hC dX6_copyFrom_68 rfl ?_
  refine A_getr (kf := 5) hC kX6 hP.1 rfl (by decide) (by decide) rfl rfl w_116 dX6_copyFrom_69 ?_
  refine A_iconst (v := 0) hC dX6_copyFrom_72 (by decide) ?_
  refine A_aload_n hC dX6_copyFrom_73 rfl ?_
  refine A_getr (kf := 5) hC kX6 hO.1 rfl (by decide) (by decide) rfl rfl w_116 dX6_copyFrom_74 ?_
  refine A_iconst (v := 0) hC dX6_copyFrom_77 (by decide) ?_
  refine A_bipush (v := 64) hC dX6_copyFrom_78 (by decide) ?_
  refine A_copyi (n := (64 : Int32)) hC hP.2.2.2.2.2.1 hO.2.2.2.2.2.1 (by decide) (by decide) w_573 w_575 w_574 w_17 rfl (by decide) (Nat.le_of_ble_eq_true rfl) dX6_copyFrom_80 (fun D6 => ?_)
  refine A_aload_n hC dX6_copyFrom_83 rfl ?_
  refine A_getr (kf := 6) hC kX6 hP.1 rfl (by decide) (by decide) rfl rfl w_117 dX6_copyFrom_84 ?_
  refine A_iconst (v := 0) hC dX6_copyFrom_87 (by decide) ?_
  refine A_aload_n hC dX6_copyFrom_88 rfl ?_
  refine A_getr (kf := 6) hC kX6 hO.1 rfl (by decide) (by decide) rfl rfl w_117 dX6_copyFrom_89 ?_
  refine A_iconst (v := 0) hC dX6_copyFrom_92 (by decide) ?_
  refine A_bipush (v := 64) hC dX6_copyFrom_93 (by decide) ?_
  refine A_copyi (n := (64 : Int32)) hC hP.2.2.2.2.2.2.1 hO.2.2.2.2.2.2.1 (by decide) (by decide) w_573 w_575 w_574 w_17 rfl (by decide) (Nat.le_of_ble_eq_true rfl) dX6_copyFrom_95 (fun D7 => ?_)
  refine A_aload_n hC dX6_copyFrom_98 rfl ?_
  refine A_getr (kf := 7) hC kX6 hP.1 rfl (by decide) (by decide) rfl rfl w_118 dX6_copyFrom_99 ?_
  refine A_iconst (v := 0) hC dX6_copyFrom_102 (by decide) ?_
  refine A_aload_n hC dX6_copyFrom_103 rfl ?_
  refine A_getr (kf := 7) hC kX6 hO.1 rfl (by decide) (by decide) rfl rfl w_118 dX6_copyFrom_104 ?_
  refine A_iconst (v := 0) hC dX6_copyFrom_107 (by decide) ?_
  refine A_bipush (v := 64) hC dX6_copyFrom_108 (by decide) ?_
  refine A_copyi (n := (64 : Int32)) hC hP.2.2.2.2.2.2.2.1 hO.2.2.2.2.2.2.2.1 (by decide) (by decide) w_573 w_575 w_574 w_17 rfl (by decide) (Nat.le_of_ble_eq_true rfl) dX6_copyFrom_110 (fun D8 => ?_)
  refine A_aload_n hC dX6_copyFrom_113 rfl ?_
  refine A_getr (kf := 8) hC kX6 hP.1 rfl (by decide) (by decide) rfl rfl w_119 dX6_copyFrom_114 ?_
  refine A_iconst (v := 0) hC dX6_copyFrom_117 (by decide) ?_
  refine A_aload_n hC dX6_copyFrom_118 rfl ?_
  refine A_getr (kf := 8) hC kX6 hO.1 rfl (by decide) (by decide) rfl rfl w_119 dX6_copyFrom_119 ?_
  refine A_iconst (v := 0) hC dX6_copyFrom_122 (by decide) ?_
  refine A_bipush (v := 64) hC dX6_copyFrom_123 (by decide) ?_
  refine A_copyz (n := (64 : Int32)) hC hP.2.2.2.2.2.2.2.2 hO.2.2.2.2.2.2.2.2 (by decide) (by decide) w_573 w_575 w_574 w_17 rfl (by decide) (Nat.le_of_ble_eq_true rfl) dX6_copyFrom_125 (fun D9 => ?_)
  exact A_vret hC dX6_copyFrom_128
def fX6_deedOf (o : Nat) (a1 : Int32) (D : ADD) : Option (Int32 × ADD) := aBind (fX6_hasLine a1 D) (fun x1 D1 => aLet (fun (x2 : Int32) (D2 : ADD) => some (x2, D2)) (fun (j17 : Int32 → ADD → Option (Int32 × ADD)) => (if x1 = 0 then j17 (-1 : Int32) D1 else aIn a1 16 (j17 (D1.1 (o + 1) a1.toNatClampNeg) D1))))
set_option maxHeartbeats 4000000 in
set_option maxRecDepth 100000 in
theorem mX6_deedOf (l : Launch) (g : AGl) (o : Nat) (hO : aLR g o) (a1 : Int32) (D : ADD) : AM aVi l yX6_deedOf cX6_deedOf 2 (some .int) 1 g [.ref (g.1 + o), .int a1] D (fX6_deedOf o a1 D) := by
  refine AM_of (lv0 := [some (.ref (g.1 + o)), some (.int a1)]) (own := RX6) (by decide +kernel) rfl (Nat.le_of_ble_eq_true rfl) rfl (fun b hC => ?_)
  unfold fX6_deedOf
  refine A_iload_n hC dX6_deedOf_0 rfl ?_
  refine A_callSi (As := [.int a1]) (st := []) hC (fun l => mX6_hasLine l g a1 D) yc_X6_41 rfl rfl ⟨by decide, by decide⟩ (Nat.le_of_ble_eq_true rfl) rfl dX6_deedOf_1 (fun x1 D1 => ?_)
  refine A_join (fun (J : Int32 → ADD → Option (Int32 × ADD)) => ∀ (x2 : Int32) (D2 : ADD), AT aVi g b 17 [none, none] [.int x2] D2 (J x2 D2)) (fun x2 D2 => ?_) (fun j17 hj17 => ?_)
  · exact A_iret hC dX6_deedOf_17
  refine A_if_eq (tgt := 16) hC dX6_deedOf_4 (by decide) ?_ ?_
  · refine A_iconst (v := -1) hC dX6_deedOf_16 (by decide) ?_
    exact A_to (hj17 (-1 : Int32) D1) (trivial)
  · refine A_aload_n hC dX6_deedOf_7 rfl ?_
    refine A_getr (kf := 1) hC kX6 hO.1 rfl (by decide) (by decide) rfl rfl w_112 dX6_deedOf_8 ?_
    refine A_iload_n hC dX6_deedOf_11 rfl ?_
    refine A_iald hC hO.2.1 dX6_deedOf_12 ?_
    refine A_goto (tgt := 17) hC dX6_deedOf_13 (by decide) ?_
    exact A_to (hj17 (D1.1 (o + 1) a1.toNatClampNeg) D1) (trivial)
def lX6_holds_11 (o : Nat) (v : Nat) (a1 : Int32) (j57 : ADD → Option (Int32 × ADD)) (L11 : Int32 → ADD → Option (Int32 × ADD)) (x2 : Int32) (D3 : ADD) : Option (Int32 × ADD) := aIn a1 16 ((if (D3.1 (o + 4) a1.toNatClampNeg) ≤ x2 then j57 D3 else (if (4 : Int32) ≤ x2 then j57 D3 else aBind (fX6_passes o v ((a1 * (4 : Int32)) + x2) D3) (fun x3 D4 => aIn ((a1 * (4 : Int32)) + x2) 64 ((if x3 = (aBz (D4.1 (o + 8) ((a1 * (4 : Int32)) + x2).toNatClampNeg)) then some ((0 : Int32), D4) else aLet (x2 + (1 : Int32)) (fun x4 => L11 x4 D4)))))))
def fX6_holds (o : Nat) (v : Nat) (a1 : Int32) (D : ADD) : Option (Int32 × ADD) := aBind (fX6_hasLine a1 D) (fun x1 D1 => (if x1 = 0 then some ((0 : Int32), D1) else aLet (fun (D2 : ADD) => some ((1 : Int32), D2)) (fun (j57 : ADD → Option (Int32 × ADD)) => aLet (aFix aFuel (lX6_holds_11 o v a1 j57) (fun _ _ => none)) (fun j11 => j11 (0 : Int32) D1))))
set_option maxHeartbeats 4000000 in
set_option maxRecDepth 100000 in
theorem mX6_holds (l : Launch) (g : AGl) (o : Nat) (v : Nat) (hO : aLR g o) (hv : aAt g v (11, 8, fun _ => none)) (a1 : Int32) (D : ADD) : AM aVi l yX6_holds cX6_holds 4 (some .boolean) 1 g [.ref (g.1 + o), .int a1, .ref (g.1 + v)] D (fX6_holds o v a1 D) := by
  refine AM_of (lv0 := [some (.ref (g.1 + o)), some (.int a1), some (.ref (g.1 + v)), none]) (own := RX6) (by decide +kernel) rfl (Nat.le_of_ble_eq_true rfl) rfl (fun b hC => ?_)
  unfold fX6_holds
  refine A_iload_n hC dX6_holds_0 rfl ?_
  refine A_callSi (As := [.int a1]) (st := []) hC (fun l => mX6_hasLine l g a1 D) yc_X6_41 rfl rfl ⟨by decide, by decide⟩ (Nat.le_of_ble_eq_true rfl) rfl dX6_holds_1 (fun x1 D1 => ?_)
  refine A_if_ne (tgt := 9) hC dX6_holds_4 (by decide) ?_ ?_
  · refine A_iconst (v := 0) hC dX6_holds_9 (by decide) ?_
    refine A_istore_n (lv2 := [some (.ref (g.1 + o)), some (.int a1), some (.ref (g.1 + v)), some (.int (0 : Int32))]) hC dX6_holds_10 (Nat.le_of_ble_eq_true rfl) rfl rfl ?_
    refine A_join (fun (J : ADD → Option (Int32 × ADD)) => ∀ (D2 : ADD), AT aVi g b 57 [none, none, none, none] [] D2 (J D2)) (fun D2 => ?_) (fun j57 hj57 => ?_)
    · refine A_iconst (v := 1) hC dX6_holds_57 (by decide) ?_
      exact A_zret hC dX6_holds_58 (Or.inr rfl)
    refine A_join (fun (J : Int32 → ADD → Option (Int32 × ADD)) => ∀ (x2 : Int32) (D3 : ADD), AT aVi g b 11 [some (.ref (g.1 + o)), some (.int a1), some (.ref (g.1 + v)), some (.int x2)] [] D3 (J x2 D3)) (aFix_all (fun (J : Int32 → ADD → Option (Int32 × ADD)) => ∀ (x2 : Int32) (D3 : ADD), AT aVi g b 11 [some (.ref (g.1 + o)), some (.int a1), some (.ref (g.1 + v)), some (.int x2)] [] D3 (J x2 D3)) (fun _ _ => A_none) (fun L11 hL11 x2 D3 => ?_) _) (fun j11 hj11 => ?_)
    · unfold lX6_holds_11
      refine A_iload_n hC dX6_holds_11 rfl ?_
      refine A_aload_n hC dX6_holds_12 rfl ?_
      refine A_getr (kf := 4) hC kX6 hO.1 rfl (by decide) (by decide) rfl rfl w_115 dX6_holds_13 ?_
      refine A_iload_n hC dX6_holds_16 rfl ?_
      refine A_iald hC hO.2.2.2.2.1 dX6_holds_17 ?_
      refine A_icmp_ge (tgt := 57) hC dX6_holds_18 (by decide) ?_ ?_
      · exact A_to (hj57 D3) (trivial)
      · refine A_iload_n hC dX6_holds_21 rfl ?_
        refine A_iconst (v := 4) hC dX6_holds_22 (by decide) ?_
        refine A_icmp_ge (tgt := 57) hC dX6_holds_23 (by decide) ?_ ?_
        · exact A_to (hj57 D3) (trivial)
        · refine A_aload_n hC dX6_holds_26 rfl ?_
          refine A_iload_n hC dX6_holds_27 rfl ?_
          refine A_iconst (v := 4) hC dX6_holds_28 (by decide) ?_
          refine A_imul hC dX6_holds_29 ?_
          refine A_iload_n hC dX6_holds_30 rfl ?_
          refine A_iadd hC dX6_holds_31 ?_
          refine A_aload_n hC dX6_holds_32 rfl ?_
          refine A_callVi (As := [.int ((a1 * (4 : Int32)) + x2), .ref (g.1 + v)]) (st := []) hC (fun l => mX6_passes l g o v hO hv ((a1 * (4 : Int32)) + x2) D3) hO.1 rfl (Nat.le_of_ble_eq_true rfl) yc_X6_45 rfl rfl ⟨by decide, by decide⟩ (Nat.le_of_ble_eq_true rfl) rfl dX6_holds_33 (fun x3 D4 => ?_)
          refine A_aload_n hC dX6_holds_36 rfl ?_
          refine A_getr (kf := 8) hC kX6 hO.1 rfl (by decide) (by decide) rfl rfl w_119 dX6_holds_37 ?_
          refine A_iload_n hC dX6_holds_40 rfl ?_
          refine A_iconst (v := 4) hC dX6_holds_41 (by decide) ?_
          refine A_imul hC dX6_holds_42 ?_
          refine A_iload_n hC dX6_holds_43 rfl ?_
          refine A_iadd hC dX6_holds_44 ?_
          refine A_zald hC hO.2.2.2.2.2.2.2.2 dX6_holds_45 ?_
          refine A_icmp_ne (tgt := 51) hC dX6_holds_46 (by decide) ?_ ?_
          · refine A_iincL (z := (1 : Int32)) (lv2 := fun x4 => [some (.ref (g.1 + o)), some (.int a1), some (.ref (g.1 + v)), some (.int x4)]) hC dX6_holds_51 rfl (by decide) (Nat.le_of_ble_eq_true rfl) rfl (fun _ => rfl) (fun x4 => ?_)
            refine A_goto (tgt := 11) hC dX6_holds_54 (by decide) ?_
            exact A_to (hL11 x4 D4) (And.intro rfl (And.intro rfl (And.intro rfl (And.intro rfl (trivial)))))
          · refine A_iconst (v := 0) hC dX6_holds_49 (by decide) ?_
            exact A_zret hC dX6_holds_50 (Or.inl rfl)
    exact A_to (hj11 (0 : Int32) D1) (And.intro rfl (And.intro rfl (And.intro rfl (And.intro rfl (trivial)))))
  · refine A_iconst (v := 0) hC dX6_holds_7 (by decide) ?_
    exact A_zret hC dX6_holds_8 (Or.inl rfl)
def fX6_leastOf (o : Nat) (a1 : Int32) (D : ADD) : Option (Int32 × ADD) := aBind (fX6_hasLine a1 D) (fun x1 D1 => aLet (fun (x2 : Int32) (D2 : ADD) => some (x2, D2)) (fun (j17 : Int32 → ADD → Option (Int32 × ADD)) => (if x1 = 0 then j17 (0 : Int32) D1 else aIn a1 16 (j17 (D1.1 (o + 2) a1.toNatClampNeg) D1))))
set_option maxHeartbeats 4000000 in
set_option maxRecDepth 100000 in
theorem mX6_leastOf (l : Launch) (g : AGl) (o : Nat) (hO : aLR g o) (a1 : Int32) (D : ADD) : AM aVi l yX6_leastOf cX6_leastOf 2 (some .int) 1 g [.ref (g.1 + o), .int a1] D (fX6_leastOf o a1 D) := by
  refine AM_of (lv0 := [some (.ref (g.1 + o)), some (.int a1)]) (own := RX6) (by decide +kernel) rfl (Nat.le_of_ble_eq_true rfl) rfl (fun b hC => ?_)
  unfold fX6_leastOf
  refine A_iload_n hC dX6_leastOf_0 rfl ?_
  refine A_callSi (As := [.int a1]) (st := []) hC (fun l => mX6_hasLine l g a1 D) yc_X6_41 rfl rfl ⟨by decide, by decide⟩ (Nat.le_of_ble_eq_true rfl) rfl dX6_leastOf_1 (fun x1 D1 => ?_)
  refine A_join (fun (J : Int32 → ADD → Option (Int32 × ADD)) => ∀ (x2 : Int32) (D2 : ADD), AT aVi g b 17 [none, none] [.int x2] D2 (J x2 D2)) (fun x2 D2 => ?_) (fun j17 hj17 => ?_)
  · exact A_iret hC dX6_leastOf_17
  refine A_if_eq (tgt := 16) hC dX6_leastOf_4 (by decide) ?_ ?_
  · refine A_iconst (v := 0) hC dX6_leastOf_16 (by decide) ?_
    exact A_to (hj17 (0 : Int32) D1) (trivial)
  · refine A_aload_n hC dX6_leastOf_7 rfl ?_
    refine A_getr (kf := 2) hC kX6 hO.1 rfl (by decide) (by decide) rfl rfl w_113 dX6_leastOf_8 ?_
    refine A_iload_n hC dX6_leastOf_11 rfl ?_
    refine A_iald hC hO.2.2.1 dX6_leastOf_12 ?_
    refine A_goto (tgt := 17) hC dX6_leastOf_13 (by decide) ?_
    exact A_to (hj17 (D1.1 (o + 2) a1.toNatClampNeg) D1) (trivial)
def fX6_mostOf (o : Nat) (a1 : Int32) (D : ADD) : Option (Int32 × ADD) := aBind (fX6_hasLine a1 D) (fun x1 D1 => aLet (fun (x2 : Int32) (D2 : ADD) => some (x2, D2)) (fun (j17 : Int32 → ADD → Option (Int32 × ADD)) => (if x1 = 0 then j17 (0 : Int32) D1 else aIn a1 16 (j17 (D1.1 (o + 3) a1.toNatClampNeg) D1))))
set_option maxHeartbeats 4000000 in
set_option maxRecDepth 100000 in
theorem mX6_mostOf (l : Launch) (g : AGl) (o : Nat) (hO : aLR g o) (a1 : Int32) (D : ADD) : AM aVi l yX6_mostOf cX6_mostOf 2 (some .int) 1 g [.ref (g.1 + o), .int a1] D (fX6_mostOf o a1 D) := by
  refine AM_of (lv0 := [some (.ref (g.1 + o)), some (.int a1)]) (own := RX6) (by decide +kernel) rfl (Nat.le_of_ble_eq_true rfl) rfl (fun b hC => ?_)
  unfold fX6_mostOf
  refine A_iload_n hC dX6_mostOf_0 rfl ?_
  refine A_callSi (As := [.int a1]) (st := []) hC (fun l => mX6_hasLine l g a1 D) yc_X6_41 rfl rfl ⟨by decide, by decide⟩ (Nat.le_of_ble_eq_true rfl) rfl dX6_mostOf_1 (fun x1 D1 => ?_)
  refine A_join (fun (J : Int32 → ADD → Option (Int32 × ADD)) => ∀ (x2 : Int32) (D2 : ADD), AT aVi g b 17 [none, none] [.int x2] D2 (J x2 D2)) (fun x2 D2 => ?_) (fun j17 hj17 => ?_)
  · exact A_iret hC dX6_mostOf_17
  refine A_if_eq (tgt := 16) hC dX6_mostOf_4 (by decide) ?_ ?_
  · refine A_iconst (v := 0) hC dX6_mostOf_16 (by decide) ?_
    exact A_to (hj17 (0 : Int32) D1) (trivial)
  · refine A_aload_n hC dX6_mostOf_7 rfl ?_
    refine A_getr (kf := 3) hC kX6 hO.1 rfl (by decide) (by decide) rfl rfl w_114 dX6_mostOf_8 ?_
    refine A_iload_n hC dX6_mostOf_11 rfl ?_
    refine A_iald hC hO.2.2.2.1 dX6_mostOf_12 ?_
    refine A_goto (tgt := 17) hC dX6_mostOf_13 (by decide) ?_
    exact A_to (hj17 (D1.1 (o + 3) a1.toNatClampNeg) D1) (trivial)
def fX6_setDeed (o : Nat) (a1 : Int32) (a2 : Int32) (a3 : Int32) (a4 : Int32) (D : ADD) : Option (Unit × ADD) := aBind (fX6_hasLine a1 D) (fun x1 D1 => (if x1 = 0 then some ((), D1) else aIn a1 16 (aLet (aSI D1 (o + 1) a1.toNatClampNeg a2) (fun D2 => aIn a1 16 (aLet (aSI D2 (o + 2) a1.toNatClampNeg a3) (fun D3 => aIn a1 16 (aLet (aSI D3 (o + 3) a1.toNatClampNeg a4) (fun D4 => some ((), D4)))))))))
set_option maxHeartbeats 4000000 in
set_option maxRecDepth 100000 in
theorem mX6_setDeed (l : Launch) (g : AGl) (o : Nat) (hO : aLR g o) (a1 : Int32) (a2 : Int32) (a3 : Int32) (a4 : Int32) (D : ADD) : AM aVv l yX6_setDeed cX6_setDeed 5 none 1 g [.ref (g.1 + o), .int a1, .int a2, .int a3, .int a4] D (fX6_setDeed o a1 a2 a3 a4 D) := by
  refine AM_of (lv0 := [some (.ref (g.1 + o)), some (.int a1), some (.int a2), some (.int a3), some (.int a4)]) (own := RX6) (by decide +kernel) rfl (Nat.le_of_ble_eq_true rfl) rfl (fun b hC => ?_)
  unfold fX6_setDeed
  refine A_iload_n hC dX6_setDeed_0 rfl ?_
  refine A_callSi (As := [.int a1]) (st := []) hC (fun l => mX6_hasLine l g a1 D) yc_X6_41 rfl rfl ⟨by decide, by decide⟩ (Nat.le_of_ble_eq_true rfl) rfl dX6_setDeed_1 (fun x1 D1 => ?_)
  refine A_if_ne (tgt := 8) hC dX6_setDeed_4 (by decide) ?_ ?_
  · refine A_aload_n hC dX6_setDeed_8 rfl ?_
    refine A_getr (kf := 1) hC kX6 hO.1 rfl (by decide) (by decide) rfl rfl w_112 dX6_setDeed_9 ?_
    refine A_iload_n hC dX6_setDeed_12 rfl ?_
    refine A_iload_n hC dX6_setDeed_13 rfl ?_
    refine A_iast hC hO.2.1 dX6_setDeed_14 (fun D2 => ?_)
    refine A_aload_n hC dX6_setDeed_15 rfl ?_
    refine A_getr (kf := 2) hC kX6 hO.1 rfl (by decide) (by decide) rfl rfl w_113 dX6_setDeed_16 ?_
    refine A_iload_n hC dX6_setDeed_19 rfl ?_
    refine A_iload_n hC dX6_setDeed_20 rfl ?_
    refine A_iast hC hO.2.2.1 dX6_setDeed_21 (fun D3 => ?_)
    refine A_aload_n hC dX6_setDeed_22 rfl ?_
    refine A_getr (kf := 3) hC kX6 hO.1 rfl (by decide) (by decide) rfl rfl w_114 dX6_setDeed_23 ?_
    refine A_iload_n hC dX6_setDeed_26 rfl ?_
    refine A_iload hC dX6_setDeed_27 rfl ?_
    refine A_iast hC hO.2.2.2.1 dX6_setDeed_29 (fun D4 => ?_)
    exact A_vret hC dX6_setDeed_30
  · exact A_vret hC dX6_setDeed_7
def fX7_compare (a1 : Int32) (a2 : Int32) (D : ADD) : Option (Int32 × ADD) := aBind (fX7_inReach a1 D) (fun x1 D1 => aLet (fun (D2 : ADD) => some ((0 : Int32), D2)) (fun (j16 : ADD → Option (Int32 × ADD)) => (if x1 = 0 then j16 D1 else aBind (fX7_inReach a2 D1) (fun x2 D3 => (if x2 = 0 then j16 D3 else aIn (a1 - (D3.1 50 0)) 301 (aIn (a2 - (D3.1 50 0)) 301 (aBind (fJ13_compare_74951 ((D3.1 51 (a1 - (D3.1 50 0)).toNatClampNeg).toInt64 * a2.toInt64) ((D3.1 51 (a2 - (D3.1 50 0)).toNatClampNeg).toInt64 * a1.toInt64) D3) (fun x3 D4 => some (x3, D4)))))))))
set_option maxHeartbeats 4000000 in
set_option maxRecDepth 100000 in
theorem mX7_compare (l : Launch) (g : AGl) (hL : aLX g) (a1 : Int32) (a2 : Int32) (D : ADD) : AM aVi l yX7_compare cX7_compare 3 (some .int) 1 g [.ref (g.1 + 50), .int a1, .int a2] D (fX7_compare a1 a2 D) := by
  refine AM_of (lv0 := [some (.ref (g.1 + 50)), some (.int a1), some (.int a2)]) (own := RX7) (by decide +kernel) rfl (Nat.le_of_ble_eq_true rfl) rfl (fun b hC => ?_)
  unfold fX7_compare
  refine A_aload_n hC dX7_compare_0 rfl ?_
  refine A_iload_n hC dX7_compare_1 rfl ?_
  refine A_callVi (As := [.int a1]) (st := []) hC (fun l => mX7_inReach l g hL a1 D) (lX_50 hL) rfl (Nat.le_of_ble_eq_true rfl) yc_X7_92 rfl rfl ⟨by decide, by decide⟩ (Nat.le_of_ble_eq_true rfl) rfl dX7_compare_2 (fun x1 D1 => ?_)
  refine A_join (fun (J : ADD → Option (Int32 × ADD)) => ∀ (D2 : ADD), AT aVi g b 16 [none, none, none] [] D2 (J D2)) (fun D2 => ?_) (fun j16 hj16 => ?_)
  · refine A_iconst (v := 0) hC dX7_compare_16 (by decide) ?_
    exact A_iret hC dX7_compare_17
  refine A_if_eq (tgt := 16) hC dX7_compare_5 (by decide) ?_ ?_
  · exact A_to (hj16 D1) (trivial)
  · refine A_aload_n hC dX7_compare_8 rfl ?_
    refine A_iload_n hC dX7_compare_9 rfl ?_
    refine A_callVi (As := [.int a2]) (st := []) hC (fun l => mX7_inReach l g hL a2 D1) (lX_50 hL) rfl (Nat.le_of_ble_eq_true rfl) yc_X7_92 rfl rfl ⟨by decide, by decide⟩ (Nat.le_of_ble_eq_true rfl) rfl dX7_compare_10 (fun x2 D3 => ?_)
    refine A_if_ne (tgt := 18) hC dX7_compare_13 (by decide) ?_ ?_
    · refine A_aload_n hC dX7_compare_18 rfl ?_
      refine A_getr (kf := 2) hC kX7 (lX_50 hL) rfl (by decide) (by decide) rfl rfl w_274 dX7_compare_19 ?_
      refine A_iload_n hC dX7_compare_22 rfl ?_
      refine A_aload_n hC dX7_compare_23 rfl ?_
      refine A_geti (kf := 0) hC kX7 (lX_50 hL) rfl (by decide) (by decide) rfl w_272 dX7_compare_24 ?_
      refine A_isub hC dX7_compare_27 ?_
      refine A_iald hC (lX_51 hL) dX7_compare_28 ?_
      refine A_i2l hC dX7_compare_29 ?_
      refine A_iload_n hC dX7_compare_30 rfl ?_
      refine A_i2l hC dX7_compare_31 ?_
      refine A_lmul hC dX7_compare_32 ?_
      refine A_aload_n hC dX7_compare_33 rfl ?_
      refine A_getr (kf := 2) hC kX7 (lX_50 hL) rfl (by decide) (by decide) rfl rfl w_274 dX7_compare_34 ?_
      refine A_iload_n hC dX7_compare_37 rfl ?_
      refine A_aload_n hC dX7_compare_38 rfl ?_
      refine A_geti (kf := 0) hC kX7 (lX_50 hL) rfl (by decide) (by decide) rfl w_272 dX7_compare_39 ?_
      refine A_isub hC dX7_compare_42 ?_
      refine A_iald hC (lX_51 hL) dX7_compare_43 ?_
      refine A_i2l hC dX7_compare_44 ?_
      refine A_iload_n hC dX7_compare_45 rfl ?_
      refine A_i2l hC dX7_compare_46 ?_
      refine A_lmul hC dX7_compare_47 ?_
      refine A_callSi (As := [.long ((D3.1 51 (a1 - (D3.1 50 0)).toNatClampNeg).toInt64 * a2.toInt64), .long ((D3.1 51 (a2 - (D3.1 50 0)).toNatClampNeg).toInt64 * a1.toInt64)]) (st := []) hC (fun l => mJ13_compare_74951 l g ((D3.1 51 (a1 - (D3.1 50 0)).toNatClampNeg).toInt64 * a2.toInt64) ((D3.1 51 (a2 - (D3.1 50 0)).toNatClampNeg).toInt64 * a1.toInt64) D3) yc_X7_95 rfl rfl ⟨by decide, by decide⟩ (Nat.le_of_ble_eq_true rfl) rfl dX7_compare_48 (fun x3 D4 => ?_)
      exact A_iret hC dX7_compare_51
    · exact A_to (hj16 D3) (trivial)
