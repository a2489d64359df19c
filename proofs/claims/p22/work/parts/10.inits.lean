theorem w_40 : Cond.methodLink RX0 3 Lib.objectInit ∈ aT := aT_m (tm_1_2 mq_8) gw_methodLink
theorem w_27 : Cond.instanceMethod Lib.objectInit ∈ aT := aT_m (tm_1_1 mq_11) gw_instanceMethod
theorem w_28 : Cond.code Lib.objectInit ⟨#[0xb1]⟩ 1 none ∈ aT := aT_m (tm_1_1 mq_12) gw_code
theorem w_86 : Cond.arrayClass .int ∈ aT := aT_m (tm_1_5 mq_6) gw_arrayClass
theorem w_92 : Cond.methodLink RX9 3 Lib.objectInit ∈ aT := aT_m (tm_1_5 mq_12) gw_methodLink
theorem w_101 : Cond.arrayClass .byte ∈ aT := aT_m (tm_1_6 mq_5) gw_arrayClass
theorem w_107 : Cond.methodLink RX6 3 Lib.objectInit ∈ aT := aT_m (tm_1_6 mq_11) gw_methodLink
theorem w_139 : Cond.arrayClass .boolean ∈ aT := aT_m (tm_1_8 mq_11) gw_arrayClass
theorem w_145 : Cond.methodLink RX1 3 Lib.objectInit ∈ aT := aT_m (tm_1_9 mq_1) gw_methodLink
theorem w_34 : Cond.methodLink RX8 3 Lib.objectInit ∈ aT := aT_m (tm_1_2 mq_2) gw_methodLink
theorem w_35 : Cond.classLink RX8 (9) RX0 ∈ aT := aT_m (tm_1_2 mq_3) gw_classLink
theorem w_36 : Cond.instantiable RX0 (13) ∈ aT := aT_m (tm_1_2 mq_4) gw_instantiable
theorem w_38 : Cond.instanceMethod yX0_init ∈ aT := aT_m (tm_1_2 mq_6) gw_instanceMethod
theorem w_39 : Cond.code yX0_init cX0_init 1 none ∈ aT := aT_m (tm_1_2 mq_7) gw_code
theorem w_87 : Cond.classLink RX8 (18) RX9 ∈ aT := aT_m (tm_1_5 mq_7) gw_classLink
theorem w_88 : Cond.instantiable RX9 (2) ∈ aT := aT_m (tm_1_5 mq_8) gw_instantiable
theorem w_90 : Cond.instanceMethod yX9_init ∈ aT := aT_m (tm_1_5 mq_10) gw_instanceMethod
theorem w_91 : Cond.code yX9_init cX9_init 1 none ∈ aT := aT_m (tm_1_5 mq_11) gw_code
theorem w_102 : Cond.classLink RX8 (25) RX6 ∈ aT := aT_m (tm_1_6 mq_6) gw_classLink
theorem w_103 : Cond.instantiable RX6 (9) ∈ aT := aT_m (tm_1_6 mq_7) gw_instantiable
theorem w_105 : Cond.instanceMethod yX6_init ∈ aT := aT_m (tm_1_6 mq_9) gw_instanceMethod
theorem w_106 : Cond.code yX6_init cX6_init 1 none ∈ aT := aT_m (tm_1_6 mq_10) gw_code
theorem w_140 : Cond.classLink RX8 (35) RX1 ∈ aT := aT_m (tm_1_8 mq_12) gw_classLink
theorem w_141 : Cond.instantiable RX1 (5) ∈ aT := aT_m (tm_1_8 mq_13) gw_instantiable
theorem w_143 : Cond.instanceMethod yX1_init ∈ aT := aT_m (tm_1_8 mq_15) gw_instanceMethod
theorem w_144 : Cond.code yX1_init cX1_init 1 none ∈ aT := aT_m (tm_1_9 mq_0) gw_code
theorem w_200 : Cond.methodLink RX5 3 Lib.objectInit ∈ aT := aT_m (tm_1_12 mq_8) gw_methodLink
theorem w_201 : Cond.classLink RX5 (9) RX6 ∈ aT := aT_m (tm_1_12 mq_9) gw_classLink
theorem w_236 : Cond.methodLink RX4 3 Lib.objectInit ∈ aT := aT_m (tm_1_14 mq_12) gw_methodLink
theorem w_271 : Cond.methodLink RX7 3 Lib.objectInit ∈ aT := aT_m (tm_2_1 mq_15) gw_methodLink
theorem w_299 : Cond.methodLink RX3 3 Lib.objectInit ∈ aT := aT_m (tm_2_3 mq_11) gw_methodLink
theorem w_304 : Cond.arrayClass .long ∈ aT := aT_m (tm_2_4 mq_0) gw_arrayClass
theorem w_26 : Cond.methodLink RX10 1 Lib.objectInit ∈ aT := aT_m (tm_1_1 mq_10) gw_methodLink
theorem w_29 : Cond.classLink RX10 (7) RX8 ∈ aT := aT_m (tm_1_1 mq_13) gw_classLink
theorem w_30 : Cond.instantiable RX8 (7) ∈ aT := aT_m (tm_1_1 mq_14) gw_instantiable
theorem w_2 : Cond.initialized RX8 ∈ aT := aT_m (tm_1_0 mq_2) gw_initialized
theorem w_32 : Cond.instanceMethod yX8_init ∈ aT := aT_m (tm_1_2 mq_0) gw_instanceMethod
theorem w_33 : Cond.code yX8_init cX8_init 1 none ∈ aT := aT_m (tm_1_2 mq_1) gw_code
theorem w_306 : Cond.fieldLink RX10 16 "StonesOfWeight" "images" "[LStonesOfWeight$State;" ∈ aT := aT_m (tm_2_4 mq_2) gw_fieldLink
theorem w_195 : Cond.classLink RX10 (20) RX5 ∈ aT := aT_m (tm_1_12 mq_3) gw_classLink
theorem w_196 : Cond.instantiable RX5 (8) ∈ aT := aT_m (tm_1_12 mq_4) gw_instantiable
theorem w_197 : Cond.methodLink RX10 (26) yX5_init ∈ aT := aT_m (tm_1_12 mq_5) gw_methodLink
theorem w_198 : Cond.instanceMethod yX5_init ∈ aT := aT_m (tm_1_12 mq_6) gw_instanceMethod
theorem w_199 : Cond.code yX5_init cX5_init 2 none ∈ aT := aT_m (tm_1_12 mq_7) gw_code
theorem w_231 : Cond.classLink RX10 (33) RX4 ∈ aT := aT_m (tm_1_14 mq_7) gw_classLink
theorem w_232 : Cond.instantiable RX4 (7) ∈ aT := aT_m (tm_1_14 mq_8) gw_instantiable
theorem w_234 : Cond.instanceMethod yX4_init ∈ aT := aT_m (tm_1_14 mq_10) gw_instanceMethod
theorem w_235 : Cond.code yX4_init cX4_init 1 none ∈ aT := aT_m (tm_1_14 mq_11) gw_code
theorem w_266 : Cond.classLink RX10 (40) RX7 ∈ aT := aT_m (tm_2_1 mq_10) gw_classLink
theorem w_267 : Cond.instantiable RX7 (7) ∈ aT := aT_m (tm_2_1 mq_11) gw_instantiable
theorem w_269 : Cond.instanceMethod yX7_init ∈ aT := aT_m (tm_2_1 mq_13) gw_instanceMethod
theorem w_270 : Cond.code yX7_init cX7_init 1 none ∈ aT := aT_m (tm_2_1 mq_14) gw_code
theorem w_294 : Cond.classLink RX10 (47) RX3 ∈ aT := aT_m (tm_2_3 mq_6) gw_classLink
theorem w_295 : Cond.instantiable RX3 (1) ∈ aT := aT_m (tm_2_3 mq_7) gw_instantiable
theorem w_297 : Cond.instanceMethod yX3_init ∈ aT := aT_m (tm_2_3 mq_9) gw_instanceMethod
theorem w_298 : Cond.code yX3_init cX3_init 1 none ∈ aT := aT_m (tm_2_3 mq_10) gw_code
theorem w_1002 : Cond.methodLink RX11 1 Lib.objectInit ∈ aT := aT_m (tm_5_2 mq_10) gw_methodLink
theorem dfX0 : ∀ j, j < 13 → defaultValue (tyX0 j) = if aRef 0 j = 0 then .int 0 else if aRef 0 j = 1 then .null else .long 0 := by decide +kernel
theorem dfX1 : ∀ j, j < 5 → defaultValue (tyX1 j) = if aRef 1 j = 0 then .int 0 else if aRef 1 j = 1 then .null else .long 0 := by decide +kernel
theorem dfX3 : ∀ j, j < 1 → defaultValue (tyX3 j) = if aRef 2 j = 0 then .int 0 else if aRef 2 j = 1 then .null else .long 0 := by decide +kernel
theorem dfX4 : ∀ j, j < 7 → defaultValue (tyX4 j) = if aRef 3 j = 0 then .int 0 else if aRef 3 j = 1 then .null else .long 0 := by decide +kernel
theorem dfX5 : ∀ j, j < 8 → defaultValue (tyX5 j) = if aRef 4 j = 0 then .int 0 else if aRef 4 j = 1 then .null else .long 0 := by decide +kernel
theorem dfX6 : ∀ j, j < 9 → defaultValue (tyX6 j) = if aRef 5 j = 0 then .int 0 else if aRef 5 j = 1 then .null else .long 0 := by decide +kernel
theorem dfX7 : ∀ j, j < 7 → defaultValue (tyX7 j) = if aRef 6 j = 0 then .int 0 else if aRef 6 j = 1 then .null else .long 0 := by decide +kernel
theorem dfX8 : ∀ j, j < 7 → defaultValue (tyX8 j) = if aRef 7 j = 0 then .int 0 else if aRef 7 j = 1 then .null else .long 0 := by decide +kernel
theorem dfX9 : ∀ j, j < 2 → defaultValue (tyX9 j) = if aRef 8 j = 0 then .int 0 else if aRef 8 j = 1 then .null else .long 0 := by decide +kernel
theorem dfX10 : ∀ j, j < 7 → defaultValue (tyX10 j) = if aRef 9 j = 0 then .int 0 else if aRef 9 j = 1 then .null else .long 0 := by decide +kernel
theorem dfX11 : ∀ j, j < 51 → defaultValue (tyX11 j) = if aRef 10 j = 0 then .int 0 else if aRef 10 j = 1 then .null else .long 0 := by decide +kernel
def fI_X0_init (n0 k : Nat) (P0 : APD) : APD :=
  let P1 := aNA P0 11 352
  let P2 := aPR P1 k 0 (n0 + (k + 1))
  let P3 := aNA P2 11 352
  let P4 := aPR P3 k 1 (n0 + (k + 2))
  let P5 := aNA P4 11 32
  let P6 := aPR P5 k 2 (n0 + (k + 3))
  let P7 := aNA P6 11 32
  let P8 := aPR P7 k 3 (n0 + (k + 4))
  let P9 := aNA P8 11 400
  let P10 := aPR P9 k 4 (n0 + (k + 5))
  let P11 := aNA P10 11 400
  let P12 := aPR P11 k 5 (n0 + (k + 6))
  let P13 := aNA P12 11 400
  let P14 := aPR P13 k 6 (n0 + (k + 7))
  let P15 := aNA P14 11 400
  let P16 := aPR P15 k 7 (n0 + (k + 8))
  let P17 := aPI P16 k 8 (0 : Int32)
  let P18 := aPI P17 k 9 (0 : Int32)
  let P19 := aPI P18 k 10 (0 : Int32)
  let P20 := aPI P19 k 11 (0 : Int32)
  let P21 := aPI P20 k 12 (-1 : Int32)
  P21
theorem fI_X0_init_N {n0 k : Nat} {P0 : APD} : (fI_X0_init n0 k P0).1.1 = P0.1.1 + 8 := rfl
theorem fI_X0_init_has {n0 k : Nat} {P0 : APD} {q c : Nat} (h : aHas P0 q c) : aHas (fI_X0_init n0 k P0) q c := aHas_PI (aHas_PI (aHas_PI (aHas_PI (aHas_PI (aHas_PR (aHas_NC (aHas_PR (aHas_NC (aHas_PR (aHas_NC (aHas_PR (aHas_NC (aHas_PR (aHas_NC (aHas_PR (aHas_NC (aHas_PR (aHas_NC (aHas_PR (aHas_NC (h)))))))))))))))))))))
theorem fI_X0_init_ri {n0 k : Nat} {P0 : APD} {o f a c : Nat} (hne : o ≠ k) (hN0 : P0.1.1 = k + 1) (hh0 : aHas P0 o c) (h0 : aRI P0 o f a) : aRI (fI_X0_init n0 k P0) o f a := by
  unfold fI_X0_init
  obtain ⟨P1, e1⟩ : ∃ z, z = aNA P0 11 352 := ⟨_, rfl⟩
  have hh1 : aHas P1 o c := by rw [e1]; exact aHas_NC hh0
  have h1 : aRI P1 o f a := by rw [e1]; exact aRI_NC hh0.2.2 h0
  obtain ⟨P2, e2⟩ : ∃ z, z = aPR P1 k 0 (n0 + (k + 1)) := ⟨_, rfl⟩
  have hh2 : aHas P2 o c := by rw [e2]; exact aHas_PR hh1
  have h2 : aRI P2 o f a := by rw [e2]; exact aRI_PR (Or.inl hne) h1
  obtain ⟨P3, e3⟩ : ∃ z, z = aNA P2 11 352 := ⟨_, rfl⟩
  have hh3 : aHas P3 o c := by rw [e3]; exact aHas_NC hh2
  have h3 : aRI P3 o f a := by rw [e3]; exact aRI_NC hh2.2.2 h2
  obtain ⟨P4, e4⟩ : ∃ z, z = aPR P3 k 1 (n0 + (k + 2)) := ⟨_, rfl⟩
  have hh4 : aHas P4 o c := by rw [e4]; exact aHas_PR hh3
  have h4 : aRI P4 o f a := by rw [e4]; exact aRI_PR (Or.inl hne) h3
  obtain ⟨P5, e5⟩ : ∃ z, z = aNA P4 11 32 := ⟨_, rfl⟩
  have hh5 : aHas P5 o c := by rw [e5]; exact aHas_NC hh4
  have h5 : aRI P5 o f a := by rw [e5]; exact aRI_NC hh4.2.2 h4
  obtain ⟨P6, e6⟩ : ∃ z, z = aPR P5 k 2 (n0 + (k + 3)) := ⟨_, rfl⟩
  have hh6 : aHas P6 o c := by rw [e6]; exact aHas_PR hh5
  have h6 : aRI P6 o f a := by rw [e6]; exact aRI_PR (Or.inl hne) h5
  obtain ⟨P7, e7⟩ : ∃ z, z = aNA P6 11 32 := ⟨_, rfl⟩
  have hh7 : aHas P7 o c := by rw [e7]; exact aHas_NC hh6
  have h7 : aRI P7 o f a := by rw [e7]; exact aRI_NC hh6.2.2 h6
  obtain ⟨P8, e8⟩ : ∃ z, z = aPR P7 k 3 (n0 + (k + 4)) := ⟨_, rfl⟩
  have hh8 : aHas P8 o c := by rw [e8]; exact aHas_PR hh7
  have h8 : aRI P8 o f a := by rw [e8]; exact aRI_PR (Or.inl hne) h7
  obtain ⟨P9, e9⟩ : ∃ z, z = aNA P8 11 400 := ⟨_, rfl⟩
  have hh9 : aHas P9 o c := by rw [e9]; exact aHas_NC hh8
  have h9 : aRI P9 o f a := by rw [e9]; exact aRI_NC hh8.2.2 h8
  obtain ⟨P10, e10⟩ : ∃ z, z = aPR P9 k 4 (n0 + (k + 5)) := ⟨_, rfl⟩
  have hh10 : aHas P10 o c := by rw [e10]; exact aHas_PR hh9
  have h10 : aRI P10 o f a := by rw [e10]; exact aRI_PR (Or.inl hne) h9
  obtain ⟨P11, e11⟩ : ∃ z, z = aNA P10 11 400 := ⟨_, rfl⟩
  have hh11 : aHas P11 o c := by rw [e11]; exact aHas_NC hh10
  have h11 : aRI P11 o f a := by rw [e11]; exact aRI_NC hh10.2.2 h10
  obtain ⟨P12, e12⟩ : ∃ z, z = aPR P11 k 5 (n0 + (k + 6)) := ⟨_, rfl⟩
  have hh12 : aHas P12 o c := by rw [e12]; exact aHas_PR hh11
  have h12 : aRI P12 o f a := by rw [e12]; exact aRI_PR (Or.inl hne) h11
  obtain ⟨P13, e13⟩ : ∃ z, z = aNA P12 11 400 := ⟨_, rfl⟩
  have hh13 : aHas P13 o c := by rw [e13]; exact aHas_NC hh12
  have h13 : aRI P13 o f a := by rw [e13]; exact aRI_NC hh12.2.2 h12
  obtain ⟨P14, e14⟩ : ∃ z, z = aPR P13 k 6 (n0 + (k + 7)) := ⟨_, rfl⟩
  have hh14 : aHas P14 o c := by rw [e14]; exact aHas_PR hh13
  have h14 : aRI P14 o f a := by rw [e14]; exact aRI_PR (Or.inl hne) h13
  obtain ⟨P15, e15⟩ : ∃ z, z = aNA P14 11 400 := ⟨_, rfl⟩
  have hh15 : aHas P15 o c := by rw [e15]; exact aHas_NC hh14
  have h15 : aRI P15 o f a := by rw [e15]; exact aRI_NC hh14.2.2 h14
  obtain ⟨P16, e16⟩ : ∃ z, z = aPR P15 k 7 (n0 + (k + 8)) := ⟨_, rfl⟩
  have hh16 : aHas P16 o c := by rw [e16]; exact aHas_PR hh15
  have h16 : aRI P16 o f a := by rw [e16]; exact aRI_PR (Or.inl hne) h15
  obtain ⟨P17, e17⟩ : ∃ z, z = aPI P16 k 8 (0 : Int32) := ⟨_, rfl⟩
  have hh17 : aHas P17 o c := by rw [e17]; exact aHas_PI hh16
  have h17 : aRI P17 o f a := by rw [e17]; exact aRI_PI h16
  obtain ⟨P18, e18⟩ : ∃ z, z = aPI P17 k 9 (0 : Int32) := ⟨_, rfl⟩
  have hh18 : aHas P18 o c := by rw [e18]; exact aHas_PI hh17
  have h18 : aRI P18 o f a := by rw [e18]; exact aRI_PI h17
  obtain ⟨P19, e19⟩ : ∃ z, z = aPI P18 k 10 (0 : Int32) := ⟨_, rfl⟩
  have hh19 : aHas P19 o c := by rw [e19]; exact aHas_PI hh18
  have h19 : aRI P19 o f a := by rw [e19]; exact aRI_PI h18
  obtain ⟨P20, e20⟩ : ∃ z, z = aPI P19 k 11 (0 : Int32) := ⟨_, rfl⟩
  have hh20 : aHas P20 o c := by rw [e20]; exact aHas_PI hh19
  have h20 : aRI P20 o f a := by rw [e20]; exact aRI_PI h19
  obtain ⟨P21, e21⟩ : ∃ z, z = aPI P20 k 12 (-1 : Int32) := ⟨_, rfl⟩
  have hh21 : aHas P21 o c := by rw [e21]; exact aHas_PI hh20
  have h21 : aRI P21 o f a := by rw [e21]; exact aRI_PI h20
  subst e1 e2 e3 e4 e5 e6 e7 e8 e9 e10 e11 e12 e13 e14 e15 e16 e17 e18 e19 e20 e21
  exact h21
theorem fI_X0_init_ri2 {n0 k : Nat} {P0 : APD} {o f a : Nat} (hne : o ≠ k) (hlt0 : o < P0.1.1) (h0 : aRI P0 o f a) : aRI (fI_X0_init n0 k P0) o f a := by
  unfold fI_X0_init
  obtain ⟨P1, e1⟩ : ∃ z, z = aNA P0 11 352 := ⟨_, rfl⟩
  have hlt1 : o < P1.1.1 := by rw [e1]; show o < P0.1.1 + 1; omega
  have h1 : aRI P1 o f a := by rw [e1]; exact aRI_NC hlt0 h0
  obtain ⟨P2, e2⟩ : ∃ z, z = aPR P1 k 0 (n0 + (k + 1)) := ⟨_, rfl⟩
  have hlt2 : o < P2.1.1 := by rw [e2]; exact hlt1
  have h2 : aRI P2 o f a := by rw [e2]; exact aRI_PR (Or.inl hne) h1
  obtain ⟨P3, e3⟩ : ∃ z, z = aNA P2 11 352 := ⟨_, rfl⟩
  have hlt3 : o < P3.1.1 := by rw [e3]; show o < P2.1.1 + 1; omega
  have h3 : aRI P3 o f a := by rw [e3]; exact aRI_NC hlt2 h2
  obtain ⟨P4, e4⟩ : ∃ z, z = aPR P3 k 1 (n0 + (k + 2)) := ⟨_, rfl⟩
  have hlt4 : o < P4.1.1 := by rw [e4]; exact hlt3
  have h4 : aRI P4 o f a := by rw [e4]; exact aRI_PR (Or.inl hne) h3
  obtain ⟨P5, e5⟩ : ∃ z, z = aNA P4 11 32 := ⟨_, rfl⟩
  have hlt5 : o < P5.1.1 := by rw [e5]; show o < P4.1.1 + 1; omega
  have h5 : aRI P5 o f a := by rw [e5]; exact aRI_NC hlt4 h4
  obtain ⟨P6, e6⟩ : ∃ z, z = aPR P5 k 2 (n0 + (k + 3)) := ⟨_, rfl⟩
  have hlt6 : o < P6.1.1 := by rw [e6]; exact hlt5
  have h6 : aRI P6 o f a := by rw [e6]; exact aRI_PR (Or.inl hne) h5
  obtain ⟨P7, e7⟩ : ∃ z, z = aNA P6 11 32 := ⟨_, rfl⟩
  have hlt7 : o < P7.1.1 := by rw [e7]; show o < P6.1.1 + 1; omega
  have h7 : aRI P7 o f a := by rw [e7]; exact aRI_NC hlt6 h6
  obtain ⟨P8, e8⟩ : ∃ z, z = aPR P7 k 3 (n0 + (k + 4)) := ⟨_, rfl⟩
  have hlt8 : o < P8.1.1 := by rw [e8]; exact hlt7
  have h8 : aRI P8 o f a := by rw [e8]; exact aRI_PR (Or.inl hne) h7
  obtain ⟨P9, e9⟩ : ∃ z, z = aNA P8 11 400 := ⟨_, rfl⟩
  have hlt9 : o < P9.1.1 := by rw [e9]; show o < P8.1.1 + 1; omega
  have h9 : aRI P9 o f a := by rw [e9]; exact aRI_NC hlt8 h8
  obtain ⟨P10, e10⟩ : ∃ z, z = aPR P9 k 4 (n0 + (k + 5)) := ⟨_, rfl⟩
  have hlt10 : o < P10.1.1 := by rw [e10]; exact hlt9
  have h10 : aRI P10 o f a := by rw [e10]; exact aRI_PR (Or.inl hne) h9
  obtain ⟨P11, e11⟩ : ∃ z, z = aNA P10 11 400 := ⟨_, rfl⟩
  have hlt11 : o < P11.1.1 := by rw [e11]; show o < P10.1.1 + 1; omega
  have h11 : aRI P11 o f a := by rw [e11]; exact aRI_NC hlt10 h10
  obtain ⟨P12, e12⟩ : ∃ z, z = aPR P11 k 5 (n0 + (k + 6)) := ⟨_, rfl⟩
  have hlt12 : o < P12.1.1 := by rw [e12]; exact hlt11
  have h12 : aRI P12 o f a := by rw [e12]; exact aRI_PR (Or.inl hne) h11
  obtain ⟨P13, e13⟩ : ∃ z, z = aNA P12 11 400 := ⟨_, rfl⟩
  have hlt13 : o < P13.1.1 := by rw [e13]; show o < P12.1.1 + 1; omega
  have h13 : aRI P13 o f a := by rw [e13]; exact aRI_NC hlt12 h12
  obtain ⟨P14, e14⟩ : ∃ z, z = aPR P13 k 6 (n0 + (k + 7)) := ⟨_, rfl⟩
  have hlt14 : o < P14.1.1 := by rw [e14]; exact hlt13
  have h14 : aRI P14 o f a := by rw [e14]; exact aRI_PR (Or.inl hne) h13
  obtain ⟨P15, e15⟩ : ∃ z, z = aNA P14 11 400 := ⟨_, rfl⟩
  have hlt15 : o < P15.1.1 := by rw [e15]; show o < P14.1.1 + 1; omega
  have h15 : aRI P15 o f a := by rw [e15]; exact aRI_NC hlt14 h14
  obtain ⟨P16, e16⟩ : ∃ z, z = aPR P15 k 7 (n0 + (k + 8)) := ⟨_, rfl⟩
  have hlt16 : o < P16.1.1 := by rw [e16]; exact hlt15
  have h16 : aRI P16 o f a := by rw [e16]; exact aRI_PR (Or.inl hne) h15
  obtain ⟨P17, e17⟩ : ∃ z, z = aPI P16 k 8 (0 : Int32) := ⟨_, rfl⟩
  have hlt17 : o < P17.1.1 := by rw [e17]; exact hlt16
  have h17 : aRI P17 o f a := by rw [e17]; exact aRI_PI h16
  obtain ⟨P18, e18⟩ : ∃ z, z = aPI P17 k 9 (0 : Int32) := ⟨_, rfl⟩
  have hlt18 : o < P18.1.1 := by rw [e18]; exact hlt17
  have h18 : aRI P18 o f a := by rw [e18]; exact aRI_PI h17
  obtain ⟨P19, e19⟩ : ∃ z, z = aPI P18 k 10 (0 : Int32) := ⟨_, rfl⟩
  have hlt19 : o < P19.1.1 := by rw [e19]; exact hlt18
  have h19 : aRI P19 o f a := by rw [e19]; exact aRI_PI h18
  obtain ⟨P20, e20⟩ : ∃ z, z = aPI P19 k 11 (0 : Int32) := ⟨_, rfl⟩
  have hlt20 : o < P20.1.1 := by rw [e20]; exact hlt19
  have h20 : aRI P20 o f a := by rw [e20]; exact aRI_PI h19
  obtain ⟨P21, e21⟩ : ∃ z, z = aPI P20 k 12 (-1 : Int32) := ⟨_, rfl⟩
  have hlt21 : o < P21.1.1 := by rw [e21]; exact hlt20
  have h21 : aRI P21 o f a := by rw [e21]; exact aRI_PI h20
  subst e1 e2 e3 e4 e5 e6 e7 e8 e9 e10 e11 e12 e13 e14 e15 e16 e17 e18 e19 e20 e21
  exact h21
set_option maxHeartbeats 4000000 in
set_option maxRecDepth 100000 in
theorem mk_X0_init (l : Launch) (g : AGl) (k : Nat) (D : ADD) (h : aHas (g.2.2.2.2.2, D) k 0) (hN0 : g.2.2.2.2.2.1 = k + 1) : AMk l yX0_init cX0_init 1 none 1 8 2368 g [.ref (g.1 + k)] D none (fI_X0_init g.1 k (g.2.2.2.2.2, D)) := by
  refine AMk_of (lv0 := [some (.ref (g.1 + k))]) (own := RX0) (nm := "<init>") (by decide +kernel) rfl rfl (Nat.le_of_ble_eq_true rfl) rfl (fun b hC => ?_)
  generalize hP0 : ((g.2.2.2.2.2, D) : APD) = P0 at h ⊢
  have hN0 : P0.1.1 = k + 1 := by rw [← hP0]; exact hN0
  replace hh_k : aHas P0 k 0 := h
  replace hN : P0.1.1 = k + 1 := hN0
  refine C_aload_n hC dX0_init_0 rfl ?_
  refine C_objInit hC dX0_init_1 w_40 w_27 w_28 rfl (by decide) (Nat.le_of_ble_eq_true rfl) ?_
  refine C_aload_n hC dX0_init_4 rfl ?_
  refine C_sipush (v := 352) hC dX0_init_5 (by decide) ?_
  refine C_newai (n := (352 : Int32)) (N := 352) hC w_86 (by decide) (by decide) (by decide) (by decide) dX0_init_8 (fun P1 e1 => ?_)
  rw [hN]
  replace hNb := hN
  replace hN : P1.1.1 = k + 2 := by rw [e1]; show P0.1.1 + 1 = _; rw [hN]
  replace hh_k : aHas P1 k 0 := by rw [e1]; exact aHas_NC hh_k
  refine C_putr (kf := 0) hC kX0 hh_k (by decide) (by decide) rfl rfl rfl ⟨rfl, rfl⟩ rfl w_41 dX0_init_10 (fun P2 e2 => ?_)
  replace hNb := hN
  replace hN : P2.1.1 = k + 2 := by rw [e2]; exact hN
  replace hh_k : aHas P2 k 0 := by rw [e2]; exact aHas_PR hh_k
  refine C_aload_n hC dX0_init_13 rfl ?_
  refine C_sipush (v := 352) hC dX0_init_14 (by decide) ?_
  refine C_newai (n := (352 : Int32)) (N := 352) hC w_86 (by decide) (by decide) (by decide) (by decide) dX0_init_17 (fun P3 e3 => ?_)
  rw [hN]
  replace hNb := hN
  replace hN : P3.1.1 = k + 3 := by rw [e3]; show P2.1.1 + 1 = _; rw [hN]
  replace hh_k : aHas P3 k 0 := by rw [e3]; exact aHas_NC hh_k
  refine C_putr (kf := 1) hC kX0 hh_k (by decide) (by decide) rfl rfl rfl ⟨rfl, rfl⟩ rfl w_42 dX0_init_19 (fun P4 e4 => ?_)
  replace hNb := hN
  replace hN : P4.1.1 = k + 3 := by rw [e4]; exact hN
  replace hh_k : aHas P4 k 0 := by rw [e4]; exact aHas_PR hh_k
  refine C_aload_n hC dX0_init_22 rfl ?_
  refine C_bipush (v := 32) hC dX0_init_23 (by decide) ?_
  refine C_newai (n := (32 : Int32)) (N := 32) hC w_86 (by decide) (by decide) (by decide) (by decide) dX0_init_25 (fun P5 e5 => ?_)
  rw [hN]
  replace hNb := hN
  replace hN : P5.1.1 = k + 4 := by rw [e5]; show P4.1.1 + 1 = _; rw [hN]
  replace hh_k : aHas P5 k 0 := by rw [e5]; exact aHas_NC hh_k
  refine C_putr (kf := 2) hC kX0 hh_k (by decide) (by decide) rfl rfl rfl ⟨rfl, rfl⟩ rfl w_43 dX0_init_27 (fun P6 e6 => ?_)
  replace hNb := hN
  replace hN : P6.1.1 = k + 4 := by rw [e6]; exact hN
  replace hh_k : aHas P6 k 0 := by rw [e6]; exact aHas_PR hh_k
  refine C_aload_n hC dX0_init_30 rfl ?_
  refine C_bipush (v := 32) hC dX0_init_31 (by decide) ?_
  refine C_newai (n := (32 : Int32)) (N := 32) hC w_86 (by decide) (by decide) (by decide) (by decide) dX0_init_33 (fun P7 e7 => ?_)
  rw [hN]
  replace hNb := hN
  replace hN : P7.1.1 = k + 5 := by rw [e7]; show P6.1.1 + 1 = _; rw [hN]
  replace hh_k : aHas P7 k 0 := by rw [e7]; exact aHas_NC hh_k
  refine C_putr (kf := 3) hC kX0 hh_k (by decide) (by decide) rfl rfl rfl ⟨rfl, rfl⟩ rfl w_44 dX0_init_35 (fun P8 e8 => ?_)
  replace hNb := hN
  replace hN : P8.1.1 = k + 5 := by rw [e8]; exact hN
  replace hh_k : aHas P8 k 0 := by rw [e8]; exact aHas_PR hh_k
  refine C_aload_n hC dX0_init_38 rfl ?_
  refine C_sipush (v := 400) hC dX0_init_39 (by decide) ?_
  refine C_newai (n := (400 : Int32)) (N := 400) hC w_86 (by decide) (by decide) (by decide) (by decide) dX0_init_42 (fun P9 e9 => ?_)
  rw [hN]
  replace hNb := hN
  replace hN : P9.1.1 = k + 6 := by rw [e9]; show P8.1.1 + 1 = _; rw [hN]
  replace hh_k : aHas P9 k 0 := by rw [e9]; exact aHas_NC hh_k
  refine C_putr (kf := 4) hC kX0 hh_k (by decide) (by decide) rfl rfl rfl ⟨rfl, rfl⟩ rfl w_45 dX0_init_44 (fun P10 e10 => ?_)
  replace hNb := hN
  replace hN : P10.1.1 = k + 6 := by rw [e10]; exact hN
  replace hh_k : aHas P10 k 0 := by rw [e10]; exact aHas_PR hh_k
  refine C_aload_n hC dX0_init_47 rfl ?_
  refine C_sipush (v := 400) hC dX0_init_48 (by decide) ?_
  refine C_newai (n := (400 : Int32)) (N := 400) hC w_86 (by decide) (by decide) (by decide) (by decide) dX0_init_51 (fun P11 e11 => ?_)
  rw [hN]
  replace hNb := hN
  replace hN : P11.1.1 = k + 7 := by rw [e11]; show P10.1.1 + 1 = _; rw [hN]
  replace hh_k : aHas P11 k 0 := by rw [e11]; exact aHas_NC hh_k
  refine C_putr (kf := 5) hC kX0 hh_k (by decide) (by decide) rfl rfl rfl ⟨rfl, rfl⟩ rfl w_46 dX0_init_53 (fun P12 e12 => ?_)
  replace hNb := hN
  replace hN : P12.1.1 = k + 7 := by rw [e12]; exact hN
  replace hh_k : aHas P12 k 0 := by rw [e12]; exact aHas_PR hh_k
  refine C_aload_n hC dX0_init_56 rfl ?_
  refine C_sipush (v := 400) hC dX0_init_57 (by decide) ?_
  refine C_newai (n := (400 : Int32)) (N := 400) hC w_86 (by decide) (by decide) (by decide) (by decide) dX0_init_60 (fun P13 e13 => ?_)
  rw [hN]
  replace hNb := hN
  replace hN : P13.1.1 = k + 8 := by rw [e13]; show P12.1.1 + 1 = _; rw [hN]
  replace hh_k : aHas P13 k 0 := by rw [e13]; exact aHas_NC hh_k
  refine C_putr (kf := 6) hC kX0 hh_k (by decide) (by decide) rfl rfl rfl ⟨rfl, rfl⟩ rfl w_47 dX0_init_62 (fun P14 e14 => ?_)
  replace hNb := hN
  replace hN : P14.1.1 = k + 8 := by rw [e14]; exact hN
  replace hh_k : aHas P14 k 0 := by rw [e14]; exact aHas_PR hh_k
  refine C_aload_n hC dX0_init_65 rfl ?_
  refine C_sipush (v := 400) hC dX0_init_66 (by decide) ?_
  refine C_newai (n := (400 : Int32)) (N := 400) hC w_86 (by decide) (by decide) (by decide) (by decide) dX0_init_69 (fun P15 e15 => ?_)
  rw [hN]
  replace hNb := hN
  replace hN : P15.1.1 = k + 9 := by rw [e15]; show P14.1.1 + 1 = _; rw [hN]
  replace hh_k : aHas P15 k 0 := by rw [e15]; exact aHas_NC hh_k
  refine C_putr (kf := 7) hC kX0 hh_k (by decide) (by decide) rfl rfl rfl ⟨rfl, rfl⟩ rfl w_48 dX0_init_71 (fun P16 e16 => ?_)
  replace hNb := hN
  replace hN : P16.1.1 = k + 9 := by rw [e16]; exact hN
  replace hh_k : aHas P16 k 0 := by rw [e16]; exact aHas_PR hh_k
  refine C_aload_n hC dX0_init_74 rfl ?_
  refine C_iconst (v := 0) hC dX0_init_75 (by decide) ?_
  refine C_puti (kf := 8) hC kX0 hh_k (by decide) (by decide) rfl rfl ⟨by decide, by decide⟩ w_49 dX0_init_76 (fun P17 e17 => ?_)
  replace hNb := hN
  replace hN : P17.1.1 = k + 9 := by rw [e17]; exact hN
  replace hh_k : aHas P17 k 0 := by rw [e17]; exact aHas_PI hh_k
  refine C_aload_n hC dX0_init_79 rfl ?_
  refine C_iconst (v := 0) hC dX0_init_80 (by decide) ?_
  refine C_puti (kf := 9) hC kX0 hh_k (by decide) (by decide) rfl rfl ⟨by decide, by decide⟩ w_50 dX0_init_81 (fun P18 e18 => ?_)
  replace hNb := hN
  replace hN : P18.1.1 = k + 9 := by rw [e18]; exact hN
  replace hh_k : aHas P18 k 0 := by rw [e18]; exact aHas_PI hh_k
  refine C_aload_n hC dX0_init_84 rfl ?_
  refine C_iconst (v := 0) hC dX0_init_85 (by decide) ?_
  refine C_puti (kf := 10) hC kX0 hh_k (by decide) (by decide) rfl rfl ⟨by decide, by decide⟩ w_53 dX0_init_86 (fun P19 e19 => ?_)
  replace hNb := hN
  replace hN : P19.1.1 = k + 9 := by rw [e19]; exact hN
  replace hh_k : aHas P19 k 0 := by rw [e19]; exact aHas_PI hh_k
  refine C_aload_n hC dX0_init_89 rfl ?_
  refine C_iconst (v := 0) hC dX0_init_90 (by decide) ?_
  refine C_puti (kf := 11) hC kX0 hh_k (by decide) (by decide) rfl rfl ⟨by decide, by decide⟩ w_55 dX0_init_91 (fun P20 e20 => ?_)
  replace hNb := hN
  replace hN : P20.1.1 = k + 9 := by rw [e20]; exact hN
  replace hh_k : aHas P20 k 0 := by rw [e20]; exact aHas_PI hh_k
  refine C_aload_n hC dX0_init_94 rfl ?_
  refine C_iconst (v := -1) hC dX0_init_95 (by decide) ?_
  refine C_puti (kf := 12) hC kX0 hh_k (by decide) (by decide) rfl rfl ⟨by decide, by decide⟩ w_57 dX0_init_96 (fun P21 e21 => ?_)
  replace hNb := hN
  replace hN : P21.1.1 = k + 9 := by rw [e21]; exact hN
  replace hh_k : aHas P21 k 0 := by rw [e21]; exact aHas_PI hh_k
  exact C_vret hC (by subst e1 e2 e3 e4 e5 e6 e7 e8 e9 e10 e11 e12 e13 e14 e15 e16 e17 e18 e19 e20 e21; rfl) ⟨rfl, rfl⟩ rfl dX0_init_99
def fI_X9_init (n0 k : Nat) (P0 : APD) : APD :=
  let P1 := aNA P0 13 500
  let P2 := aPR P1 k 0 (n0 + (k + 1))
  let P3 := aPI P2 k 1 (0 : Int32)
  P3
theorem fI_X9_init_N {n0 k : Nat} {P0 : APD} : (fI_X9_init n0 k P0).1.1 = P0.1.1 + 1 := rfl
theorem fI_X9_init_has {n0 k : Nat} {P0 : APD} {q c : Nat} (h : aHas P0 q c) : aHas (fI_X9_init n0 k P0) q c := aHas_PI (aHas_PR (aHas_NC (h)))
theorem fI_X9_init_ri {n0 k : Nat} {P0 : APD} {o f a c : Nat} (hne : o ≠ k) (hN0 : P0.1.1 = k + 1) (hh0 : aHas P0 o c) (h0 : aRI P0 o f a) : aRI (fI_X9_init n0 k P0) o f a := by
  unfold fI_X9_init
  obtain ⟨P1, e1⟩ : ∃ z, z = aNA P0 13 500 := ⟨_, rfl⟩
  have hh1 : aHas P1 o c := by rw [e1]; exact aHas_NC hh0
  have h1 : aRI P1 o f a := by rw [e1]; exact aRI_NC hh0.2.2 h0
  obtain ⟨P2, e2⟩ : ∃ z, z = aPR P1 k 0 (n0 + (k + 1)) := ⟨_, rfl⟩
  have hh2 : aHas P2 o c := by rw [e2]; exact aHas_PR hh1
  have h2 : aRI P2 o f a := by rw [e2]; exact aRI_PR (Or.inl hne) h1
  obtain ⟨P3, e3⟩ : ∃ z, z = aPI P2 k 1 (0 : Int32) := ⟨_, rfl⟩
  have hh3 : aHas P3 o c := by rw [e3]; exact aHas_PI hh2
  have h3 : aRI P3 o f a := by rw [e3]; exact aRI_PI h2
  subst e1 e2 e3
  exact h3
theorem fI_X9_init_ri2 {n0 k : Nat} {P0 : APD} {o f a : Nat} (hne : o ≠ k) (hlt0 : o < P0.1.1) (h0 : aRI P0 o f a) : aRI (fI_X9_init n0 k P0) o f a := by
  unfold fI_X9_init
  obtain ⟨P1, e1⟩ : ∃ z, z = aNA P0 13 500 := ⟨_, rfl⟩
  have hlt1 : o < P1.1.1 := by rw [e1]; show o < P0.1.1 + 1; omega
  have h1 : aRI P1 o f a := by rw [e1]; exact aRI_NC hlt0 h0
  obtain ⟨P2, e2⟩ : ∃ z, z = aPR P1 k 0 (n0 + (k + 1)) := ⟨_, rfl⟩
  have hlt2 : o < P2.1.1 := by rw [e2]; exact hlt1
  have h2 : aRI P2 o f a := by rw [e2]; exact aRI_PR (Or.inl hne) h1
  obtain ⟨P3, e3⟩ : ∃ z, z = aPI P2 k 1 (0 : Int32) := ⟨_, rfl⟩
  have hlt3 : o < P3.1.1 := by rw [e3]; exact hlt2
  have h3 : aRI P3 o f a := by rw [e3]; exact aRI_PI h2
  subst e1 e2 e3
  exact h3
set_option maxHeartbeats 4000000 in
set_option maxRecDepth 100000 in
theorem mk_X9_init (l : Launch) (g : AGl) (k : Nat) (D : ADD) (h : aHas (g.2.2.2.2.2, D) k 8) (hN0 : g.2.2.2.2.2.1 = k + 1) : AMk l yX9_init cX9_init 1 none 1 1 500 g [.ref (g.1 + k)] D none (fI_X9_init g.1 k (g.2.2.2.2.2, D)) := by
  refine AMk_of (lv0 := [some (.ref (g.1 + k))]) (own := RX9) (nm := "<init>") (by decide +kernel) rfl rfl (Nat.le_of_ble_eq_true rfl) rfl (fun b hC => ?_)
  generalize hP0 : ((g.2.2.2.2.2, D) : APD) = P0 at h ⊢
  have hN0 : P0.1.1 = k + 1 := by rw [← hP0]; exact hN0
  replace hh_k : aHas P0 k 8 := h
  replace hN : P0.1.1 = k + 1 := hN0
  refine C_aload_n hC dX9_init_0 rfl ?_
  refine C_objInit hC dX9_init_1 w_92 w_27 w_28 rfl (by decide) (Nat.le_of_ble_eq_true rfl) ?_
  refine C_aload_n hC dX9_init_4 rfl ?_
  refine C_sipush (v := 500) hC dX9_init_5 (by decide) ?_
  refine C_newab (n := (500 : Int32)) (N := 500) hC w_101 (by decide) (by decide) (by decide) (by decide) dX9_init_8 (fun P1 e1 => ?_)
  rw [hN]
  replace hNb := hN
  replace hN : P1.1.1 = k + 2 := by rw [e1]; show P0.1.1 + 1 = _; rw [hN]
  replace hh_k : aHas P1 k 8 := by rw [e1]; exact aHas_NC hh_k
  refine C_putr (kf := 0) hC kX9 hh_k (by decide) (by decide) rfl rfl rfl ⟨rfl, rfl⟩ rfl w_93 dX9_init_10 (fun P2 e2 => ?_)
  replace hNb := hN
  replace hN : P2.1.1 = k + 2 := by rw [e2]; exact hN
  replace hh_k : aHas P2 k 8 := by rw [e2]; exact aHas_PR hh_k
  refine C_aload_n hC dX9_init_13 rfl ?_
  refine C_iconst (v := 0) hC dX9_init_14 (by decide) ?_
  refine C_puti (kf := 1) hC kX9 hh_k (by decide) (by decide) rfl rfl ⟨by decide, by decide⟩ w_94 dX9_init_15 (fun P3 e3 => ?_)
  replace hNb := hN
  replace hN : P3.1.1 = k + 2 := by rw [e3]; exact hN
  replace hh_k : aHas P3 k 8 := by rw [e3]; exact aHas_PI hh_k
  exact C_vret hC (by subst e1 e2 e3; rfl) ⟨rfl, rfl⟩ rfl dX9_init_18
def fI_X6_init (n0 k : Nat) (P0 : APD) : APD :=
  let P1 := aPI P0 k 0 (0 : Int32)
  let P2 := aNA P1 11 16
  let P3 := aPR P2 k 1 (n0 + (k + 1))
  let P4 := aNA P3 11 16
  let P5 := aPR P4 k 2 (n0 + (k + 2))
  let P6 := aNA P5 11 16
  let P7 := aPR P6 k 3 (n0 + (k + 3))
  let P8 := aNA P7 11 16
  let P9 := aPR P8 k 4 (n0 + (k + 4))
  let P10 := aNA P9 11 64
  let P11 := aPR P10 k 5 (n0 + (k + 5))
  let P12 := aNA P11 11 64
  let P13 := aPR P12 k 6 (n0 + (k + 6))
  let P14 := aNA P13 11 64
  let P15 := aPR P14 k 7 (n0 + (k + 7))
  let P16 := aNA P15 14 64
  let P17 := aPR P16 k 8 (n0 + (k + 8))
  P17
theorem fI_X6_init_N {n0 k : Nat} {P0 : APD} : (fI_X6_init n0 k P0).1.1 = P0.1.1 + 8 := rfl
theorem fI_X6_init_has {n0 k : Nat} {P0 : APD} {q c : Nat} (h : aHas P0 q c) : aHas (fI_X6_init n0 k P0) q c := aHas_PR (aHas_NC (aHas_PR (aHas_NC (aHas_PR (aHas_NC (aHas_PR (aHas_NC (aHas_PR (aHas_NC (aHas_PR (aHas_NC (aHas_PR (aHas_NC (aHas_PR (aHas_NC (aHas_PI (h)))))))))))))))))
theorem fI_X6_init_ri {n0 k : Nat} {P0 : APD} {o f a c : Nat} (hne : o ≠ k) (hN0 : P0.1.1 = k + 1) (hh0 : aHas P0 o c) (h0 : aRI P0 o f a) : aRI (fI_X6_init n0 k P0) o f a := by
  unfold fI_X6_init
  obtain ⟨P1, e1⟩ : ∃ z, z = aPI P0 k 0 (0 : Int32) := ⟨_, rfl⟩
  have hh1 : aHas P1 o c := by rw [e1]; exact aHas_PI hh0
  have h1 : aRI P1 o f a := by rw [e1]; exact aRI_PI h0
  obtain ⟨P2, e2⟩ : ∃ z, z = aNA P1 11 16 := ⟨_, rfl⟩
  have hh2 : aHas P2 o c := by rw [e2]; exact aHas_NC hh1
  have h2 : aRI P2 o f a := by rw [e2]; exact aRI_NC hh1.2.2 h1
  obtain ⟨P3, e3⟩ : ∃ z, z = aPR P2 k 1 (n0 + (k + 1)) := ⟨_, rfl⟩
  have hh3 : aHas P3 o c := by rw [e3]; exact aHas_PR hh2
  have h3 : aRI P3 o f a := by rw [e3]; exact aRI_PR (Or.inl hne) h2
  obtain ⟨P4, e4⟩ : ∃ z, z = aNA P3 11 16 := ⟨_, rfl⟩
  have hh4 : aHas P4 o c := by rw [e4]; exact aHas_NC hh3
  have h4 : aRI P4 o f a := by rw [e4]; exact aRI_NC hh3.2.2 h3
  obtain ⟨P5, e5⟩ : ∃ z, z = aPR P4 k 2 (n0 + (k + 2)) := ⟨_, rfl⟩
  have hh5 : aHas P5 o c := by rw [e5]; exact aHas_PR hh4
  have h5 : aRI P5 o f a := by rw [e5]; exact aRI_PR (Or.inl hne) h4
  obtain ⟨P6, e6⟩ : ∃ z, z = aNA P5 11 16 := ⟨_, rfl⟩
  have hh6 : aHas P6 o c := by rw [e6]; exact aHas_NC hh5
  have h6 : aRI P6 o f a := by rw [e6]; exact aRI_NC hh5.2.2 h5
  obtain ⟨P7, e7⟩ : ∃ z, z = aPR P6 k 3 (n0 + (k + 3)) := ⟨_, rfl⟩
  have hh7 : aHas P7 o c := by rw [e7]; exact aHas_PR hh6
  have h7 : aRI P7 o f a := by rw [e7]; exact aRI_PR (Or.inl hne) h6
  obtain ⟨P8, e8⟩ : ∃ z, z = aNA P7 11 16 := ⟨_, rfl⟩
  have hh8 : aHas P8 o c := by rw [e8]; exact aHas_NC hh7
  have h8 : aRI P8 o f a := by rw [e8]; exact aRI_NC hh7.2.2 h7
  obtain ⟨P9, e9⟩ : ∃ z, z = aPR P8 k 4 (n0 + (k + 4)) := ⟨_, rfl⟩
  have hh9 : aHas P9 o c := by rw [e9]; exact aHas_PR hh8
  have h9 : aRI P9 o f a := by rw [e9]; exact aRI_PR (Or.inl hne) h8
  obtain ⟨P10, e10⟩ : ∃ z, z = aNA P9 11 64 := ⟨_, rfl⟩
  have hh10 : aHas P10 o c := by rw [e10]; exact aHas_NC hh9
  have h10 : aRI P10 o f a := by rw [e10]; exact aRI_NC hh9.2.2 h9
  obtain ⟨P11, e11⟩ : ∃ z, z = aPR P10 k 5 (n0 + (k + 5)) := ⟨_, rfl⟩
  have hh11 : aHas P11 o c := by rw [e11]; exact aHas_PR hh10
  have h11 : aRI P11 o f a := by rw [e11]; exact aRI_PR (Or.inl hne) h10
  obtain ⟨P12, e12⟩ : ∃ z, z = aNA P11 11 64 := ⟨_, rfl⟩
  have hh12 : aHas P12 o c := by rw [e12]; exact aHas_NC hh11
  have h12 : aRI P12 o f a := by rw [e12]; exact aRI_NC hh11.2.2 h11
  obtain ⟨P13, e13⟩ : ∃ z, z = aPR P12 k 6 (n0 + (k + 6)) := ⟨_, rfl⟩
  have hh13 : aHas P13 o c := by rw [e13]; exact aHas_PR hh12
  have h13 : aRI P13 o f a := by rw [e13]; exact aRI_PR (Or.inl hne) h12
  obtain ⟨P14, e14⟩ : ∃ z, z = aNA P13 11 64 := ⟨_, rfl⟩
  have hh14 : aHas P14 o c := by rw [e14]; exact aHas_NC hh13
  have h14 : aRI P14 o f a := by rw [e14]; exact aRI_NC hh13.2.2 h13
  obtain ⟨P15, e15⟩ : ∃ z, z = aPR P14 k 7 (n0 + (k + 7)) := ⟨_, rfl⟩
  have hh15 : aHas P15 o c := by rw [e15]; exact aHas_PR hh14
  have h15 : aRI P15 o f a := by rw [e15]; exact aRI_PR (Or.inl hne) h14
  obtain ⟨P16, e16⟩ : ∃ z, z = aNA P15 14 64 := ⟨_, rfl⟩
  have hh16 : aHas P16 o c := by rw [e16]; exact aHas_NC hh15
  have h16 : aRI P16 o f a := by rw [e16]; exact aRI_NC hh15.2.2 h15
  obtain ⟨P17, e17⟩ : ∃ z, z = aPR P16 k 8 (n0 + (k + 8)) := ⟨_, rfl⟩
  have hh17 : aHas P17 o c := by rw [e17]; exact aHas_PR hh16
  have h17 : aRI P17 o f a := by rw [e17]; exact aRI_PR (Or.inl hne) h16
  subst e1 e2 e3 e4 e5 e6 e7 e8 e9 e10 e11 e12 e13 e14 e15 e16 e17
  exact h17
theorem fI_X6_init_ri2 {n0 k : Nat} {P0 : APD} {o f a : Nat} (hne : o ≠ k) (hlt0 : o < P0.1.1) (h0 : aRI P0 o f a) : aRI (fI_X6_init n0 k P0) o f a := by
  unfold fI_X6_init
  obtain ⟨P1, e1⟩ : ∃ z, z = aPI P0 k 0 (0 : Int32) := ⟨_, rfl⟩
  have hlt1 : o < P1.1.1 := by rw [e1]; exact hlt0
  have h1 : aRI P1 o f a := by rw [e1]; exact aRI_PI h0
  obtain ⟨P2, e2⟩ : ∃ z, z = aNA P1 11 16 := ⟨_, rfl⟩
  have hlt2 : o < P2.1.1 := by rw [e2]; show o < P1.1.1 + 1; omega
  have h2 : aRI P2 o f a := by rw [e2]; exact aRI_NC hlt1 h1
  obtain ⟨P3, e3⟩ : ∃ z, z = aPR P2 k 1 (n0 + (k + 1)) := ⟨_, rfl⟩
  have hlt3 : o < P3.1.1 := by rw [e3]; exact hlt2
  have h3 : aRI P3 o f a := by rw [e3]; exact aRI_PR (Or.inl hne) h2
  obtain ⟨P4, e4⟩ : ∃ z, z = aNA P3 11 16 := ⟨_, rfl⟩
  have hlt4 : o < P4.1.1 := by rw [e4]; show o < P3.1.1 + 1; omega
  have h4 : aRI P4 o f a := by rw [e4]; exact aRI_NC hlt3 h3
  obtain ⟨P5, e5⟩ : ∃ z, z = aPR P4 k 2 (n0 + (k + 2)) := ⟨_, rfl⟩
  have hlt5 : o < P5.1.1 := by rw [e5]; exact hlt4
  have h5 : aRI P5 o f a := by rw [e5]; exact aRI_PR (Or.inl hne) h4
  obtain ⟨P6, e6⟩ : ∃ z, z = aNA P5 11 16 := ⟨_, rfl⟩
  have hlt6 : o < P6.1.1 := by rw [e6]; show o < P5.1.1 + 1; omega
  have h6 : aRI P6 o f a := by rw [e6]; exact aRI_NC hlt5 h5
  obtain ⟨P7, e7⟩ : ∃ z, z = aPR P6 k 3 (n0 + (k + 3)) := ⟨_, rfl⟩
  have hlt7 : o < P7.1.1 := by rw [e7]; exact hlt6
  have h7 : aRI P7 o f a := by rw [e7]; exact aRI_PR (Or.inl hne) h6
  obtain ⟨P8, e8⟩ : ∃ z, z = aNA P7 11 16 := ⟨_, rfl⟩
  have hlt8 : o < P8.1.1 := by rw [e8]; show o < P7.1.1 + 1; omega
  have h8 : aRI P8 o f a := by rw [e8]; exact aRI_NC hlt7 h7
  obtain ⟨P9, e9⟩ : ∃ z, z = aPR P8 k 4 (n0 + (k + 4)) := ⟨_, rfl⟩
  have hlt9 : o < P9.1.1 := by rw [e9]; exact hlt8
  have h9 : aRI P9 o f a := by rw [e9]; exact aRI_PR (Or.inl hne) h8
  obtain ⟨P10, e10⟩ : ∃ z, z = aNA P9 11 64 := ⟨_, rfl⟩
  have hlt10 : o < P10.1.1 := by rw [e10]; show o < P9.1.1 + 1; omega
  have h10 : aRI P10 o f a := by rw [e10]; exact aRI_NC hlt9 h9
  obtain ⟨P11, e11⟩ : ∃ z, z = aPR P10 k 5 (n0 + (k + 5)) := ⟨_, rfl⟩
  have hlt11 : o < P11.1.1 := by rw [e11]; exact hlt10
  have h11 : aRI P11 o f a := by rw [e11]; exact aRI_PR (Or.inl hne) h10
  obtain ⟨P12, e12⟩ : ∃ z, z = aNA P11 11 64 := ⟨_, rfl⟩
  have hlt12 : o < P12.1.1 := by rw [e12]; show o < P11.1.1 + 1; omega
  have h12 : aRI P12 o f a := by rw [e12]; exact aRI_NC hlt11 h11
  obtain ⟨P13, e13⟩ : ∃ z, z = aPR P12 k 6 (n0 + (k + 6)) := ⟨_, rfl⟩
  have hlt13 : o < P13.1.1 := by rw [e13]; exact hlt12
  have h13 : aRI P13 o f a := by rw [e13]; exact aRI_PR (Or.inl hne) h12
  obtain ⟨P14, e14⟩ : ∃ z, z = aNA P13 11 64 := ⟨_, rfl⟩
  have hlt14 : o < P14.1.1 := by rw [e14]; show o < P13.1.1 + 1; omega
  have h14 : aRI P14 o f a := by rw [e14]; exact aRI_NC hlt13 h13
  obtain ⟨P15, e15⟩ : ∃ z, z = aPR P14 k 7 (n0 + (k + 7)) := ⟨_, rfl⟩
  have hlt15 : o < P15.1.1 := by rw [e15]; exact hlt14
  have h15 : aRI P15 o f a := by rw [e15]; exact aRI_PR (Or.inl hne) h14
  obtain ⟨P16, e16⟩ : ∃ z, z = aNA P15 14 64 := ⟨_, rfl⟩
  have hlt16 : o < P16.1.1 := by rw [e16]; show o < P15.1.1 + 1; omega
  have h16 : aRI P16 o f a := by rw [e16]; exact aRI_NC hlt15 h15
  obtain ⟨P17, e17⟩ : ∃ z, z = aPR P16 k 8 (n0 + (k + 8)) := ⟨_, rfl⟩
  have hlt17 : o < P17.1.1 := by rw [e17]; exact hlt16
  have h17 : aRI P17 o f a := by rw [e17]; exact aRI_PR (Or.inl hne) h16
  subst e1 e2 e3 e4 e5 e6 e7 e8 e9 e10 e11 e12 e13 e14 e15 e16 e17
  exact h17
set_option maxHeartbeats 4000000 in
set_option maxRecDepth 100000 in
theorem mk_X6_init (l : Launch) (g : AGl) (k : Nat) (D : ADD) (h : aHas (g.2.2.2.2.2, D) k 5) (hN0 : g.2.2.2.2.2.1 = k + 1) : AMk l yX6_init cX6_init 1 none 1 8 320 g [.ref (g.1 + k)] D none (fI_X6_init g.1 k (g.2.2.2.2.2, D)) := by
  refine AMk_of (lv0 := [some (.ref (g.1 + k))]) (own := RX6) (nm := "<init>") (by decide +kernel) rfl rfl (Nat.le_of_ble_eq_true rfl) rfl (fun b hC => ?_)
  generalize hP0 : ((g.2.2.2.2.2, D) : APD) = P0 at h ⊢
  have hN0 : P0.1.1 = k + 1 := by rw [← hP0]; exact hN0
  replace hh_k : aHas P0 k 5 := h
  replace hN : P0.1.1 = k + 1 := hN0
  refine C_aload_n hC dX6_init_0 rfl ?_
  refine C_objInit hC dX6_init_1 w_107 w_27 w_28 rfl (by decide) (Nat.le_of_ble_eq_true rfl) ?_
  refine C_aload_n hC dX6_init_4 rfl ?_
  refine C_iconst (v := 0) hC dX6_init_5 (by decide) ?_
  refine C_puti (kf := 0) hC kX6 hh_k (by decide) (by decide) rfl rfl ⟨by decide, by decide⟩ w_108 dX6_init_6 (fun P1 e1 => ?_)
  replace hNb := hN
  replace hN : P1.1.1 = k + 1 := by rw [e1]; exact hN
  replace hh_k : aHas P1 k 5 := by rw [e1]; exact aHas_PI hh_k
  refine C_aload_n hC dX6_init_9 rfl ?_
  refine C_bipush (v := 16) hC dX6_init_10 (by decide) ?_
  refine C_newai (n := (16 : Int32)) (N := 16) hC w_86 (by decide) (by decide) (by decide) (by decide) dX6_init_12 (fun P2 e2 => ?_)
  rw [hN]
  replace hNb := hN
  replace hN : P2.1.1 = k + 2 := by rw [e2]; show P1.1.1 + 1 = _; rw [hN]
  replace hh_k : aHas P2 k 5 := by rw [e2]; exact aHas_NC hh_k
  refine C_putr (kf := 1) hC kX6 hh_k (by decide) (by decide) rfl rfl rfl ⟨rfl, rfl⟩ rfl w_112 dX6_init_14 (fun P3 e3 => ?_)
  replace hNb := hN
  replace hN : P3.1.1 = k + 2 := by rw [e3]; exact hN
  replace hh_k : aHas P3 k 5 := by rw [e3]; exact aHas_PR hh_k
  refine C_aload_n hC dX6_init_17 rfl ?_
  refine C_bipush (v := 16) hC dX6_init_18 (by decide) ?_
  refine C_newai (n := (16 : Int32)) (N := 16) hC w_86 (by decide) (by decide) (by decide) (by decide) dX6_init_20 (fun P4 e4 => ?_)
  rw [hN]
  replace hNb := hN
  replace hN : P4.1.1 = k + 3 := by rw [e4]; show P3.1.1 + 1 = _; rw [hN]
  replace hh_k : aHas P4 k 5 := by rw [e4]; exact aHas_NC hh_k
  refine C_putr (kf := 2) hC kX6 hh_k (by decide) (by decide) rfl rfl rfl ⟨rfl, rfl⟩ rfl w_113 dX6_init_22 (fun P5 e5 => ?_)
  replace hNb := hN
  replace hN : P5.1.1 = k + 3 := by rw [e5]; exact hN
  replace hh_k : aHas P5 k 5 := by rw [e5]; exact aHas_PR hh_k
  refine C_aload_n hC dX6_init_25 rfl ?_
  refine C_bipush (v := 16) hC dX6_init_26 (by decide) ?_
  refine C_newai (n := (16 : Int32)) (N := 16) hC w_86 (by decide) (by decide) (by decide) (by decide) dX6_init_28 (fun P6 e6 => ?_)
  rw [hN]
  replace hNb := hN
  replace hN : P6.1.1 = k + 4 := by rw [e6]; show P5.1.1 + 1 = _; rw [hN]
  replace hh_k : aHas P6 k 5 := by rw [e6]; exact aHas_NC hh_k
  refine C_putr (kf := 3) hC kX6 hh_k (by decide) (by decide) rfl rfl rfl ⟨rfl, rfl⟩ rfl w_114 dX6_init_30 (fun P7 e7 => ?_)
  replace hNb := hN
  replace hN : P7.1.1 = k + 4 := by rw [e7]; exact hN
  replace hh_k : aHas P7 k 5 := by rw [e7]; exact aHas_PR hh_k
  refine C_aload_n hC dX6_init_33 rfl ?_
  refine C_bipush (v := 16) hC dX6_init_34 (by decide) ?_
  refine C_newai (n := (16 : Int32)) (N := 16) hC w_86 (by decide) (by decide) (by decide) (by decide) dX6_init_36 (fun P8 e8 => ?_)
  rw [hN]
  replace hNb := hN
  replace hN : P8.1.1 = k + 5 := by rw [e8]; show P7.1.1 + 1 = _; rw [hN]
  replace hh_k : aHas P8 k 5 := by rw [e8]; exact aHas_NC hh_k
  refine C_putr (kf := 4) hC kX6 hh_k (by decide) (by decide) rfl rfl rfl ⟨rfl, rfl⟩ rfl w_115 dX6_init_38 (fun P9 e9 => ?_)
  replace hNb := hN
  replace hN : P9.1.1 = k + 5 := by rw [e9]; exact hN
  replace hh_k : aHas P9 k 5 := by rw [e9]; exact aHas_PR hh_k
  refine C_aload_n hC dX6_init_41 rfl ?_
  refine C_bipush (v := 64) hC dX6_init_42 (by decide) ?_
  refine C_newai (n := (64 : Int32)) (N := 64) hC w_86 (by decide) (by decide) (by decide) (by decide) dX6_init_44 (fun P10 e10 => ?_)
  rw [hN]
  replace hNb := hN
  replace hN : P10.1.1 = k + 6 := by rw [e10]; show P9.1.1 + 1 = _; rw [hN]
  replace hh_k : aHas P10 k 5 := by rw [e10]; exact aHas_NC hh_k
  refine C_putr (kf := 5) hC kX6 hh_k (by decide) (by decide) rfl rfl rfl ⟨rfl, rfl⟩ rfl w_116 dX6_init_46 (fun P11 e11 => ?_)
  replace hNb := hN
  replace hN : P11.1.1 = k + 6 := by rw [e11]; exact hN
  replace hh_k : aHas P11 k 5 := by rw [e11]; exact aHas_PR hh_k
  refine C_aload_n hC dX6_init_49 rfl ?_
  refine C_bipush (v := 64) hC dX6_init_50 (by decide) ?_
  refine C_newai (n := (64 : Int32)) (N := 64) hC w_86 (by decide) (by decide) (by decide) (by decide) dX6_init_52 (fun P12 e12 => ?_)
  rw [hN]
  replace hNb := hN
  replace hN : P12.1.1 = k + 7 := by rw [e12]; show P11.1.1 + 1 = _; rw [hN]
  replace hh_k : aHas P12 k 5 := by rw [e12]; exact aHas_NC hh_k
  refine C_putr (kf := 6) hC kX6 hh_k (by decide) (by decide) rfl rfl rfl ⟨rfl, rfl⟩ rfl w_117 dX6_init_54 (fun P13 e13 => ?_)
  replace hNb := hN
  replace hN : P13.1.1 = k + 7 := by rw [e13]; exact hN
  replace hh_k : aHas P13 k 5 := by rw [e13]; exact aHas_PR hh_k
  refine C_aload_n hC dX6_init_57 rfl ?_
  refine C_bipush (v := 64) hC dX6_init_58 (by decide) ?_
  refine C_newai (n := (64 : Int32)) (N := 64) hC w_86 (by decide) (by decide) (by decide) (by decide) dX6_init_60 (fun P14 e14 => ?_)
  rw [hN]
  replace hNb := hN
  replace hN : P14.1.1 = k + 8 := by rw [e14]; show P13.1.1 + 1 = _; rw [hN]
  replace hh_k : aHas P14 k 5 := by rw [e14]; exact aHas_NC hh_k
  refine C_putr (kf := 7) hC kX6 hh_k (by decide) (by decide) rfl rfl rfl ⟨rfl, rfl⟩ rfl w_118 dX6_init_62 (fun P15 e15 => ?_)
  replace hNb := hN
  replace hN : P15.1.1 = k + 8 := by rw [e15]; exact hN
  replace hh_k : aHas P15 k 5 := by rw [e15]; exact aHas_PR hh_k
  refine C_aload_n hC dX6_init_65 rfl ?_
  refine C_bipush (v := 64) hC dX6_init_66 (by decide) ?_
  refine C_newaz (n := (64 : Int32)) (N := 64) hC w_139 (by decide) (by decide) (by decide) (by decide) dX6_init_68 (fun P16 e16 => ?_)
  rw [hN]
  replace hNb := hN
  replace hN : P16.1.1 = k + 9 := by rw [e16]; show P15.1.1 + 1 = _; rw [hN]
  replace hh_k : aHas P16 k 5 := by rw [e16]; exact aHas_NC hh_k
  refine C_putr (kf := 8) hC kX6 hh_k (by decide) (by decide) rfl rfl rfl ⟨rfl, rfl⟩ rfl w_119 dX6_init_70 (fun P17 e17 => ?_)
  replace hNb := hN
  replace hN : P17.1.1 = k + 9 := by rw [e17]; exact hN
  replace hh_k : aHas P17 k 5 := by rw [e17]; exact aHas_PR hh_k
  exact C_vret hC (by subst e1 e2 e3 e4 e5 e6 e7 e8 e9 e10 e11 e12 e13 e14 e15 e16 e17; rfl) ⟨rfl, rfl⟩ rfl dX6_init_73
def fI_X1_init (n0 k : Nat) (P0 : APD) : APD :=
  let P1 := aPI P0 k 0 (63 : Int32)
  let P2 := aPI P1 k 1 (31 : Int32)
  let P3 := aPI P2 k 2 (-3000 : Int32)
  let P4 := aPI P3 k 3 (1900 : Int32)
  let P5 := aPI P4 k 4 (0 : Int32)
  P5
theorem fI_X1_init_N {n0 k : Nat} {P0 : APD} : (fI_X1_init n0 k P0).1.1 = P0.1.1 + 0 := rfl
theorem fI_X1_init_has {n0 k : Nat} {P0 : APD} {q c : Nat} (h : aHas P0 q c) : aHas (fI_X1_init n0 k P0) q c := aHas_PI (aHas_PI (aHas_PI (aHas_PI (aHas_PI (h)))))
theorem fI_X1_init_ri {n0 k : Nat} {P0 : APD} {o f a c : Nat} (hne : o ≠ k) (hN0 : P0.1.1 = k + 1) (hh0 : aHas P0 o c) (h0 : aRI P0 o f a) : aRI (fI_X1_init n0 k P0) o f a := by
  unfold fI_X1_init
  obtain ⟨P1, e1⟩ : ∃ z, z = aPI P0 k 0 (63 : Int32) := ⟨_, rfl⟩
  have hh1 : aHas P1 o c := by rw [e1]; exact aHas_PI hh0
  have h1 : aRI P1 o f a := by rw [e1]; exact aRI_PI h0
  obtain ⟨P2, e2⟩ : ∃ z, z = aPI P1 k 1 (31 : Int32) := ⟨_, rfl⟩
  have hh2 : aHas P2 o c := by rw [e2]; exact aHas_PI hh1
  have h2 : aRI P2 o f a := by rw [e2]; exact aRI_PI h1
  obtain ⟨P3, e3⟩ : ∃ z, z = aPI P2 k 2 (-3000 : Int32) := ⟨_, rfl⟩
  have hh3 : aHas P3 o c := by rw [e3]; exact aHas_PI hh2
  have h3 : aRI P3 o f a := by rw [e3]; exact aRI_PI h2
  obtain ⟨P4, e4⟩ : ∃ z, z = aPI P3 k 3 (1900 : Int32) := ⟨_, rfl⟩
  have hh4 : aHas P4 o c := by rw [e4]; exact aHas_PI hh3
  have h4 : aRI P4 o f a := by rw [e4]; exact aRI_PI h3
  obtain ⟨P5, e5⟩ : ∃ z, z = aPI P4 k 4 (0 : Int32) := ⟨_, rfl⟩
  have hh5 : aHas P5 o c := by rw [e5]; exact aHas_PI hh4
  have h5 : aRI P5 o f a := by rw [e5]; exact aRI_PI h4
  subst e1 e2 e3 e4 e5
  exact h5
theorem fI_X1_init_ri2 {n0 k : Nat} {P0 : APD} {o f a : Nat} (hne : o ≠ k) (hlt0 : o < P0.1.1) (h0 : aRI P0 o f a) : aRI (fI_X1_init n0 k P0) o f a := by
  unfold fI_X1_init
  obtain ⟨P1, e1⟩ : ∃ z, z = aPI P0 k 0 (63 : Int32) := ⟨_, rfl⟩
  have hlt1 : o < P1.1.1 := by rw [e1]; exact hlt0
  have h1 : aRI P1 o f a := by rw [e1]; exact aRI_PI h0
  obtain ⟨P2, e2⟩ : ∃ z, z = aPI P1 k 1 (31 : Int32) := ⟨_, rfl⟩
  have hlt2 : o < P2.1.1 := by rw [e2]; exact hlt1
  have h2 : aRI P2 o f a := by rw [e2]; exact aRI_PI h1
  obtain ⟨P3, e3⟩ : ∃ z, z = aPI P2 k 2 (-3000 : Int32) := ⟨_, rfl⟩
  have hlt3 : o < P3.1.1 := by rw [e3]; exact hlt2
  have h3 : aRI P3 o f a := by rw [e3]; exact aRI_PI h2
  obtain ⟨P4, e4⟩ : ∃ z, z = aPI P3 k 3 (1900 : Int32) := ⟨_, rfl⟩
  have hlt4 : o < P4.1.1 := by rw [e4]; exact hlt3
  have h4 : aRI P4 o f a := by rw [e4]; exact aRI_PI h3
  obtain ⟨P5, e5⟩ : ∃ z, z = aPI P4 k 4 (0 : Int32) := ⟨_, rfl⟩
  have hlt5 : o < P5.1.1 := by rw [e5]; exact hlt4
  have h5 : aRI P5 o f a := by rw [e5]; exact aRI_PI h4
  subst e1 e2 e3 e4 e5
  exact h5
set_option maxHeartbeats 4000000 in
set_option maxRecDepth 100000 in
theorem mk_X1_init (l : Launch) (g : AGl) (k : Nat) (D : ADD) (h : aHas (g.2.2.2.2.2, D) k 1) (hN0 : g.2.2.2.2.2.1 = k + 1) : AMk l yX1_init cX1_init 1 none 1 0 0 g [.ref (g.1 + k)] D none (fI_X1_init g.1 k (g.2.2.2.2.2, D)) := by
  refine AMk_of (lv0 := [some (.ref (g.1 + k))]) (own := RX1) (nm := "<init>") (by decide +kernel) rfl rfl (Nat.le_of_ble_eq_true rfl) rfl (fun b hC => ?_)
  generalize hP0 : ((g.2.2.2.2.2, D) : APD) = P0 at h ⊢
  have hN0 : P0.1.1 = k + 1 := by rw [← hP0]; exact hN0
  replace hh_k : aHas P0 k 1 := h
  replace hN : P0.1.1 = k + 1 := hN0
  refine C_aload_n hC dX1_init_0 rfl ?_
  refine C_objInit hC dX1_init_1 w_145 w_27 w_28 rfl (by decide) (Nat.le_of_ble_eq_true rfl) ?_
  refine C_aload_n hC dX1_init_4 rfl ?_
  refine C_bipush (v := 63) hC dX1_init_5 (by decide) ?_
  refine C_puti (kf := 0) hC kX1 hh_k (by decide) (by decide) rfl rfl ⟨by decide, by decide⟩ w_146 dX1_init_7 (fun P1 e1 => ?_)
  replace hNb := hN
  replace hN : P1.1.1 = k + 1 := by rw [e1]; exact hN
  replace hh_k : aHas P1 k 1 := by rw [e1]; exact aHas_PI hh_k
  refine C_aload_n hC dX1_init_10 rfl ?_
  refine C_bipush (v := 31) hC dX1_init_11 (by decide) ?_
  refine C_puti (kf := 1) hC kX1 hh_k (by decide) (by decide) rfl rfl ⟨by decide, by decide⟩ w_147 dX1_init_13 (fun P2 e2 => ?_)
  replace hNb := hN
  replace hN : P2.1.1 = k + 1 := by rw [e2]; exact hN
  replace hh_k : aHas P2 k 1 := by rw [e2]; exact aHas_PI hh_k
  refine C_aload_n hC dX1_init_16 rfl ?_
  refine C_sipush (v := -3000) hC dX1_init_17 (by decide) ?_
  refine C_puti (kf := 2) hC kX1 hh_k (by decide) (by decide) rfl rfl ⟨by decide, by decide⟩ w_148 dX1_init_20 (fun P3 e3 => ?_)
  replace hNb := hN
  replace hN : P3.1.1 = k + 1 := by rw [e3]; exact hN
  replace hh_k : aHas P3 k 1 := by rw [e3]; exact aHas_PI hh_k
  refine C_aload_n hC dX1_init_23 rfl ?_
  refine C_sipush (v := 1900) hC dX1_init_24 (by decide) ?_
  refine C_puti (kf := 3) hC kX1 hh_k (by decide) (by decide) rfl rfl ⟨by decide, by decide⟩ w_149 dX1_init_27 (fun P4 e4 => ?_)
  replace hNb := hN
  replace hN : P4.1.1 = k + 1 := by rw [e4]; exact hN
  replace hh_k : aHas P4 k 1 := by rw [e4]; exact aHas_PI hh_k
  refine C_aload_n hC dX1_init_30 rfl ?_
  refine C_iconst (v := 0) hC dX1_init_31 (by decide) ?_
  refine C_puti (kf := 4) hC kX1 hh_k (by decide) (by decide) rfl rfl ⟨by decide, by decide⟩ w_150 dX1_init_32 (fun P5 e5 => ?_)
  replace hNb := hN
  replace hN : P5.1.1 = k + 1 := by rw [e5]; exact hN
  replace hh_k : aHas P5 k 1 := by rw [e5]; exact aHas_PI hh_k
  exact C_vret hC (by subst e1 e2 e3 e4 e5; rfl) ⟨rfl, rfl⟩ rfl dX1_init_35
def fI_X8_init (n0 k : Nat) (P0 : APD) : APD :=
  let P1 := aNO P0 0
  let P2 := fI_X0_init n0 (k + 1) P1
  let P3 := aPR P2 k 0 (n0 + (k + 1))
  let P4 := aNO P3 8
  let P5 := fI_X9_init n0 (k + 10) P4
  let P6 := aPR P5 k 1 (n0 + (k + 10))
  let P7 := aNO P6 5
  let P8 := fI_X6_init n0 (k + 12) P7
  let P9 := aPR P8 k 2 (n0 + (k + 12))
  let P10 := aNO P9 5
  let P11 := fI_X6_init n0 (k + 21) P10
  let P12 := aPR P11 k 3 (n0 + (k + 21))
  let P13 := aNO P12 1
  let P14 := fI_X1_init n0 (k + 30) P13
  let P15 := aPR P14 k 4 (n0 + (k + 30))
  let P16 := aPI P15 k 5 (0 : Int32)
  let P17 := aPI P16 k 6 (-1 : Int32)
  P17
theorem fI_X8_init_N {n0 k : Nat} {P0 : APD} : (fI_X8_init n0 k P0).1.1 = P0.1.1 + 30 := by
  unfold fI_X8_init
  first | rfl | (simp only [aNO, aNA, aNC, aPR, aPI, fI_X0_init_N, fI_X9_init_N, fI_X6_init_N, fI_X6_init_N, fI_X1_init_N]; try omega)
theorem fI_X8_init_has {n0 k : Nat} {P0 : APD} {q c : Nat} (h : aHas P0 q c) : aHas (fI_X8_init n0 k P0) q c := aHas_PI (aHas_PI (aHas_PR (fI_X1_init_has (aHas_NC (aHas_PR (fI_X6_init_has (aHas_NC (aHas_PR (fI_X6_init_has (aHas_NC (aHas_PR (fI_X9_init_has (aHas_NC (aHas_PR (fI_X0_init_has (aHas_NC (h)))))))))))))))))
theorem fI_X8_init_tape {n0 k : Nat} {P0 : APD} (hN0 : P0.1.1 = k + 1) : aRI (fI_X8_init n0 k P0) k 1 (n0 + (k + 10)) := by
  unfold fI_X8_init
  obtain ⟨P1, e1⟩ : ∃ z, z = aNO P0 0 := ⟨_, rfl⟩
  have hN1 : P1.1.1 = k + 2 := by rw [e1]; show P0.1.1 + 1 = _; rw [hN0]
  obtain ⟨P2, e2⟩ : ∃ z, z = fI_X0_init n0 (k + 1) P1 := ⟨_, rfl⟩
  have hN2 : P2.1.1 = k + 10 := by rw [e2]; rw [fI_X0_init_N, hN1]
  obtain ⟨P3, e3⟩ : ∃ z, z = aPR P2 k 0 (n0 + (k + 1)) := ⟨_, rfl⟩
  have hN3 : P3.1.1 = k + 10 := by rw [e3]; exact hN2
  obtain ⟨P4, e4⟩ : ∃ z, z = aNO P3 8 := ⟨_, rfl⟩
  have hN4 : P4.1.1 = k + 11 := by rw [e4]; show P3.1.1 + 1 = _; rw [hN3]
  obtain ⟨P5, e5⟩ : ∃ z, z = fI_X9_init n0 (k + 10) P4 := ⟨_, rfl⟩
  have hN5 : P5.1.1 = k + 12 := by rw [e5]; rw [fI_X9_init_N, hN4]
  obtain ⟨P6, e6⟩ : ∃ z, z = aPR P5 k 1 (n0 + (k + 10)) := ⟨_, rfl⟩
  have hN6 : P6.1.1 = k + 12 := by rw [e6]; exact hN5
  have h6 : aRI P6 k 1 (n0 + (k + 10)) := by rw [e6]; exact aRI_self
  obtain ⟨P7, e7⟩ : ∃ z, z = aNO P6 5 := ⟨_, rfl⟩
  have hN7 : P7.1.1 = k + 13 := by rw [e7]; show P6.1.1 + 1 = _; rw [hN6]
  have h7 : aRI P7 k 1 (n0 + (k + 10)) := by rw [e7]; exact aRI_NC (by rw [hN6]; omega) h6
  obtain ⟨P8, e8⟩ : ∃ z, z = fI_X6_init n0 (k + 12) P7 := ⟨_, rfl⟩
  have hN8 : P8.1.1 = k + 21 := by rw [e8]; rw [fI_X6_init_N, hN7]
  have h8 : aRI P8 k 1 (n0 + (k + 10)) := by rw [e8]; exact fI_X6_init_ri2 (by omega) (by rw [hN7]; omega) h7
  obtain ⟨P9, e9⟩ : ∃ z, z = aPR P8 k 2 (n0 + (k + 12)) := ⟨_, rfl⟩
  have hN9 : P9.1.1 = k + 21 := by rw [e9]; exact hN8
  have h9 : aRI P9 k 1 (n0 + (k + 10)) := by rw [e9]; exact aRI_PR (Or.inr (by decide)) h8
  obtain ⟨P10, e10⟩ : ∃ z, z = aNO P9 5 := ⟨_, rfl⟩
  have hN10 : P10.1.1 = k + 22 := by rw [e10]; show P9.1.1 + 1 = _; rw [hN9]
  have h10 : aRI P10 k 1 (n0 + (k + 10)) := by rw [e10]; exact aRI_NC (by rw [hN9]; omega) h9
  obtain ⟨P11, e11⟩ : ∃ z, z = fI_X6_init n0 (k + 21) P10 := ⟨_, rfl⟩
  have hN11 : P11.1.1 = k + 30 := by rw [e11]; rw [fI_X6_init_N, hN10]
  have h11 : aRI P11 k 1 (n0 + (k + 10)) := by rw [e11]; exact fI_X6_init_ri2 (by omega) (by rw [hN10]; omega) h10
  obtain ⟨P12, e12⟩ : ∃ z, z = aPR P11 k 3 (n0 + (k + 21)) := ⟨_, rfl⟩
  have hN12 : P12.1.1 = k + 30 := by rw [e12]; exact hN11
  have h12 : aRI P12 k 1 (n0 + (k + 10)) := by rw [e12]; exact aRI_PR (Or.inr (by decide)) h11
  obtain ⟨P13, e13⟩ : ∃ z, z = aNO P12 1 := ⟨_, rfl⟩
  have hN13 : P13.1.1 = k + 31 := by rw [e13]; show P12.1.1 + 1 = _; rw [hN12]
  have h13 : aRI P13 k 1 (n0 + (k + 10)) := by rw [e13]; exact aRI_NC (by rw [hN12]; omega) h12
  obtain ⟨P14, e14⟩ : ∃ z, z = fI_X1_init n0 (k + 30) P13 := ⟨_, rfl⟩
  have hN14 : P14.1.1 = k + 31 := by rw [e14]; rw [fI_X1_init_N, hN13]
  have h14 : aRI P14 k 1 (n0 + (k + 10)) := by rw [e14]; exact fI_X1_init_ri2 (by omega) (by rw [hN13]; omega) h13
  obtain ⟨P15, e15⟩ : ∃ z, z = aPR P14 k 4 (n0 + (k + 30)) := ⟨_, rfl⟩
  have hN15 : P15.1.1 = k + 31 := by rw [e15]; exact hN14
  have h15 : aRI P15 k 1 (n0 + (k + 10)) := by rw [e15]; exact aRI_PR (Or.inr (by decide)) h14
  obtain ⟨P16, e16⟩ : ∃ z, z = aPI P15 k 5 (0 : Int32) := ⟨_, rfl⟩
  have hN16 : P16.1.1 = k + 31 := by rw [e16]; exact hN15
  have h16 : aRI P16 k 1 (n0 + (k + 10)) := by rw [e16]; exact aRI_PI h15
  obtain ⟨P17, e17⟩ : ∃ z, z = aPI P16 k 6 (-1 : Int32) := ⟨_, rfl⟩
  have hN17 : P17.1.1 = k + 31 := by rw [e17]; exact hN16
  have h17 : aRI P17 k 1 (n0 + (k + 10)) := by rw [e17]; exact aRI_PI h16
  subst e1 e2 e3 e4 e5 e6 e7 e8 e9 e10 e11 e12 e13 e14 e15 e16 e17
  exact h17
set_option maxHeartbeats 4000000 in
set_option maxRecDepth 100000 in
theorem mk_X8_init (l : Launch) (g : AGl) (k : Nat) (D : ADD) (h : aHas (g.2.2.2.2.2, D) k 7) (hN0 : g.2.2.2.2.2.1 = k + 1) : AMk l yX8_init cX8_init 1 none 2 30 3546 g [.ref (g.1 + k)] D none (fI_X8_init g.1 k (g.2.2.2.2.2, D)) := by
  refine AMk_of (lv0 := [some (.ref (g.1 + k))]) (own := RX8) (nm := "<init>") (by decide +kernel) rfl rfl (Nat.le_of_ble_eq_true rfl) rfl (fun b hC => ?_)
  generalize hP0 : ((g.2.2.2.2.2, D) : APD) = P0 at h ⊢
  have hN0 : P0.1.1 = k + 1 := by rw [← hP0]; exact hN0
  replace hh_k : aHas P0 k 7 := h
  replace hN : P0.1.1 = k + 1 := hN0
  refine C_aload_n hC dX8_init_0 rfl ?_
  refine C_objInit hC dX8_init_1 w_34 w_27 w_28 rfl (by decide) (Nat.le_of_ble_eq_true rfl) ?_
  refine C_aload_n hC dX8_init_4 rfl ?_
  refine C_new hC kX0 (by decide) dfX0 w_35 w_36 w_3 (by decide) dX8_init_5 (fun P1 e1 => ?_)
  rw [hN]
  replace hNb := hN
  replace hN : P1.1.1 = k + 2 := by rw [e1]; show P0.1.1 + 1 = _; rw [hN]
  replace hh_k : aHas P1 k 7 := by rw [e1]; exact aHas_NC hh_k
  have hNo : P0.1.1 = (k + 1) := by have h9 : P1.1.1 = k + 2 := hN; rw [e1] at h9; have h8 : P0.1.1 + 1 = k + 2 := h9; omega
  replace hh_k_1 : aHas P1 (k + 1) 0 := by rw [e1, ← hNo]; exact aHas_new (S := (0, 0, fun _ => none))
  refine C_dup hC dX8_init_8 rfl ?_
  refine C_init (n := 0) (As := []) (st := [.ref (g.1 + (k + 1)), .ref (g.1 + k)]) (d2 := 1) (mc2 := 8) (ms2 := 2368) (E2 := fI_X0_init g.1 (k + 1) P1) hC (fun l => mk_X0_init l (g.1, g.2.1, g.2.2.1, g.2.2.2.1, g.2.2.2.2.1, P1.1) (k + 1) P1.2 hh_k_1 (by rw [hN])) rfl (Or.inl ⟨by decide, rfl⟩) w_38 w_3 w_39 (by decide +kernel) rfl rfl ⟨by decide, by decide⟩ (Nat.le_of_ble_eq_true rfl) (by decide) rfl dX8_init_9 (fun P2 e2 => ?_)
  replace hNb := hN
  replace hN : P2.1.1 = k + 10 := by rw [e2]; rw [fI_X0_init_N, hN]
  replace hh_k : aHas P2 k 7 := by rw [e2]; exact fI_X0_init_has hh_k
  replace hh_k_1 : aHas P2 (k + 1) 0 := by rw [e2]; exact fI_X0_init_has hh_k_1
  refine C_putr (kf := 0) hC kX8 hh_k (by decide) (by decide) rfl rfl rfl ⟨rfl, rfl⟩ rfl w_162 dX8_init_12 (fun P3 e3 => ?_)
  replace hNb := hN
  replace hN : P3.1.1 = k + 10 := by rw [e3]; exact hN
  replace hh_k : aHas P3 k 7 := by rw [e3]; exact aHas_PR hh_k
  replace hh_k_1 : aHas P3 (k + 1) 0 := by rw [e3]; exact aHas_PR hh_k_1
  refine C_aload_n hC dX8_init_15 rfl ?_
  refine C_new hC kX9 (by decide) dfX9 w_87 w_88 w_4 (by decide) dX8_init_16 (fun P4 e4 => ?_)
  rw [hN]
  replace hNb := hN
  replace hN : P4.1.1 = k + 11 := by rw [e4]; show P3.1.1 + 1 = _; rw [hN]
  replace hh_k : aHas P4 k 7 := by rw [e4]; exact aHas_NC hh_k
  replace hh_k_1 : aHas P4 (k + 1) 0 := by rw [e4]; exact aHas_NC hh_k_1
  have hNo : P3.1.1 = (k + 10) := by have h9 : P4.1.1 = k + 11 := hN; rw [e4] at h9; have h8 : P3.1.1 + 1 = k + 11 := h9; omega
  replace hh_k_10 : aHas P4 (k + 10) 8 := by rw [e4, ← hNo]; exact aHas_new (S := (8, 0, fun _ => none))
  refine C_dup hC dX8_init_19 rfl ?_
  refine C_init (n := 0) (As := []) (st := [.ref (g.1 + (k + 10)), .ref (g.1 + k)]) (d2 := 1) (mc2 := 1) (ms2 := 500) (E2 := fI_X9_init g.1 (k + 10) P4) hC (fun l => mk_X9_init l (g.1, g.2.1, g.2.2.1, g.2.2.2.1, g.2.2.2.2.1, P4.1) (k + 10) P4.2 hh_k_10 (by rw [hN])) rfl (Or.inl ⟨by decide, rfl⟩) w_90 w_4 w_91 (by decide +kernel) rfl rfl ⟨by decide, by decide⟩ (Nat.le_of_ble_eq_true rfl) (by decide) rfl dX8_init_20 (fun P5 e5 => ?_)
  replace hNb := hN
  replace hN : P5.1.1 = k + 12 := by rw [e5]; rw [fI_X9_init_N, hN]
  replace hh_k : aHas P5 k 7 := by rw [e5]; exact fI_X9_init_has hh_k
  replace hh_k_1 : aHas P5 (k + 1) 0 := by rw [e5]; exact fI_X9_init_has hh_k_1
  replace hh_k_10 : aHas P5 (k + 10) 8 := by rw [e5]; exact fI_X9_init_has hh_k_10
  refine C_putr (kf := 1) hC kX8 hh_k (by decide) (by decide) rfl rfl rfl ⟨rfl, rfl⟩ rfl w_165 dX8_init_23 (fun P6 e6 => ?_)
  replace hNb := hN
  replace hN : P6.1.1 = k + 12 := by rw [e6]; exact hN
  replace hh_k : aHas P6 k 7 := by rw [e6]; exact aHas_PR hh_k
  replace hh_k_1 : aHas P6 (k + 1) 0 := by rw [e6]; exact aHas_PR hh_k_1
  replace hh_k_10 : aHas P6 (k + 10) 8 := by rw [e6]; exact aHas_PR hh_k_10
  refine C_aload_n hC dX8_init_26 rfl ?_
  refine C_new hC kX6 (by decide) dfX6 w_102 w_103 w_5 (by decide) dX8_init_27 (fun P7 e7 => ?_)
  rw [hN]
  replace hNb := hN
  replace hN : P7.1.1 = k + 13 := by rw [e7]; show P6.1.1 + 1 = _; rw [hN]
  replace hh_k : aHas P7 k 7 := by rw [e7]; exact aHas_NC hh_k
  replace hh_k_1 : aHas P7 (k + 1) 0 := by rw [e7]; exact aHas_NC hh_k_1
  replace hh_k_10 : aHas P7 (k + 10) 8 := by rw [e7]; exact aHas_NC hh_k_10
  have hNo : P6.1.1 = (k + 12) := by have h9 : P7.1.1 = k + 13 := hN; rw [e7] at h9; have h8 : P6.1.1 + 1 = k + 13 := h9; omega
  replace hh_k_12 : aHas P7 (k + 12) 5 := by rw [e7, ← hNo]; exact aHas_new (S := (5, 0, fun _ => none))
  refine C_dup hC dX8_init_30 rfl ?_
  refine C_init (n := 0) (As := []) (st := [.ref (g.1 + (k + 12)), .ref (g.1 + k)]) (d2 := 1) (mc2 := 8) (ms2 := 320) (E2 := fI_X6_init g.1 (k + 12) P7) hC (fun l => mk_X6_init l (g.1, g.2.1, g.2.2.1, g.2.2.2.1, g.2.2.2.2.1, P7.1) (k + 12) P7.2 hh_k_12 (by rw [hN])) rfl (Or.inl ⟨by decide, rfl⟩) w_105 w_5 w_106 (by decide +kernel) rfl rfl ⟨by decide, by decide⟩ (Nat.le_of_ble_eq_true rfl) (by decide) rfl dX8_init_31 (fun P8 e8 => ?_)
  replace hNb := hN
  replace hN : P8.1.1 = k + 21 := by rw [e8]; rw [fI_X6_init_N, hN]
  replace hh_k : aHas P8 k 7 := by rw [e8]; exact fI_X6_init_has hh_k
  replace hh_k_1 : aHas P8 (k + 1) 0 := by rw [e8]; exact fI_X6_init_has hh_k_1
  replace hh_k_10 : aHas P8 (k + 10) 8 := by rw [e8]; exact fI_X6_init_has hh_k_10
  replace hh_k_12 : aHas P8 (k + 12) 5 := by rw [e8]; exact fI_X6_init_has hh_k_12
  refine C_putr (kf := 2) hC kX8 hh_k (by decide) (by decide) rfl rfl rfl ⟨rfl, rfl⟩ rfl w_167 dX8_init_34 (fun P9 e9 => ?_)
  replace hNb := hN
  replace hN : P9.1.1 = k + 21 := by rw [e9]; exact hN
  replace hh_k : aHas P9 k 7 := by rw [e9]; exact aHas_PR hh_k
  replace hh_k_1 : aHas P9 (k + 1) 0 := by rw [e9]; exact aHas_PR hh_k_1
  replace hh_k_10 : aHas P9 (k + 10) 8 := by rw [e9]; exact aHas_PR hh_k_10
  replace hh_k_12 : aHas P9 (k + 12) 5 := by rw [e9]; exact aHas_PR hh_k_12
  refine C_aload_n hC dX8_init_37 rfl ?_
  refine C_new hC kX6 (by decide) dfX6 w_102 w_103 w_5 (by decide) dX8_init_38 (fun P10 e10 => ?_)
  rw [hN]
  replace hNb := hN
  replace hN : P10.1.1 = k + 22 := by rw [e10]; show P9.1.1 + 1 = _; rw [hN]
  replace hh_k : aHas P10 k 7 := by rw [e10]; exact aHas_NC hh_k
  replace hh_k_1 : aHas P10 (k + 1) 0 := by rw [e10]; exact aHas_NC hh_k_1
  replace hh_k_10 : aHas P10 (k + 10) 8 := by rw [e10]; exact aHas_NC hh_k_10
  replace hh_k_12 : aHas P10 (k + 12) 5 := by rw [e10]; exact aHas_NC hh_k_12
  have hNo : P9.1.1 = (k + 21) := by have h9 : P10.1.1 = k + 22 := hN; rw [e10] at h9; have h8 : P9.1.1 + 1 = k + 22 := h9; omega
  replace hh_k_21 : aHas P10 (k + 21) 5 := by rw [e10, ← hNo]; exact aHas_new (S := (5, 0, fun _ => none))
  refine C_dup hC dX8_init_41 rfl ?_
  refine C_init (n := 0) (As := []) (st := [.ref (g.1 + (k + 21)), .ref (g.1 + k)]) (d2 := 1) (mc2 := 8) (ms2 := 320) (E2 := fI_X6_init g.1 (k + 21) P10) hC (fun l => mk_X6_init l (g.1, g.2.1, g.2.2.1, g.2.2.2.1, g.2.2.2.2.1, P10.1) (k + 21) P10.2 hh_k_21 (by rw [hN])) rfl (Or.inl ⟨by decide, rfl⟩) w_105 w_5 w_106 (by decide +kernel) rfl rfl ⟨by decide, by decide⟩ (Nat.le_of_ble_eq_true rfl) (by decide) rfl dX8_init_42 (fun P11 e11 => ?_)
  replace hNb := hN
  replace hN : P11.1.1 = k + 30 := by rw [e11]; rw [fI_X6_init_N, hN]
  replace hh_k : aHas P11 k 7 := by rw [e11]; exact fI_X6_init_has hh_k
  replace hh_k_1 : aHas P11 (k + 1) 0 := by rw [e11]; exact fI_X6_init_has hh_k_1
  replace hh_k_10 : aHas P11 (k + 10) 8 := by rw [e11]; exact fI_X6_init_has hh_k_10
  replace hh_k_12 : aHas P11 (k + 12) 5 := by rw [e11]; exact fI_X6_init_has hh_k_12
  replace hh_k_21 : aHas P11 (k + 21) 5 := by rw [e11]; exact fI_X6_init_has hh_k_21
  refine C_putr (kf := 3) hC kX8 hh_k (by decide) (by decide) rfl rfl rfl ⟨rfl, rfl⟩ rfl w_170 dX8_init_45 (fun P12 e12 => ?_)
  replace hNb := hN
  replace hN : P12.1.1 = k + 30 := by rw [e12]; exact hN
  replace hh_k : aHas P12 k 7 := by rw [e12]; exact aHas_PR hh_k
  replace hh_k_1 : aHas P12 (k + 1) 0 := by rw [e12]; exact aHas_PR hh_k_1
  replace hh_k_10 : aHas P12 (k + 10) 8 := by rw [e12]; exact aHas_PR hh_k_10
  replace hh_k_12 : aHas P12 (k + 12) 5 := by rw [e12]; exact aHas_PR hh_k_12
  replace hh_k_21 : aHas P12 (k + 21) 5 := by rw [e12]; exact aHas_PR hh_k_21
  refine C_aload_n hC dX8_init_48 rfl ?_
  refine C_new hC kX1 (by decide) dfX1 w_140 w_141 w_6 (by decide) dX8_init_49 (fun P13 e13 => ?_)
  rw [hN]
  replace hNb := hN
  replace hN : P13.1.1 = k + 31 := by rw [e13]; show P12.1.1 + 1 = _; rw [hN]
  replace hh_k : aHas P13 k 7 := by rw [e13]; exact aHas_NC hh_k
  replace hh_k_1 : aHas P13 (k + 1) 0 := by rw [e13]; exact aHas_NC hh_k_1
  replace hh_k_10 : aHas P13 (k + 10) 8 := by rw [e13]; exact aHas_NC hh_k_10
  replace hh_k_12 : aHas P13 (k + 12) 5 := by rw [e13]; exact aHas_NC hh_k_12
  replace hh_k_21 : aHas P13 (k + 21) 5 := by rw [e13]; exact aHas_NC hh_k_21
  have hNo : P12.1.1 = (k + 30) := by have h9 : P13.1.1 = k + 31 := hN; rw [e13] at h9; have h8 : P12.1.1 + 1 = k + 31 := h9; omega
  replace hh_k_30 : aHas P13 (k + 30) 1 := by rw [e13, ← hNo]; exact aHas_new (S := (1, 0, fun _ => none))
  refine C_dup hC dX8_init_52 rfl ?_
  refine C_init (n := 0) (As := []) (st := [.ref (g.1 + (k + 30)), .ref (g.1 + k)]) (d2 := 1) (mc2 := 0) (ms2 := 0) (E2 := fI_X1_init g.1 (k + 30) P13) hC (fun l => mk_X1_init l (g.1, g.2.1, g.2.2.1, g.2.2.2.1, g.2.2.2.2.1, P13.1) (k + 30) P13.2 hh_k_30 (by rw [hN])) rfl (Or.inl ⟨by decide, rfl⟩) w_143 w_6 w_144 (by decide +kernel) rfl rfl ⟨by decide, by decide⟩ (Nat.le_of_ble_eq_true rfl) (by decide) rfl dX8_init_53 (fun P14 e14 => ?_)
  replace hNb := hN
  replace hN : P14.1.1 = k + 31 := by rw [e14]; rw [fI_X1_init_N, hN]
  replace hh_k : aHas P14 k 7 := by rw [e14]; exact fI_X1_init_has hh_k
  replace hh_k_1 : aHas P14 (k + 1) 0 := by rw [e14]; exact fI_X1_init_has hh_k_1
  replace hh_k_10 : aHas P14 (k + 10) 8 := by rw [e14]; exact fI_X1_init_has hh_k_10
  replace hh_k_12 : aHas P14 (k + 12) 5 := by rw [e14]; exact fI_X1_init_has hh_k_12
  replace hh_k_21 : aHas P14 (k + 21) 5 := by rw [e14]; exact fI_X1_init_has hh_k_21
  replace hh_k_30 : aHas P14 (k + 30) 1 := by rw [e14]; exact fI_X1_init_has hh_k_30
  refine C_putr (kf := 4) hC kX8 hh_k (by decide) (by decide) rfl rfl rfl ⟨rfl, rfl⟩ rfl w_172 dX8_init_56 (fun P15 e15 => ?_)
  replace hNb := hN
  replace hN : P15.1.1 = k + 31 := by rw [e15]; exact hN
  replace hh_k : aHas P15 k 7 := by rw [e15]; exact aHas_PR hh_k
  replace hh_k_1 : aHas P15 (k + 1) 0 := by rw [e15]; exact aHas_PR hh_k_1
  replace hh_k_10 : aHas P15 (k + 10) 8 := by rw [e15]; exact aHas_PR hh_k_10
  replace hh_k_12 : aHas P15 (k + 12) 5 := by rw [e15]; exact aHas_PR hh_k_12
  replace hh_k_21 : aHas P15 (k + 21) 5 := by rw [e15]; exact aHas_PR hh_k_21
  replace hh_k_30 : aHas P15 (k + 30) 1 := by rw [e15]; exact aHas_PR hh_k_30
  refine C_aload_n hC dX8_init_59 rfl ?_
  refine C_iconst (v := 0) hC dX8_init_60 (by decide) ?_
  refine C_puti (kf := 5) hC kX8 hh_k (by decide) (by decide) rfl rfl ⟨by decide, by decide⟩ w_175 dX8_init_61 (fun P16 e16 => ?_)
  replace hNb := hN
  replace hN : P16.1.1 = k + 31 := by rw [e16]; exact hN
  replace hh_k : aHas P16 k 7 := by rw [e16]; exact aHas_PI hh_k
  replace hh_k_1 : aHas P16 (k + 1) 0 := by rw [e16]; exact aHas_PI hh_k_1
  replace hh_k_10 : aHas P16 (k + 10) 8 := by rw [e16]; exact aHas_PI hh_k_10
  replace hh_k_12 : aHas P16 (k + 12) 5 := by rw [e16]; exact aHas_PI hh_k_12
  replace hh_k_21 : aHas P16 (k + 21) 5 := by rw [e16]; exact aHas_PI hh_k_21
  replace hh_k_30 : aHas P16 (k + 30) 1 := by rw [e16]; exact aHas_PI hh_k_30
  refine C_aload_n hC dX8_init_64 rfl ?_
  refine C_iconst (v := -1) hC dX8_init_65 (by decide) ?_
  refine C_puti (kf := 6) hC kX8 hh_k (by decide) (by decide) rfl rfl ⟨by decide, by decide⟩ w_177 dX8_init_66 (fun P17 e17 => ?_)
  replace hNb := hN
  replace hN : P17.1.1 = k + 31 := by rw [e17]; exact hN
  replace hh_k : aHas P17 k 7 := by rw [e17]; exact aHas_PI hh_k
  replace hh_k_1 : aHas P17 (k + 1) 0 := by rw [e17]; exact aHas_PI hh_k_1
  replace hh_k_10 : aHas P17 (k + 10) 8 := by rw [e17]; exact aHas_PI hh_k_10
  replace hh_k_12 : aHas P17 (k + 12) 5 := by rw [e17]; exact aHas_PI hh_k_12
  replace hh_k_21 : aHas P17 (k + 21) 5 := by rw [e17]; exact aHas_PI hh_k_21
  replace hh_k_30 : aHas P17 (k + 30) 1 := by rw [e17]; exact aHas_PI hh_k_30
  exact C_vret hC (by subst e1 e2 e3 e4 e5 e6 e7 e8 e9 e10 e11 e12 e13 e14 e15 e16 e17; rfl) ⟨rfl, rfl⟩ rfl dX8_init_69
def fI_X5_init (n0 k : Nat) (t : Nat) (P0 : APD) : APD :=
  let P1 := aNO P0 5
  let P2 := fI_X6_init n0 (k + 1) P1
  let P3 := aPR P2 k 0 (n0 + (k + 1))
  let P4 := aPI P3 k 1 (0 : Int32)
  let P5 := aPI P4 k 2 (-1 : Int32)
  let P6 := aPI P5 k 4 (0 : Int32)
  let P7 := aPI P6 k 5 (0 : Int32)
  let P8 := aPI P7 k 6 (0 : Int32)
  let P9 := aPI P8 k 7 (0 : Int32)
  let P10 := aPR P9 k 3 t
  P10
theorem fI_X5_init_N {n0 k : Nat} {t : Nat} {P0 : APD} : (fI_X5_init n0 k t P0).1.1 = P0.1.1 + 9 := by
  unfold fI_X5_init
  first | rfl | (simp only [aNO, aNA, aNC, aPR, aPI, fI_X6_init_N]; try omega)
theorem fI_X5_init_has {n0 k : Nat} {t : Nat} {P0 : APD} {q c : Nat} (h : aHas P0 q c) : aHas (fI_X5_init n0 k t P0) q c := aHas_PR (aHas_PI (aHas_PI (aHas_PI (aHas_PI (aHas_PI (aHas_PI (aHas_PR (fI_X6_init_has (aHas_NC (h))))))))))
set_option maxHeartbeats 4000000 in
set_option maxRecDepth 100000 in
theorem mk_X5_init (l : Launch) (g : AGl) (k : Nat) (t : Nat) (D : ADD) (h : aHas (g.2.2.2.2.2, D) k 4) (hN0 : g.2.2.2.2.2.1 = k + 1) : AMk l yX5_init cX5_init 2 none 2 9 329 g [.ref (g.1 + k), .ref t] D none (fI_X5_init g.1 k t (g.2.2.2.2.2, D)) := by
  refine AMk_of (lv0 := [some (.ref (g.1 + k)), some (.ref t)]) (own := RX5) (nm := "<init>") (by decide +kernel) rfl rfl (Nat.le_of_ble_eq_true rfl) rfl (fun b hC => ?_)
  generalize hP0 : ((g.2.2.2.2.2, D) : APD) = P0 at h ⊢
  have hN0 : P0.1.1 = k + 1 := by rw [← hP0]; exact hN0
  replace hh_k : aHas P0 k 4 := h
  replace hN : P0.1.1 = k + 1 := hN0
  refine C_aload_n hC dX5_init_0 rfl ?_
  refine C_objInit hC dX5_init_1 w_200 w_27 w_28 rfl (by decide) (Nat.le_of_ble_eq_true rfl) ?_
  refine C_aload_n hC dX5_init_4 rfl ?_
  refine C_new hC kX6 (by decide) dfX6 w_201 w_103 w_5 (by decide) dX5_init_5 (fun P1 e1 => ?_)
  rw [hN]
  replace hNb := hN
  replace hN : P1.1.1 = k + 2 := by rw [e1]; show P0.1.1 + 1 = _; rw [hN]
  replace hh_k : aHas P1 k 4 := by rw [e1]; exact aHas_NC hh_k
  have hNo : P0.1.1 = (k + 1) := by have h9 : P1.1.1 = k + 2 := hN; rw [e1] at h9; have h8 : P0.1.1 + 1 = k + 2 := h9; omega
  replace hh_k_1 : aHas P1 (k + 1) 5 := by rw [e1, ← hNo]; exact aHas_new (S := (5, 0, fun _ => none))
  refine C_dup hC dX5_init_8 rfl ?_
  refine C_init (n := 0) (As := []) (st := [.ref (g.1 + (k + 1)), .ref (g.1 + k)]) (d2 := 1) (mc2 := 8) (ms2 := 320) (E2 := fI_X6_init g.1 (k + 1) P1) hC (fun l => mk_X6_init l (g.1, g.2.1, g.2.2.1, g.2.2.2.1, g.2.2.2.2.1, P1.1) (k + 1) P1.2 hh_k_1 (by rw [hN])) rfl (Or.inl ⟨by decide, rfl⟩) w_105 w_5 w_106 (by decide +kernel) rfl rfl ⟨by decide, by decide⟩ (Nat.le_of_ble_eq_true rfl) (by decide) rfl dX5_init_9 (fun P2 e2 => ?_)
  replace hNb := hN
  replace hN : P2.1.1 = k + 10 := by rw [e2]; rw [fI_X6_init_N, hN]
  replace hh_k : aHas P2 k 4 := by rw [e2]; exact fI_X6_init_has hh_k
  replace hh_k_1 : aHas P2 (k + 1) 5 := by rw [e2]; exact fI_X6_init_has hh_k_1
  refine C_putr (kf := 0) hC kX5 hh_k (by decide) (by decide) rfl rfl rfl ⟨rfl, rfl⟩ rfl w_203 dX5_init_12 (fun P3 e3 => ?_)
  replace hNb := hN
  replace hN : P3.1.1 = k + 10 := by rw [e3]; exact hN
  replace hh_k : aHas P3 k 4 := by rw [e3]; exact aHas_PR hh_k
  replace hh_k_1 : aHas P3 (k + 1) 5 := by rw [e3]; exact aHas_PR hh_k_1
  refine C_aload_n hC dX5_init_15 rfl ?_
  refine C_iconst (v := 0) hC dX5_init_16 (by decide) ?_
  refine C_puti (kf := 1) hC kX5 hh_k (by decide) (by decide) rfl rfl ⟨by decide, by decide⟩ w_205 dX5_init_17 (fun P4 e4 => ?_)
  replace hNb := hN
  replace hN : P4.1.1 = k + 10 := by rw [e4]; exact hN
  replace hh_k : aHas P4 k 4 := by rw [e4]; exact aHas_PI hh_k
  replace hh_k_1 : aHas P4 (k + 1) 5 := by rw [e4]; exact aHas_PI hh_k_1
  refine C_aload_n hC dX5_init_20 rfl ?_
  refine C_iconst (v := -1) hC dX5_init_21 (by decide) ?_
  refine C_puti (kf := 2) hC kX5 hh_k (by decide) (by decide) rfl rfl ⟨by decide, by decide⟩ w_207 dX5_init_22 (fun P5 e5 => ?_)
  replace hNb := hN
  replace hN : P5.1.1 = k + 10 := by rw [e5]; exact hN
  replace hh_k : aHas P5 k 4 := by rw [e5]; exact aHas_PI hh_k
  replace hh_k_1 : aHas P5 (k + 1) 5 := by rw [e5]; exact aHas_PI hh_k_1
  refine C_aload_n hC dX5_init_25 rfl ?_
  refine C_iconst (v := 0) hC dX5_init_26 (by decide) ?_
  refine C_puti (kf := 4) hC kX5 hh_k (by decide) (by decide) rfl rfl ⟨by decide, by decide⟩ w_210 dX5_init_27 (fun P6 e6 => ?_)
  replace hNb := hN
  replace hN : P6.1.1 = k + 10 := by rw [e6]; exact hN
  replace hh_k : aHas P6 k 4 := by rw [e6]; exact aHas_PI hh_k
  replace hh_k_1 : aHas P6 (k + 1) 5 := by rw [e6]; exact aHas_PI hh_k_1
  refine C_aload_n hC dX5_init_30 rfl ?_
  refine C_iconst (v := 0) hC dX5_init_31 (by decide) ?_
  refine C_puti (kf := 5) hC kX5 hh_k (by decide) (by decide) rfl rfl ⟨by decide, by decide⟩ w_211 dX5_init_32 (fun P7 e7 => ?_)
  replace hNb := hN
  replace hN : P7.1.1 = k + 10 := by rw [e7]; exact hN
  replace hh_k : aHas P7 k 4 := by rw [e7]; exact aHas_PI hh_k
  replace hh_k_1 : aHas P7 (k + 1) 5 := by rw [e7]; exact aHas_PI hh_k_1
  refine C_aload_n hC dX5_init_35 rfl ?_
  refine C_iconst (v := 0) hC dX5_init_36 (by decide) ?_
  refine C_puti (kf := 6) hC kX5 hh_k (by decide) (by decide) rfl rfl ⟨by decide, by decide⟩ w_212 dX5_init_37 (fun P8 e8 => ?_)
  replace hNb := hN
  replace hN : P8.1.1 = k + 10 := by rw [e8]; exact hN
  replace hh_k : aHas P8 k 4 := by rw [e8]; exact aHas_PI hh_k
  replace hh_k_1 : aHas P8 (k + 1) 5 := by rw [e8]; exact aHas_PI hh_k_1
  refine C_aload_n hC dX5_init_40 rfl ?_
  refine C_iconst (v := 0) hC dX5_init_41 (by decide) ?_
  refine C_puti (kf := 7) hC kX5 hh_k (by decide) (by decide) rfl rfl ⟨by decide, by decide⟩ w_213 dX5_init_42 (fun P9 e9 => ?_)
  replace hNb := hN
  replace hN : P9.1.1 = k + 10 := by rw [e9]; exact hN
  replace hh_k : aHas P9 k 4 := by rw [e9]; exact aHas_PI hh_k
  replace hh_k_1 : aHas P9 (k + 1) 5 := by rw [e9]; exact aHas_PI hh_k_1
  refine C_aload_n hC dX5_init_45 rfl ?_
  refine C_aload_n hC dX5_init_46 rfl ?_
  refine C_putr (kf := 3) hC kX5 hh_k (by decide) (by decide) rfl rfl rfl ⟨rfl, rfl⟩ rfl w_209 dX5_init_47 (fun P10 e10 => ?_)
  replace hNb := hN
  replace hN : P10.1.1 = k + 10 := by rw [e10]; exact hN
  replace hh_k : aHas P10 k 4 := by rw [e10]; exact aHas_PR hh_k
  replace hh_k_1 : aHas P10 (k + 1) 5 := by rw [e10]; exact aHas_PR hh_k_1
  exact C_vret hC (by subst e1 e2 e3 e4 e5 e6 e7 e8 e9 e10; rfl) ⟨rfl, rfl⟩ rfl dX5_init_50
def fI_X4_init (n0 k : Nat) (P0 : APD) : APD :=
  let P1 := aPI P0 k 0 (0 : Int32)
  let P2 := aNA P1 11 32
  let P3 := aPR P2 k 1 (n0 + (k + 1))
  let P4 := aNA P3 11 32
  let P5 := aPR P4 k 2 (n0 + (k + 2))
  let P6 := aNA P5 11 32
  let P7 := aPR P6 k 3 (n0 + (k + 3))
  let P8 := aNA P7 11 32
  let P9 := aPR P8 k 4 (n0 + (k + 4))
  let P10 := aNA P9 11 32
  let P11 := aPR P10 k 5 (n0 + (k + 5))
  let P12 := aNA P11 11 8
  let P13 := aPR P12 k 6 (n0 + (k + 6))
  P13
theorem fI_X4_init_N {n0 k : Nat} {P0 : APD} : (fI_X4_init n0 k P0).1.1 = P0.1.1 + 6 := rfl
theorem fI_X4_init_has {n0 k : Nat} {P0 : APD} {q c : Nat} (h : aHas P0 q c) : aHas (fI_X4_init n0 k P0) q c := aHas_PR (aHas_NC (aHas_PR (aHas_NC (aHas_PR (aHas_NC (aHas_PR (aHas_NC (aHas_PR (aHas_NC (aHas_PR (aHas_NC (aHas_PI (h)))))))))))))
theorem fI_X4_init_ri {n0 k : Nat} {P0 : APD} {o f a c : Nat} (hne : o ≠ k) (hN0 : P0.1.1 = k + 1) (hh0 : aHas P0 o c) (h0 : aRI P0 o f a) : aRI (fI_X4_init n0 k P0) o f a := by
  unfold fI_X4_init
  obtain ⟨P1, e1⟩ : ∃ z, z = aPI P0 k 0 (0 : Int32) := ⟨_, rfl⟩
  have hh1 : aHas P1 o c := by rw [e1]; exact aHas_PI hh0
  have h1 : aRI P1 o f a := by rw [e1]; exact aRI_PI h0
  obtain ⟨P2, e2⟩ : ∃ z, z = aNA P1 11 32 := ⟨_, rfl⟩
  have hh2 : aHas P2 o c := by rw [e2]; exact aHas_NC hh1
  have h2 : aRI P2 o f a := by rw [e2]; exact aRI_NC hh1.2.2 h1
  obtain ⟨P3, e3⟩ : ∃ z, z = aPR P2 k 1 (n0 + (k + 1)) := ⟨_, rfl⟩
  have hh3 : aHas P3 o c := by rw [e3]; exact aHas_PR hh2
  have h3 : aRI P3 o f a := by rw [e3]; exact aRI_PR (Or.inl hne) h2
  obtain ⟨P4, e4⟩ : ∃ z, z = aNA P3 11 32 := ⟨_, rfl⟩
  have hh4 : aHas P4 o c := by rw [e4]; exact aHas_NC hh3
  have h4 : aRI P4 o f a := by rw [e4]; exact aRI_NC hh3.2.2 h3
  obtain ⟨P5, e5⟩ : ∃ z, z = aPR P4 k 2 (n0 + (k + 2)) := ⟨_, rfl⟩
  have hh5 : aHas P5 o c := by rw [e5]; exact aHas_PR hh4
  have h5 : aRI P5 o f a := by rw [e5]; exact aRI_PR (Or.inl hne) h4
  obtain ⟨P6, e6⟩ : ∃ z, z = aNA P5 11 32 := ⟨_, rfl⟩
  have hh6 : aHas P6 o c := by rw [e6]; exact aHas_NC hh5
  have h6 : aRI P6 o f a := by rw [e6]; exact aRI_NC hh5.2.2 h5
  obtain ⟨P7, e7⟩ : ∃ z, z = aPR P6 k 3 (n0 + (k + 3)) := ⟨_, rfl⟩
  have hh7 : aHas P7 o c := by rw [e7]; exact aHas_PR hh6
  have h7 : aRI P7 o f a := by rw [e7]; exact aRI_PR (Or.inl hne) h6
  obtain ⟨P8, e8⟩ : ∃ z, z = aNA P7 11 32 := ⟨_, rfl⟩
  have hh8 : aHas P8 o c := by rw [e8]; exact aHas_NC hh7
  have h8 : aRI P8 o f a := by rw [e8]; exact aRI_NC hh7.2.2 h7
  obtain ⟨P9, e9⟩ : ∃ z, z = aPR P8 k 4 (n0 + (k + 4)) := ⟨_, rfl⟩
  have hh9 : aHas P9 o c := by rw [e9]; exact aHas_PR hh8
  have h9 : aRI P9 o f a := by rw [e9]; exact aRI_PR (Or.inl hne) h8
  obtain ⟨P10, e10⟩ : ∃ z, z = aNA P9 11 32 := ⟨_, rfl⟩
  have hh10 : aHas P10 o c := by rw [e10]; exact aHas_NC hh9
  have h10 : aRI P10 o f a := by rw [e10]; exact aRI_NC hh9.2.2 h9
  obtain ⟨P11, e11⟩ : ∃ z, z = aPR P10 k 5 (n0 + (k + 5)) := ⟨_, rfl⟩
  have hh11 : aHas P11 o c := by rw [e11]; exact aHas_PR hh10
  have h11 : aRI P11 o f a := by rw [e11]; exact aRI_PR (Or.inl hne) h10
  obtain ⟨P12, e12⟩ : ∃ z, z = aNA P11 11 8 := ⟨_, rfl⟩
  have hh12 : aHas P12 o c := by rw [e12]; exact aHas_NC hh11
  have h12 : aRI P12 o f a := by rw [e12]; exact aRI_NC hh11.2.2 h11
  obtain ⟨P13, e13⟩ : ∃ z, z = aPR P12 k 6 (n0 + (k + 6)) := ⟨_, rfl⟩
  have hh13 : aHas P13 o c := by rw [e13]; exact aHas_PR hh12
  have h13 : aRI P13 o f a := by rw [e13]; exact aRI_PR (Or.inl hne) h12
  subst e1 e2 e3 e4 e5 e6 e7 e8 e9 e10 e11 e12 e13
  exact h13
theorem fI_X4_init_ri2 {n0 k : Nat} {P0 : APD} {o f a : Nat} (hne : o ≠ k) (hlt0 : o < P0.1.1) (h0 : aRI P0 o f a) : aRI (fI_X4_init n0 k P0) o f a := by
  unfold fI_X4_init
  obtain ⟨P1, e1⟩ : ∃ z, z = aPI P0 k 0 (0 : Int32) := ⟨_, rfl⟩
  have hlt1 : o < P1.1.1 := by rw [e1]; exact hlt0
  have h1 : aRI P1 o f a := by rw [e1]; exact aRI_PI h0
  obtain ⟨P2, e2⟩ : ∃ z, z = aNA P1 11 32 := ⟨_, rfl⟩
  have hlt2 : o < P2.1.1 := by rw [e2]; show o < P1.1.1 + 1; omega
  have h2 : aRI P2 o f a := by rw [e2]; exact aRI_NC hlt1 h1
  obtain ⟨P3, e3⟩ : ∃ z, z = aPR P2 k 1 (n0 + (k + 1)) := ⟨_, rfl⟩
  have hlt3 : o < P3.1.1 := by rw [e3]; exact hlt2
  have h3 : aRI P3 o f a := by rw [e3]; exact aRI_PR (Or.inl hne) h2
  obtain ⟨P4, e4⟩ : ∃ z, z = aNA P3 11 32 := ⟨_, rfl⟩
  have hlt4 : o < P4.1.1 := by rw [e4]; show o < P3.1.1 + 1; omega
  have h4 : aRI P4 o f a := by rw [e4]; exact aRI_NC hlt3 h3
  obtain ⟨P5, e5⟩ : ∃ z, z = aPR P4 k 2 (n0 + (k + 2)) := ⟨_, rfl⟩
  have hlt5 : o < P5.1.1 := by rw [e5]; exact hlt4
  have h5 : aRI P5 o f a := by rw [e5]; exact aRI_PR (Or.inl hne) h4
  obtain ⟨P6, e6⟩ : ∃ z, z = aNA P5 11 32 := ⟨_, rfl⟩
  have hlt6 : o < P6.1.1 := by rw [e6]; show o < P5.1.1 + 1; omega
  have h6 : aRI P6 o f a := by rw [e6]; exact aRI_NC hlt5 h5
  obtain ⟨P7, e7⟩ : ∃ z, z = aPR P6 k 3 (n0 + (k + 3)) := ⟨_, rfl⟩
  have hlt7 : o < P7.1.1 := by rw [e7]; exact hlt6
  have h7 : aRI P7 o f a := by rw [e7]; exact aRI_PR (Or.inl hne) h6
  obtain ⟨P8, e8⟩ : ∃ z, z = aNA P7 11 32 := ⟨_, rfl⟩
  have hlt8 : o < P8.1.1 := by rw [e8]; show o < P7.1.1 + 1; omega
  have h8 : aRI P8 o f a := by rw [e8]; exact aRI_NC hlt7 h7
  obtain ⟨P9, e9⟩ : ∃ z, z = aPR P8 k 4 (n0 + (k + 4)) := ⟨_, rfl⟩
  have hlt9 : o < P9.1.1 := by rw [e9]; exact hlt8
  have h9 : aRI P9 o f a := by rw [e9]; exact aRI_PR (Or.inl hne) h8
  obtain ⟨P10, e10⟩ : ∃ z, z = aNA P9 11 32 := ⟨_, rfl⟩
  have hlt10 : o < P10.1.1 := by rw [e10]; show o < P9.1.1 + 1; omega
  have h10 : aRI P10 o f a := by rw [e10]; exact aRI_NC hlt9 h9
  obtain ⟨P11, e11⟩ : ∃ z, z = aPR P10 k 5 (n0 + (k + 5)) := ⟨_, rfl⟩
  have hlt11 : o < P11.1.1 := by rw [e11]; exact hlt10
  have h11 : aRI P11 o f a := by rw [e11]; exact aRI_PR (Or.inl hne) h10
  obtain ⟨P12, e12⟩ : ∃ z, z = aNA P11 11 8 := ⟨_, rfl⟩
  have hlt12 : o < P12.1.1 := by rw [e12]; show o < P11.1.1 + 1; omega
  have h12 : aRI P12 o f a := by rw [e12]; exact aRI_NC hlt11 h11
  obtain ⟨P13, e13⟩ : ∃ z, z = aPR P12 k 6 (n0 + (k + 6)) := ⟨_, rfl⟩
  have hlt13 : o < P13.1.1 := by rw [e13]; exact hlt12
  have h13 : aRI P13 o f a := by rw [e13]; exact aRI_PR (Or.inl hne) h12
  subst e1 e2 e3 e4 e5 e6 e7 e8 e9 e10 e11 e12 e13
  exact h13
set_option maxHeartbeats 4000000 in
set_option maxRecDepth 100000 in
theorem mk_X4_init (l : Launch) (g : AGl) (k : Nat) (D : ADD) (h : aHas (g.2.2.2.2.2, D) k 3) (hN0 : g.2.2.2.2.2.1 = k + 1) : AMk l yX4_init cX4_init 1 none 1 6 168 g [.ref (g.1 + k)] D none (fI_X4_init g.1 k (g.2.2.2.2.2, D)) := by
  refine AMk_of (lv0 := [some (.ref (g.1 + k))]) (own := RX4) (nm := "<init>") (by decide +kernel) rfl rfl (Nat.le_of_ble_eq_true rfl) rfl (fun b hC => ?_)
  generalize hP0 : ((g.2.2.2.2.2, D) : APD) = P0 at h ⊢
  have hN0 : P0.1.1 = k + 1 := by rw [← hP0]; exact hN0
  replace hh_k : aHas P0 k 3 := h
  replace hN : P0.1.1 = k + 1 := hN0
  refine C_aload_n hC dX4_init_0 rfl ?_
  refine C_objInit hC dX4_init_1 w_236 w_27 w_28 rfl (by decide) (Nat.le_of_ble_eq_true rfl) ?_
  refine C_aload_n hC dX4_init_4 rfl ?_
  refine C_iconst (v := 0) hC dX4_init_5 (by decide) ?_
  refine C_puti (kf := 0) hC kX4 hh_k (by decide) (by decide) rfl rfl ⟨by decide, by decide⟩ w_237 dX4_init_6 (fun P1 e1 => ?_)
  replace hNb := hN
  replace hN : P1.1.1 = k + 1 := by rw [e1]; exact hN
  replace hh_k : aHas P1 k 3 := by rw [e1]; exact aHas_PI hh_k
  refine C_aload_n hC dX4_init_9 rfl ?_
  refine C_bipush (v := 32) hC dX4_init_10 (by decide) ?_
  refine C_newai (n := (32 : Int32)) (N := 32) hC w_86 (by decide) (by decide) (by decide) (by decide) dX4_init_12 (fun P2 e2 => ?_)
  rw [hN]
  replace hNb := hN
  replace hN : P2.1.1 = k + 2 := by rw [e2]; show P1.1.1 + 1 = _; rw [hN]
  replace hh_k : aHas P2 k 3 := by rw [e2]; exact aHas_NC hh_k
  refine C_putr (kf := 1) hC kX4 hh_k (by decide) (by decide) rfl rfl rfl ⟨rfl, rfl⟩ rfl w_241 dX4_init_14 (fun P3 e3 => ?_)
  replace hNb := hN
  replace hN : P3.1.1 = k + 2 := by rw [e3]; exact hN
  replace hh_k : aHas P3 k 3 := by rw [e3]; exact aHas_PR hh_k
  refine C_aload_n hC dX4_init_17 rfl ?_
  refine C_bipush (v := 32) hC dX4_init_18 (by decide) ?_
  refine C_newai (n := (32 : Int32)) (N := 32) hC w_86 (by decide) (by decide) (by decide) (by decide) dX4_init_20 (fun P4 e4 => ?_)
  rw [hN]
  replace hNb := hN
  replace hN : P4.1.1 = k + 3 := by rw [e4]; show P3.1.1 + 1 = _; rw [hN]
  replace hh_k : aHas P4 k 3 := by rw [e4]; exact aHas_NC hh_k
  refine C_putr (kf := 2) hC kX4 hh_k (by decide) (by decide) rfl rfl rfl ⟨rfl, rfl⟩ rfl w_244 dX4_init_22 (fun P5 e5 => ?_)
  replace hNb := hN
  replace hN : P5.1.1 = k + 3 := by rw [e5]; exact hN
  replace hh_k : aHas P5 k 3 := by rw [e5]; exact aHas_PR hh_k
  refine C_aload_n hC dX4_init_25 rfl ?_
  refine C_bipush (v := 32) hC dX4_init_26 (by decide) ?_
  refine C_newai (n := (32 : Int32)) (N := 32) hC w_86 (by decide) (by decide) (by decide) (by decide) dX4_init_28 (fun P6 e6 => ?_)
  rw [hN]
  replace hNb := hN
  replace hN : P6.1.1 = k + 4 := by rw [e6]; show P5.1.1 + 1 = _; rw [hN]
  replace hh_k : aHas P6 k 3 := by rw [e6]; exact aHas_NC hh_k
  refine C_putr (kf := 3) hC kX4 hh_k (by decide) (by decide) rfl rfl rfl ⟨rfl, rfl⟩ rfl w_247 dX4_init_30 (fun P7 e7 => ?_)
  replace hNb := hN
  replace hN : P7.1.1 = k + 4 := by rw [e7]; exact hN
  replace hh_k : aHas P7 k 3 := by rw [e7]; exact aHas_PR hh_k
  refine C_aload_n hC dX4_init_33 rfl ?_
  refine C_bipush (v := 32) hC dX4_init_34 (by decide) ?_
  refine C_newai (n := (32 : Int32)) (N := 32) hC w_86 (by decide) (by decide) (by decide) (by decide) dX4_init_36 (fun P8 e8 => ?_)
  rw [hN]
  replace hNb := hN
  replace hN : P8.1.1 = k + 5 := by rw [e8]; show P7.1.1 + 1 = _; rw [hN]
  replace hh_k : aHas P8 k 3 := by rw [e8]; exact aHas_NC hh_k
  refine C_putr (kf := 4) hC kX4 hh_k (by decide) (by decide) rfl rfl rfl ⟨rfl, rfl⟩ rfl w_248 dX4_init_38 (fun P9 e9 => ?_)
  replace hNb := hN
  replace hN : P9.1.1 = k + 5 := by rw [e9]; exact hN
  replace hh_k : aHas P9 k 3 := by rw [e9]; exact aHas_PR hh_k
  refine C_aload_n hC dX4_init_41 rfl ?_
  refine C_bipush (v := 32) hC dX4_init_42 (by decide) ?_
  refine C_newai (n := (32 : Int32)) (N := 32) hC w_86 (by decide) (by decide) (by decide) (by decide) dX4_init_44 (fun P10 e10 => ?_)
  rw [hN]
  replace hNb := hN
  replace hN : P10.1.1 = k + 6 := by rw [e10]; show P9.1.1 + 1 = _; rw [hN]
  replace hh_k : aHas P10 k 3 := by rw [e10]; exact aHas_NC hh_k
  refine C_putr (kf := 5) hC kX4 hh_k (by decide) (by decide) rfl rfl rfl ⟨rfl, rfl⟩ rfl w_249 dX4_init_46 (fun P11 e11 => ?_)
  replace hNb := hN
  replace hN : P11.1.1 = k + 6 := by rw [e11]; exact hN
  replace hh_k : aHas P11 k 3 := by rw [e11]; exact aHas_PR hh_k
  refine C_aload_n hC dX4_init_49 rfl ?_
  refine C_bipush (v := 8) hC dX4_init_50 (by decide) ?_
  refine C_newai (n := (8 : Int32)) (N := 8) hC w_86 (by decide) (by decide) (by decide) (by decide) dX4_init_52 (fun P12 e12 => ?_)
  rw [hN]
  replace hNb := hN
  replace hN : P12.1.1 = k + 7 := by rw [e12]; show P11.1.1 + 1 = _; rw [hN]
  replace hh_k : aHas P12 k 3 := by rw [e12]; exact aHas_NC hh_k
  refine C_putr (kf := 6) hC kX4 hh_k (by decide) (by decide) rfl rfl rfl ⟨rfl, rfl⟩ rfl w_250 dX4_init_54 (fun P13 e13 => ?_)
  replace hNb := hN
  replace hN : P13.1.1 = k + 7 := by rw [e13]; exact hN
  replace hh_k : aHas P13 k 3 := by rw [e13]; exact aHas_PR hh_k
  exact C_vret hC (by subst e1 e2 e3 e4 e5 e6 e7 e8 e9 e10 e11 e12 e13; rfl) ⟨rfl, rfl⟩ rfl dX4_init_57
def fI_X7_init (n0 k : Nat) (P0 : APD) : APD :=
  let P1 := aPI P0 k 0 (10 : Int32)
  let P2 := aPI P1 k 1 (10 : Int32)
  let P3 := aNA P2 11 301
  let P4 := aPR P3 k 2 (n0 + (k + 1))
  let P5 := aNA P4 11 301
  let P6 := aPR P5 k 3 (n0 + (k + 2))
  let P7 := aNA P6 11 301
  let P8 := aPR P7 k 4 (n0 + (k + 3))
  let P9 := aPI P8 k 5 (0 : Int32)
  let P10 := aNA P9 11 1312
  let P11 := aPR P10 k 6 (n0 + (k + 4))
  P11
theorem fI_X7_init_N {n0 k : Nat} {P0 : APD} : (fI_X7_init n0 k P0).1.1 = P0.1.1 + 4 := rfl
theorem fI_X7_init_has {n0 k : Nat} {P0 : APD} {q c : Nat} (h : aHas P0 q c) : aHas (fI_X7_init n0 k P0) q c := aHas_PR (aHas_NC (aHas_PI (aHas_PR (aHas_NC (aHas_PR (aHas_NC (aHas_PR (aHas_NC (aHas_PI (aHas_PI (h)))))))))))
theorem fI_X7_init_ri {n0 k : Nat} {P0 : APD} {o f a c : Nat} (hne : o ≠ k) (hN0 : P0.1.1 = k + 1) (hh0 : aHas P0 o c) (h0 : aRI P0 o f a) : aRI (fI_X7_init n0 k P0) o f a := by
  unfold fI_X7_init
  obtain ⟨P1, e1⟩ : ∃ z, z = aPI P0 k 0 (10 : Int32) := ⟨_, rfl⟩
  have hh1 : aHas P1 o c := by rw [e1]; exact aHas_PI hh0
  have h1 : aRI P1 o f a := by rw [e1]; exact aRI_PI h0
  obtain ⟨P2, e2⟩ : ∃ z, z = aPI P1 k 1 (10 : Int32) := ⟨_, rfl⟩
  have hh2 : aHas P2 o c := by rw [e2]; exact aHas_PI hh1
  have h2 : aRI P2 o f a := by rw [e2]; exact aRI_PI h1
  obtain ⟨P3, e3⟩ : ∃ z, z = aNA P2 11 301 := ⟨_, rfl⟩
  have hh3 : aHas P3 o c := by rw [e3]; exact aHas_NC hh2
  have h3 : aRI P3 o f a := by rw [e3]; exact aRI_NC hh2.2.2 h2
  obtain ⟨P4, e4⟩ : ∃ z, z = aPR P3 k 2 (n0 + (k + 1)) := ⟨_, rfl⟩
  have hh4 : aHas P4 o c := by rw [e4]; exact aHas_PR hh3
  have h4 : aRI P4 o f a := by rw [e4]; exact aRI_PR (Or.inl hne) h3
  obtain ⟨P5, e5⟩ : ∃ z, z = aNA P4 11 301 := ⟨_, rfl⟩
  have hh5 : aHas P5 o c := by rw [e5]; exact aHas_NC hh4
  have h5 : aRI P5 o f a := by rw [e5]; exact aRI_NC hh4.2.2 h4
  obtain ⟨P6, e6⟩ : ∃ z, z = aPR P5 k 3 (n0 + (k + 2)) := ⟨_, rfl⟩
  have hh6 : aHas P6 o c := by rw [e6]; exact aHas_PR hh5
  have h6 : aRI P6 o f a := by rw [e6]; exact aRI_PR (Or.inl hne) h5
  obtain ⟨P7, e7⟩ : ∃ z, z = aNA P6 11 301 := ⟨_, rfl⟩
  have hh7 : aHas P7 o c := by rw [e7]; exact aHas_NC hh6
  have h7 : aRI P7 o f a := by rw [e7]; exact aRI_NC hh6.2.2 h6
  obtain ⟨P8, e8⟩ : ∃ z, z = aPR P7 k 4 (n0 + (k + 3)) := ⟨_, rfl⟩
  have hh8 : aHas P8 o c := by rw [e8]; exact aHas_PR hh7
  have h8 : aRI P8 o f a := by rw [e8]; exact aRI_PR (Or.inl hne) h7
  obtain ⟨P9, e9⟩ : ∃ z, z = aPI P8 k 5 (0 : Int32) := ⟨_, rfl⟩
  have hh9 : aHas P9 o c := by rw [e9]; exact aHas_PI hh8
  have h9 : aRI P9 o f a := by rw [e9]; exact aRI_PI h8
  obtain ⟨P10, e10⟩ : ∃ z, z = aNA P9 11 1312 := ⟨_, rfl⟩
  have hh10 : aHas P10 o c := by rw [e10]; exact aHas_NC hh9
  have h10 : aRI P10 o f a := by rw [e10]; exact aRI_NC hh9.2.2 h9
  obtain ⟨P11, e11⟩ : ∃ z, z = aPR P10 k 6 (n0 + (k + 4)) := ⟨_, rfl⟩
  have hh11 : aHas P11 o c := by rw [e11]; exact aHas_PR hh10
  have h11 : aRI P11 o f a := by rw [e11]; exact aRI_PR (Or.inl hne) h10
  subst e1 e2 e3 e4 e5 e6 e7 e8 e9 e10 e11
  exact h11
theorem fI_X7_init_ri2 {n0 k : Nat} {P0 : APD} {o f a : Nat} (hne : o ≠ k) (hlt0 : o < P0.1.1) (h0 : aRI P0 o f a) : aRI (fI_X7_init n0 k P0) o f a := by
  unfold fI_X7_init
  obtain ⟨P1, e1⟩ : ∃ z, z = aPI P0 k 0 (10 : Int32) := ⟨_, rfl⟩
  have hlt1 : o < P1.1.1 := by rw [e1]; exact hlt0
  have h1 : aRI P1 o f a := by rw [e1]; exact aRI_PI h0
  obtain ⟨P2, e2⟩ : ∃ z, z = aPI P1 k 1 (10 : Int32) := ⟨_, rfl⟩
  have hlt2 : o < P2.1.1 := by rw [e2]; exact hlt1
  have h2 : aRI P2 o f a := by rw [e2]; exact aRI_PI h1
  obtain ⟨P3, e3⟩ : ∃ z, z = aNA P2 11 301 := ⟨_, rfl⟩
  have hlt3 : o < P3.1.1 := by rw [e3]; show o < P2.1.1 + 1; omega
  have h3 : aRI P3 o f a := by rw [e3]; exact aRI_NC hlt2 h2
  obtain ⟨P4, e4⟩ : ∃ z, z = aPR P3 k 2 (n0 + (k + 1)) := ⟨_, rfl⟩
  have hlt4 : o < P4.1.1 := by rw [e4]; exact hlt3
  have h4 : aRI P4 o f a := by rw [e4]; exact aRI_PR (Or.inl hne) h3
  obtain ⟨P5, e5⟩ : ∃ z, z = aNA P4 11 301 := ⟨_, rfl⟩
  have hlt5 : o < P5.1.1 := by rw [e5]; show o < P4.1.1 + 1; omega
  have h5 : aRI P5 o f a := by rw [e5]; exact aRI_NC hlt4 h4
  obtain ⟨P6, e6⟩ : ∃ z, z = aPR P5 k 3 (n0 + (k + 2)) := ⟨_, rfl⟩
  have hlt6 : o < P6.1.1 := by rw [e6]; exact hlt5
  have h6 : aRI P6 o f a := by rw [e6]; exact aRI_PR (Or.inl hne) h5
  obtain ⟨P7, e7⟩ : ∃ z, z = aNA P6 11 301 := ⟨_, rfl⟩
  have hlt7 : o < P7.1.1 := by rw [e7]; show o < P6.1.1 + 1; omega
  have h7 : aRI P7 o f a := by rw [e7]; exact aRI_NC hlt6 h6
  obtain ⟨P8, e8⟩ : ∃ z, z = aPR P7 k 4 (n0 + (k + 3)) := ⟨_, rfl⟩
  have hlt8 : o < P8.1.1 := by rw [e8]; exact hlt7
  have h8 : aRI P8 o f a := by rw [e8]; exact aRI_PR (Or.inl hne) h7
  obtain ⟨P9, e9⟩ : ∃ z, z = aPI P8 k 5 (0 : Int32) := ⟨_, rfl⟩
  have hlt9 : o < P9.1.1 := by rw [e9]; exact hlt8
  have h9 : aRI P9 o f a := by rw [e9]; exact aRI_PI h8
  obtain ⟨P10, e10⟩ : ∃ z, z = aNA P9 11 1312 := ⟨_, rfl⟩
  have hlt10 : o < P10.1.1 := by rw [e10]; show o < P9.1.1 + 1; omega
  have h10 : aRI P10 o f a := by rw [e10]; exact aRI_NC hlt9 h9
  obtain ⟨P11, e11⟩ : ∃ z, z = aPR P10 k 6 (n0 + (k + 4)) := ⟨_, rfl⟩
  have hlt11 : o < P11.1.1 := by rw [e11]; exact hlt10
  have h11 : aRI P11 o f a := by rw [e11]; exact aRI_PR (Or.inl hne) h10
  subst e1 e2 e3 e4 e5 e6 e7 e8 e9 e10 e11
  exact h11
set_option maxHeartbeats 4000000 in
set_option maxRecDepth 100000 in
theorem mk_X7_init (l : Launch) (g : AGl) (k : Nat) (D : ADD) (h : aHas (g.2.2.2.2.2, D) k 6) (hN0 : g.2.2.2.2.2.1 = k + 1) : AMk l yX7_init cX7_init 1 none 1 4 2215 g [.ref (g.1 + k)] D none (fI_X7_init g.1 k (g.2.2.2.2.2, D)) := by
  refine AMk_of (lv0 := [some (.ref (g.1 + k))]) (own := RX7) (nm := "<init>") (by decide +kernel) rfl rfl (Nat.le_of_ble_eq_true rfl) rfl (fun b hC => ?_)
  generalize hP0 : ((g.2.2.2.2.2, D) : APD) = P0 at h ⊢
  have hN0 : P0.1.1 = k + 1 := by rw [← hP0]; exact hN0
  replace hh_k : aHas P0 k 6 := h
  replace hN : P0.1.1 = k + 1 := hN0
  refine C_aload_n hC dX7_init_0 rfl ?_
  refine C_objInit hC dX7_init_1 w_271 w_27 w_28 rfl (by decide) (Nat.le_of_ble_eq_true rfl) ?_
  refine C_aload_n hC dX7_init_4 rfl ?_
  refine C_bipush (v := 10) hC dX7_init_5 (by decide) ?_
  refine C_puti (kf := 0) hC kX7 hh_k (by decide) (by decide) rfl rfl ⟨by decide, by decide⟩ w_272 dX7_init_7 (fun P1 e1 => ?_)
  replace hNb := hN
  replace hN : P1.1.1 = k + 1 := by rw [e1]; exact hN
  replace hh_k : aHas P1 k 6 := by rw [e1]; exact aHas_PI hh_k
  refine C_aload_n hC dX7_init_10 rfl ?_
  refine C_bipush (v := 10) hC dX7_init_11 (by decide) ?_
  refine C_puti (kf := 1) hC kX7 hh_k (by decide) (by decide) rfl rfl ⟨by decide, by decide⟩ w_273 dX7_init_13 (fun P2 e2 => ?_)
  replace hNb := hN
  replace hN : P2.1.1 = k + 1 := by rw [e2]; exact hN
  replace hh_k : aHas P2 k 6 := by rw [e2]; exact aHas_PI hh_k
  refine C_aload_n hC dX7_init_16 rfl ?_
  refine C_sipush (v := 301) hC dX7_init_17 (by decide) ?_
  refine C_newai (n := (301 : Int32)) (N := 301) hC w_86 (by decide) (by decide) (by decide) (by decide) dX7_init_20 (fun P3 e3 => ?_)
  rw [hN]
  replace hNb := hN
  replace hN : P3.1.1 = k + 2 := by rw [e3]; show P2.1.1 + 1 = _; rw [hN]
  replace hh_k : aHas P3 k 6 := by rw [e3]; exact aHas_NC hh_k
  refine C_putr (kf := 2) hC kX7 hh_k (by decide) (by decide) rfl rfl rfl ⟨rfl, rfl⟩ rfl w_274 dX7_init_22 (fun P4 e4 => ?_)
  replace hNb := hN
  replace hN : P4.1.1 = k + 2 := by rw [e4]; exact hN
  replace hh_k : aHas P4 k 6 := by rw [e4]; exact aHas_PR hh_k
  refine C_aload_n hC dX7_init_25 rfl ?_
  refine C_sipush (v := 301) hC dX7_init_26 (by decide) ?_
  refine C_newai (n := (301 : Int32)) (N := 301) hC w_86 (by decide) (by decide) (by decide) (by decide) dX7_init_29 (fun P5 e5 => ?_)
  rw [hN]
  replace hNb := hN
  replace hN : P5.1.1 = k + 3 := by rw [e5]; show P4.1.1 + 1 = _; rw [hN]
  replace hh_k : aHas P5 k 6 := by rw [e5]; exact aHas_NC hh_k
  refine C_putr (kf := 3) hC kX7 hh_k (by decide) (by decide) rfl rfl rfl ⟨rfl, rfl⟩ rfl w_275 dX7_init_31 (fun P6 e6 => ?_)
  replace hNb := hN
  replace hN : P6.1.1 = k + 3 := by rw [e6]; exact hN
  replace hh_k : aHas P6 k 6 := by rw [e6]; exact aHas_PR hh_k
  refine C_aload_n hC dX7_init_34 rfl ?_
  refine C_sipush (v := 301) hC dX7_init_35 (by decide) ?_
  refine C_newai (n := (301 : Int32)) (N := 301) hC w_86 (by decide) (by decide) (by decide) (by decide) dX7_init_38 (fun P7 e7 => ?_)
  rw [hN]
  replace hNb := hN
  replace hN : P7.1.1 = k + 4 := by rw [e7]; show P6.1.1 + 1 = _; rw [hN]
  replace hh_k : aHas P7 k 6 := by rw [e7]; exact aHas_NC hh_k
  refine C_putr (kf := 4) hC kX7 hh_k (by decide) (by decide) rfl rfl rfl ⟨rfl, rfl⟩ rfl w_276 dX7_init_40 (fun P8 e8 => ?_)
  replace hNb := hN
  replace hN : P8.1.1 = k + 4 := by rw [e8]; exact hN
  replace hh_k : aHas P8 k 6 := by rw [e8]; exact aHas_PR hh_k
  refine C_aload_n hC dX7_init_43 rfl ?_
  refine C_iconst (v := 0) hC dX7_init_44 (by decide) ?_
  refine C_puti (kf := 5) hC kX7 hh_k (by decide) (by decide) rfl rfl ⟨by decide, by decide⟩ w_277 dX7_init_45 (fun P9 e9 => ?_)
  replace hNb := hN
  replace hN : P9.1.1 = k + 4 := by rw [e9]; exact hN
  replace hh_k : aHas P9 k 6 := by rw [e9]; exact aHas_PI hh_k
  refine C_aload_n hC dX7_init_48 rfl ?_
  refine C_sipush (v := 1312) hC dX7_init_49 (by decide) ?_
  refine C_newai (n := (1312 : Int32)) (N := 1312) hC w_86 (by decide) (by decide) (by decide) (by decide) dX7_init_52 (fun P10 e10 => ?_)
  rw [hN]
  replace hNb := hN
  replace hN : P10.1.1 = k + 5 := by rw [e10]; show P9.1.1 + 1 = _; rw [hN]
  replace hh_k : aHas P10 k 6 := by rw [e10]; exact aHas_NC hh_k
  refine C_putr (kf := 6) hC kX7 hh_k (by decide) (by decide) rfl rfl rfl ⟨rfl, rfl⟩ rfl w_278 dX7_init_54 (fun P11 e11 => ?_)
  replace hNb := hN
  replace hN : P11.1.1 = k + 5 := by rw [e11]; exact hN
  replace hh_k : aHas P11 k 6 := by rw [e11]; exact aHas_PR hh_k
  exact C_vret hC (by subst e1 e2 e3 e4 e5 e6 e7 e8 e9 e10 e11; rfl) ⟨rfl, rfl⟩ rfl dX7_init_57
def fI_X3_init (n0 k : Nat) (P0 : APD) : APD :=
  let P1 := aNA P0 12 33
  let P2 := aPR P1 k 0 (n0 + (k + 1))
  P2
theorem fI_X3_init_N {n0 k : Nat} {P0 : APD} : (fI_X3_init n0 k P0).1.1 = P0.1.1 + 1 := rfl
theorem fI_X3_init_has {n0 k : Nat} {P0 : APD} {q c : Nat} (h : aHas P0 q c) : aHas (fI_X3_init n0 k P0) q c := aHas_PR (aHas_NC (h))
theorem fI_X3_init_ri {n0 k : Nat} {P0 : APD} {o f a c : Nat} (hne : o ≠ k) (hN0 : P0.1.1 = k + 1) (hh0 : aHas P0 o c) (h0 : aRI P0 o f a) : aRI (fI_X3_init n0 k P0) o f a := by
  unfold fI_X3_init
  obtain ⟨P1, e1⟩ : ∃ z, z = aNA P0 12 33 := ⟨_, rfl⟩
  have hh1 : aHas P1 o c := by rw [e1]; exact aHas_NC hh0
  have h1 : aRI P1 o f a := by rw [e1]; exact aRI_NC hh0.2.2 h0
  obtain ⟨P2, e2⟩ : ∃ z, z = aPR P1 k 0 (n0 + (k + 1)) := ⟨_, rfl⟩
  have hh2 : aHas P2 o c := by rw [e2]; exact aHas_PR hh1
  have h2 : aRI P2 o f a := by rw [e2]; exact aRI_PR (Or.inl hne) h1
  subst e1 e2
  exact h2
theorem fI_X3_init_ri2 {n0 k : Nat} {P0 : APD} {o f a : Nat} (hne : o ≠ k) (hlt0 : o < P0.1.1) (h0 : aRI P0 o f a) : aRI (fI_X3_init n0 k P0) o f a := by
  unfold fI_X3_init
  obtain ⟨P1, e1⟩ : ∃ z, z = aNA P0 12 33 := ⟨_, rfl⟩
  have hlt1 : o < P1.1.1 := by rw [e1]; show o < P0.1.1 + 1; omega
  have h1 : aRI P1 o f a := by rw [e1]; exact aRI_NC hlt0 h0
  obtain ⟨P2, e2⟩ : ∃ z, z = aPR P1 k 0 (n0 + (k + 1)) := ⟨_, rfl⟩
  have hlt2 : o < P2.1.1 := by rw [e2]; exact hlt1
  have h2 : aRI P2 o f a := by rw [e2]; exact aRI_PR (Or.inl hne) h1
  subst e1 e2
  exact h2
set_option maxHeartbeats 4000000 in
set_option maxRecDepth 100000 in
theorem mk_X3_init (l : Launch) (g : AGl) (k : Nat) (D : ADD) (h : aHas (g.2.2.2.2.2, D) k 2) (hN0 : g.2.2.2.2.2.1 = k + 1) : AMk l yX3_init cX3_init 1 none 1 1 33 g [.ref (g.1 + k)] D none (fI_X3_init g.1 k (g.2.2.2.2.2, D)) := by
  refine AMk_of (lv0 := [some (.ref (g.1 + k))]) (own := RX3) (nm := "<init>") (by decide +kernel) rfl rfl (Nat.le_of_ble_eq_true rfl) rfl (fun b hC => ?_)
  generalize hP0 : ((g.2.2.2.2.2, D) : APD) = P0 at h ⊢
  have hN0 : P0.1.1 = k + 1 := by rw [← hP0]; exact hN0
  replace hh_k : aHas P0 k 2 := h
  replace hN : P0.1.1 = k + 1 := hN0
  refine C_aload_n hC dX3_init_0 rfl ?_
  refine C_objInit hC dX3_init_1 w_299 w_27 w_28 rfl (by decide) (Nat.le_of_ble_eq_true rfl) ?_
  refine C_aload_n hC dX3_init_4 rfl ?_
  refine C_bipush (v := 33) hC dX3_init_5 (by decide) ?_
  refine C_newal (n := (33 : Int32)) (N := 33) hC w_304 (by decide) (by decide) (by decide) (by decide) dX3_init_7 (fun P1 e1 => ?_)
  rw [hN]
  replace hNb := hN
  replace hN : P1.1.1 = k + 2 := by rw [e1]; show P0.1.1 + 1 = _; rw [hN]
  replace hh_k : aHas P1 k 2 := by rw [e1]; exact aHas_NC hh_k
  refine C_putr (kf := 0) hC kX3 hh_k (by decide) (by decide) rfl rfl rfl ⟨rfl, rfl⟩ rfl w_300 dX3_init_9 (fun P2 e2 => ?_)
  replace hNb := hN
  replace hN : P2.1.1 = k + 2 := by rw [e2]; exact hN
  replace hh_k : aHas P2 k 2 := by rw [e2]; exact aHas_PR hh_k
  exact C_vret hC (by subst e1 e2; rfl) ⟨rfl, rfl⟩ rfl dX3_init_12
def fI_X10_init (n0 k : Nat) (P0 : APD) : APD :=
  let P1 := aNO P0 7
  let P2 := fI_X8_init n0 (k + 1) P1
  let P3 := aPR P2 k 0 (n0 + (k + 1))
  let P4 := aNA P3 15 3
  let P5 := aPR P4 k 1 (n0 + (k + 32))
  let P6 := aNO P5 4
  let P7 := fI_X5_init n0 (k + 33) (n0 + ((k + 1) + 10)) P6
  let P8 := aPR P7 k 2 (n0 + (k + 33))
  let P9 := aNO P8 3
  let P10 := fI_X4_init n0 (k + 43) P9
  let P11 := aPR P10 k 3 (n0 + (k + 43))
  let P12 := aNO P11 6
  let P13 := fI_X7_init n0 (k + 50) P12
  let P14 := aPR P13 k 4 (n0 + (k + 50))
  let P15 := aNO P14 2
  let P16 := fI_X3_init n0 (k + 55) P15
  let P17 := aPR P16 k 5 (n0 + (k + 55))
  let P18 := aNA P17 11 8
  let P19 := aPR P18 k 6 (n0 + (k + 57))
  P19
theorem fI_X10_init_N {n0 k : Nat} {P0 : APD} : (fI_X10_init n0 k P0).1.1 = P0.1.1 + 57 := by
  unfold fI_X10_init
  first | rfl | (simp only [aNO, aNA, aNC, aPR, aPI, fI_X8_init_N, fI_X5_init_N, fI_X4_init_N, fI_X7_init_N, fI_X3_init_N]; try omega)
theorem fI_X10_init_has {n0 k : Nat} {P0 : APD} {q c : Nat} (h : aHas P0 q c) : aHas (fI_X10_init n0 k P0) q c := aHas_PR (aHas_NC (aHas_PR (fI_X3_init_has (aHas_NC (aHas_PR (fI_X7_init_has (aHas_NC (aHas_PR (fI_X4_init_has (aHas_NC (aHas_PR (fI_X5_init_has (aHas_NC (aHas_PR (aHas_NC (aHas_PR (fI_X8_init_has (aHas_NC (h)))))))))))))))))))
set_option maxHeartbeats 4000000 in
set_option maxRecDepth 100000 in
theorem mk_X10_init (l : Launch) (g : AGl) (k : Nat) (D : ADD) (h : aHas (g.2.2.2.2.2, D) k 9) (hN0 : g.2.2.2.2.2.1 = k + 1) : AMk l yX10_init cX10_init 1 none 3 57 6332 g [.ref (g.1 + k)] D none (fI_X10_init g.1 k (g.2.2.2.2.2, D)) := by
  refine AMk_of (lv0 := [some (.ref (g.1 + k))]) (own := RX10) (nm := "<init>") (by decide +kernel) rfl rfl (Nat.le_of_ble_eq_true rfl) rfl (fun b hC => ?_)
  generalize hP0 : ((g.2.2.2.2.2, D) : APD) = P0 at h ⊢
  have hN0 : P0.1.1 = k + 1 := by rw [← hP0]; exact hN0
  replace hh_k : aHas P0 k 9 := h
  replace hN : P0.1.1 = k + 1 := hN0
  refine C_aload_n hC dX10_init_0 rfl ?_
  refine C_objInit hC dX10_init_1 w_26 w_27 w_28 rfl (by decide) (Nat.le_of_ble_eq_true rfl) ?_
  refine C_aload_n hC dX10_init_4 rfl ?_
  refine C_new hC kX8 (by decide) dfX8 w_29 w_30 w_2 (by decide) dX10_init_5 (fun P1 e1 => ?_)
  rw [hN]
  replace hNb := hN
  replace hN : P1.1.1 = k + 2 := by rw [e1]; show P0.1.1 + 1 = _; rw [hN]
  replace hh_k : aHas P1 k 9 := by rw [e1]; exact aHas_NC hh_k
  have hNo : P0.1.1 = (k + 1) := by have h9 : P1.1.1 = k + 2 := hN; rw [e1] at h9; have h8 : P0.1.1 + 1 = k + 2 := h9; omega
  replace hh_k_1 : aHas P1 (k + 1) 7 := by rw [e1, ← hNo]; exact aHas_new (S := (7, 0, fun _ => none))
  refine C_dup hC dX10_init_8 rfl ?_
  refine C_init (n := 0) (As := []) (st := [.ref (g.1 + (k + 1)), .ref (g.1 + k)]) (d2 := 2) (mc2 := 30) (ms2 := 3546) (E2 := fI_X8_init g.1 (k + 1) P1) hC (fun l => mk_X8_init l (g.1, g.2.1, g.2.2.1, g.2.2.2.1, g.2.2.2.2.1, P1.1) (k + 1) P1.2 hh_k_1 (by rw [hN])) rfl (Or.inl ⟨by decide, rfl⟩) w_32 w_2 w_33 (by decide +kernel) rfl rfl ⟨by decide, by decide⟩ (Nat.le_of_ble_eq_true rfl) (by decide) rfl dX10_init_9 (fun P2 e2 => ?_)
  replace hNb := hN
  replace hN : P2.1.1 = k + 32 := by rw [e2]; rw [fI_X8_init_N, hN]
  replace hh_k : aHas P2 k 9 := by rw [e2]; exact fI_X8_init_has hh_k
  replace hh_k_1 : aHas P2 (k + 1) 7 := by rw [e2]; exact fI_X8_init_has hh_k_1
  replace hr_k_1_1 : aRI P2 (k + 1) 1 (g.1 + ((k + 1) + 10)) := by rw [e2]; exact fI_X8_init_tape hNb
  refine C_putr (kf := 0) hC kX10 hh_k (by decide) (by decide) rfl rfl rfl ⟨rfl, rfl⟩ rfl w_305 dX10_init_12 (fun P3 e3 => ?_)
  replace hNb := hN
  replace hN : P3.1.1 = k + 32 := by rw [e3]; exact hN
  replace hh_k : aHas P3 k 9 := by rw [e3]; exact aHas_PR hh_k
  replace hh_k_1 : aHas P3 (k + 1) 7 := by rw [e3]; exact aHas_PR hh_k_1
  replace hr_k_1_1 : aRI P3 (k + 1) 1 (g.1 + ((k + 1) + 10)) := by rw [e3]; exact aRI_PR (Or.inl (by omega)) hr_k_1_1
  replace hr_k_0 : aRI P3 k 0 (g.1 + (k + 1)) := by rw [e3]; exact aRI_self
  refine C_aload_n hC dX10_init_15 rfl ?_
  refine C_iconst (v := 3) hC dX10_init_16 (by decide) ?_
  refine C_anew (n := (3 : Int32)) (N := 3) hC w_29 (by decide) (by decide) (by decide) (by decide) dX10_init_17 (fun P4 e4 => ?_)
  rw [hN]
  replace hNb := hN
  replace hN : P4.1.1 = k + 33 := by rw [e4]; show P3.1.1 + 1 = _; rw [hN]
  replace hh_k : aHas P4 k 9 := by rw [e4]; exact aHas_NC hh_k
  replace hh_k_1 : aHas P4 (k + 1) 7 := by rw [e4]; exact aHas_NC hh_k_1
  replace hr_k_1_1 : aRI P4 (k + 1) 1 (g.1 + ((k + 1) + 10)) := by rw [e4]; exact aRI_NC (by rw [hNb]; omega) hr_k_1_1
  replace hr_k_0 : aRI P4 k 0 (g.1 + (k + 1)) := by rw [e4]; exact aRI_NC (by rw [hNb]; omega) hr_k_0
  refine C_putr (kf := 1) hC kX10 hh_k (by decide) (by decide) rfl rfl rfl ⟨rfl, rfl⟩ rfl w_306 dX10_init_20 (fun P5 e5 => ?_)
  replace hNb := hN
  replace hN : P5.1.1 = k + 33 := by rw [e5]; exact hN
  replace hh_k : aHas P5 k 9 := by rw [e5]; exact aHas_PR hh_k
  replace hh_k_1 : aHas P5 (k + 1) 7 := by rw [e5]; exact aHas_PR hh_k_1
  replace hr_k_1_1 : aRI P5 (k + 1) 1 (g.1 + ((k + 1) + 10)) := by rw [e5]; exact aRI_PR (Or.inl (by omega)) hr_k_1_1
  replace hr_k_0 : aRI P5 k 0 (g.1 + (k + 1)) := by rw [e5]; exact aRI_PR (Or.inr (by decide)) hr_k_0
  refine C_aload_n hC dX10_init_23 rfl ?_
  refine C_new hC kX5 (by decide) dfX5 w_195 w_196 w_7 (by decide) dX10_init_24 (fun P6 e6 => ?_)
  rw [hN]
  replace hNb := hN
  replace hN : P6.1.1 = k + 34 := by rw [e6]; show P5.1.1 + 1 = _; rw [hN]
  replace hh_k : aHas P6 k 9 := by rw [e6]; exact aHas_NC hh_k
  replace hh_k_1 : aHas P6 (k + 1) 7 := by rw [e6]; exact aHas_NC hh_k_1
  have hNo : P5.1.1 = (k + 33) := by have h9 : P6.1.1 = k + 34 := hN; rw [e6] at h9; have h8 : P5.1.1 + 1 = k + 34 := h9; omega
  replace hh_k_33 : aHas P6 (k + 33) 4 := by rw [e6, ← hNo]; exact aHas_new (S := (4, 0, fun _ => none))
  replace hr_k_1_1 : aRI P6 (k + 1) 1 (g.1 + ((k + 1) + 10)) := by rw [e6]; exact aRI_NC (by rw [hNb]; omega) hr_k_1_1
  replace hr_k_0 : aRI P6 k 0 (g.1 + (k + 1)) := by rw [e6]; exact aRI_NC (by rw [hNb]; omega) hr_k_0
  refine C_dup hC dX10_init_27 rfl ?_
  refine C_aload_n hC dX10_init_28 rfl ?_
  refine C_getr (kf := 0) hC kX10 hh_k (by decide) (by decide) rfl hr_k_0 w_305 dX10_init_29 ?_
  refine C_getr (kf := 1) hC kX8 hh_k_1 (by decide) (by decide) rfl hr_k_1_1 w_166 dX10_init_32 ?_
  refine C_init (n := 1) (As := [.ref (g.1 + ((k + 1) + 10))]) (st := [.ref (g.1 + (k + 33)), .ref (g.1 + k)]) (d2 := 2) (mc2 := 9) (ms2 := 329) (E2 := fI_X5_init g.1 (k + 33) (g.1 + ((k + 1) + 10)) P6) hC (fun l => mk_X5_init l (g.1, g.2.1, g.2.2.1, g.2.2.2.1, g.2.2.2.2.1, P6.1) (k + 33) (g.1 + ((k + 1) + 10)) P6.2 hh_k_33 (by rw [hN])) rfl (Or.inr w_197) w_198 w_7 w_199 (by decide +kernel) rfl rfl ⟨by decide, by decide⟩ (Nat.le_of_ble_eq_true rfl) (by decide) rfl dX10_init_35 (fun P7 e7 => ?_)
  replace hNb := hN
  replace hN : P7.1.1 = k + 43 := by rw [e7]; rw [fI_X5_init_N, hN]
  replace hh_k : aHas P7 k 9 := by rw [e7]; exact fI_X5_init_has hh_k
  replace hh_k_1 : aHas P7 (k + 1) 7 := by rw [e7]; exact fI_X5_init_has hh_k_1
  replace hh_k_33 : aHas P7 (k + 33) 4 := by rw [e7]; exact fI_X5_init_has hh_k_33
  refine C_putr (kf := 2) hC kX10 hh_k (by decide) (by decide) rfl rfl rfl ⟨rfl, rfl⟩ rfl w_307 dX10_init_38 (fun P8 e8 => ?_)
  replace hNb := hN
  replace hN : P8.1.1 = k + 43 := by rw [e8]; exact hN
  replace hh_k : aHas P8 k 9 := by rw [e8]; exact aHas_PR hh_k
  replace hh_k_1 : aHas P8 (k + 1) 7 := by rw [e8]; exact aHas_PR hh_k_1
  replace hh_k_33 : aHas P8 (k + 33) 4 := by rw [e8]; exact aHas_PR hh_k_33
  refine C_aload_n hC dX10_init_41 rfl ?_
  refine C_new hC kX4 (by decide) dfX4 w_231 w_232 w_8 (by decide) dX10_init_42 (fun P9 e9 => ?_)
  rw [hN]
  replace hNb := hN
  replace hN : P9.1.1 = k + 44 := by rw [e9]; show P8.1.1 + 1 = _; rw [hN]
  replace hh_k : aHas P9 k 9 := by rw [e9]; exact aHas_NC hh_k
  replace hh_k_1 : aHas P9 (k + 1) 7 := by rw [e9]; exact aHas_NC hh_k_1
  replace hh_k_33 : aHas P9 (k + 33) 4 := by rw [e9]; exact aHas_NC hh_k_33
  have hNo : P8.1.1 = (k + 43) := by have h9 : P9.1.1 = k + 44 := hN; rw [e9] at h9; have h8 : P8.1.1 + 1 = k + 44 := h9; omega
  replace hh_k_43 : aHas P9 (k + 43) 3 := by rw [e9, ← hNo]; exact aHas_new (S := (3, 0, fun _ => none))
  refine C_dup hC dX10_init_45 rfl ?_
  refine C_init (n := 0) (As := []) (st := [.ref (g.1 + (k + 43)), .ref (g.1 + k)]) (d2 := 1) (mc2 := 6) (ms2 := 168) (E2 := fI_X4_init g.1 (k + 43) P9) hC (fun l => mk_X4_init l (g.1, g.2.1, g.2.2.1, g.2.2.2.1, g.2.2.2.2.1, P9.1) (k + 43) P9.2 hh_k_43 (by rw [hN])) rfl (Or.inl ⟨by decide, rfl⟩) w_234 w_8 w_235 (by decide +kernel) rfl rfl ⟨by decide, by decide⟩ (Nat.le_of_ble_eq_true rfl) (by decide) rfl dX10_init_46 (fun P10 e10 => ?_)
  replace hNb := hN
  replace hN : P10.1.1 = k + 50 := by rw [e10]; rw [fI_X4_init_N, hN]
  replace hh_k : aHas P10 k 9 := by rw [e10]; exact fI_X4_init_has hh_k
  replace hh_k_1 : aHas P10 (k + 1) 7 := by rw [e10]; exact fI_X4_init_has hh_k_1
  replace hh_k_33 : aHas P10 (k + 33) 4 := by rw [e10]; exact fI_X4_init_has hh_k_33
  replace hh_k_43 : aHas P10 (k + 43) 3 := by rw [e10]; exact fI_X4_init_has hh_k_43
  refine C_putr (kf := 3) hC kX10 hh_k (by decide) (by decide) rfl rfl rfl ⟨rfl, rfl⟩ rfl w_308 dX10_init_49 (fun P11 e11 => ?_)
  replace hNb := hN
  replace hN : P11.1.1 = k + 50 := by rw [e11]; exact hN
  replace hh_k : aHas P11 k 9 := by rw [e11]; exact aHas_PR hh_k
  replace hh_k_1 : aHas P11 (k + 1) 7 := by rw [e11]; exact aHas_PR hh_k_1
  replace hh_k_33 : aHas P11 (k + 33) 4 := by rw [e11]; exact aHas_PR hh_k_33
  replace hh_k_43 : aHas P11 (k + 43) 3 := by rw [e11]; exact aHas_PR hh_k_43
  refine C_aload_n hC dX10_init_52 rfl ?_
  refine C_new hC kX7 (by decide) dfX7 w_266 w_267 w_9 (by decide) dX10_init_53 (fun P12 e12 => ?_)
  rw [hN]
  replace hNb := hN
  replace hN : P12.1.1 = k + 51 := by rw [e12]; show P11.1.1 + 1 = _; rw [hN]
  replace hh_k : aHas P12 k 9 := by rw [e12]; exact aHas_NC hh_k
  replace hh_k_1 : aHas P12 (k + 1) 7 := by rw [e12]; exact aHas_NC hh_k_1
  replace hh_k_33 : aHas P12 (k + 33) 4 := by rw [e12]; exact aHas_NC hh_k_33
  replace hh_k_43 : aHas P12 (k + 43) 3 := by rw [e12]; exact aHas_NC hh_k_43
  have hNo : P11.1.1 = (k + 50) := by have h9 : P12.1.1 = k + 51 := hN; rw [e12] at h9; have h8 : P11.1.1 + 1 = k + 51 := h9; omega
  replace hh_k_50 : aHas P12 (k + 50) 6 := by rw [e12, ← hNo]; exact aHas_new (S := (6, 0, fun _ => none))
  refine C_dup hC dX10_init_56 rfl ?_
  refine C_init (n := 0) (As := []) (st := [.ref (g.1 + (k + 50)), .ref (g.1 + k)]) (d2 := 1) (mc2 := 4) (ms2 := 2215) (E2 := fI_X7_init g.1 (k + 50) P12) hC (fun l => mk_X7_init l (g.1, g.2.1, g.2.2.1, g.2.2.2.1, g.2.2.2.2.1, P12.1) (k + 50) P12.2 hh_k_50 (by rw [hN])) rfl (Or.inl ⟨by decide, rfl⟩) w_269 w_9 w_270 (by decide +kernel) rfl rfl ⟨by decide, by decide⟩ (Nat.le_of_ble_eq_true rfl) (by decide) rfl dX10_init_57 (fun P13 e13 => ?_)
  replace hNb := hN
  replace hN : P13.1.1 = k + 55 := by rw [e13]; rw [fI_X7_init_N, hN]
  replace hh_k : aHas P13 k 9 := by rw [e13]; exact fI_X7_init_has hh_k
  replace hh_k_1 : aHas P13 (k + 1) 7 := by rw [e13]; exact fI_X7_init_has hh_k_1
  replace hh_k_33 : aHas P13 (k + 33) 4 := by rw [e13]; exact fI_X7_init_has hh_k_33
  replace hh_k_43 : aHas P13 (k + 43) 3 := by rw [e13]; exact fI_X7_init_has hh_k_43
  replace hh_k_50 : aHas P13 (k + 50) 6 := by rw [e13]; exact fI_X7_init_has hh_k_50
  refine C_putr (kf := 4) hC kX10 hh_k (by decide) (by decide) rfl rfl rfl ⟨rfl, rfl⟩ rfl w_309 dX10_init_60 (fun P14 e14 => ?_)
  replace hNb := hN
  replace hN : P14.1.1 = k + 55 := by rw [e14]; exact hN
  replace hh_k : aHas P14 k 9 := by rw [e14]; exact aHas_PR hh_k
  replace hh_k_1 : aHas P14 (k + 1) 7 := by rw [e14]; exact aHas_PR hh_k_1
  replace hh_k_33 : aHas P14 (k + 33) 4 := by rw [e14]; exact aHas_PR hh_k_33
  replace hh_k_43 : aHas P14 (k + 43) 3 := by rw [e14]; exact aHas_PR hh_k_43
  replace hh_k_50 : aHas P14 (k + 50) 6 := by rw [e14]; exact aHas_PR hh_k_50
  refine C_aload_n hC dX10_init_63 rfl ?_
  refine C_new hC kX3 (by decide) dfX3 w_294 w_295 w_10 (by decide) dX10_init_64 (fun P15 e15 => ?_)
  rw [hN]
  replace hNb := hN
  replace hN : P15.1.1 = k + 56 := by rw [e15]; show P14.1.1 + 1 = _; rw [hN]
  replace hh_k : aHas P15 k 9 := by rw [e15]; exact aHas_NC hh_k
  replace hh_k_1 : aHas P15 (k + 1) 7 := by rw [e15]; exact aHas_NC hh_k_1
  replace hh_k_33 : aHas P15 (k + 33) 4 := by rw [e15]; exact aHas_NC hh_k_33
  replace hh_k_43 : aHas P15 (k + 43) 3 := by rw [e15]; exact aHas_NC hh_k_43
  replace hh_k_50 : aHas P15 (k + 50) 6 := by rw [e15]; exact aHas_NC hh_k_50
  have hNo : P14.1.1 = (k + 55) := by have h9 : P15.1.1 = k + 56 := hN; rw [e15] at h9; have h8 : P14.1.1 + 1 = k + 56 := h9; omega
  replace hh_k_55 : aHas P15 (k + 55) 2 := by rw [e15, ← hNo]; exact aHas_new (S := (2, 0, fun _ => none))
  refine C_dup hC dX10_init_67 rfl ?_
  refine C_init (n := 0) (As := []) (st := [.ref (g.1 + (k + 55)), .ref (g.1 + k)]) (d2 := 1) (mc2 := 1) (ms2 := 33) (E2 := fI_X3_init g.1 (k + 55) P15) hC (fun l => mk_X3_init l (g.1, g.2.1, g.2.2.1, g.2.2.2.1, g.2.2.2.2.1, P15.1) (k + 55) P15.2 hh_k_55 (by rw [hN])) rfl (Or.inl ⟨by decide, rfl⟩) w_297 w_10 w_298 (by decide +kernel) rfl rfl ⟨by decide, by decide⟩ (Nat.le_of_ble_eq_true rfl) (by decide) rfl dX10_init_68 (fun P16 e16 => ?_)
  replace hNb := hN
  replace hN : P16.1.1 = k + 57 := by rw [e16]; rw [fI_X3_init_N, hN]
  replace hh_k : aHas P16 k 9 := by rw [e16]; exact fI_X3_init_has hh_k
  replace hh_k_1 : aHas P16 (k + 1) 7 := by rw [e16]; exact fI_X3_init_has hh_k_1
  replace hh_k_33 : aHas P16 (k + 33) 4 := by rw [e16]; exact fI_X3_init_has hh_k_33
  replace hh_k_43 : aHas P16 (k + 43) 3 := by rw [e16]; exact fI_X3_init_has hh_k_43
  replace hh_k_50 : aHas P16 (k + 50) 6 := by rw [e16]; exact fI_X3_init_has hh_k_50
  replace hh_k_55 : aHas P16 (k + 55) 2 := by rw [e16]; exact fI_X3_init_has hh_k_55
  refine C_putr (kf := 5) hC kX10 hh_k (by decide) (by decide) rfl rfl rfl ⟨rfl, rfl⟩ rfl w_310 dX10_init_71 (fun P17 e17 => ?_)
  replace hNb := hN
  replace hN : P17.1.1 = k + 57 := by rw [e17]; exact hN
  replace hh_k : aHas P17 k 9 := by rw [e17]; exact aHas_PR hh_k
  replace hh_k_1 : aHas P17 (k + 1) 7 := by rw [e17]; exact aHas_PR hh_k_1
  replace hh_k_33 : aHas P17 (k + 33) 4 := by rw [e17]; exact aHas_PR hh_k_33
  replace hh_k_43 : aHas P17 (k + 43) 3 := by rw [e17]; exact aHas_PR hh_k_43
  replace hh_k_50 : aHas P17 (k + 50) 6 := by rw [e17]; exact aHas_PR hh_k_50
  replace hh_k_55 : aHas P17 (k + 55) 2 := by rw [e17]; exact aHas_PR hh_k_55
  refine C_aload_n hC dX10_init_74 rfl ?_
  refine C_bipush (v := 8) hC dX10_init_75 (by decide) ?_
  refine C_newai (n := (8 : Int32)) (N := 8) hC w_86 (by decide) (by decide) (by decide) (by decide) dX10_init_77 (fun P18 e18 => ?_)
  rw [hN]
  replace hNb := hN
  replace hN : P18.1.1 = k + 58 := by rw [e18]; show P17.1.1 + 1 = _; rw [hN]
  replace hh_k : aHas P18 k 9 := by rw [e18]; exact aHas_NC hh_k
  replace hh_k_1 : aHas P18 (k + 1) 7 := by rw [e18]; exact aHas_NC hh_k_1
  replace hh_k_33 : aHas P18 (k + 33) 4 := by rw [e18]; exact aHas_NC hh_k_33
  replace hh_k_43 : aHas P18 (k + 43) 3 := by rw [e18]; exact aHas_NC hh_k_43
  replace hh_k_50 : aHas P18 (k + 50) 6 := by rw [e18]; exact aHas_NC hh_k_50
  replace hh_k_55 : aHas P18 (k + 55) 2 := by rw [e18]; exact aHas_NC hh_k_55
  refine C_putr (kf := 6) hC kX10 hh_k (by decide) (by decide) rfl rfl rfl ⟨rfl, rfl⟩ rfl w_311 dX10_init_79 (fun P19 e19 => ?_)
  replace hNb := hN
  replace hN : P19.1.1 = k + 58 := by rw [e19]; exact hN
  replace hh_k : aHas P19 k 9 := by rw [e19]; exact aHas_PR hh_k
  replace hh_k_1 : aHas P19 (k + 1) 7 := by rw [e19]; exact aHas_PR hh_k_1
  replace hh_k_33 : aHas P19 (k + 33) 4 := by rw [e19]; exact aHas_PR hh_k_33
  replace hh_k_43 : aHas P19 (k + 43) 3 := by rw [e19]; exact aHas_PR hh_k_43
  replace hh_k_50 : aHas P19 (k + 50) 6 := by rw [e19]; exact aHas_PR hh_k_50
  replace hh_k_55 : aHas P19 (k + 55) 2 := by rw [e19]; exact aHas_PR hh_k_55
  exact C_vret hC (by subst e1 e2 e3 e4 e5 e6 e7 e8 e9 e10 e11 e12 e13 e14 e15 e16 e17 e18 e19; rfl) ⟨rfl, rfl⟩ rfl dX10_init_82
def fI_X11_init (n0 k : Nat) (P0 : APD) : APD :=
  let P1 := aNA P0 13 2000
  let P2 := aPR P1 k 1 (n0 + (k + 1))
  let P3 := aNA P2 11 4
  let P4 := aPR P3 k 2 (n0 + (k + 2))
  let P5 := aNA P4 11 4
  let P6 := aPR P5 k 3 (n0 + (k + 3))
  let P7 := aNA P6 11 4
  let P8 := aPR P7 k 4 (n0 + (k + 4))
  let P9 := aNA P8 11 4
  let P10 := aPR P9 k 5 (n0 + (k + 5))
  let P11 := aNA P10 11 4
  let P12 := aPR P11 k 6 (n0 + (k + 6))
  let P13 := aNA P12 11 4
  let P14 := aPR P13 k 7 (n0 + (k + 7))
  let P15 := aNA P14 11 4
  let P16 := aPR P15 k 8 (n0 + (k + 8))
  let P17 := aNA P16 11 6400
  let P18 := aPR P17 k 9 (n0 + (k + 9))
  let P19 := aNA P18 11 384
  let P20 := aPR P19 k 10 (n0 + (k + 10))
  let P21 := aNA P20 11 4
  let P22 := aPR P21 k 11 (n0 + (k + 11))
  let P23 := aNA P22 11 4
  let P24 := aPR P23 k 12 (n0 + (k + 12))
  let P25 := aNA P24 11 8
  let P26 := aPR P25 k 13 (n0 + (k + 13))
  let P27 := aNA P26 11 4
  let P28 := aPR P27 k 14 (n0 + (k + 14))
  let P29 := aNA P28 11 8
  let P30 := aPR P29 k 15 (n0 + (k + 15))
  let P31 := aNA P30 11 128
  let P32 := aPR P31 k 16 (n0 + (k + 16))
  let P33 := aNA P32 11 512
  let P34 := aPR P33 k 17 (n0 + (k + 17))
  let P35 := aNA P34 11 512
  let P36 := aPR P35 k 18 (n0 + (k + 18))
  let P37 := aNA P36 11 512
  let P38 := aPR P37 k 19 (n0 + (k + 19))
  let P39 := aNA P38 11 128
  let P40 := aPR P39 k 20 (n0 + (k + 20))
  let P41 := aNA P40 11 128
  let P42 := aPR P41 k 21 (n0 + (k + 21))
  let P43 := aNA P42 11 128
  let P44 := aPR P43 k 22 (n0 + (k + 22))
  let P45 := aNA P44 11 17
  let P46 := aPR P45 k 33 (n0 + (k + 23))
  let P47 := aNA P46 11 64
  let P48 := aPR P47 k 34 (n0 + (k + 24))
  let P49 := aNA P48 11 64
  let P50 := aPR P49 k 35 (n0 + (k + 25))
  let P51 := aNA P50 11 64
  let P52 := aPR P51 k 36 (n0 + (k + 26))
  let P53 := aNA P52 11 17
  let P54 := aPR P53 k 37 (n0 + (k + 27))
  let P55 := aNA P54 11 17
  let P56 := aPR P55 k 38 (n0 + (k + 28))
  let P57 := aNA P56 11 17
  let P58 := aPR P57 k 39 (n0 + (k + 29))
  let P59 := aNA P58 11 8
  let P60 := aPR P59 k 40 (n0 + (k + 30))
  let P61 := aNA P60 14 32
  let P62 := aPR P61 k 42 (n0 + (k + 31))
  let P63 := aNA P62 11 352
  let P64 := aPR P63 k 43 (n0 + (k + 32))
  let P65 := aNA P64 11 32
  let P66 := aPR P65 k 44 (n0 + (k + 33))
  let P67 := aNA P66 11 32
  let P68 := aPR P67 k 45 (n0 + (k + 34))
  let P69 := aNA P68 14 32
  let P70 := aPR P69 k 46 (n0 + (k + 35))
  let P71 := aNA P70 11 301
  let P72 := aPR P71 k 47 (n0 + (k + 36))
  let P73 := aNA P72 12 33
  let P74 := aPR P73 k 48 (n0 + (k + 37))
  let P75 := aNA P74 14 32
  let P76 := aPR P75 k 49 (n0 + (k + 38))
  let P77 := aNA P76 14 3
  let P78 := aPR P77 k 50 (n0 + (k + 39))
  let P79 := aPI P78 (k + 4) 0 (-1 : Int32)
  let P80 := aPI P79 (k + 7) 0 (-1 : Int32)
  let P81 := aPI P80 (k + 11) 0 (63 : Int32)
  let P82 := aPI P81 (k + 12) 0 (31 : Int32)
  let P83 := aPI P82 (k + 13) 0 (-3000 : Int32)
  let P84 := aPI P83 (k + 13) 1 (1900 : Int32)
  P84
theorem fI_X11_init_N {n0 k : Nat} {P0 : APD} : (fI_X11_init n0 k P0).1.1 = P0.1.1 + 39 := rfl
theorem fI_X11_init_has {n0 k : Nat} {P0 : APD} {q c : Nat} (h : aHas P0 q c) : aHas (fI_X11_init n0 k P0) q c := aHas_PI (aHas_PI (aHas_PI (aHas_PI (aHas_PI (aHas_PI (aHas_PR (aHas_NC (aHas_PR (aHas_NC (aHas_PR (aHas_NC (aHas_PR (aHas_NC (aHas_PR (aHas_NC (aHas_PR (aHas_NC (aHas_PR (aHas_NC (aHas_PR (aHas_NC (aHas_PR (aHas_NC (aHas_PR (aHas_NC (aHas_PR (aHas_NC (aHas_PR (aHas_NC (aHas_PR (aHas_NC (aHas_PR (aHas_NC (aHas_PR (aHas_NC (aHas_PR (aHas_NC (aHas_PR (aHas_NC (aHas_PR (aHas_NC (aHas_PR (aHas_NC (aHas_PR (aHas_NC (aHas_PR (aHas_NC (aHas_PR (aHas_NC (aHas_PR (aHas_NC (aHas_PR (aHas_NC (aHas_PR (aHas_NC (aHas_PR (aHas_NC (aHas_PR (aHas_NC (aHas_PR (aHas_NC (aHas_PR (aHas_NC (aHas_PR (aHas_NC (aHas_PR (aHas_NC (aHas_PR (aHas_NC (aHas_PR (aHas_NC (aHas_PR (aHas_NC (aHas_PR (aHas_NC (aHas_PR (aHas_NC (aHas_PR (aHas_NC (aHas_PR (aHas_NC (aHas_PR (aHas_NC (h))))))))))))))))))))))))))))))))))))))))))))))))))))))))))))))))))))))))))))))))))))
set_option maxHeartbeats 4000000 in
set_option maxRecDepth 100000 in
theorem mk_X11_init (l : Launch) (g : AGl) (k : Nat) (D : ADD) (h : aHas (g.2.2.2.2.2, D) k 10) (hN0 : g.2.2.2.2.2.1 = k + 1) : AMk l yX11_init cX11_init 1 none 1 39 12005 g [.ref (g.1 + k)] D none (fI_X11_init g.1 k (g.2.2.2.2.2, D)) := by
  refine AMk_of (lv0 := [some (.ref (g.1 + k))]) (own := RX11) (nm := "<init>") (by decide +kernel) rfl rfl (Nat.le_of_ble_eq_true rfl) rfl (fun b hC => ?_)
  generalize hP0 : ((g.2.2.2.2.2, D) : APD) = P0 at h ⊢
  have hN0 : P0.1.1 = k + 1 := by rw [← hP0]; exact hN0
  replace hh_k : aHas P0 k 10 := h
  replace hN : P0.1.1 = k + 1 := hN0
  refine C_aload_n hC dX11_init_0 rfl ?_
  refine C_objInit hC dX11_init_1 w_1002 w_27 w_28 rfl (by decide) (Nat.le_of_ble_eq_true rfl) ?_
  refine C_aload_n hC dX11_init_4 rfl ?_
  refine C_sipush (v := 2000) hC dX11_init_5 (by decide) ?_
  refine C_newab (n := (2000 : Int32)) (N := 2000) hC w_101 (by decide) (by decide) (by decide) (by decide) dX11_init_8 (fun P1 e1 => ?_)
  rw [hN]
  replace hNb := hN
  replace hN : P1.1.1 = k + 2 := by rw [e1]; show P0.1.1 + 1 = _; rw [hN]
  replace hh_k : aHas P1 k 10 := by rw [e1]; exact aHas_NC hh_k
  refine C_putr (kf := 1) hC kX11 hh_k (by decide) (by decide) rfl rfl rfl ⟨rfl, rfl⟩ rfl w_1004 dX11_init_10 (fun P2 e2 => ?_)
  replace hNb := hN
  replace hN : P2.1.1 = k + 2 := by rw [e2]; exact hN
  replace hh_k : aHas P2 k 10 := by rw [e2]; exact aHas_PR hh_k
  refine C_aload_n hC dX11_init_13 rfl ?_
  refine C_iconst (v := 4) hC dX11_init_14 (by decide) ?_
  refine C_newai (n := (4 : Int32)) (N := 4) hC w_86 (by decide) (by decide) (by decide) (by decide) dX11_init_15 (fun P3 e3 => ?_)
  rw [hN]
  replace hNb := hN
  replace hN : P3.1.1 = k + 3 := by rw [e3]; show P2.1.1 + 1 = _; rw [hN]
  replace hh_k : aHas P3 k 10 := by rw [e3]; exact aHas_NC hh_k
  refine C_putr (kf := 2) hC kX11 hh_k (by decide) (by decide) rfl rfl rfl ⟨rfl, rfl⟩ rfl w_1005 dX11_init_17 (fun P4 e4 => ?_)
  replace hNb := hN
  replace hN : P4.1.1 = k + 3 := by rw [e4]; exact hN
  replace hh_k : aHas P4 k 10 := by rw [e4]; exact aHas_PR hh_k
  refine C_aload_n hC dX11_init_20 rfl ?_
  refine C_iconst (v := 4) hC dX11_init_21 (by decide) ?_
  refine C_newai (n := (4 : Int32)) (N := 4) hC w_86 (by decide) (by decide) (by decide) (by decide) dX11_init_22 (fun P5 e5 => ?_)
  rw [hN]
  replace hNb := hN
  replace hN : P5.1.1 = k + 4 := by rw [e5]; show P4.1.1 + 1 = _; rw [hN]
  replace hh_k : aHas P5 k 10 := by rw [e5]; exact aHas_NC hh_k
  refine C_putr (kf := 3) hC kX11 hh_k (by decide) (by decide) rfl rfl rfl ⟨rfl, rfl⟩ rfl w_1006 dX11_init_24 (fun P6 e6 => ?_)
  replace hNb := hN
  replace hN : P6.1.1 = k + 4 := by rw [e6]; exact hN
  replace hh_k : aHas P6 k 10 := by rw [e6]; exact aHas_PR hh_k
  refine C_aload_n hC dX11_init_27 rfl ?_
  refine C_iconst (v := 4) hC dX11_init_28 (by decide) ?_
  refine C_newai (n := (4 : Int32)) (N := 4) hC w_86 (by decide) (by decide) (by decide) (by decide) dX11_init_29 (fun P7 e7 => ?_)
  rw [hN]
  replace hNb := hN
  replace hN : P7.1.1 = k + 5 := by rw [e7]; show P6.1.1 + 1 = _; rw [hN]
  replace hh_k : aHas P7 k 10 := by rw [e7]; exact aHas_NC hh_k
  replace ha_k_4 : aAr P7 (k + 4) 11 4 := by rw [e7]; exact aAr_new hNb
  refine C_putr (kf := 4) hC kX11 hh_k (by decide) (by decide) rfl rfl rfl ⟨rfl, rfl⟩ rfl w_1007 dX11_init_31 (fun P8 e8 => ?_)
  replace hNb := hN
  replace ha_k_4 : aAr P8 (k + 4) 11 4 := by rw [e8]; exact aAr_PR (by omega) ha_k_4
  replace hN : P8.1.1 = k + 5 := by rw [e8]; exact hN
  replace hh_k : aHas P8 k 10 := by rw [e8]; exact aHas_PR hh_k
  replace hr_k_4 : aRI P8 k 4 (g.1 + (k + 4)) := by rw [e8]; exact aRI_self
  refine C_aload_n hC dX11_init_34 rfl ?_
  refine C_iconst (v := 4) hC dX11_init_35 (by decide) ?_
  refine C_newai (n := (4 : Int32)) (N := 4) hC w_86 (by decide) (by decide) (by decide) (by decide) dX11_init_36 (fun P9 e9 => ?_)
  rw [hN]
  replace hNb := hN
  replace ha_k_4 : aAr P9 (k + 4) 11 4 := by rw [e9]; exact aAr_NC ha_k_4
  replace hN : P9.1.1 = k + 6 := by rw [e9]; show P8.1.1 + 1 = _; rw [hN]
  replace hh_k : aHas P9 k 10 := by rw [e9]; exact aHas_NC hh_k
  replace hr_k_4 : aRI P9 k 4 (g.1 + (k + 4)) := by rw [e9]; exact aRI_NC (by rw [hNb]; omega) hr_k_4
  refine C_putr (kf := 5) hC kX11 hh_k (by decide) (by decide) rfl rfl rfl ⟨rfl, rfl⟩ rfl w_1008 dX11_init_38 (fun P10 e10 => ?_)
  replace hNb := hN
  replace ha_k_4 : aAr P10 (k + 4) 11 4 := by rw [e10]; exact aAr_PR (by omega) ha_k_4
  replace hN : P10.1.1 = k + 6 := by rw [e10]; exact hN
  replace hh_k : aHas P10 k 10 := by rw [e10]; exact aHas_PR hh_k
  replace hr_k_4 : aRI P10 k 4 (g.1 + (k + 4)) := by rw [e10]; exact aRI_PR (Or.inr (by decide)) hr_k_4
  refine C_aload_n hC dX11_init_41 rfl ?_
  refine C_iconst (v := 4) hC dX11_init_42 (by decide) ?_
  refine C_newai (n := (4 : Int32)) (N := 4) hC w_86 (by decide) (by decide) (by decide) (by decide) dX11_init_43 (fun P11 e11 => ?_)
  rw [hN]
  replace hNb := hN
  replace ha_k_4 : aAr P11 (k + 4) 11 4 := by rw [e11]; exact aAr_NC ha_k_4
  replace hN : P11.1.1 = k + 7 := by rw [e11]; show P10.1.1 + 1 = _; rw [hN]
  replace hh_k : aHas P11 k 10 := by rw [e11]; exact aHas_NC hh_k
  replace hr_k_4 : aRI P11 k 4 (g.1 + (k + 4)) := by rw [e11]; exact aRI_NC (by rw [hNb]; omega) hr_k_4
  refine C_putr (kf := 6) hC kX11 hh_k (by decide) (by decide) rfl rfl rfl ⟨rfl, rfl⟩ rfl w_1009 dX11_init_45 (fun P12 e12 => ?_)
  replace hNb := hN
  replace ha_k_4 : aAr P12 (k + 4) 11 4 := by rw [e12]; exact aAr_PR (by omega) ha_k_4
  replace hN : P12.1.1 = k + 7 := by rw [e12]; exact hN
  replace hh_k : aHas P12 k 10 := by rw [e12]; exact aHas_PR hh_k
  replace hr_k_4 : aRI P12 k 4 (g.1 + (k + 4)) := by rw [e12]; exact aRI_PR (Or.inr (by decide)) hr_k_4
  refine C_aload_n hC dX11_init_48 rfl ?_
  refine C_iconst (v := 4) hC dX11_init_49 (by decide) ?_
  refine C_newai (n := (4 : Int32)) (N := 4) hC w_86 (by decide) (by decide) (by decide) (by decide) dX11_init_50 (fun P13 e13 => ?_)
  rw [hN]
  replace hNb := hN
  replace ha_k_4 : aAr P13 (k + 4) 11 4 := by rw [e13]; exact aAr_NC ha_k_4
  replace hN : P13.1.1 = k + 8 := by rw [e13]; show P12.1.1 + 1 = _; rw [hN]
  replace hh_k : aHas P13 k 10 := by rw [e13]; exact aHas_NC hh_k
  replace hr_k_4 : aRI P13 k 4 (g.1 + (k + 4)) := by rw [e13]; exact aRI_NC (by rw [hNb]; omega) hr_k_4
  replace ha_k_7 : aAr P13 (k + 7) 11 4 := by rw [e13]; exact aAr_new hNb
  refine C_putr (kf := 7) hC kX11 hh_k (by decide) (by decide) rfl rfl rfl ⟨rfl, rfl⟩ rfl w_1010 dX11_init_52 (fun P14 e14 => ?_)
  replace hNb := hN
  replace ha_k_4 : aAr P14 (k + 4) 11 4 := by rw [e14]; exact aAr_PR (by omega) ha_k_4
  replace ha_k_7 : aAr P14 (k + 7) 11 4 := by rw [e14]; exact aAr_PR (by omega) ha_k_7
  replace hN : P14.1.1 = k + 8 := by rw [e14]; exact hN
  replace hh_k : aHas P14 k 10 := by rw [e14]; exact aHas_PR hh_k
  replace hr_k_4 : aRI P14 k 4 (g.1 + (k + 4)) := by rw [e14]; exact aRI_PR (Or.inr (by decide)) hr_k_4
  replace hr_k_7 : aRI P14 k 7 (g.1 + (k + 7)) := by rw [e14]; exact aRI_self
  refine C_aload_n hC dX11_init_55 rfl ?_
  refine C_iconst (v := 4) hC dX11_init_56 (by decide) ?_
  refine C_newai (n := (4 : Int32)) (N := 4) hC w_86 (by decide) (by decide) (by decide) (by decide) dX11_init_57 (fun P15 e15 => ?_)
  rw [hN]
  replace hNb := hN
  replace ha_k_4 : aAr P15 (k + 4) 11 4 := by rw [e15]; exact aAr_NC ha_k_4
  replace ha_k_7 : aAr P15 (k + 7) 11 4 := by rw [e15]; exact aAr_NC ha_k_7
  replace hN : P15.1.1 = k + 9 := by rw [e15]; show P14.1.1 + 1 = _; rw [hN]
  replace hh_k : aHas P15 k 10 := by rw [e15]; exact aHas_NC hh_k
  replace hr_k_4 : aRI P15 k 4 (g.1 + (k + 4)) := by rw [e15]; exact aRI_NC (by rw [hNb]; omega) hr_k_4
  replace hr_k_7 : aRI P15 k 7 (g.1 + (k + 7)) := by rw [e15]; exact aRI_NC (by rw [hNb]; omega) hr_k_7
  refine C_putr (kf := 8) hC kX11 hh_k (by decide) (by decide) rfl rfl rfl ⟨rfl, rfl⟩ rfl w_1011 dX11_init_59 (fun P16 e16 => ?_)
  replace hNb := hN
  replace ha_k_4 : aAr P16 (k + 4) 11 4 := by rw [e16]; exact aAr_PR (by omega) ha_k_4
  replace ha_k_7 : aAr P16 (k + 7) 11 4 := by rw [e16]; exact aAr_PR (by omega) ha_k_7
  replace hN : P16.1.1 = k + 9 := by rw [e16]; exact hN
  replace hh_k : aHas P16 k 10 := by rw [e16]; exact aHas_PR hh_k
  replace hr_k_4 : aRI P16 k 4 (g.1 + (k + 4)) := by rw [e16]; exact aRI_PR (Or.inr (by decide)) hr_k_4
  replace hr_k_7 : aRI P16 k 7 (g.1 + (k + 7)) := by rw [e16]; exact aRI_PR (Or.inr (by decide)) hr_k_7
  refine C_aload_n hC dX11_init_62 rfl ?_
  refine C_sipush (v := 6400) hC dX11_init_63 (by decide) ?_
  refine C_newai (n := (6400 : Int32)) (N := 6400) hC w_86 (by decide) (by decide) (by decide) (by decide) dX11_init_66 (fun P17 e17 => ?_)
  rw [hN]
  replace hNb := hN
  replace ha_k_4 : aAr P17 (k + 4) 11 4 := by rw [e17]; exact aAr_NC ha_k_4
  replace ha_k_7 : aAr P17 (k + 7) 11 4 := by rw [e17]; exact aAr_NC ha_k_7
  replace hN : P17.1.1 = k + 10 := by rw [e17]; show P16.1.1 + 1 = _; rw [hN]
  replace hh_k : aHas P17 k 10 := by rw [e17]; exact aHas_NC hh_k
  replace hr_k_4 : aRI P17 k 4 (g.1 + (k + 4)) := by rw [e17]; exact aRI_NC (by rw [hNb]; omega) hr_k_4
  replace hr_k_7 : aRI P17 k 7 (g.1 + (k + 7)) := by rw [e17]; exact aRI_NC (by rw [hNb]; omega) hr_k_7
  refine C_putr (kf := 9) hC kX11 hh_k (by decide) (by decide) rfl rfl rfl ⟨rfl, rfl⟩ rfl w_1012 dX11_init_68 (fun P18 e18 => ?_)
  replace hNb := hN
  replace ha_k_4 : aAr P18 (k + 4) 11 4 := by rw [e18]; exact aAr_PR (by omega) ha_k_4
  replace ha_k_7 : aAr P18 (k + 7) 11 4 := by rw [e18]; exact aAr_PR (by omega) ha_k_7
  replace hN : P18.1.1 = k + 10 := by rw [e18]; exact hN
  replace hh_k : aHas P18 k 10 := by rw [e18]; exact aHas_PR hh_k
  replace hr_k_4 : aRI P18 k 4 (g.1 + (k + 4)) := by rw [e18]; exact aRI_PR (Or.inr (by decide)) hr_k_4
  replace hr_k_7 : aRI P18 k 7 (g.1 + (k + 7)) := by rw [e18]; exact aRI_PR (Or.inr (by decide)) hr_k_7
  refine C_aload_n hC dX11_init_71 rfl ?_
  refine C_sipush (v := 384) hC dX11_init_72 (by decide) ?_
  refine C_newai (n := (384 : Int32)) (N := 384) hC w_86 (by decide) (by decide) (by decide) (by decide) dX11_init_75 (fun P19 e19 => ?_)
  rw [hN]
  replace hNb := hN
  replace ha_k_4 : aAr P19 (k + 4) 11 4 := by rw [e19]; exact aAr_NC ha_k_4
  replace ha_k_7 : aAr P19 (k + 7) 11 4 := by rw [e19]; exact aAr_NC ha_k_7
  replace hN : P19.1.1 = k + 11 := by rw [e19]; show P18.1.1 + 1 = _; rw [hN]
  replace hh_k : aHas P19 k 10 := by rw [e19]; exact aHas_NC hh_k
  replace hr_k_4 : aRI P19 k 4 (g.1 + (k + 4)) := by rw [e19]; exact aRI_NC (by rw [hNb]; omega) hr_k_4
  replace hr_k_7 : aRI P19 k 7 (g.1 + (k + 7)) := by rw [e19]; exact aRI_NC (by rw [hNb]; omega) hr_k_7
  refine C_putr (kf := 10) hC kX11 hh_k (by decide) (by decide) rfl rfl rfl ⟨rfl, rfl⟩ rfl w_1013 dX11_init_77 (fun P20 e20 => ?_)
  replace hNb := hN
  replace ha_k_4 : aAr P20 (k + 4) 11 4 := by rw [e20]; exact aAr_PR (by omega) ha_k_4
  replace ha_k_7 : aAr P20 (k + 7) 11 4 := by rw [e20]; exact aAr_PR (by omega) ha_k_7
  replace hN : P20.1.1 = k + 11 := by rw [e20]; exact hN
  replace hh_k : aHas P20 k 10 := by rw [e20]; exact aHas_PR hh_k
  replace hr_k_4 : aRI P20 k 4 (g.1 + (k + 4)) := by rw [e20]; exact aRI_PR (Or.inr (by decide)) hr_k_4
  replace hr_k_7 : aRI P20 k 7 (g.1 + (k + 7)) := by rw [e20]; exact aRI_PR (Or.inr (by decide)) hr_k_7
  refine C_aload_n hC dX11_init_80 rfl ?_
  refine C_iconst (v := 4) hC dX11_init_81 (by decide) ?_
  refine C_newai (n := (4 : Int32)) (N := 4) hC w_86 (by decide) (by decide) (by decide) (by decide) dX11_init_82 (fun P21 e21 => ?_)
  rw [hN]
  replace hNb := hN
  replace ha_k_4 : aAr P21 (k + 4) 11 4 := by rw [e21]; exact aAr_NC ha_k_4
  replace ha_k_7 : aAr P21 (k + 7) 11 4 := by rw [e21]; exact aAr_NC ha_k_7
  replace hN : P21.1.1 = k + 12 := by rw [e21]; show P20.1.1 + 1 = _; rw [hN]
  replace hh_k : aHas P21 k 10 := by rw [e21]; exact aHas_NC hh_k
  replace hr_k_4 : aRI P21 k 4 (g.1 + (k + 4)) := by rw [e21]; exact aRI_NC (by rw [hNb]; omega) hr_k_4
  replace hr_k_7 : aRI P21 k 7 (g.1 + (k + 7)) := by rw [e21]; exact aRI_NC (by rw [hNb]; omega) hr_k_7
  replace ha_k_11 : aAr P21 (k + 11) 11 4 := by rw [e21]; exact aAr_new hNb
  refine C_putr (kf := 11) hC kX11 hh_k (by decide) (by decide) rfl rfl rfl ⟨rfl, rfl⟩ rfl w_1014 dX11_init_84 (fun P22 e22 => ?_)
  replace hNb := hN
  replace ha_k_4 : aAr P22 (k + 4) 11 4 := by rw [e22]; exact aAr_PR (by omega) ha_k_4
  replace ha_k_7 : aAr P22 (k + 7) 11 4 := by rw [e22]; exact aAr_PR (by omega) ha_k_7
  replace ha_k_11 : aAr P22 (k + 11) 11 4 := by rw [e22]; exact aAr_PR (by omega) ha_k_11
  replace hN : P22.1.1 = k + 12 := by rw [e22]; exact hN
  replace hh_k : aHas P22 k 10 := by rw [e22]; exact aHas_PR hh_k
  replace hr_k_4 : aRI P22 k 4 (g.1 + (k + 4)) := by rw [e22]; exact aRI_PR (Or.inr (by decide)) hr_k_4
  replace hr_k_7 : aRI P22 k 7 (g.1 + (k + 7)) := by rw [e22]; exact aRI_PR (Or.inr (by decide)) hr_k_7
  replace hr_k_11 : aRI P22 k 11 (g.1 + (k + 11)) := by rw [e22]; exact aRI_self
  refine C_aload_n hC dX11_init_87 rfl ?_
  refine C_iconst (v := 4) hC dX11_init_88 (by decide) ?_
  refine C_newai (n := (4 : Int32)) (N := 4) hC w_86 (by decide) (by decide) (by decide) (by decide) dX11_init_89 (fun P23 e23 => ?_)
  rw [hN]
  replace hNb := hN
  replace ha_k_4 : aAr P23 (k + 4) 11 4 := by rw [e23]; exact aAr_NC ha_k_4
  replace ha_k_7 : aAr P23 (k + 7) 11 4 := by rw [e23]; exact aAr_NC ha_k_7
  replace ha_k_11 : aAr P23 (k + 11) 11 4 := by rw [e23]; exact aAr_NC ha_k_11
  replace hN : P23.1.1 = k + 13 := by rw [e23]; show P22.1.1 + 1 = _; rw [hN]
  replace hh_k : aHas P23 k 10 := by rw [e23]; exact aHas_NC hh_k
  replace hr_k_4 : aRI P23 k 4 (g.1 + (k + 4)) := by rw [e23]; exact aRI_NC (by rw [hNb]; omega) hr_k_4
  replace hr_k_7 : aRI P23 k 7 (g.1 + (k + 7)) := by rw [e23]; exact aRI_NC (by rw [hNb]; omega) hr_k_7
  replace hr_k_11 : aRI P23 k 11 (g.1 + (k + 11)) := by rw [e23]; exact aRI_NC (by rw [hNb]; omega) hr_k_11
  replace ha_k_12 : aAr P23 (k + 12) 11 4 := by rw [e23]; exact aAr_new hNb
  refine C_putr (kf := 12) hC kX11 hh_k (by decide) (by decide) rfl rfl rfl ⟨rfl, rfl⟩ rfl w_1015 dX11_init_91 (fun P24 e24 => ?_)
  replace hNb := hN
  replace ha_k_4 : aAr P24 (k + 4) 11 4 := by rw [e24]; exact aAr_PR (by omega) ha_k_4
  replace ha_k_7 : aAr P24 (k + 7) 11 4 := by rw [e24]; exact aAr_PR (by omega) ha_k_7
  replace ha_k_11 : aAr P24 (k + 11) 11 4 := by rw [e24]; exact aAr_PR (by omega) ha_k_11
  replace ha_k_12 : aAr P24 (k + 12) 11 4 := by rw [e24]; exact aAr_PR (by omega) ha_k_12
  replace hN : P24.1.1 = k + 13 := by rw [e24]; exact hN
  replace hh_k : aHas P24 k 10 := by rw [e24]; exact aHas_PR hh_k
  replace hr_k_4 : aRI P24 k 4 (g.1 + (k + 4)) := by rw [e24]; exact aRI_PR (Or.inr (by decide)) hr_k_4
  replace hr_k_7 : aRI P24 k 7 (g.1 + (k + 7)) := by rw [e24]; exact aRI_PR (Or.inr (by decide)) hr_k_7
  replace hr_k_11 : aRI P24 k 11 (g.1 + (k + 11)) := by rw [e24]; exact aRI_PR (Or.inr (by decide)) hr_k_11
  replace hr_k_12 : aRI P24 k 12 (g.1 + (k + 12)) := by rw [e24]; exact aRI_self
  refine C_aload_n hC dX11_init_94 rfl ?_
  refine C_bipush (v := 8) hC dX11_init_95 (by decide) ?_
  refine C_newai (n := (8 : Int32)) (N := 8) hC w_86 (by decide) (by decide) (by decide) (by decide) dX11_init_97 (fun P25 e25 => ?_)
  rw [hN]
  replace hNb := hN
  replace ha_k_4 : aAr P25 (k + 4) 11 4 := by rw [e25]; exact aAr_NC ha_k_4
  replace ha_k_7 : aAr P25 (k + 7) 11 4 := by rw [e25]; exact aAr_NC ha_k_7
  replace ha_k_11 : aAr P25 (k + 11) 11 4 := by rw [e25]; exact aAr_NC ha_k_11
  replace ha_k_12 : aAr P25 (k + 12) 11 4 := by rw [e25]; exact aAr_NC ha_k_12
  replace hN : P25.1.1 = k + 14 := by rw [e25]; show P24.1.1 + 1 = _; rw [hN]
  replace hh_k : aHas P25 k 10 := by rw [e25]; exact aHas_NC hh_k
  replace hr_k_4 : aRI P25 k 4 (g.1 + (k + 4)) := by rw [e25]; exact aRI_NC (by rw [hNb]; omega) hr_k_4
  replace hr_k_7 : aRI P25 k 7 (g.1 + (k + 7)) := by rw [e25]; exact aRI_NC (by rw [hNb]; omega) hr_k_7
  replace hr_k_11 : aRI P25 k 11 (g.1 + (k + 11)) := by rw [e25]; exact aRI_NC (by rw [hNb]; omega) hr_k_11
  replace hr_k_12 : aRI P25 k 12 (g.1 + (k + 12)) := by rw [e25]; exact aRI_NC (by rw [hNb]; omega) hr_k_12
  replace ha_k_13 : aAr P25 (k + 13) 11 8 := by rw [e25]; exact aAr_new hNb
  refine C_putr (kf := 13) hC kX11 hh_k (by decide) (by decide) rfl rfl rfl ⟨rfl, rfl⟩ rfl w_1016 dX11_init_99 (fun P26 e26 => ?_)
  replace hNb := hN
  replace ha_k_4 : aAr P26 (k + 4) 11 4 := by rw [e26]; exact aAr_PR (by omega) ha_k_4
  replace ha_k_7 : aAr P26 (k + 7) 11 4 := by rw [e26]; exact aAr_PR (by omega) ha_k_7
  replace ha_k_11 : aAr P26 (k + 11) 11 4 := by rw [e26]; exact aAr_PR (by omega) ha_k_11
  replace ha_k_12 : aAr P26 (k + 12) 11 4 := by rw [e26]; exact aAr_PR (by omega) ha_k_12
  replace ha_k_13 : aAr P26 (k + 13) 11 8 := by rw [e26]; exact aAr_PR (by omega) ha_k_13
  replace hN : P26.1.1 = k + 14 := by rw [e26]; exact hN
  replace hh_k : aHas P26 k 10 := by rw [e26]; exact aHas_PR hh_k
  replace hr_k_4 : aRI P26 k 4 (g.1 + (k + 4)) := by rw [e26]; exact aRI_PR (Or.inr (by decide)) hr_k_4
  replace hr_k_7 : aRI P26 k 7 (g.1 + (k + 7)) := by rw [e26]; exact aRI_PR (Or.inr (by decide)) hr_k_7
  replace hr_k_11 : aRI P26 k 11 (g.1 + (k + 11)) := by rw [e26]; exact aRI_PR (Or.inr (by decide)) hr_k_11
  replace hr_k_12 : aRI P26 k 12 (g.1 + (k + 12)) := by rw [e26]; exact aRI_PR (Or.inr (by decide)) hr_k_12
  replace hr_k_13 : aRI P26 k 13 (g.1 + (k + 13)) := by rw [e26]; exact aRI_self
  refine C_aload_n hC dX11_init_102 rfl ?_
  refine C_iconst (v := 4) hC dX11_init_103 (by decide) ?_
  refine C_newai (n := (4 : Int32)) (N := 4) hC w_86 (by decide) (by decide) (by decide) (by decide) dX11_init_104 (fun P27 e27 => ?_)
  rw [hN]
  replace hNb := hN
  replace ha_k_4 : aAr P27 (k + 4) 11 4 := by rw [e27]; exact aAr_NC ha_k_4
  replace ha_k_7 : aAr P27 (k + 7) 11 4 := by rw [e27]; exact aAr_NC ha_k_7
  replace ha_k_11 : aAr P27 (k + 11) 11 4 := by rw [e27]; exact aAr_NC ha_k_11
  replace ha_k_12 : aAr P27 (k + 12) 11 4 := by rw [e27]; exact aAr_NC ha_k_12
  replace ha_k_13 : aAr P27 (k + 13) 11 8 := by rw [e27]; exact aAr_NC ha_k_13
  replace hN : P27.1.1 = k + 15 := by rw [e27]; show P26.1.1 + 1 = _; rw [hN]
  replace hh_k : aHas P27 k 10 := by rw [e27]; exact aHas_NC hh_k
  replace hr_k_4 : aRI P27 k 4 (g.1 + (k + 4)) := by rw [e27]; exact aRI_NC (by rw [hNb]; omega) hr_k_4
  replace hr_k_7 : aRI P27 k 7 (g.1 + (k + 7)) := by rw [e27]; exact aRI_NC (by rw [hNb]; omega) hr_k_7
  replace hr_k_11 : aRI P27 k 11 (g.1 + (k + 11)) := by rw [e27]; exact aRI_NC (by rw [hNb]; omega) hr_k_11
  replace hr_k_12 : aRI P27 k 12 (g.1 + (k + 12)) := by rw [e27]; exact aRI_NC (by rw [hNb]; omega) hr_k_12
  replace hr_k_13 : aRI P27 k 13 (g.1 + (k + 13)) := by rw [e27]; exact aRI_NC (by rw [hNb]; omega) hr_k_13
  refine C_putr (kf := 14) hC kX11 hh_k (by decide) (by decide) rfl rfl rfl ⟨rfl, rfl⟩ rfl w_1017 dX11_init_106 (fun P28 e28 => ?_)
  replace hNb := hN
  replace ha_k_4 : aAr P28 (k + 4) 11 4 := by rw [e28]; exact aAr_PR (by omega) ha_k_4
  replace ha_k_7 : aAr P28 (k + 7) 11 4 := by rw [e28]; exact aAr_PR (by omega) ha_k_7
  replace ha_k_11 : aAr P28 (k + 11) 11 4 := by rw [e28]; exact aAr_PR (by omega) ha_k_11
  replace ha_k_12 : aAr P28 (k + 12) 11 4 := by rw [e28]; exact aAr_PR (by omega) ha_k_12
  replace ha_k_13 : aAr P28 (k + 13) 11 8 := by rw [e28]; exact aAr_PR (by omega) ha_k_13
  replace hN : P28.1.1 = k + 15 := by rw [e28]; exact hN
  replace hh_k : aHas P28 k 10 := by rw [e28]; exact aHas_PR hh_k
  replace hr_k_4 : aRI P28 k 4 (g.1 + (k + 4)) := by rw [e28]; exact aRI_PR (Or.inr (by decide)) hr_k_4
  replace hr_k_7 : aRI P28 k 7 (g.1 + (k + 7)) := by rw [e28]; exact aRI_PR (Or.inr (by decide)) hr_k_7
  replace hr_k_11 : aRI P28 k 11 (g.1 + (k + 11)) := by rw [e28]; exact aRI_PR (Or.inr (by decide)) hr_k_11
  replace hr_k_12 : aRI P28 k 12 (g.1 + (k + 12)) := by rw [e28]; exact aRI_PR (Or.inr (by decide)) hr_k_12
  replace hr_k_13 : aRI P28 k 13 (g.1 + (k + 13)) := by rw [e28]; exact aRI_PR (Or.inr (by decide)) hr_k_13
  refine C_aload_n hC dX11_init_109 rfl ?_
  refine C_bipush (v := 8) hC dX11_init_110 (by decide) ?_
  refine C_newai (n := (8 : Int32)) (N := 8) hC w_86 (by decide) (by decide) (by decide) (by decide) dX11_init_112 (fun P29 e29 => ?_)
  rw [hN]
  replace hNb := hN
  replace ha_k_4 : aAr P29 (k + 4) 11 4 := by rw [e29]; exact aAr_NC ha_k_4
  replace ha_k_7 : aAr P29 (k + 7) 11 4 := by rw [e29]; exact aAr_NC ha_k_7
  replace ha_k_11 : aAr P29 (k + 11) 11 4 := by rw [e29]; exact aAr_NC ha_k_11
  replace ha_k_12 : aAr P29 (k + 12) 11 4 := by rw [e29]; exact aAr_NC ha_k_12
  replace ha_k_13 : aAr P29 (k + 13) 11 8 := by rw [e29]; exact aAr_NC ha_k_13
  replace hN : P29.1.1 = k + 16 := by rw [e29]; show P28.1.1 + 1 = _; rw [hN]
  replace hh_k : aHas P29 k 10 := by rw [e29]; exact aHas_NC hh_k
  replace hr_k_4 : aRI P29 k 4 (g.1 + (k + 4)) := by rw [e29]; exact aRI_NC (by rw [hNb]; omega) hr_k_4
  replace hr_k_7 : aRI P29 k 7 (g.1 + (k + 7)) := by rw [e29]; exact aRI_NC (by rw [hNb]; omega) hr_k_7
  replace hr_k_11 : aRI P29 k 11 (g.1 + (k + 11)) := by rw [e29]; exact aRI_NC (by rw [hNb]; omega) hr_k_11
  replace hr_k_12 : aRI P29 k 12 (g.1 + (k + 12)) := by rw [e29]; exact aRI_NC (by rw [hNb]; omega) hr_k_12
  replace hr_k_13 : aRI P29 k 13 (g.1 + (k + 13)) := by rw [e29]; exact aRI_NC (by rw [hNb]; omega) hr_k_13
  refine C_putr (kf := 15) hC kX11 hh_k (by decide) (by decide) rfl rfl rfl ⟨rfl, rfl⟩ rfl w_1018 dX11_init_114 (fun P30 e30 => ?_)
  replace hNb := hN
  replace ha_k_4 : aAr P30 (k + 4) 11 4 := by rw [e30]; exact aAr_PR (by omega) ha_k_4
  replace ha_k_7 : aAr P30 (k + 7) 11 4 := by rw [e30]; exact aAr_PR (by omega) ha_k_7
  replace ha_k_11 : aAr P30 (k + 11) 11 4 := by rw [e30]; exact aAr_PR (by omega) ha_k_11
  replace ha_k_12 : aAr P30 (k + 12) 11 4 := by rw [e30]; exact aAr_PR (by omega) ha_k_12
  replace ha_k_13 : aAr P30 (k + 13) 11 8 := by rw [e30]; exact aAr_PR (by omega) ha_k_13
  replace hN : P30.1.1 = k + 16 := by rw [e30]; exact hN
  replace hh_k : aHas P30 k 10 := by rw [e30]; exact aHas_PR hh_k
  replace hr_k_4 : aRI P30 k 4 (g.1 + (k + 4)) := by rw [e30]; exact aRI_PR (Or.inr (by decide)) hr_k_4
  replace hr_k_7 : aRI P30 k 7 (g.1 + (k + 7)) := by rw [e30]; exact aRI_PR (Or.inr (by decide)) hr_k_7
  replace hr_k_11 : aRI P30 k 11 (g.1 + (k + 11)) := by rw [e30]; exact aRI_PR (Or.inr (by decide)) hr_k_11
  replace hr_k_12 : aRI P30 k 12 (g.1 + (k + 12)) := by rw [e30]; exact aRI_PR (Or.inr (by decide)) hr_k_12
  replace hr_k_13 : aRI P30 k 13 (g.1 + (k + 13)) := by rw [e30]; exact aRI_PR (Or.inr (by decide)) hr_k_13
  refine C_aload_n hC dX11_init_117 rfl ?_
  refine C_sipush (v := 128) hC dX11_init_118 (by decide) ?_
  refine C_newai (n := (128 : Int32)) (N := 128) hC w_86 (by decide) (by decide) (by decide) (by decide) dX11_init_121 (fun P31 e31 => ?_)
  rw [hN]
  replace hNb := hN
  replace ha_k_4 : aAr P31 (k + 4) 11 4 := by rw [e31]; exact aAr_NC ha_k_4
  replace ha_k_7 : aAr P31 (k + 7) 11 4 := by rw [e31]; exact aAr_NC ha_k_7
  replace ha_k_11 : aAr P31 (k + 11) 11 4 := by rw [e31]; exact aAr_NC ha_k_11
  replace ha_k_12 : aAr P31 (k + 12) 11 4 := by rw [e31]; exact aAr_NC ha_k_12
  replace ha_k_13 : aAr P31 (k + 13) 11 8 := by rw [e31]; exact aAr_NC ha_k_13
  replace hN : P31.1.1 = k + 17 := by rw [e31]; show P30.1.1 + 1 = _; rw [hN]
  replace hh_k : aHas P31 k 10 := by rw [e31]; exact aHas_NC hh_k
  replace hr_k_4 : aRI P31 k 4 (g.1 + (k + 4)) := by rw [e31]; exact aRI_NC (by rw [hNb]; omega) hr_k_4
  replace hr_k_7 : aRI P31 k 7 (g.1 + (k + 7)) := by rw [e31]; exact aRI_NC (by rw [hNb]; omega) hr_k_7
  replace hr_k_11 : aRI P31 k 11 (g.1 + (k + 11)) := by rw [e31]; exact aRI_NC (by rw [hNb]; omega) hr_k_11
  replace hr_k_12 : aRI P31 k 12 (g.1 + (k + 12)) := by rw [e31]; exact aRI_NC (by rw [hNb]; omega) hr_k_12
  replace hr_k_13 : aRI P31 k 13 (g.1 + (k + 13)) := by rw [e31]; exact aRI_NC (by rw [hNb]; omega) hr_k_13
  refine C_putr (kf := 16) hC kX11 hh_k (by decide) (by decide) rfl rfl rfl ⟨rfl, rfl⟩ rfl w_1019 dX11_init_123 (fun P32 e32 => ?_)
  replace hNb := hN
  replace ha_k_4 : aAr P32 (k + 4) 11 4 := by rw [e32]; exact aAr_PR (by omega) ha_k_4
  replace ha_k_7 : aAr P32 (k + 7) 11 4 := by rw [e32]; exact aAr_PR (by omega) ha_k_7
  replace ha_k_11 : aAr P32 (k + 11) 11 4 := by rw [e32]; exact aAr_PR (by omega) ha_k_11
  replace ha_k_12 : aAr P32 (k + 12) 11 4 := by rw [e32]; exact aAr_PR (by omega) ha_k_12
  replace ha_k_13 : aAr P32 (k + 13) 11 8 := by rw [e32]; exact aAr_PR (by omega) ha_k_13
  replace hN : P32.1.1 = k + 17 := by rw [e32]; exact hN
  replace hh_k : aHas P32 k 10 := by rw [e32]; exact aHas_PR hh_k
  replace hr_k_4 : aRI P32 k 4 (g.1 + (k + 4)) := by rw [e32]; exact aRI_PR (Or.inr (by decide)) hr_k_4
  replace hr_k_7 : aRI P32 k 7 (g.1 + (k + 7)) := by rw [e32]; exact aRI_PR (Or.inr (by decide)) hr_k_7
  replace hr_k_11 : aRI P32 k 11 (g.1 + (k + 11)) := by rw [e32]; exact aRI_PR (Or.inr (by decide)) hr_k_11
  replace hr_k_12 : aRI P32 k 12 (g.1 + (k + 12)) := by rw [e32]; exact aRI_PR (Or.inr (by decide)) hr_k_12
  replace hr_k_13 : aRI P32 k 13 (g.1 + (k + 13)) := by rw [e32]; exact aRI_PR (Or.inr (by decide)) hr_k_13
  refine C_aload_n hC dX11_init_126 rfl ?_
  refine C_sipush (v := 512) hC dX11_init_127 (by decide) ?_
  refine C_newai (n := (512 : Int32)) (N := 512) hC w_86 (by decide) (by decide) (by decide) (by decide) dX11_init_130 (fun P33 e33 => ?_)
  rw [hN]
  replace hNb := hN
  replace ha_k_4 : aAr P33 (k + 4) 11 4 := by rw [e33]; exact aAr_NC ha_k_4
  replace ha_k_7 : aAr P33 (k + 7) 11 4 := by rw [e33]; exact aAr_NC ha_k_7
  replace ha_k_11 : aAr P33 (k + 11) 11 4 := by rw [e33]; exact aAr_NC ha_k_11
  replace ha_k_12 : aAr P33 (k + 12) 11 4 := by rw [e33]; exact aAr_NC ha_k_12
  replace ha_k_13 : aAr P33 (k + 13) 11 8 := by rw [e33]; exact aAr_NC ha_k_13
  replace hN : P33.1.1 = k + 18 := by rw [e33]; show P32.1.1 + 1 = _; rw [hN]
  replace hh_k : aHas P33 k 10 := by rw [e33]; exact aHas_NC hh_k
  replace hr_k_4 : aRI P33 k 4 (g.1 + (k + 4)) := by rw [e33]; exact aRI_NC (by rw [hNb]; omega) hr_k_4
  replace hr_k_7 : aRI P33 k 7 (g.1 + (k + 7)) := by rw [e33]; exact aRI_NC (by rw [hNb]; omega) hr_k_7
  replace hr_k_11 : aRI P33 k 11 (g.1 + (k + 11)) := by rw [e33]; exact aRI_NC (by rw [hNb]; omega) hr_k_11
  replace hr_k_12 : aRI P33 k 12 (g.1 + (k + 12)) := by rw [e33]; exact aRI_NC (by rw [hNb]; omega) hr_k_12
  replace hr_k_13 : aRI P33 k 13 (g.1 + (k + 13)) := by rw [e33]; exact aRI_NC (by rw [hNb]; omega) hr_k_13
  refine C_putr (kf := 17) hC kX11 hh_k (by decide) (by decide) rfl rfl rfl ⟨rfl, rfl⟩ rfl w_1020 dX11_init_132 (fun P34 e34 => ?_)
  replace hNb := hN
  replace ha_k_4 : aAr P34 (k + 4) 11 4 := by rw [e34]; exact aAr_PR (by omega) ha_k_4
  replace ha_k_7 : aAr P34 (k + 7) 11 4 := by rw [e34]; exact aAr_PR (by omega) ha_k_7
  replace ha_k_11 : aAr P34 (k + 11) 11 4 := by rw [e34]; exact aAr_PR (by omega) ha_k_11
  replace ha_k_12 : aAr P34 (k + 12) 11 4 := by rw [e34]; exact aAr_PR (by omega) ha_k_12
  replace ha_k_13 : aAr P34 (k + 13) 11 8 := by rw [e34]; exact aAr_PR (by omega) ha_k_13
  replace hN : P34.1.1 = k + 18 := by rw [e34]; exact hN
  replace hh_k : aHas P34 k 10 := by rw [e34]; exact aHas_PR hh_k
  replace hr_k_4 : aRI P34 k 4 (g.1 + (k + 4)) := by rw [e34]; exact aRI_PR (Or.inr (by decide)) hr_k_4
  replace hr_k_7 : aRI P34 k 7 (g.1 + (k + 7)) := by rw [e34]; exact aRI_PR (Or.inr (by decide)) hr_k_7
  replace hr_k_11 : aRI P34 k 11 (g.1 + (k + 11)) := by rw [e34]; exact aRI_PR (Or.inr (by decide)) hr_k_11
  replace hr_k_12 : aRI P34 k 12 (g.1 + (k + 12)) := by rw [e34]; exact aRI_PR (Or.inr (by decide)) hr_k_12
  replace hr_k_13 : aRI P34 k 13 (g.1 + (k + 13)) := by rw [e34]; exact aRI_PR (Or.inr (by decide)) hr_k_13
  refine C_aload_n hC dX11_init_135 rfl ?_
  refine C_sipush (v := 512) hC dX11_init_136 (by decide) ?_
  refine C_newai (n := (512 : Int32)) (N := 512) hC w_86 (by decide) (by decide) (by decide) (by decide) dX11_init_139 (fun P35 e35 => ?_)
  rw [hN]
  replace hNb := hN
  replace ha_k_4 : aAr P35 (k + 4) 11 4 := by rw [e35]; exact aAr_NC ha_k_4
  replace ha_k_7 : aAr P35 (k + 7) 11 4 := by rw [e35]; exact aAr_NC ha_k_7
  replace ha_k_11 : aAr P35 (k + 11) 11 4 := by rw [e35]; exact aAr_NC ha_k_11
  replace ha_k_12 : aAr P35 (k + 12) 11 4 := by rw [e35]; exact aAr_NC ha_k_12
  replace ha_k_13 : aAr P35 (k + 13) 11 8 := by rw [e35]; exact aAr_NC ha_k_13
  replace hN : P35.1.1 = k + 19 := by rw [e35]; show P34.1.1 + 1 = _; rw [hN]
  replace hh_k : aHas P35 k 10 := by rw [e35]; exact aHas_NC hh_k
  replace hr_k_4 : aRI P35 k 4 (g.1 + (k + 4)) := by rw [e35]; exact aRI_NC (by rw [hNb]; omega) hr_k_4
  replace hr_k_7 : aRI P35 k 7 (g.1 + (k + 7)) := by rw [e35]; exact aRI_NC (by rw [hNb]; omega) hr_k_7
  replace hr_k_11 : aRI P35 k 11 (g.1 + (k + 11)) := by rw [e35]; exact aRI_NC (by rw [hNb]; omega) hr_k_11
  replace hr_k_12 : aRI P35 k 12 (g.1 + (k + 12)) := by rw [e35]; exact aRI_NC (by rw [hNb]; omega) hr_k_12
  replace hr_k_13 : aRI P35 k 13 (g.1 + (k + 13)) := by rw [e35]; exact aRI_NC (by rw [hNb]; omega) hr_k_13
  refine C_putr (kf := 18) hC kX11 hh_k (by decide) (by decide) rfl rfl rfl ⟨rfl, rfl⟩ rfl w_1021 dX11_init_141 (fun P36 e36 => ?_)
  replace hNb := hN
  replace ha_k_4 : aAr P36 (k + 4) 11 4 := by rw [e36]; exact aAr_PR (by omega) ha_k_4
  replace ha_k_7 : aAr P36 (k + 7) 11 4 := by rw [e36]; exact aAr_PR (by omega) ha_k_7
  replace ha_k_11 : aAr P36 (k + 11) 11 4 := by rw [e36]; exact aAr_PR (by omega) ha_k_11
  replace ha_k_12 : aAr P36 (k + 12) 11 4 := by rw [e36]; exact aAr_PR (by omega) ha_k_12
  replace ha_k_13 : aAr P36 (k + 13) 11 8 := by rw [e36]; exact aAr_PR (by omega) ha_k_13
  replace hN : P36.1.1 = k + 19 := by rw [e36]; exact hN
  replace hh_k : aHas P36 k 10 := by rw [e36]; exact aHas_PR hh_k
  replace hr_k_4 : aRI P36 k 4 (g.1 + (k + 4)) := by rw [e36]; exact aRI_PR (Or.inr (by decide)) hr_k_4
  replace hr_k_7 : aRI P36 k 7 (g.1 + (k + 7)) := by rw [e36]; exact aRI_PR (Or.inr (by decide)) hr_k_7
  replace hr_k_11 : aRI P36 k 11 (g.1 + (k + 11)) := by rw [e36]; exact aRI_PR (Or.inr (by decide)) hr_k_11
  replace hr_k_12 : aRI P36 k 12 (g.1 + (k + 12)) := by rw [e36]; exact aRI_PR (Or.inr (by decide)) hr_k_12
  replace hr_k_13 : aRI P36 k 13 (g.1 + (k + 13)) := by rw [e36]; exact aRI_PR (Or.inr (by decide)) hr_k_13
  refine C_aload_n hC dX11_init_144 rfl ?_
  refine C_sipush (v := 512) hC dX11_init_145 (by decide) ?_
  refine C_newai (n := (512 : Int32)) (N := 512) hC w_86 (by decide) (by decide) (by decide) (by decide) dX11_init_148 (fun P37 e37 => ?_)
  rw [hN]
  replace hNb := hN
  replace ha_k_4 : aAr P37 (k + 4) 11 4 := by rw [e37]; exact aAr_NC ha_k_4
  replace ha_k_7 : aAr P37 (k + 7) 11 4 := by rw [e37]; exact aAr_NC ha_k_7
  replace ha_k_11 : aAr P37 (k + 11) 11 4 := by rw [e37]; exact aAr_NC ha_k_11
  replace ha_k_12 : aAr P37 (k + 12) 11 4 := by rw [e37]; exact aAr_NC ha_k_12
  replace ha_k_13 : aAr P37 (k + 13) 11 8 := by rw [e37]; exact aAr_NC ha_k_13
  replace hN : P37.1.1 = k + 20 := by rw [e37]; show P36.1.1 + 1 = _; rw [hN]
  replace hh_k : aHas P37 k 10 := by rw [e37]; exact aHas_NC hh_k
  replace hr_k_4 : aRI P37 k 4 (g.1 + (k + 4)) := by rw [e37]; exact aRI_NC (by rw [hNb]; omega) hr_k_4
  replace hr_k_7 : aRI P37 k 7 (g.1 + (k + 7)) := by rw [e37]; exact aRI_NC (by rw [hNb]; omega) hr_k_7
  replace hr_k_11 : aRI P37 k 11 (g.1 + (k + 11)) := by rw [e37]; exact aRI_NC (by rw [hNb]; omega) hr_k_11
  replace hr_k_12 : aRI P37 k 12 (g.1 + (k + 12)) := by rw [e37]; exact aRI_NC (by rw [hNb]; omega) hr_k_12
  replace hr_k_13 : aRI P37 k 13 (g.1 + (k + 13)) := by rw [e37]; exact aRI_NC (by rw [hNb]; omega) hr_k_13
  refine C_putr (kf := 19) hC kX11 hh_k (by decide) (by decide) rfl rfl rfl ⟨rfl, rfl⟩ rfl w_1022 dX11_init_150 (fun P38 e38 => ?_)
  replace hNb := hN
  replace ha_k_4 : aAr P38 (k + 4) 11 4 := by rw [e38]; exact aAr_PR (by omega) ha_k_4
  replace ha_k_7 : aAr P38 (k + 7) 11 4 := by rw [e38]; exact aAr_PR (by omega) ha_k_7
  replace ha_k_11 : aAr P38 (k + 11) 11 4 := by rw [e38]; exact aAr_PR (by omega) ha_k_11
  replace ha_k_12 : aAr P38 (k + 12) 11 4 := by rw [e38]; exact aAr_PR (by omega) ha_k_12
  replace ha_k_13 : aAr P38 (k + 13) 11 8 := by rw [e38]; exact aAr_PR (by omega) ha_k_13
  replace hN : P38.1.1 = k + 20 := by rw [e38]; exact hN
  replace hh_k : aHas P38 k 10 := by rw [e38]; exact aHas_PR hh_k
  replace hr_k_4 : aRI P38 k 4 (g.1 + (k + 4)) := by rw [e38]; exact aRI_PR (Or.inr (by decide)) hr_k_4
  replace hr_k_7 : aRI P38 k 7 (g.1 + (k + 7)) := by rw [e38]; exact aRI_PR (Or.inr (by decide)) hr_k_7
  replace hr_k_11 : aRI P38 k 11 (g.1 + (k + 11)) := by rw [e38]; exact aRI_PR (Or.inr (by decide)) hr_k_11
  replace hr_k_12 : aRI P38 k 12 (g.1 + (k + 12)) := by rw [e38]; exact aRI_PR (Or.inr (by decide)) hr_k_12
  replace hr_k_13 : aRI P38 k 13 (g.1 + (k + 13)) := by rw [e38]; exact aRI_PR (Or.inr (by decide)) hr_k_13
  refine C_aload_n hC dX11_init_153 rfl ?_
  refine C_sipush (v := 128) hC dX11_init_154 (by decide) ?_
  refine C_newai (n := (128 : Int32)) (N := 128) hC w_86 (by decide) (by decide) (by decide) (by decide) dX11_init_157 (fun P39 e39 => ?_)
  rw [hN]
  replace hNb := hN
  replace ha_k_4 : aAr P39 (k + 4) 11 4 := by rw [e39]; exact aAr_NC ha_k_4
  replace ha_k_7 : aAr P39 (k + 7) 11 4 := by rw [e39]; exact aAr_NC ha_k_7
  replace ha_k_11 : aAr P39 (k + 11) 11 4 := by rw [e39]; exact aAr_NC ha_k_11
  replace ha_k_12 : aAr P39 (k + 12) 11 4 := by rw [e39]; exact aAr_NC ha_k_12
  replace ha_k_13 : aAr P39 (k + 13) 11 8 := by rw [e39]; exact aAr_NC ha_k_13
  replace hN : P39.1.1 = k + 21 := by rw [e39]; show P38.1.1 + 1 = _; rw [hN]
  replace hh_k : aHas P39 k 10 := by rw [e39]; exact aHas_NC hh_k
  replace hr_k_4 : aRI P39 k 4 (g.1 + (k + 4)) := by rw [e39]; exact aRI_NC (by rw [hNb]; omega) hr_k_4
  replace hr_k_7 : aRI P39 k 7 (g.1 + (k + 7)) := by rw [e39]; exact aRI_NC (by rw [hNb]; omega) hr_k_7
  replace hr_k_11 : aRI P39 k 11 (g.1 + (k + 11)) := by rw [e39]; exact aRI_NC (by rw [hNb]; omega) hr_k_11
  replace hr_k_12 : aRI P39 k 12 (g.1 + (k + 12)) := by rw [e39]; exact aRI_NC (by rw [hNb]; omega) hr_k_12
  replace hr_k_13 : aRI P39 k 13 (g.1 + (k + 13)) := by rw [e39]; exact aRI_NC (by rw [hNb]; omega) hr_k_13
  refine C_putr (kf := 20) hC kX11 hh_k (by decide) (by decide) rfl rfl rfl ⟨rfl, rfl⟩ rfl w_1023 dX11_init_159 (fun P40 e40 => ?_)
  replace hNb := hN
  replace ha_k_4 : aAr P40 (k + 4) 11 4 := by rw [e40]; exact aAr_PR (by omega) ha_k_4
  replace ha_k_7 : aAr P40 (k + 7) 11 4 := by rw [e40]; exact aAr_PR (by omega) ha_k_7
  replace ha_k_11 : aAr P40 (k + 11) 11 4 := by rw [e40]; exact aAr_PR (by omega) ha_k_11
  replace ha_k_12 : aAr P40 (k + 12) 11 4 := by rw [e40]; exact aAr_PR (by omega) ha_k_12
  replace ha_k_13 : aAr P40 (k + 13) 11 8 := by rw [e40]; exact aAr_PR (by omega) ha_k_13
  replace hN : P40.1.1 = k + 21 := by rw [e40]; exact hN
  replace hh_k : aHas P40 k 10 := by rw [e40]; exact aHas_PR hh_k
  replace hr_k_4 : aRI P40 k 4 (g.1 + (k + 4)) := by rw [e40]; exact aRI_PR (Or.inr (by decide)) hr_k_4
  replace hr_k_7 : aRI P40 k 7 (g.1 + (k + 7)) := by rw [e40]; exact aRI_PR (Or.inr (by decide)) hr_k_7
  replace hr_k_11 : aRI P40 k 11 (g.1 + (k + 11)) := by rw [e40]; exact aRI_PR (Or.inr (by decide)) hr_k_11
  replace hr_k_12 : aRI P40 k 12 (g.1 + (k + 12)) := by rw [e40]; exact aRI_PR (Or.inr (by decide)) hr_k_12
  replace hr_k_13 : aRI P40 k 13 (g.1 + (k + 13)) := by rw [e40]; exact aRI_PR (Or.inr (by decide)) hr_k_13
  refine C_aload_n hC dX11_init_162 rfl ?_
  refine C_sipush (v := 128) hC dX11_init_163 (by decide) ?_
  refine C_newai (n := (128 : Int32)) (N := 128) hC w_86 (by decide) (by decide) (by decide) (by decide) dX11_init_166 (fun P41 e41 => ?_)
  rw [hN]
  replace hNb := hN
  replace ha_k_4 : aAr P41 (k + 4) 11 4 := by rw [e41]; exact aAr_NC ha_k_4
  replace ha_k_7 : aAr P41 (k + 7) 11 4 := by rw [e41]; exact aAr_NC ha_k_7
  replace ha_k_11 : aAr P41 (k + 11) 11 4 := by rw [e41]; exact aAr_NC ha_k_11
  replace ha_k_12 : aAr P41 (k + 12) 11 4 := by rw [e41]; exact aAr_NC ha_k_12
  replace ha_k_13 : aAr P41 (k + 13) 11 8 := by rw [e41]; exact aAr_NC ha_k_13
  replace hN : P41.1.1 = k + 22 := by rw [e41]; show P40.1.1 + 1 = _; rw [hN]
  replace hh_k : aHas P41 k 10 := by rw [e41]; exact aHas_NC hh_k
  replace hr_k_4 : aRI P41 k 4 (g.1 + (k + 4)) := by rw [e41]; exact aRI_NC (by rw [hNb]; omega) hr_k_4
  replace hr_k_7 : aRI P41 k 7 (g.1 + (k + 7)) := by rw [e41]; exact aRI_NC (by rw [hNb]; omega) hr_k_7
  replace hr_k_11 : aRI P41 k 11 (g.1 + (k + 11)) := by rw [e41]; exact aRI_NC (by rw [hNb]; omega) hr_k_11
  replace hr_k_12 : aRI P41 k 12 (g.1 + (k + 12)) := by rw [e41]; exact aRI_NC (by rw [hNb]; omega) hr_k_12
  replace hr_k_13 : aRI P41 k 13 (g.1 + (k + 13)) := by rw [e41]; exact aRI_NC (by rw [hNb]; omega) hr_k_13
  refine C_putr (kf := 21) hC kX11 hh_k (by decide) (by decide) rfl rfl rfl ⟨rfl, rfl⟩ rfl w_1024 dX11_init_168 (fun P42 e42 => ?_)
  replace hNb := hN
  replace ha_k_4 : aAr P42 (k + 4) 11 4 := by rw [e42]; exact aAr_PR (by omega) ha_k_4
  replace ha_k_7 : aAr P42 (k + 7) 11 4 := by rw [e42]; exact aAr_PR (by omega) ha_k_7
  replace ha_k_11 : aAr P42 (k + 11) 11 4 := by rw [e42]; exact aAr_PR (by omega) ha_k_11
  replace ha_k_12 : aAr P42 (k + 12) 11 4 := by rw [e42]; exact aAr_PR (by omega) ha_k_12
  replace ha_k_13 : aAr P42 (k + 13) 11 8 := by rw [e42]; exact aAr_PR (by omega) ha_k_13
  replace hN : P42.1.1 = k + 22 := by rw [e42]; exact hN
  replace hh_k : aHas P42 k 10 := by rw [e42]; exact aHas_PR hh_k
  replace hr_k_4 : aRI P42 k 4 (g.1 + (k + 4)) := by rw [e42]; exact aRI_PR (Or.inr (by decide)) hr_k_4
  replace hr_k_7 : aRI P42 k 7 (g.1 + (k + 7)) := by rw [e42]; exact aRI_PR (Or.inr (by decide)) hr_k_7
  replace hr_k_11 : aRI P42 k 11 (g.1 + (k + 11)) := by rw [e42]; exact aRI_PR (Or.inr (by decide)) hr_k_11
  replace hr_k_12 : aRI P42 k 12 (g.1 + (k + 12)) := by rw [e42]; exact aRI_PR (Or.inr (by decide)) hr_k_12
  replace hr_k_13 : aRI P42 k 13 (g.1 + (k + 13)) := by rw [e42]; exact aRI_PR (Or.inr (by decide)) hr_k_13
  refine C_aload_n hC dX11_init_171 rfl ?_
  refine C_sipush (v := 128) hC dX11_init_172 (by decide) ?_
  refine C_newai (n := (128 : Int32)) (N := 128) hC w_86 (by decide) (by decide) (by decide) (by decide) dX11_init_175 (fun P43 e43 => ?_)
  rw [hN]
  replace hNb := hN
  replace ha_k_4 : aAr P43 (k + 4) 11 4 := by rw [e43]; exact aAr_NC ha_k_4
  replace ha_k_7 : aAr P43 (k + 7) 11 4 := by rw [e43]; exact aAr_NC ha_k_7
  replace ha_k_11 : aAr P43 (k + 11) 11 4 := by rw [e43]; exact aAr_NC ha_k_11
  replace ha_k_12 : aAr P43 (k + 12) 11 4 := by rw [e43]; exact aAr_NC ha_k_12
  replace ha_k_13 : aAr P43 (k + 13) 11 8 := by rw [e43]; exact aAr_NC ha_k_13
  replace hN : P43.1.1 = k + 23 := by rw [e43]; show P42.1.1 + 1 = _; rw [hN]
  replace hh_k : aHas P43 k 10 := by rw [e43]; exact aHas_NC hh_k
  replace hr_k_4 : aRI P43 k 4 (g.1 + (k + 4)) := by rw [e43]; exact aRI_NC (by rw [hNb]; omega) hr_k_4
  replace hr_k_7 : aRI P43 k 7 (g.1 + (k + 7)) := by rw [e43]; exact aRI_NC (by rw [hNb]; omega) hr_k_7
  replace hr_k_11 : aRI P43 k 11 (g.1 + (k + 11)) := by rw [e43]; exact aRI_NC (by rw [hNb]; omega) hr_k_11
  replace hr_k_12 : aRI P43 k 12 (g.1 + (k + 12)) := by rw [e43]; exact aRI_NC (by rw [hNb]; omega) hr_k_12
  replace hr_k_13 : aRI P43 k 13 (g.1 + (k + 13)) := by rw [e43]; exact aRI_NC (by rw [hNb]; omega) hr_k_13
  refine C_putr (kf := 22) hC kX11 hh_k (by decide) (by decide) rfl rfl rfl ⟨rfl, rfl⟩ rfl w_1025 dX11_init_177 (fun P44 e44 => ?_)
  replace hNb := hN
  replace ha_k_4 : aAr P44 (k + 4) 11 4 := by rw [e44]; exact aAr_PR (by omega) ha_k_4
  replace ha_k_7 : aAr P44 (k + 7) 11 4 := by rw [e44]; exact aAr_PR (by omega) ha_k_7
  replace ha_k_11 : aAr P44 (k + 11) 11 4 := by rw [e44]; exact aAr_PR (by omega) ha_k_11
  replace ha_k_12 : aAr P44 (k + 12) 11 4 := by rw [e44]; exact aAr_PR (by omega) ha_k_12
  replace ha_k_13 : aAr P44 (k + 13) 11 8 := by rw [e44]; exact aAr_PR (by omega) ha_k_13
  replace hN : P44.1.1 = k + 23 := by rw [e44]; exact hN
  replace hh_k : aHas P44 k 10 := by rw [e44]; exact aHas_PR hh_k
  replace hr_k_4 : aRI P44 k 4 (g.1 + (k + 4)) := by rw [e44]; exact aRI_PR (Or.inr (by decide)) hr_k_4
  replace hr_k_7 : aRI P44 k 7 (g.1 + (k + 7)) := by rw [e44]; exact aRI_PR (Or.inr (by decide)) hr_k_7
  replace hr_k_11 : aRI P44 k 11 (g.1 + (k + 11)) := by rw [e44]; exact aRI_PR (Or.inr (by decide)) hr_k_11
  replace hr_k_12 : aRI P44 k 12 (g.1 + (k + 12)) := by rw [e44]; exact aRI_PR (Or.inr (by decide)) hr_k_12
  replace hr_k_13 : aRI P44 k 13 (g.1 + (k + 13)) := by rw [e44]; exact aRI_PR (Or.inr (by decide)) hr_k_13
  refine C_aload_n hC dX11_init_180 rfl ?_
  refine C_bipush (v := 17) hC dX11_init_181 (by decide) ?_
  refine C_newai (n := (17 : Int32)) (N := 17) hC w_86 (by decide) (by decide) (by decide) (by decide) dX11_init_183 (fun P45 e45 => ?_)
  rw [hN]
  replace hNb := hN
  replace ha_k_4 : aAr P45 (k + 4) 11 4 := by rw [e45]; exact aAr_NC ha_k_4
  replace ha_k_7 : aAr P45 (k + 7) 11 4 := by rw [e45]; exact aAr_NC ha_k_7
  replace ha_k_11 : aAr P45 (k + 11) 11 4 := by rw [e45]; exact aAr_NC ha_k_11
  replace ha_k_12 : aAr P45 (k + 12) 11 4 := by rw [e45]; exact aAr_NC ha_k_12
  replace ha_k_13 : aAr P45 (k + 13) 11 8 := by rw [e45]; exact aAr_NC ha_k_13
  replace hN : P45.1.1 = k + 24 := by rw [e45]; show P44.1.1 + 1 = _; rw [hN]
  replace hh_k : aHas P45 k 10 := by rw [e45]; exact aHas_NC hh_k
  replace hr_k_4 : aRI P45 k 4 (g.1 + (k + 4)) := by rw [e45]; exact aRI_NC (by rw [hNb]; omega) hr_k_4
  replace hr_k_7 : aRI P45 k 7 (g.1 + (k + 7)) := by rw [e45]; exact aRI_NC (by rw [hNb]; omega) hr_k_7
  replace hr_k_11 : aRI P45 k 11 (g.1 + (k + 11)) := by rw [e45]; exact aRI_NC (by rw [hNb]; omega) hr_k_11
  replace hr_k_12 : aRI P45 k 12 (g.1 + (k + 12)) := by rw [e45]; exact aRI_NC (by rw [hNb]; omega) hr_k_12
  replace hr_k_13 : aRI P45 k 13 (g.1 + (k + 13)) := by rw [e45]; exact aRI_NC (by rw [hNb]; omega) hr_k_13
  refine C_putr (kf := 33) hC kX11 hh_k (by decide) (by decide) rfl rfl rfl ⟨rfl, rfl⟩ rfl w_1036 dX11_init_185 (fun P46 e46 => ?_)
  replace hNb := hN
  replace ha_k_4 : aAr P46 (k + 4) 11 4 := by rw [e46]; exact aAr_PR (by omega) ha_k_4
  replace ha_k_7 : aAr P46 (k + 7) 11 4 := by rw [e46]; exact aAr_PR (by omega) ha_k_7
  replace ha_k_11 : aAr P46 (k + 11) 11 4 := by rw [e46]; exact aAr_PR (by omega) ha_k_11
  replace ha_k_12 : aAr P46 (k + 12) 11 4 := by rw [e46]; exact aAr_PR (by omega) ha_k_12
  replace ha_k_13 : aAr P46 (k + 13) 11 8 := by rw [e46]; exact aAr_PR (by omega) ha_k_13
  replace hN : P46.1.1 = k + 24 := by rw [e46]; exact hN
  replace hh_k : aHas P46 k 10 := by rw [e46]; exact aHas_PR hh_k
  replace hr_k_4 : aRI P46 k 4 (g.1 + (k + 4)) := by rw [e46]; exact aRI_PR (Or.inr (by decide)) hr_k_4
  replace hr_k_7 : aRI P46 k 7 (g.1 + (k + 7)) := by rw [e46]; exact aRI_PR (Or.inr (by decide)) hr_k_7
  replace hr_k_11 : aRI P46 k 11 (g.1 + (k + 11)) := by rw [e46]; exact aRI_PR (Or.inr (by decide)) hr_k_11
  replace hr_k_12 : aRI P46 k 12 (g.1 + (k + 12)) := by rw [e46]; exact aRI_PR (Or.inr (by decide)) hr_k_12
  replace hr_k_13 : aRI P46 k 13 (g.1 + (k + 13)) := by rw [e46]; exact aRI_PR (Or.inr (by decide)) hr_k_13
  refine C_aload_n hC dX11_init_188 rfl ?_
  refine C_bipush (v := 64) hC dX11_init_189 (by decide) ?_
  refine C_newai (n := (64 : Int32)) (N := 64) hC w_86 (by decide) (by decide) (by decide) (by decide) dX11_init_191 (fun P47 e47 => ?_)
  rw [hN]
  replace hNb := hN
  replace ha_k_4 : aAr P47 (k + 4) 11 4 := by rw [e47]; exact aAr_NC ha_k_4
  replace ha_k_7 : aAr P47 (k + 7) 11 4 := by rw [e47]; exact aAr_NC ha_k_7
  replace ha_k_11 : aAr P47 (k + 11) 11 4 := by rw [e47]; exact aAr_NC ha_k_11
  replace ha_k_12 : aAr P47 (k + 12) 11 4 := by rw [e47]; exact aAr_NC ha_k_12
  replace ha_k_13 : aAr P47 (k + 13) 11 8 := by rw [e47]; exact aAr_NC ha_k_13
  replace hN : P47.1.1 = k + 25 := by rw [e47]; show P46.1.1 + 1 = _; rw [hN]
  replace hh_k : aHas P47 k 10 := by rw [e47]; exact aHas_NC hh_k
  replace hr_k_4 : aRI P47 k 4 (g.1 + (k + 4)) := by rw [e47]; exact aRI_NC (by rw [hNb]; omega) hr_k_4
  replace hr_k_7 : aRI P47 k 7 (g.1 + (k + 7)) := by rw [e47]; exact aRI_NC (by rw [hNb]; omega) hr_k_7
  replace hr_k_11 : aRI P47 k 11 (g.1 + (k + 11)) := by rw [e47]; exact aRI_NC (by rw [hNb]; omega) hr_k_11
  replace hr_k_12 : aRI P47 k 12 (g.1 + (k + 12)) := by rw [e47]; exact aRI_NC (by rw [hNb]; omega) hr_k_12
  replace hr_k_13 : aRI P47 k 13 (g.1 + (k + 13)) := by rw [e47]; exact aRI_NC (by rw [hNb]; omega) hr_k_13
  refine C_putr (kf := 34) hC kX11 hh_k (by decide) (by decide) rfl rfl rfl ⟨rfl, rfl⟩ rfl w_1037 dX11_init_193 (fun P48 e48 => ?_)
  replace hNb := hN
  replace ha_k_4 : aAr P48 (k + 4) 11 4 := by rw [e48]; exact aAr_PR (by omega) ha_k_4
  replace ha_k_7 : aAr P48 (k + 7) 11 4 := by rw [e48]; exact aAr_PR (by omega) ha_k_7
  replace ha_k_11 : aAr P48 (k + 11) 11 4 := by rw [e48]; exact aAr_PR (by omega) ha_k_11
  replace ha_k_12 : aAr P48 (k + 12) 11 4 := by rw [e48]; exact aAr_PR (by omega) ha_k_12
  replace ha_k_13 : aAr P48 (k + 13) 11 8 := by rw [e48]; exact aAr_PR (by omega) ha_k_13
  replace hN : P48.1.1 = k + 25 := by rw [e48]; exact hN
  replace hh_k : aHas P48 k 10 := by rw [e48]; exact aHas_PR hh_k
  replace hr_k_4 : aRI P48 k 4 (g.1 + (k + 4)) := by rw [e48]; exact aRI_PR (Or.inr (by decide)) hr_k_4
  replace hr_k_7 : aRI P48 k 7 (g.1 + (k + 7)) := by rw [e48]; exact aRI_PR (Or.inr (by decide)) hr_k_7
  replace hr_k_11 : aRI P48 k 11 (g.1 + (k + 11)) := by rw [e48]; exact aRI_PR (Or.inr (by decide)) hr_k_11
  replace hr_k_12 : aRI P48 k 12 (g.1 + (k + 12)) := by rw [e48]; exact aRI_PR (Or.inr (by decide)) hr_k_12
  replace hr_k_13 : aRI P48 k 13 (g.1 + (k + 13)) := by rw [e48]; exact aRI_PR (Or.inr (by decide)) hr_k_13
  refine C_aload_n hC dX11_init_196 rfl ?_
  refine C_bipush (v := 64) hC dX11_init_197 (by decide) ?_
  refine C_newai (n := (64 : Int32)) (N := 64) hC w_86 (by decide) (by decide) (by decide) (by decide) dX11_init_199 (fun P49 e49 => ?_)
  rw [hN]
  replace hNb := hN
  replace ha_k_4 : aAr P49 (k + 4) 11 4 := by rw [e49]; exact aAr_NC ha_k_4
  replace ha_k_7 : aAr P49 (k + 7) 11 4 := by rw [e49]; exact aAr_NC ha_k_7
  replace ha_k_11 : aAr P49 (k + 11) 11 4 := by rw [e49]; exact aAr_NC ha_k_11
  replace ha_k_12 : aAr P49 (k + 12) 11 4 := by rw [e49]; exact aAr_NC ha_k_12
  replace ha_k_13 : aAr P49 (k + 13) 11 8 := by rw [e49]; exact aAr_NC ha_k_13
  replace hN : P49.1.1 = k + 26 := by rw [e49]; show P48.1.1 + 1 = _; rw [hN]
  replace hh_k : aHas P49 k 10 := by rw [e49]; exact aHas_NC hh_k
  replace hr_k_4 : aRI P49 k 4 (g.1 + (k + 4)) := by rw [e49]; exact aRI_NC (by rw [hNb]; omega) hr_k_4
  replace hr_k_7 : aRI P49 k 7 (g.1 + (k + 7)) := by rw [e49]; exact aRI_NC (by rw [hNb]; omega) hr_k_7
  replace hr_k_11 : aRI P49 k 11 (g.1 + (k + 11)) := by rw [e49]; exact aRI_NC (by rw [hNb]; omega) hr_k_11
  replace hr_k_12 : aRI P49 k 12 (g.1 + (k + 12)) := by rw [e49]; exact aRI_NC (by rw [hNb]; omega) hr_k_12
  replace hr_k_13 : aRI P49 k 13 (g.1 + (k + 13)) := by rw [e49]; exact aRI_NC (by rw [hNb]; omega) hr_k_13
  refine C_putr (kf := 35) hC kX11 hh_k (by decide) (by decide) rfl rfl rfl ⟨rfl, rfl⟩ rfl w_1038 dX11_init_201 (fun P50 e50 => ?_)
  replace hNb := hN
  replace ha_k_4 : aAr P50 (k + 4) 11 4 := by rw [e50]; exact aAr_PR (by omega) ha_k_4
  replace ha_k_7 : aAr P50 (k + 7) 11 4 := by rw [e50]; exact aAr_PR (by omega) ha_k_7
  replace ha_k_11 : aAr P50 (k + 11) 11 4 := by rw [e50]; exact aAr_PR (by omega) ha_k_11
  replace ha_k_12 : aAr P50 (k + 12) 11 4 := by rw [e50]; exact aAr_PR (by omega) ha_k_12
  replace ha_k_13 : aAr P50 (k + 13) 11 8 := by rw [e50]; exact aAr_PR (by omega) ha_k_13
  replace hN : P50.1.1 = k + 26 := by rw [e50]; exact hN
  replace hh_k : aHas P50 k 10 := by rw [e50]; exact aHas_PR hh_k
  replace hr_k_4 : aRI P50 k 4 (g.1 + (k + 4)) := by rw [e50]; exact aRI_PR (Or.inr (by decide)) hr_k_4
  replace hr_k_7 : aRI P50 k 7 (g.1 + (k + 7)) := by rw [e50]; exact aRI_PR (Or.inr (by decide)) hr_k_7
  replace hr_k_11 : aRI P50 k 11 (g.1 + (k + 11)) := by rw [e50]; exact aRI_PR (Or.inr (by decide)) hr_k_11
  replace hr_k_12 : aRI P50 k 12 (g.1 + (k + 12)) := by rw [e50]; exact aRI_PR (Or.inr (by decide)) hr_k_12
  replace hr_k_13 : aRI P50 k 13 (g.1 + (k + 13)) := by rw [e50]; exact aRI_PR (Or.inr (by decide)) hr_k_13
  refine C_aload_n hC dX11_init_204 rfl ?_
  refine C_bipush (v := 64) hC dX11_init_205 (by decide) ?_
  refine C_newai (n := (64 : Int32)) (N := 64) hC w_86 (by decide) (by decide) (by decide) (by decide) dX11_init_207 (fun P51 e51 => ?_)
  rw [hN]
  replace hNb := hN
  replace ha_k_4 : aAr P51 (k + 4) 11 4 := by rw [e51]; exact aAr_NC ha_k_4
  replace ha_k_7 : aAr P51 (k + 7) 11 4 := by rw [e51]; exact aAr_NC ha_k_7
  replace ha_k_11 : aAr P51 (k + 11) 11 4 := by rw [e51]; exact aAr_NC ha_k_11
  replace ha_k_12 : aAr P51 (k + 12) 11 4 := by rw [e51]; exact aAr_NC ha_k_12
  replace ha_k_13 : aAr P51 (k + 13) 11 8 := by rw [e51]; exact aAr_NC ha_k_13
  replace hN : P51.1.1 = k + 27 := by rw [e51]; show P50.1.1 + 1 = _; rw [hN]
  replace hh_k : aHas P51 k 10 := by rw [e51]; exact aHas_NC hh_k
  replace hr_k_4 : aRI P51 k 4 (g.1 + (k + 4)) := by rw [e51]; exact aRI_NC (by rw [hNb]; omega) hr_k_4
  replace hr_k_7 : aRI P51 k 7 (g.1 + (k + 7)) := by rw [e51]; exact aRI_NC (by rw [hNb]; omega) hr_k_7
  replace hr_k_11 : aRI P51 k 11 (g.1 + (k + 11)) := by rw [e51]; exact aRI_NC (by rw [hNb]; omega) hr_k_11
  replace hr_k_12 : aRI P51 k 12 (g.1 + (k + 12)) := by rw [e51]; exact aRI_NC (by rw [hNb]; omega) hr_k_12
  replace hr_k_13 : aRI P51 k 13 (g.1 + (k + 13)) := by rw [e51]; exact aRI_NC (by rw [hNb]; omega) hr_k_13
  refine C_putr (kf := 36) hC kX11 hh_k (by decide) (by decide) rfl rfl rfl ⟨rfl, rfl⟩ rfl w_1039 dX11_init_209 (fun P52 e52 => ?_)
  replace hNb := hN
  replace ha_k_4 : aAr P52 (k + 4) 11 4 := by rw [e52]; exact aAr_PR (by omega) ha_k_4
  replace ha_k_7 : aAr P52 (k + 7) 11 4 := by rw [e52]; exact aAr_PR (by omega) ha_k_7
  replace ha_k_11 : aAr P52 (k + 11) 11 4 := by rw [e52]; exact aAr_PR (by omega) ha_k_11
  replace ha_k_12 : aAr P52 (k + 12) 11 4 := by rw [e52]; exact aAr_PR (by omega) ha_k_12
  replace ha_k_13 : aAr P52 (k + 13) 11 8 := by rw [e52]; exact aAr_PR (by omega) ha_k_13
  replace hN : P52.1.1 = k + 27 := by rw [e52]; exact hN
  replace hh_k : aHas P52 k 10 := by rw [e52]; exact aHas_PR hh_k
  replace hr_k_4 : aRI P52 k 4 (g.1 + (k + 4)) := by rw [e52]; exact aRI_PR (Or.inr (by decide)) hr_k_4
  replace hr_k_7 : aRI P52 k 7 (g.1 + (k + 7)) := by rw [e52]; exact aRI_PR (Or.inr (by decide)) hr_k_7
  replace hr_k_11 : aRI P52 k 11 (g.1 + (k + 11)) := by rw [e52]; exact aRI_PR (Or.inr (by decide)) hr_k_11
  replace hr_k_12 : aRI P52 k 12 (g.1 + (k + 12)) := by rw [e52]; exact aRI_PR (Or.inr (by decide)) hr_k_12
  replace hr_k_13 : aRI P52 k 13 (g.1 + (k + 13)) := by rw [e52]; exact aRI_PR (Or.inr (by decide)) hr_k_13
  refine C_aload_n hC dX11_init_212 rfl ?_
  refine C_bipush (v := 17) hC dX11_init_213 (by decide) ?_
  refine C_newai (n := (17 : Int32)) (N := 17) hC w_86 (by decide) (by decide) (by decide) (by decide) dX11_init_215 (fun P53 e53 => ?_)
  rw [hN]
  replace hNb := hN
  replace ha_k_4 : aAr P53 (k + 4) 11 4 := by rw [e53]; exact aAr_NC ha_k_4
  replace ha_k_7 : aAr P53 (k + 7) 11 4 := by rw [e53]; exact aAr_NC ha_k_7
  replace ha_k_11 : aAr P53 (k + 11) 11 4 := by rw [e53]; exact aAr_NC ha_k_11
  replace ha_k_12 : aAr P53 (k + 12) 11 4 := by rw [e53]; exact aAr_NC ha_k_12
  replace ha_k_13 : aAr P53 (k + 13) 11 8 := by rw [e53]; exact aAr_NC ha_k_13
  replace hN : P53.1.1 = k + 28 := by rw [e53]; show P52.1.1 + 1 = _; rw [hN]
  replace hh_k : aHas P53 k 10 := by rw [e53]; exact aHas_NC hh_k
  replace hr_k_4 : aRI P53 k 4 (g.1 + (k + 4)) := by rw [e53]; exact aRI_NC (by rw [hNb]; omega) hr_k_4
  replace hr_k_7 : aRI P53 k 7 (g.1 + (k + 7)) := by rw [e53]; exact aRI_NC (by rw [hNb]; omega) hr_k_7
  replace hr_k_11 : aRI P53 k 11 (g.1 + (k + 11)) := by rw [e53]; exact aRI_NC (by rw [hNb]; omega) hr_k_11
  replace hr_k_12 : aRI P53 k 12 (g.1 + (k + 12)) := by rw [e53]; exact aRI_NC (by rw [hNb]; omega) hr_k_12
  replace hr_k_13 : aRI P53 k 13 (g.1 + (k + 13)) := by rw [e53]; exact aRI_NC (by rw [hNb]; omega) hr_k_13
  refine C_putr (kf := 37) hC kX11 hh_k (by decide) (by decide) rfl rfl rfl ⟨rfl, rfl⟩ rfl w_1040 dX11_init_217 (fun P54 e54 => ?_)
  replace hNb := hN
  replace ha_k_4 : aAr P54 (k + 4) 11 4 := by rw [e54]; exact aAr_PR (by omega) ha_k_4
  replace ha_k_7 : aAr P54 (k + 7) 11 4 := by rw [e54]; exact aAr_PR (by omega) ha_k_7
  replace ha_k_11 : aAr P54 (k + 11) 11 4 := by rw [e54]; exact aAr_PR (by omega) ha_k_11
  replace ha_k_12 : aAr P54 (k + 12) 11 4 := by rw [e54]; exact aAr_PR (by omega) ha_k_12
  replace ha_k_13 : aAr P54 (k + 13) 11 8 := by rw [e54]; exact aAr_PR (by omega) ha_k_13
  replace hN : P54.1.1 = k + 28 := by rw [e54]; exact hN
  replace hh_k : aHas P54 k 10 := by rw [e54]; exact aHas_PR hh_k
  replace hr_k_4 : aRI P54 k 4 (g.1 + (k + 4)) := by rw [e54]; exact aRI_PR (Or.inr (by decide)) hr_k_4
  replace hr_k_7 : aRI P54 k 7 (g.1 + (k + 7)) := by rw [e54]; exact aRI_PR (Or.inr (by decide)) hr_k_7
  replace hr_k_11 : aRI P54 k 11 (g.1 + (k + 11)) := by rw [e54]; exact aRI_PR (Or.inr (by decide)) hr_k_11
  replace hr_k_12 : aRI P54 k 12 (g.1 + (k + 12)) := by rw [e54]; exact aRI_PR (Or.inr (by decide)) hr_k_12
  replace hr_k_13 : aRI P54 k 13 (g.1 + (k + 13)) := by rw [e54]; exact aRI_PR (Or.inr (by decide)) hr_k_13
  refine C_aload_n hC dX11_init_220 rfl ?_
  refine C_bipush (v := 17) hC dX11_init_221 (by decide) ?_
  refine C_newai (n := (17 : Int32)) (N := 17) hC w_86 (by decide) (by decide) (by decide) (by decide) dX11_init_223 (fun P55 e55 => ?_)
  rw [hN]
  replace hNb := hN
  replace ha_k_4 : aAr P55 (k + 4) 11 4 := by rw [e55]; exact aAr_NC ha_k_4
  replace ha_k_7 : aAr P55 (k + 7) 11 4 := by rw [e55]; exact aAr_NC ha_k_7
  replace ha_k_11 : aAr P55 (k + 11) 11 4 := by rw [e55]; exact aAr_NC ha_k_11
  replace ha_k_12 : aAr P55 (k + 12) 11 4 := by rw [e55]; exact aAr_NC ha_k_12
  replace ha_k_13 : aAr P55 (k + 13) 11 8 := by rw [e55]; exact aAr_NC ha_k_13
  replace hN : P55.1.1 = k + 29 := by rw [e55]; show P54.1.1 + 1 = _; rw [hN]
  replace hh_k : aHas P55 k 10 := by rw [e55]; exact aHas_NC hh_k
  replace hr_k_4 : aRI P55 k 4 (g.1 + (k + 4)) := by rw [e55]; exact aRI_NC (by rw [hNb]; omega) hr_k_4
  replace hr_k_7 : aRI P55 k 7 (g.1 + (k + 7)) := by rw [e55]; exact aRI_NC (by rw [hNb]; omega) hr_k_7
  replace hr_k_11 : aRI P55 k 11 (g.1 + (k + 11)) := by rw [e55]; exact aRI_NC (by rw [hNb]; omega) hr_k_11
  replace hr_k_12 : aRI P55 k 12 (g.1 + (k + 12)) := by rw [e55]; exact aRI_NC (by rw [hNb]; omega) hr_k_12
  replace hr_k_13 : aRI P55 k 13 (g.1 + (k + 13)) := by rw [e55]; exact aRI_NC (by rw [hNb]; omega) hr_k_13
  refine C_putr (kf := 38) hC kX11 hh_k (by decide) (by decide) rfl rfl rfl ⟨rfl, rfl⟩ rfl w_1041 dX11_init_225 (fun P56 e56 => ?_)
  replace hNb := hN
  replace ha_k_4 : aAr P56 (k + 4) 11 4 := by rw [e56]; exact aAr_PR (by omega) ha_k_4
  replace ha_k_7 : aAr P56 (k + 7) 11 4 := by rw [e56]; exact aAr_PR (by omega) ha_k_7
  replace ha_k_11 : aAr P56 (k + 11) 11 4 := by rw [e56]; exact aAr_PR (by omega) ha_k_11
  replace ha_k_12 : aAr P56 (k + 12) 11 4 := by rw [e56]; exact aAr_PR (by omega) ha_k_12
  replace ha_k_13 : aAr P56 (k + 13) 11 8 := by rw [e56]; exact aAr_PR (by omega) ha_k_13
  replace hN : P56.1.1 = k + 29 := by rw [e56]; exact hN
  replace hh_k : aHas P56 k 10 := by rw [e56]; exact aHas_PR hh_k
  replace hr_k_4 : aRI P56 k 4 (g.1 + (k + 4)) := by rw [e56]; exact aRI_PR (Or.inr (by decide)) hr_k_4
  replace hr_k_7 : aRI P56 k 7 (g.1 + (k + 7)) := by rw [e56]; exact aRI_PR (Or.inr (by decide)) hr_k_7
  replace hr_k_11 : aRI P56 k 11 (g.1 + (k + 11)) := by rw [e56]; exact aRI_PR (Or.inr (by decide)) hr_k_11
  replace hr_k_12 : aRI P56 k 12 (g.1 + (k + 12)) := by rw [e56]; exact aRI_PR (Or.inr (by decide)) hr_k_12
  replace hr_k_13 : aRI P56 k 13 (g.1 + (k + 13)) := by rw [e56]; exact aRI_PR (Or.inr (by decide)) hr_k_13
  refine C_aload_n hC dX11_init_228 rfl ?_
  refine C_bipush (v := 17) hC dX11_init_229 (by decide) ?_
  refine C_newai (n := (17 : Int32)) (N := 17) hC w_86 (by decide) (by decide) (by decide) (by decide) dX11_init_231 (fun P57 e57 => ?_)
  rw [hN]
  replace hNb := hN
  replace ha_k_4 : aAr P57 (k + 4) 11 4 := by rw [e57]; exact aAr_NC ha_k_4
  replace ha_k_7 : aAr P57 (k + 7) 11 4 := by rw [e57]; exact aAr_NC ha_k_7
  replace ha_k_11 : aAr P57 (k + 11) 11 4 := by rw [e57]; exact aAr_NC ha_k_11
  replace ha_k_12 : aAr P57 (k + 12) 11 4 := by rw [e57]; exact aAr_NC ha_k_12
  replace ha_k_13 : aAr P57 (k + 13) 11 8 := by rw [e57]; exact aAr_NC ha_k_13
  replace hN : P57.1.1 = k + 30 := by rw [e57]; show P56.1.1 + 1 = _; rw [hN]
  replace hh_k : aHas P57 k 10 := by rw [e57]; exact aHas_NC hh_k
  replace hr_k_4 : aRI P57 k 4 (g.1 + (k + 4)) := by rw [e57]; exact aRI_NC (by rw [hNb]; omega) hr_k_4
  replace hr_k_7 : aRI P57 k 7 (g.1 + (k + 7)) := by rw [e57]; exact aRI_NC (by rw [hNb]; omega) hr_k_7
  replace hr_k_11 : aRI P57 k 11 (g.1 + (k + 11)) := by rw [e57]; exact aRI_NC (by rw [hNb]; omega) hr_k_11
  replace hr_k_12 : aRI P57 k 12 (g.1 + (k + 12)) := by rw [e57]; exact aRI_NC (by rw [hNb]; omega) hr_k_12
  replace hr_k_13 : aRI P57 k 13 (g.1 + (k + 13)) := by rw [e57]; exact aRI_NC (by rw [hNb]; omega) hr_k_13
  refine C_putr (kf := 39) hC kX11 hh_k (by decide) (by decide) rfl rfl rfl ⟨rfl, rfl⟩ rfl w_1042 dX11_init_233 (fun P58 e58 => ?_)
  replace hNb := hN
  replace ha_k_4 : aAr P58 (k + 4) 11 4 := by rw [e58]; exact aAr_PR (by omega) ha_k_4
  replace ha_k_7 : aAr P58 (k + 7) 11 4 := by rw [e58]; exact aAr_PR (by omega) ha_k_7
  replace ha_k_11 : aAr P58 (k + 11) 11 4 := by rw [e58]; exact aAr_PR (by omega) ha_k_11
  replace ha_k_12 : aAr P58 (k + 12) 11 4 := by rw [e58]; exact aAr_PR (by omega) ha_k_12
  replace ha_k_13 : aAr P58 (k + 13) 11 8 := by rw [e58]; exact aAr_PR (by omega) ha_k_13
  replace hN : P58.1.1 = k + 30 := by rw [e58]; exact hN
  replace hh_k : aHas P58 k 10 := by rw [e58]; exact aHas_PR hh_k
  replace hr_k_4 : aRI P58 k 4 (g.1 + (k + 4)) := by rw [e58]; exact aRI_PR (Or.inr (by decide)) hr_k_4
  replace hr_k_7 : aRI P58 k 7 (g.1 + (k + 7)) := by rw [e58]; exact aRI_PR (Or.inr (by decide)) hr_k_7
  replace hr_k_11 : aRI P58 k 11 (g.1 + (k + 11)) := by rw [e58]; exact aRI_PR (Or.inr (by decide)) hr_k_11
  replace hr_k_12 : aRI P58 k 12 (g.1 + (k + 12)) := by rw [e58]; exact aRI_PR (Or.inr (by decide)) hr_k_12
  replace hr_k_13 : aRI P58 k 13 (g.1 + (k + 13)) := by rw [e58]; exact aRI_PR (Or.inr (by decide)) hr_k_13
  refine C_aload_n hC dX11_init_236 rfl ?_
  refine C_bipush (v := 8) hC dX11_init_237 (by decide) ?_
  refine C_newai (n := (8 : Int32)) (N := 8) hC w_86 (by decide) (by decide) (by decide) (by decide) dX11_init_239 (fun P59 e59 => ?_)
  rw [hN]
  replace hNb := hN
  replace ha_k_4 : aAr P59 (k + 4) 11 4 := by rw [e59]; exact aAr_NC ha_k_4
  replace ha_k_7 : aAr P59 (k + 7) 11 4 := by rw [e59]; exact aAr_NC ha_k_7
  replace ha_k_11 : aAr P59 (k + 11) 11 4 := by rw [e59]; exact aAr_NC ha_k_11
  replace ha_k_12 : aAr P59 (k + 12) 11 4 := by rw [e59]; exact aAr_NC ha_k_12
  replace ha_k_13 : aAr P59 (k + 13) 11 8 := by rw [e59]; exact aAr_NC ha_k_13
  replace hN : P59.1.1 = k + 31 := by rw [e59]; show P58.1.1 + 1 = _; rw [hN]
  replace hh_k : aHas P59 k 10 := by rw [e59]; exact aHas_NC hh_k
  replace hr_k_4 : aRI P59 k 4 (g.1 + (k + 4)) := by rw [e59]; exact aRI_NC (by rw [hNb]; omega) hr_k_4
  replace hr_k_7 : aRI P59 k 7 (g.1 + (k + 7)) := by rw [e59]; exact aRI_NC (by rw [hNb]; omega) hr_k_7
  replace hr_k_11 : aRI P59 k 11 (g.1 + (k + 11)) := by rw [e59]; exact aRI_NC (by rw [hNb]; omega) hr_k_11
  replace hr_k_12 : aRI P59 k 12 (g.1 + (k + 12)) := by rw [e59]; exact aRI_NC (by rw [hNb]; omega) hr_k_12
  replace hr_k_13 : aRI P59 k 13 (g.1 + (k + 13)) := by rw [e59]; exact aRI_NC (by rw [hNb]; omega) hr_k_13
  refine C_putr (kf := 40) hC kX11 hh_k (by decide) (by decide) rfl rfl rfl ⟨rfl, rfl⟩ rfl w_1043 dX11_init_241 (fun P60 e60 => ?_)
  replace hNb := hN
  replace ha_k_4 : aAr P60 (k + 4) 11 4 := by rw [e60]; exact aAr_PR (by omega) ha_k_4
  replace ha_k_7 : aAr P60 (k + 7) 11 4 := by rw [e60]; exact aAr_PR (by omega) ha_k_7
  replace ha_k_11 : aAr P60 (k + 11) 11 4 := by rw [e60]; exact aAr_PR (by omega) ha_k_11
  replace ha_k_12 : aAr P60 (k + 12) 11 4 := by rw [e60]; exact aAr_PR (by omega) ha_k_12
  replace ha_k_13 : aAr P60 (k + 13) 11 8 := by rw [e60]; exact aAr_PR (by omega) ha_k_13
  replace hN : P60.1.1 = k + 31 := by rw [e60]; exact hN
  replace hh_k : aHas P60 k 10 := by rw [e60]; exact aHas_PR hh_k
  replace hr_k_4 : aRI P60 k 4 (g.1 + (k + 4)) := by rw [e60]; exact aRI_PR (Or.inr (by decide)) hr_k_4
  replace hr_k_7 : aRI P60 k 7 (g.1 + (k + 7)) := by rw [e60]; exact aRI_PR (Or.inr (by decide)) hr_k_7
  replace hr_k_11 : aRI P60 k 11 (g.1 + (k + 11)) := by rw [e60]; exact aRI_PR (Or.inr (by decide)) hr_k_11
  replace hr_k_12 : aRI P60 k 12 (g.1 + (k + 12)) := by rw [e60]; exact aRI_PR (Or.inr (by decide)) hr_k_12
  replace hr_k_13 : aRI P60 k 13 (g.1 + (k + 13)) := by rw [e60]; exact aRI_PR (Or.inr (by decide)) hr_k_13
  refine C_aload_n hC dX11_init_244 rfl ?_
  refine C_bipush (v := 32) hC dX11_init_245 (by decide) ?_
  refine C_newaz (n := (32 : Int32)) (N := 32) hC w_139 (by decide) (by decide) (by decide) (by decide) dX11_init_247 (fun P61 e61 => ?_)
  rw [hN]
  replace hNb := hN
  replace ha_k_4 : aAr P61 (k + 4) 11 4 := by rw [e61]; exact aAr_NC ha_k_4
  replace ha_k_7 : aAr P61 (k + 7) 11 4 := by rw [e61]; exact aAr_NC ha_k_7
  replace ha_k_11 : aAr P61 (k + 11) 11 4 := by rw [e61]; exact aAr_NC ha_k_11
  replace ha_k_12 : aAr P61 (k + 12) 11 4 := by rw [e61]; exact aAr_NC ha_k_12
  replace ha_k_13 : aAr P61 (k + 13) 11 8 := by rw [e61]; exact aAr_NC ha_k_13
  replace hN : P61.1.1 = k + 32 := by rw [e61]; show P60.1.1 + 1 = _; rw [hN]
  replace hh_k : aHas P61 k 10 := by rw [e61]; exact aHas_NC hh_k
  replace hr_k_4 : aRI P61 k 4 (g.1 + (k + 4)) := by rw [e61]; exact aRI_NC (by rw [hNb]; omega) hr_k_4
  replace hr_k_7 : aRI P61 k 7 (g.1 + (k + 7)) := by rw [e61]; exact aRI_NC (by rw [hNb]; omega) hr_k_7
  replace hr_k_11 : aRI P61 k 11 (g.1 + (k + 11)) := by rw [e61]; exact aRI_NC (by rw [hNb]; omega) hr_k_11
  replace hr_k_12 : aRI P61 k 12 (g.1 + (k + 12)) := by rw [e61]; exact aRI_NC (by rw [hNb]; omega) hr_k_12
  replace hr_k_13 : aRI P61 k 13 (g.1 + (k + 13)) := by rw [e61]; exact aRI_NC (by rw [hNb]; omega) hr_k_13
  refine C_putr (kf := 42) hC kX11 hh_k (by decide) (by decide) rfl rfl rfl ⟨rfl, rfl⟩ rfl w_1045 dX11_init_249 (fun P62 e62 => ?_)
  replace hNb := hN
  replace ha_k_4 : aAr P62 (k + 4) 11 4 := by rw [e62]; exact aAr_PR (by omega) ha_k_4
  replace ha_k_7 : aAr P62 (k + 7) 11 4 := by rw [e62]; exact aAr_PR (by omega) ha_k_7
  replace ha_k_11 : aAr P62 (k + 11) 11 4 := by rw [e62]; exact aAr_PR (by omega) ha_k_11
  replace ha_k_12 : aAr P62 (k + 12) 11 4 := by rw [e62]; exact aAr_PR (by omega) ha_k_12
  replace ha_k_13 : aAr P62 (k + 13) 11 8 := by rw [e62]; exact aAr_PR (by omega) ha_k_13
  replace hN : P62.1.1 = k + 32 := by rw [e62]; exact hN
  replace hh_k : aHas P62 k 10 := by rw [e62]; exact aHas_PR hh_k
  replace hr_k_4 : aRI P62 k 4 (g.1 + (k + 4)) := by rw [e62]; exact aRI_PR (Or.inr (by decide)) hr_k_4
  replace hr_k_7 : aRI P62 k 7 (g.1 + (k + 7)) := by rw [e62]; exact aRI_PR (Or.inr (by decide)) hr_k_7
  replace hr_k_11 : aRI P62 k 11 (g.1 + (k + 11)) := by rw [e62]; exact aRI_PR (Or.inr (by decide)) hr_k_11
  replace hr_k_12 : aRI P62 k 12 (g.1 + (k + 12)) := by rw [e62]; exact aRI_PR (Or.inr (by decide)) hr_k_12
  replace hr_k_13 : aRI P62 k 13 (g.1 + (k + 13)) := by rw [e62]; exact aRI_PR (Or.inr (by decide)) hr_k_13
  refine C_aload_n hC dX11_init_252 rfl ?_
  refine C_sipush (v := 352) hC dX11_init_253 (by decide) ?_
  refine C_newai (n := (352 : Int32)) (N := 352) hC w_86 (by decide) (by decide) (by decide) (by decide) dX11_init_256 (fun P63 e63 => ?_)
  rw [hN]
  replace hNb := hN
  replace ha_k_4 : aAr P63 (k + 4) 11 4 := by rw [e63]; exact aAr_NC ha_k_4
  replace ha_k_7 : aAr P63 (k + 7) 11 4 := by rw [e63]; exact aAr_NC ha_k_7
  replace ha_k_11 : aAr P63 (k + 11) 11 4 := by rw [e63]; exact aAr_NC ha_k_11
  replace ha_k_12 : aAr P63 (k + 12) 11 4 := by rw [e63]; exact aAr_NC ha_k_12
  replace ha_k_13 : aAr P63 (k + 13) 11 8 := by rw [e63]; exact aAr_NC ha_k_13
  replace hN : P63.1.1 = k + 33 := by rw [e63]; show P62.1.1 + 1 = _; rw [hN]
  replace hh_k : aHas P63 k 10 := by rw [e63]; exact aHas_NC hh_k
  replace hr_k_4 : aRI P63 k 4 (g.1 + (k + 4)) := by rw [e63]; exact aRI_NC (by rw [hNb]; omega) hr_k_4
  replace hr_k_7 : aRI P63 k 7 (g.1 + (k + 7)) := by rw [e63]; exact aRI_NC (by rw [hNb]; omega) hr_k_7
  replace hr_k_11 : aRI P63 k 11 (g.1 + (k + 11)) := by rw [e63]; exact aRI_NC (by rw [hNb]; omega) hr_k_11
  replace hr_k_12 : aRI P63 k 12 (g.1 + (k + 12)) := by rw [e63]; exact aRI_NC (by rw [hNb]; omega) hr_k_12
  replace hr_k_13 : aRI P63 k 13 (g.1 + (k + 13)) := by rw [e63]; exact aRI_NC (by rw [hNb]; omega) hr_k_13
  refine C_putr (kf := 43) hC kX11 hh_k (by decide) (by decide) rfl rfl rfl ⟨rfl, rfl⟩ rfl w_1046 dX11_init_258 (fun P64 e64 => ?_)
  replace hNb := hN
  replace ha_k_4 : aAr P64 (k + 4) 11 4 := by rw [e64]; exact aAr_PR (by omega) ha_k_4
  replace ha_k_7 : aAr P64 (k + 7) 11 4 := by rw [e64]; exact aAr_PR (by omega) ha_k_7
  replace ha_k_11 : aAr P64 (k + 11) 11 4 := by rw [e64]; exact aAr_PR (by omega) ha_k_11
  replace ha_k_12 : aAr P64 (k + 12) 11 4 := by rw [e64]; exact aAr_PR (by omega) ha_k_12
  replace ha_k_13 : aAr P64 (k + 13) 11 8 := by rw [e64]; exact aAr_PR (by omega) ha_k_13
  replace hN : P64.1.1 = k + 33 := by rw [e64]; exact hN
  replace hh_k : aHas P64 k 10 := by rw [e64]; exact aHas_PR hh_k
  replace hr_k_4 : aRI P64 k 4 (g.1 + (k + 4)) := by rw [e64]; exact aRI_PR (Or.inr (by decide)) hr_k_4
  replace hr_k_7 : aRI P64 k 7 (g.1 + (k + 7)) := by rw [e64]; exact aRI_PR (Or.inr (by decide)) hr_k_7
  replace hr_k_11 : aRI P64 k 11 (g.1 + (k + 11)) := by rw [e64]; exact aRI_PR (Or.inr (by decide)) hr_k_11
  replace hr_k_12 : aRI P64 k 12 (g.1 + (k + 12)) := by rw [e64]; exact aRI_PR (Or.inr (by decide)) hr_k_12
  replace hr_k_13 : aRI P64 k 13 (g.1 + (k + 13)) := by rw [e64]; exact aRI_PR (Or.inr (by decide)) hr_k_13
  refine C_aload_n hC dX11_init_261 rfl ?_
  refine C_bipush (v := 32) hC dX11_init_262 (by decide) ?_
  refine C_newai (n := (32 : Int32)) (N := 32) hC w_86 (by decide) (by decide) (by decide) (by decide) dX11_init_264 (fun P65 e65 => ?_)
  rw [hN]
  replace hNb := hN
  replace ha_k_4 : aAr P65 (k + 4) 11 4 := by rw [e65]; exact aAr_NC ha_k_4
  replace ha_k_7 : aAr P65 (k + 7) 11 4 := by rw [e65]; exact aAr_NC ha_k_7
  replace ha_k_11 : aAr P65 (k + 11) 11 4 := by rw [e65]; exact aAr_NC ha_k_11
  replace ha_k_12 : aAr P65 (k + 12) 11 4 := by rw [e65]; exact aAr_NC ha_k_12
  replace ha_k_13 : aAr P65 (k + 13) 11 8 := by rw [e65]; exact aAr_NC ha_k_13
  replace hN : P65.1.1 = k + 34 := by rw [e65]; show P64.1.1 + 1 = _; rw [hN]
  replace hh_k : aHas P65 k 10 := by rw [e65]; exact aHas_NC hh_k
  replace hr_k_4 : aRI P65 k 4 (g.1 + (k + 4)) := by rw [e65]; exact aRI_NC (by rw [hNb]; omega) hr_k_4
  replace hr_k_7 : aRI P65 k 7 (g.1 + (k + 7)) := by rw [e65]; exact aRI_NC (by rw [hNb]; omega) hr_k_7
  replace hr_k_11 : aRI P65 k 11 (g.1 + (k + 11)) := by rw [e65]; exact aRI_NC (by rw [hNb]; omega) hr_k_11
  replace hr_k_12 : aRI P65 k 12 (g.1 + (k + 12)) := by rw [e65]; exact aRI_NC (by rw [hNb]; omega) hr_k_12
  replace hr_k_13 : aRI P65 k 13 (g.1 + (k + 13)) := by rw [e65]; exact aRI_NC (by rw [hNb]; omega) hr_k_13
  refine C_putr (kf := 44) hC kX11 hh_k (by decide) (by decide) rfl rfl rfl ⟨rfl, rfl⟩ rfl w_1047 dX11_init_266 (fun P66 e66 => ?_)
  replace hNb := hN
  replace ha_k_4 : aAr P66 (k + 4) 11 4 := by rw [e66]; exact aAr_PR (by omega) ha_k_4
  replace ha_k_7 : aAr P66 (k + 7) 11 4 := by rw [e66]; exact aAr_PR (by omega) ha_k_7
  replace ha_k_11 : aAr P66 (k + 11) 11 4 := by rw [e66]; exact aAr_PR (by omega) ha_k_11
  replace ha_k_12 : aAr P66 (k + 12) 11 4 := by rw [e66]; exact aAr_PR (by omega) ha_k_12
  replace ha_k_13 : aAr P66 (k + 13) 11 8 := by rw [e66]; exact aAr_PR (by omega) ha_k_13
  replace hN : P66.1.1 = k + 34 := by rw [e66]; exact hN
  replace hh_k : aHas P66 k 10 := by rw [e66]; exact aHas_PR hh_k
  replace hr_k_4 : aRI P66 k 4 (g.1 + (k + 4)) := by rw [e66]; exact aRI_PR (Or.inr (by decide)) hr_k_4
  replace hr_k_7 : aRI P66 k 7 (g.1 + (k + 7)) := by rw [e66]; exact aRI_PR (Or.inr (by decide)) hr_k_7
  replace hr_k_11 : aRI P66 k 11 (g.1 + (k + 11)) := by rw [e66]; exact aRI_PR (Or.inr (by decide)) hr_k_11
  replace hr_k_12 : aRI P66 k 12 (g.1 + (k + 12)) := by rw [e66]; exact aRI_PR (Or.inr (by decide)) hr_k_12
  replace hr_k_13 : aRI P66 k 13 (g.1 + (k + 13)) := by rw [e66]; exact aRI_PR (Or.inr (by decide)) hr_k_13
  refine C_aload_n hC dX11_init_269 rfl ?_
  refine C_bipush (v := 32) hC dX11_init_270 (by decide) ?_
  refine C_newai (n := (32 : Int32)) (N := 32) hC w_86 (by decide) (by decide) (by decide) (by decide) dX11_init_272 (fun P67 e67 => ?_)
  rw [hN]
  replace hNb := hN
  replace ha_k_4 : aAr P67 (k + 4) 11 4 := by rw [e67]; exact aAr_NC ha_k_4
  replace ha_k_7 : aAr P67 (k + 7) 11 4 := by rw [e67]; exact aAr_NC ha_k_7
  replace ha_k_11 : aAr P67 (k + 11) 11 4 := by rw [e67]; exact aAr_NC ha_k_11
  replace ha_k_12 : aAr P67 (k + 12) 11 4 := by rw [e67]; exact aAr_NC ha_k_12
  replace ha_k_13 : aAr P67 (k + 13) 11 8 := by rw [e67]; exact aAr_NC ha_k_13
  replace hN : P67.1.1 = k + 35 := by rw [e67]; show P66.1.1 + 1 = _; rw [hN]
  replace hh_k : aHas P67 k 10 := by rw [e67]; exact aHas_NC hh_k
  replace hr_k_4 : aRI P67 k 4 (g.1 + (k + 4)) := by rw [e67]; exact aRI_NC (by rw [hNb]; omega) hr_k_4
  replace hr_k_7 : aRI P67 k 7 (g.1 + (k + 7)) := by rw [e67]; exact aRI_NC (by rw [hNb]; omega) hr_k_7
  replace hr_k_11 : aRI P67 k 11 (g.1 + (k + 11)) := by rw [e67]; exact aRI_NC (by rw [hNb]; omega) hr_k_11
  replace hr_k_12 : aRI P67 k 12 (g.1 + (k + 12)) := by rw [e67]; exact aRI_NC (by rw [hNb]; omega) hr_k_12
  replace hr_k_13 : aRI P67 k 13 (g.1 + (k + 13)) := by rw [e67]; exact aRI_NC (by rw [hNb]; omega) hr_k_13
  refine C_putr (kf := 45) hC kX11 hh_k (by decide) (by decide) rfl rfl rfl ⟨rfl, rfl⟩ rfl w_1048 dX11_init_274 (fun P68 e68 => ?_)
  replace hNb := hN
  replace ha_k_4 : aAr P68 (k + 4) 11 4 := by rw [e68]; exact aAr_PR (by omega) ha_k_4
  replace ha_k_7 : aAr P68 (k + 7) 11 4 := by rw [e68]; exact aAr_PR (by omega) ha_k_7
  replace ha_k_11 : aAr P68 (k + 11) 11 4 := by rw [e68]; exact aAr_PR (by omega) ha_k_11
  replace ha_k_12 : aAr P68 (k + 12) 11 4 := by rw [e68]; exact aAr_PR (by omega) ha_k_12
  replace ha_k_13 : aAr P68 (k + 13) 11 8 := by rw [e68]; exact aAr_PR (by omega) ha_k_13
  replace hN : P68.1.1 = k + 35 := by rw [e68]; exact hN
  replace hh_k : aHas P68 k 10 := by rw [e68]; exact aHas_PR hh_k
  replace hr_k_4 : aRI P68 k 4 (g.1 + (k + 4)) := by rw [e68]; exact aRI_PR (Or.inr (by decide)) hr_k_4
  replace hr_k_7 : aRI P68 k 7 (g.1 + (k + 7)) := by rw [e68]; exact aRI_PR (Or.inr (by decide)) hr_k_7
  replace hr_k_11 : aRI P68 k 11 (g.1 + (k + 11)) := by rw [e68]; exact aRI_PR (Or.inr (by decide)) hr_k_11
  replace hr_k_12 : aRI P68 k 12 (g.1 + (k + 12)) := by rw [e68]; exact aRI_PR (Or.inr (by decide)) hr_k_12
  replace hr_k_13 : aRI P68 k 13 (g.1 + (k + 13)) := by rw [e68]; exact aRI_PR (Or.inr (by decide)) hr_k_13
  refine C_aload_n hC dX11_init_277 rfl ?_
  refine C_bipush (v := 32) hC dX11_init_278 (by decide) ?_
  refine C_newaz (n := (32 : Int32)) (N := 32) hC w_139 (by decide) (by decide) (by decide) (by decide) dX11_init_280 (fun P69 e69 => ?_)
  rw [hN]
  replace hNb := hN
  replace ha_k_4 : aAr P69 (k + 4) 11 4 := by rw [e69]; exact aAr_NC ha_k_4
  replace ha_k_7 : aAr P69 (k + 7) 11 4 := by rw [e69]; exact aAr_NC ha_k_7
  replace ha_k_11 : aAr P69 (k + 11) 11 4 := by rw [e69]; exact aAr_NC ha_k_11
  replace ha_k_12 : aAr P69 (k + 12) 11 4 := by rw [e69]; exact aAr_NC ha_k_12
  replace ha_k_13 : aAr P69 (k + 13) 11 8 := by rw [e69]; exact aAr_NC ha_k_13
  replace hN : P69.1.1 = k + 36 := by rw [e69]; show P68.1.1 + 1 = _; rw [hN]
  replace hh_k : aHas P69 k 10 := by rw [e69]; exact aHas_NC hh_k
  replace hr_k_4 : aRI P69 k 4 (g.1 + (k + 4)) := by rw [e69]; exact aRI_NC (by rw [hNb]; omega) hr_k_4
  replace hr_k_7 : aRI P69 k 7 (g.1 + (k + 7)) := by rw [e69]; exact aRI_NC (by rw [hNb]; omega) hr_k_7
  replace hr_k_11 : aRI P69 k 11 (g.1 + (k + 11)) := by rw [e69]; exact aRI_NC (by rw [hNb]; omega) hr_k_11
  replace hr_k_12 : aRI P69 k 12 (g.1 + (k + 12)) := by rw [e69]; exact aRI_NC (by rw [hNb]; omega) hr_k_12
  replace hr_k_13 : aRI P69 k 13 (g.1 + (k + 13)) := by rw [e69]; exact aRI_NC (by rw [hNb]; omega) hr_k_13
  refine C_putr (kf := 46) hC kX11 hh_k (by decide) (by decide) rfl rfl rfl ⟨rfl, rfl⟩ rfl w_1049 dX11_init_282 (fun P70 e70 => ?_)
  replace hNb := hN
  replace ha_k_4 : aAr P70 (k + 4) 11 4 := by rw [e70]; exact aAr_PR (by omega) ha_k_4
  replace ha_k_7 : aAr P70 (k + 7) 11 4 := by rw [e70]; exact aAr_PR (by omega) ha_k_7
  replace ha_k_11 : aAr P70 (k + 11) 11 4 := by rw [e70]; exact aAr_PR (by omega) ha_k_11
  replace ha_k_12 : aAr P70 (k + 12) 11 4 := by rw [e70]; exact aAr_PR (by omega) ha_k_12
  replace ha_k_13 : aAr P70 (k + 13) 11 8 := by rw [e70]; exact aAr_PR (by omega) ha_k_13
  replace hN : P70.1.1 = k + 36 := by rw [e70]; exact hN
  replace hh_k : aHas P70 k 10 := by rw [e70]; exact aHas_PR hh_k
  replace hr_k_4 : aRI P70 k 4 (g.1 + (k + 4)) := by rw [e70]; exact aRI_PR (Or.inr (by decide)) hr_k_4
  replace hr_k_7 : aRI P70 k 7 (g.1 + (k + 7)) := by rw [e70]; exact aRI_PR (Or.inr (by decide)) hr_k_7
  replace hr_k_11 : aRI P70 k 11 (g.1 + (k + 11)) := by rw [e70]; exact aRI_PR (Or.inr (by decide)) hr_k_11
  replace hr_k_12 : aRI P70 k 12 (g.1 + (k + 12)) := by rw [e70]; exact aRI_PR (Or.inr (by decide)) hr_k_12
  replace hr_k_13 : aRI P70 k 13 (g.1 + (k + 13)) := by rw [e70]; exact aRI_PR (Or.inr (by decide)) hr_k_13
  refine C_aload_n hC dX11_init_285 rfl ?_
  refine C_sipush (v := 301) hC dX11_init_286 (by decide) ?_
  refine C_newai (n := (301 : Int32)) (N := 301) hC w_86 (by decide) (by decide) (by decide) (by decide) dX11_init_289 (fun P71 e71 => ?_)
  rw [hN]
  replace hNb := hN
  replace ha_k_4 : aAr P71 (k + 4) 11 4 := by rw [e71]; exact aAr_NC ha_k_4
  replace ha_k_7 : aAr P71 (k + 7) 11 4 := by rw [e71]; exact aAr_NC ha_k_7
  replace ha_k_11 : aAr P71 (k + 11) 11 4 := by rw [e71]; exact aAr_NC ha_k_11
  replace ha_k_12 : aAr P71 (k + 12) 11 4 := by rw [e71]; exact aAr_NC ha_k_12
  replace ha_k_13 : aAr P71 (k + 13) 11 8 := by rw [e71]; exact aAr_NC ha_k_13
  replace hN : P71.1.1 = k + 37 := by rw [e71]; show P70.1.1 + 1 = _; rw [hN]
  replace hh_k : aHas P71 k 10 := by rw [e71]; exact aHas_NC hh_k
  replace hr_k_4 : aRI P71 k 4 (g.1 + (k + 4)) := by rw [e71]; exact aRI_NC (by rw [hNb]; omega) hr_k_4
  replace hr_k_7 : aRI P71 k 7 (g.1 + (k + 7)) := by rw [e71]; exact aRI_NC (by rw [hNb]; omega) hr_k_7
  replace hr_k_11 : aRI P71 k 11 (g.1 + (k + 11)) := by rw [e71]; exact aRI_NC (by rw [hNb]; omega) hr_k_11
  replace hr_k_12 : aRI P71 k 12 (g.1 + (k + 12)) := by rw [e71]; exact aRI_NC (by rw [hNb]; omega) hr_k_12
  replace hr_k_13 : aRI P71 k 13 (g.1 + (k + 13)) := by rw [e71]; exact aRI_NC (by rw [hNb]; omega) hr_k_13
  refine C_putr (kf := 47) hC kX11 hh_k (by decide) (by decide) rfl rfl rfl ⟨rfl, rfl⟩ rfl w_1050 dX11_init_291 (fun P72 e72 => ?_)
  replace hNb := hN
  replace ha_k_4 : aAr P72 (k + 4) 11 4 := by rw [e72]; exact aAr_PR (by omega) ha_k_4
  replace ha_k_7 : aAr P72 (k + 7) 11 4 := by rw [e72]; exact aAr_PR (by omega) ha_k_7
  replace ha_k_11 : aAr P72 (k + 11) 11 4 := by rw [e72]; exact aAr_PR (by omega) ha_k_11
  replace ha_k_12 : aAr P72 (k + 12) 11 4 := by rw [e72]; exact aAr_PR (by omega) ha_k_12
  replace ha_k_13 : aAr P72 (k + 13) 11 8 := by rw [e72]; exact aAr_PR (by omega) ha_k_13
  replace hN : P72.1.1 = k + 37 := by rw [e72]; exact hN
  replace hh_k : aHas P72 k 10 := by rw [e72]; exact aHas_PR hh_k
  replace hr_k_4 : aRI P72 k 4 (g.1 + (k + 4)) := by rw [e72]; exact aRI_PR (Or.inr (by decide)) hr_k_4
  replace hr_k_7 : aRI P72 k 7 (g.1 + (k + 7)) := by rw [e72]; exact aRI_PR (Or.inr (by decide)) hr_k_7
  replace hr_k_11 : aRI P72 k 11 (g.1 + (k + 11)) := by rw [e72]; exact aRI_PR (Or.inr (by decide)) hr_k_11
  replace hr_k_12 : aRI P72 k 12 (g.1 + (k + 12)) := by rw [e72]; exact aRI_PR (Or.inr (by decide)) hr_k_12
  replace hr_k_13 : aRI P72 k 13 (g.1 + (k + 13)) := by rw [e72]; exact aRI_PR (Or.inr (by decide)) hr_k_13
  refine C_aload_n hC dX11_init_294 rfl ?_
  refine C_bipush (v := 33) hC dX11_init_295 (by decide) ?_
  refine C_newal (n := (33 : Int32)) (N := 33) hC w_304 (by decide) (by decide) (by decide) (by decide) dX11_init_297 (fun P73 e73 => ?_)
  rw [hN]
  replace hNb := hN
  replace ha_k_4 : aAr P73 (k + 4) 11 4 := by rw [e73]; exact aAr_NC ha_k_4
  replace ha_k_7 : aAr P73 (k + 7) 11 4 := by rw [e73]; exact aAr_NC ha_k_7
  replace ha_k_11 : aAr P73 (k + 11) 11 4 := by rw [e73]; exact aAr_NC ha_k_11
  replace ha_k_12 : aAr P73 (k + 12) 11 4 := by rw [e73]; exact aAr_NC ha_k_12
  replace ha_k_13 : aAr P73 (k + 13) 11 8 := by rw [e73]; exact aAr_NC ha_k_13
  replace hN : P73.1.1 = k + 38 := by rw [e73]; show P72.1.1 + 1 = _; rw [hN]
  replace hh_k : aHas P73 k 10 := by rw [e73]; exact aHas_NC hh_k
  replace hr_k_4 : aRI P73 k 4 (g.1 + (k + 4)) := by rw [e73]; exact aRI_NC (by rw [hNb]; omega) hr_k_4
  replace hr_k_7 : aRI P73 k 7 (g.1 + (k + 7)) := by rw [e73]; exact aRI_NC (by rw [hNb]; omega) hr_k_7
  replace hr_k_11 : aRI P73 k 11 (g.1 + (k + 11)) := by rw [e73]; exact aRI_NC (by rw [hNb]; omega) hr_k_11
  replace hr_k_12 : aRI P73 k 12 (g.1 + (k + 12)) := by rw [e73]; exact aRI_NC (by rw [hNb]; omega) hr_k_12
  replace hr_k_13 : aRI P73 k 13 (g.1 + (k + 13)) := by rw [e73]; exact aRI_NC (by rw [hNb]; omega) hr_k_13
  refine C_putr (kf := 48) hC kX11 hh_k (by decide) (by decide) rfl rfl rfl ⟨rfl, rfl⟩ rfl w_1051 dX11_init_299 (fun P74 e74 => ?_)
  replace hNb := hN
  replace ha_k_4 : aAr P74 (k + 4) 11 4 := by rw [e74]; exact aAr_PR (by omega) ha_k_4
  replace ha_k_7 : aAr P74 (k + 7) 11 4 := by rw [e74]; exact aAr_PR (by omega) ha_k_7
  replace ha_k_11 : aAr P74 (k + 11) 11 4 := by rw [e74]; exact aAr_PR (by omega) ha_k_11
  replace ha_k_12 : aAr P74 (k + 12) 11 4 := by rw [e74]; exact aAr_PR (by omega) ha_k_12
  replace ha_k_13 : aAr P74 (k + 13) 11 8 := by rw [e74]; exact aAr_PR (by omega) ha_k_13
  replace hN : P74.1.1 = k + 38 := by rw [e74]; exact hN
  replace hh_k : aHas P74 k 10 := by rw [e74]; exact aHas_PR hh_k
  replace hr_k_4 : aRI P74 k 4 (g.1 + (k + 4)) := by rw [e74]; exact aRI_PR (Or.inr (by decide)) hr_k_4
  replace hr_k_7 : aRI P74 k 7 (g.1 + (k + 7)) := by rw [e74]; exact aRI_PR (Or.inr (by decide)) hr_k_7
  replace hr_k_11 : aRI P74 k 11 (g.1 + (k + 11)) := by rw [e74]; exact aRI_PR (Or.inr (by decide)) hr_k_11
  replace hr_k_12 : aRI P74 k 12 (g.1 + (k + 12)) := by rw [e74]; exact aRI_PR (Or.inr (by decide)) hr_k_12
  replace hr_k_13 : aRI P74 k 13 (g.1 + (k + 13)) := by rw [e74]; exact aRI_PR (Or.inr (by decide)) hr_k_13
  refine C_aload_n hC dX11_init_302 rfl ?_
  refine C_bipush (v := 32) hC dX11_init_303 (by decide) ?_
  refine C_newaz (n := (32 : Int32)) (N := 32) hC w_139 (by decide) (by decide) (by decide) (by decide) dX11_init_305 (fun P75 e75 => ?_)
  rw [hN]
  replace hNb := hN
  replace ha_k_4 : aAr P75 (k + 4) 11 4 := by rw [e75]; exact aAr_NC ha_k_4
  replace ha_k_7 : aAr P75 (k + 7) 11 4 := by rw [e75]; exact aAr_NC ha_k_7
  replace ha_k_11 : aAr P75 (k + 11) 11 4 := by rw [e75]; exact aAr_NC ha_k_11
  replace ha_k_12 : aAr P75 (k + 12) 11 4 := by rw [e75]; exact aAr_NC ha_k_12
  replace ha_k_13 : aAr P75 (k + 13) 11 8 := by rw [e75]; exact aAr_NC ha_k_13
  replace hN : P75.1.1 = k + 39 := by rw [e75]; show P74.1.1 + 1 = _; rw [hN]
  replace hh_k : aHas P75 k 10 := by rw [e75]; exact aHas_NC hh_k
  replace hr_k_4 : aRI P75 k 4 (g.1 + (k + 4)) := by rw [e75]; exact aRI_NC (by rw [hNb]; omega) hr_k_4
  replace hr_k_7 : aRI P75 k 7 (g.1 + (k + 7)) := by rw [e75]; exact aRI_NC (by rw [hNb]; omega) hr_k_7
  replace hr_k_11 : aRI P75 k 11 (g.1 + (k + 11)) := by rw [e75]; exact aRI_NC (by rw [hNb]; omega) hr_k_11
  replace hr_k_12 : aRI P75 k 12 (g.1 + (k + 12)) := by rw [e75]; exact aRI_NC (by rw [hNb]; omega) hr_k_12
  replace hr_k_13 : aRI P75 k 13 (g.1 + (k + 13)) := by rw [e75]; exact aRI_NC (by rw [hNb]; omega) hr_k_13
  refine C_putr (kf := 49) hC kX11 hh_k (by decide) (by decide) rfl rfl rfl ⟨rfl, rfl⟩ rfl w_1052 dX11_init_307 (fun P76 e76 => ?_)
  replace hNb := hN
  replace ha_k_4 : aAr P76 (k + 4) 11 4 := by rw [e76]; exact aAr_PR (by omega) ha_k_4
  replace ha_k_7 : aAr P76 (k + 7) 11 4 := by rw [e76]; exact aAr_PR (by omega) ha_k_7
  replace ha_k_11 : aAr P76 (k + 11) 11 4 := by rw [e76]; exact aAr_PR (by omega) ha_k_11
  replace ha_k_12 : aAr P76 (k + 12) 11 4 := by rw [e76]; exact aAr_PR (by omega) ha_k_12
  replace ha_k_13 : aAr P76 (k + 13) 11 8 := by rw [e76]; exact aAr_PR (by omega) ha_k_13
  replace hN : P76.1.1 = k + 39 := by rw [e76]; exact hN
  replace hh_k : aHas P76 k 10 := by rw [e76]; exact aHas_PR hh_k
  replace hr_k_4 : aRI P76 k 4 (g.1 + (k + 4)) := by rw [e76]; exact aRI_PR (Or.inr (by decide)) hr_k_4
  replace hr_k_7 : aRI P76 k 7 (g.1 + (k + 7)) := by rw [e76]; exact aRI_PR (Or.inr (by decide)) hr_k_7
  replace hr_k_11 : aRI P76 k 11 (g.1 + (k + 11)) := by rw [e76]; exact aRI_PR (Or.inr (by decide)) hr_k_11
  replace hr_k_12 : aRI P76 k 12 (g.1 + (k + 12)) := by rw [e76]; exact aRI_PR (Or.inr (by decide)) hr_k_12
  replace hr_k_13 : aRI P76 k 13 (g.1 + (k + 13)) := by rw [e76]; exact aRI_PR (Or.inr (by decide)) hr_k_13
  refine C_aload_n hC dX11_init_310 rfl ?_
  refine C_iconst (v := 3) hC dX11_init_311 (by decide) ?_
  refine C_newaz (n := (3 : Int32)) (N := 3) hC w_139 (by decide) (by decide) (by decide) (by decide) dX11_init_312 (fun P77 e77 => ?_)
  rw [hN]
  replace hNb := hN
  replace ha_k_4 : aAr P77 (k + 4) 11 4 := by rw [e77]; exact aAr_NC ha_k_4
  replace ha_k_7 : aAr P77 (k + 7) 11 4 := by rw [e77]; exact aAr_NC ha_k_7
  replace ha_k_11 : aAr P77 (k + 11) 11 4 := by rw [e77]; exact aAr_NC ha_k_11
  replace ha_k_12 : aAr P77 (k + 12) 11 4 := by rw [e77]; exact aAr_NC ha_k_12
  replace ha_k_13 : aAr P77 (k + 13) 11 8 := by rw [e77]; exact aAr_NC ha_k_13
  replace hN : P77.1.1 = k + 40 := by rw [e77]; show P76.1.1 + 1 = _; rw [hN]
  replace hh_k : aHas P77 k 10 := by rw [e77]; exact aHas_NC hh_k
  replace hr_k_4 : aRI P77 k 4 (g.1 + (k + 4)) := by rw [e77]; exact aRI_NC (by rw [hNb]; omega) hr_k_4
  replace hr_k_7 : aRI P77 k 7 (g.1 + (k + 7)) := by rw [e77]; exact aRI_NC (by rw [hNb]; omega) hr_k_7
  replace hr_k_11 : aRI P77 k 11 (g.1 + (k + 11)) := by rw [e77]; exact aRI_NC (by rw [hNb]; omega) hr_k_11
  replace hr_k_12 : aRI P77 k 12 (g.1 + (k + 12)) := by rw [e77]; exact aRI_NC (by rw [hNb]; omega) hr_k_12
  replace hr_k_13 : aRI P77 k 13 (g.1 + (k + 13)) := by rw [e77]; exact aRI_NC (by rw [hNb]; omega) hr_k_13
  refine C_putr (kf := 50) hC kX11 hh_k (by decide) (by decide) rfl rfl rfl ⟨rfl, rfl⟩ rfl w_1053 dX11_init_314 (fun P78 e78 => ?_)
  replace hNb := hN
  replace ha_k_4 : aAr P78 (k + 4) 11 4 := by rw [e78]; exact aAr_PR (by omega) ha_k_4
  replace ha_k_7 : aAr P78 (k + 7) 11 4 := by rw [e78]; exact aAr_PR (by omega) ha_k_7
  replace ha_k_11 : aAr P78 (k + 11) 11 4 := by rw [e78]; exact aAr_PR (by omega) ha_k_11
  replace ha_k_12 : aAr P78 (k + 12) 11 4 := by rw [e78]; exact aAr_PR (by omega) ha_k_12
  replace ha_k_13 : aAr P78 (k + 13) 11 8 := by rw [e78]; exact aAr_PR (by omega) ha_k_13
  replace hN : P78.1.1 = k + 40 := by rw [e78]; exact hN
  replace hh_k : aHas P78 k 10 := by rw [e78]; exact aHas_PR hh_k
  replace hr_k_4 : aRI P78 k 4 (g.1 + (k + 4)) := by rw [e78]; exact aRI_PR (Or.inr (by decide)) hr_k_4
  replace hr_k_7 : aRI P78 k 7 (g.1 + (k + 7)) := by rw [e78]; exact aRI_PR (Or.inr (by decide)) hr_k_7
  replace hr_k_11 : aRI P78 k 11 (g.1 + (k + 11)) := by rw [e78]; exact aRI_PR (Or.inr (by decide)) hr_k_11
  replace hr_k_12 : aRI P78 k 12 (g.1 + (k + 12)) := by rw [e78]; exact aRI_PR (Or.inr (by decide)) hr_k_12
  replace hr_k_13 : aRI P78 k 13 (g.1 + (k + 13)) := by rw [e78]; exact aRI_PR (Or.inr (by decide)) hr_k_13
  refine C_aload_n hC dX11_init_317 rfl ?_
  refine C_getr (kf := 4) hC kX11 hh_k (by decide) (by decide) rfl hr_k_4 w_1007 dX11_init_318 ?_
  refine C_iconst (v := 0) hC dX11_init_321 (by decide) ?_
  refine C_iconst (v := -1) hC dX11_init_322 (by decide) ?_
  refine C_iast (n := 4) hC ⟨ha_k_4.1, ha_k_4.2.1⟩ (by decide) dX11_init_323 (fun P79 e79 => ?_)
  have e79 : P79 = aPI P78 (k + 4) 0 (-1 : Int32) := e79
  replace hNb := hN
  replace ha_k_4 : aAr P79 (k + 4) 11 4 := by rw [e79]; exact aAr_PI ha_k_4
  replace ha_k_7 : aAr P79 (k + 7) 11 4 := by rw [e79]; exact aAr_PI ha_k_7
  replace ha_k_11 : aAr P79 (k + 11) 11 4 := by rw [e79]; exact aAr_PI ha_k_11
  replace ha_k_12 : aAr P79 (k + 12) 11 4 := by rw [e79]; exact aAr_PI ha_k_12
  replace ha_k_13 : aAr P79 (k + 13) 11 8 := by rw [e79]; exact aAr_PI ha_k_13
  replace hN : P79.1.1 = k + 40 := by rw [e79]; exact hN
  replace hh_k : aHas P79 k 10 := by rw [e79]; exact aHas_PI hh_k
  replace hr_k_4 : aRI P79 k 4 (g.1 + (k + 4)) := by rw [e79]; exact aRI_PI hr_k_4
  replace hr_k_7 : aRI P79 k 7 (g.1 + (k + 7)) := by rw [e79]; exact aRI_PI hr_k_7
  replace hr_k_11 : aRI P79 k 11 (g.1 + (k + 11)) := by rw [e79]; exact aRI_PI hr_k_11
  replace hr_k_12 : aRI P79 k 12 (g.1 + (k + 12)) := by rw [e79]; exact aRI_PI hr_k_12
  replace hr_k_13 : aRI P79 k 13 (g.1 + (k + 13)) := by rw [e79]; exact aRI_PI hr_k_13
  refine C_aload_n hC dX11_init_324 rfl ?_
  refine C_getr (kf := 7) hC kX11 hh_k (by decide) (by decide) rfl hr_k_7 w_1010 dX11_init_325 ?_
  refine C_iconst (v := 0) hC dX11_init_328 (by decide) ?_
  refine C_iconst (v := -1) hC dX11_init_329 (by decide) ?_
  refine C_iast (n := 4) hC ⟨ha_k_7.1, ha_k_7.2.1⟩ (by decide) dX11_init_330 (fun P80 e80 => ?_)
  have e80 : P80 = aPI P79 (k + 7) 0 (-1 : Int32) := e80
  replace hNb := hN
  replace ha_k_4 : aAr P80 (k + 4) 11 4 := by rw [e80]; exact aAr_PI ha_k_4
  replace ha_k_7 : aAr P80 (k + 7) 11 4 := by rw [e80]; exact aAr_PI ha_k_7
  replace ha_k_11 : aAr P80 (k + 11) 11 4 := by rw [e80]; exact aAr_PI ha_k_11
  replace ha_k_12 : aAr P80 (k + 12) 11 4 := by rw [e80]; exact aAr_PI ha_k_12
  replace ha_k_13 : aAr P80 (k + 13) 11 8 := by rw [e80]; exact aAr_PI ha_k_13
  replace hN : P80.1.1 = k + 40 := by rw [e80]; exact hN
  replace hh_k : aHas P80 k 10 := by rw [e80]; exact aHas_PI hh_k
  replace hr_k_4 : aRI P80 k 4 (g.1 + (k + 4)) := by rw [e80]; exact aRI_PI hr_k_4
  replace hr_k_7 : aRI P80 k 7 (g.1 + (k + 7)) := by rw [e80]; exact aRI_PI hr_k_7
  replace hr_k_11 : aRI P80 k 11 (g.1 + (k + 11)) := by rw [e80]; exact aRI_PI hr_k_11
  replace hr_k_12 : aRI P80 k 12 (g.1 + (k + 12)) := by rw [e80]; exact aRI_PI hr_k_12
  replace hr_k_13 : aRI P80 k 13 (g.1 + (k + 13)) := by rw [e80]; exact aRI_PI hr_k_13
  refine C_aload_n hC dX11_init_331 rfl ?_
  refine C_getr (kf := 11) hC kX11 hh_k (by decide) (by decide) rfl hr_k_11 w_1014 dX11_init_332 ?_
  refine C_iconst (v := 0) hC dX11_init_335 (by decide) ?_
  refine C_bipush (v := 63) hC dX11_init_336 (by decide) ?_
  refine C_iast (n := 4) hC ⟨ha_k_11.1, ha_k_11.2.1⟩ (by decide) dX11_init_338 (fun P81 e81 => ?_)
  have e81 : P81 = aPI P80 (k + 11) 0 (63 : Int32) := e81
  replace hNb := hN
  replace ha_k_4 : aAr P81 (k + 4) 11 4 := by rw [e81]; exact aAr_PI ha_k_4
  replace ha_k_7 : aAr P81 (k + 7) 11 4 := by rw [e81]; exact aAr_PI ha_k_7
  replace ha_k_11 : aAr P81 (k + 11) 11 4 := by rw [e81]; exact aAr_PI ha_k_11
  replace ha_k_12 : aAr P81 (k + 12) 11 4 := by rw [e81]; exact aAr_PI ha_k_12
  replace ha_k_13 : aAr P81 (k + 13) 11 8 := by rw [e81]; exact aAr_PI ha_k_13
  replace hN : P81.1.1 = k + 40 := by rw [e81]; exact hN
  replace hh_k : aHas P81 k 10 := by rw [e81]; exact aHas_PI hh_k
  replace hr_k_4 : aRI P81 k 4 (g.1 + (k + 4)) := by rw [e81]; exact aRI_PI hr_k_4
  replace hr_k_7 : aRI P81 k 7 (g.1 + (k + 7)) := by rw [e81]; exact aRI_PI hr_k_7
  replace hr_k_11 : aRI P81 k 11 (g.1 + (k + 11)) := by rw [e81]; exact aRI_PI hr_k_11
  replace hr_k_12 : aRI P81 k 12 (g.1 + (k + 12)) := by rw [e81]; exact aRI_PI hr_k_12
  replace hr_k_13 : aRI P81 k 13 (g.1 + (k + 13)) := by rw [e81]; exact aRI_PI hr_k_13
  refine C_aload_n hC dX11_init_339 rfl ?_
  refine C_getr (kf := 12) hC kX11 hh_k (by decide) (by decide) rfl hr_k_12 w_1015 dX11_init_340 ?_
  refine C_iconst (v := 0) hC dX11_init_343 (by decide) ?_
  refine C_bipush (v := 31) hC dX11_init_344 (by decide) ?_
  refine C_iast (n := 4) hC ⟨ha_k_12.1, ha_k_12.2.1⟩ (by decide) dX11_init_346 (fun P82 e82 => ?_)
  have e82 : P82 = aPI P81 (k + 12) 0 (31 : Int32) := e82
  replace hNb := hN
  replace ha_k_4 : aAr P82 (k + 4) 11 4 := by rw [e82]; exact aAr_PI ha_k_4
  replace ha_k_7 : aAr P82 (k + 7) 11 4 := by rw [e82]; exact aAr_PI ha_k_7
  replace ha_k_11 : aAr P82 (k + 11) 11 4 := by rw [e82]; exact aAr_PI ha_k_11
  replace ha_k_12 : aAr P82 (k + 12) 11 4 := by rw [e82]; exact aAr_PI ha_k_12
  replace ha_k_13 : aAr P82 (k + 13) 11 8 := by rw [e82]; exact aAr_PI ha_k_13
  replace hN : P82.1.1 = k + 40 := by rw [e82]; exact hN
  replace hh_k : aHas P82 k 10 := by rw [e82]; exact aHas_PI hh_k
  replace hr_k_4 : aRI P82 k 4 (g.1 + (k + 4)) := by rw [e82]; exact aRI_PI hr_k_4
  replace hr_k_7 : aRI P82 k 7 (g.1 + (k + 7)) := by rw [e82]; exact aRI_PI hr_k_7
  replace hr_k_11 : aRI P82 k 11 (g.1 + (k + 11)) := by rw [e82]; exact aRI_PI hr_k_11
  replace hr_k_12 : aRI P82 k 12 (g.1 + (k + 12)) := by rw [e82]; exact aRI_PI hr_k_12
  replace hr_k_13 : aRI P82 k 13 (g.1 + (k + 13)) := by rw [e82]; exact aRI_PI hr_k_13
  refine C_aload_n hC dX11_init_347 rfl ?_
  refine C_getr (kf := 13) hC kX11 hh_k (by decide) (by decide) rfl hr_k_13 w_1016 dX11_init_348 ?_
  refine C_iconst (v := 0) hC dX11_init_351 (by decide) ?_
  refine C_sipush (v := -3000) hC dX11_init_352 (by decide) ?_
  refine C_iast (n := 8) hC ⟨ha_k_13.1, ha_k_13.2.1⟩ (by decide) dX11_init_355 (fun P83 e83 => ?_)
  have e83 : P83 = aPI P82 (k + 13) 0 (-3000 : Int32) := e83
  replace hNb := hN
  replace ha_k_4 : aAr P83 (k + 4) 11 4 := by rw [e83]; exact aAr_PI ha_k_4
  replace ha_k_7 : aAr P83 (k + 7) 11 4 := by rw [e83]; exact aAr_PI ha_k_7
  replace ha_k_11 : aAr P83 (k + 11) 11 4 := by rw [e83]; exact aAr_PI ha_k_11
  replace ha_k_12 : aAr P83 (k + 12) 11 4 := by rw [e83]; exact aAr_PI ha_k_12
  replace ha_k_13 : aAr P83 (k + 13) 11 8 := by rw [e83]; exact aAr_PI ha_k_13
  replace hN : P83.1.1 = k + 40 := by rw [e83]; exact hN
  replace hh_k : aHas P83 k 10 := by rw [e83]; exact aHas_PI hh_k
  replace hr_k_4 : aRI P83 k 4 (g.1 + (k + 4)) := by rw [e83]; exact aRI_PI hr_k_4
  replace hr_k_7 : aRI P83 k 7 (g.1 + (k + 7)) := by rw [e83]; exact aRI_PI hr_k_7
  replace hr_k_11 : aRI P83 k 11 (g.1 + (k + 11)) := by rw [e83]; exact aRI_PI hr_k_11
  replace hr_k_12 : aRI P83 k 12 (g.1 + (k + 12)) := by rw [e83]; exact aRI_PI hr_k_12
  replace hr_k_13 : aRI P83 k 13 (g.1 + (k + 13)) := by rw [e83]; exact aRI_PI hr_k_13
  refine C_aload_n hC dX11_init_356 rfl ?_
  refine C_getr (kf := 13) hC kX11 hh_k (by decide) (by decide) rfl hr_k_13 w_1016 dX11_init_357 ?_
  refine C_iconst (v := 1) hC dX11_init_360 (by decide) ?_
  refine C_sipush (v := 1900) hC dX11_init_361 (by decide) ?_
  refine C_iast (n := 8) hC ⟨ha_k_13.1, ha_k_13.2.1⟩ (by decide) dX11_init_364 (fun P84 e84 => ?_)
  have e84 : P84 = aPI P83 (k + 13) 1 (1900 : Int32) := e84
  replace hNb := hN
  replace ha_k_4 : aAr P84 (k + 4) 11 4 := by rw [e84]; exact aAr_PI ha_k_4
  replace ha_k_7 : aAr P84 (k + 7) 11 4 := by rw [e84]; exact aAr_PI ha_k_7
  replace ha_k_11 : aAr P84 (k + 11) 11 4 := by rw [e84]; exact aAr_PI ha_k_11
  replace ha_k_12 : aAr P84 (k + 12) 11 4 := by rw [e84]; exact aAr_PI ha_k_12
  replace ha_k_13 : aAr P84 (k + 13) 11 8 := by rw [e84]; exact aAr_PI ha_k_13
  replace hN : P84.1.1 = k + 40 := by rw [e84]; exact hN
  replace hh_k : aHas P84 k 10 := by rw [e84]; exact aHas_PI hh_k
  replace hr_k_4 : aRI P84 k 4 (g.1 + (k + 4)) := by rw [e84]; exact aRI_PI hr_k_4
  replace hr_k_7 : aRI P84 k 7 (g.1 + (k + 7)) := by rw [e84]; exact aRI_PI hr_k_7
  replace hr_k_11 : aRI P84 k 11 (g.1 + (k + 11)) := by rw [e84]; exact aRI_PI hr_k_11
  replace hr_k_12 : aRI P84 k 12 (g.1 + (k + 12)) := by rw [e84]; exact aRI_PI hr_k_12
  replace hr_k_13 : aRI P84 k 13 (g.1 + (k + 13)) := by rw [e84]; exact aRI_PI hr_k_13
  exact C_vret hC (by subst e1 e2 e3 e4 e5 e6 e7 e8 e9 e10 e11 e12 e13 e14 e15 e16 e17 e18 e19 e20 e21 e22 e23 e24 e25 e26 e27 e28 e29 e30 e31 e32 e33 e34 e35 e36 e37 e38 e39 e40 e41 e42 e43 e44 e45 e46 e47 e48 e49 e50 e51 e52 e53 e54 e55 e56 e57 e58 e59 e60 e61 e62 e63 e64 e65 e66 e67 e68 e69 e70 e71 e72 e73 e74 e75 e76 e77 e78 e79 e80 e81 e82 e83 e84; rfl) ⟨rfl, rfl⟩ rfl dX11_init_365
