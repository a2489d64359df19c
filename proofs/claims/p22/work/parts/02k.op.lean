theorem rn_ok {α β : Type} {x : Decoder α} {f : α → Decoder β} {c : ByteArray} {p q : Nat} {a : α} (h : x.runAt c p = .ok (a, q)) : (x >>= f).runAt c p = (f a).runAt c q := by
  have e : (x >>= f).runAt c p = Except.bind (x.runAt c p) (fun y => match y with | (a, q) => (f a).runAt c q) := rfl
  rw [e, h]
  rfl
theorem rn_map {α β : Type} {x : Decoder α} {f : α → β} {c : ByteArray} {p q : Nat} {a : α} (h : x.runAt c p = .ok (a, q)) : (f <$> x).runAt c p = .ok (f a, q) := by
  have e : (f <$> x).runAt c p = Except.map (fun y => match y with | (a, q) => (f a, q)) (x.runAt c p) := rfl
  rw [e, h]
  rfl
theorem dc_ok {c : ByteArray} {p n : Nat} {i : Instr} (h : (Decoder.instr p).runAt c p = .ok (i, p + n)) : decode c p = .ok (i, n) := by
  unfold decode
  rw [h]
  show Except.ok (i, p + n - p) = _
  rw [Nat.add_sub_cancel_left]
theorem dc_e {c : ByteArray} {p n op : Nat} {i : Instr} {f : Nat → Decoder Instr} (hf : Decoder.instr p = (Reader.u1 : Decoder Nat) >>= f) (h : (Reader.u1 : Decoder Nat).runAt c p = .ok (op, p + 1)) (hi : (f op).runAt c (p + 1) = .ok (i, p + n)) : decode c p = .ok (i, n) := dc_ok (by rw [hf, rn_ok h]; exact hi)
theorem rd_1 {c : ByteArray} {p : Nat} {b : UInt8} {r : List UInt8} (h : c.data.toList.drop p = b :: r) : (Reader.u1 : Decoder Nat).runAt c p = .ok (b.toNat, p + 1) ∧ c.data.toList.drop (p + 1) = r := by
  have hl : p < c.data.toList.length := by
    rcases Nat.lt_or_ge p c.data.toList.length with z | z
    · exact z
    · rw [List.drop_eq_nil_of_le z] at h
      cases h
  have hs : p < c.size := hl
  rw [List.drop_eq_getElem_cons hl] at h
  injection h with h1 h2
  have hb : c[p] = b := h1
  refine ⟨?_, h2⟩
  have e : (Reader.u1 : Decoder Nat).runAt c p = (if h : p < c.size then (do set (p + 1); pure c[p].toNat) else throw (HasTruncated.truncated p) : Decoder Nat).runAt c p := rfl
  rw [e, dif_pos hs, hb]
  rfl
def e_0 (c : ByteArray) (p op : Nat) : Prop := ∃ b r, c.data.toList.drop p = b :: r ∧ b.toNat = op
def e_1 (c : ByteArray) (p op x : Nat) : Prop := ∃ b b1 r, c.data.toList.drop p = b :: b1 :: r ∧ b.toNat = op ∧ b1.toNat = x
def e_2 (c : ByteArray) (p op x : Nat) : Prop := ∃ b b1 b2 r, c.data.toList.drop p = b :: b1 :: b2 :: r ∧ b.toNat = op ∧ b1.toNat * 256 + b2.toNat = x
def e_3 (c : ByteArray) (p op : Nat) (v : Int) : Prop := ∃ b b1 r, c.data.toList.drop p = b :: b1 :: r ∧ b.toNat = op ∧ Reader.signed 8 b1.toNat = v
def e_4 (c : ByteArray) (p op : Nat) (v : Int) : Prop := ∃ b b1 b2 r, c.data.toList.drop p = b :: b1 :: b2 :: r ∧ b.toNat = op ∧ Reader.signed 16 (b1.toNat * 256 + b2.toNat) = v
theorem r_0 {c : ByteArray} {p op : Nat} (h : e_0 c p op) : (Reader.u1 : Decoder Nat).runAt c p = .ok (op, p + 1) := by
  obtain ⟨b, r, h, rfl⟩ := h
  exact (rd_1 h).1
theorem r_1 {c : ByteArray} {p op x : Nat} (h : e_1 c p op x) : (Reader.u1 : Decoder Nat).runAt c p = .ok (op, p + 1) ∧ (Reader.u1 : Decoder Nat).runAt c (p + 1) = .ok (x, p + 2) := by
  obtain ⟨b, b1, r, h, rfl, rfl⟩ := h
  have h1 := rd_1 h
  exact ⟨h1.1, (rd_1 h1.2).1⟩
theorem r_u2 {c : ByteArray} {p x y : Nat} (h1 : (Reader.u1 : Decoder Nat).runAt c p = .ok (x, p + 1)) (h2 : (Reader.u1 : Decoder Nat).runAt c (p + 1) = .ok (y, p + 2)) : (Reader.u2 : Decoder Nat).runAt c p = .ok (x * 256 + y, p + 2) := by
  unfold Reader.u2
  rw [rn_ok h1, rn_ok h2]
  rfl
theorem r_2 {c : ByteArray} {p op x : Nat} (h : e_2 c p op x) : (Reader.u1 : Decoder Nat).runAt c p = .ok (op, p + 1) ∧ (Reader.u2 : Decoder Nat).runAt c (p + 1) = .ok (x, p + 3) := by
  obtain ⟨b, b1, b2, r, h, rfl, rfl⟩ := h
  have h1 := rd_1 h
  have h2 := rd_1 h1.2
  exact ⟨h1.1, r_u2 h2.1 (rd_1 h2.2).1⟩
theorem r_3 {c : ByteArray} {p op : Nat} {v : Int} (h : e_3 c p op v) : (Reader.u1 : Decoder Nat).runAt c p = .ok (op, p + 1) ∧ (Reader.s1 : Decoder Int).runAt c (p + 1) = .ok (v, p + 2) := by
  obtain ⟨b, b1, r, h, rfl, rfl⟩ := h
  have h1 := rd_1 h
  exact ⟨h1.1, rn_map (rd_1 h1.2).1⟩
theorem r_4 {c : ByteArray} {p op : Nat} {v : Int} (h : e_4 c p op v) : (Reader.u1 : Decoder Nat).runAt c p = .ok (op, p + 1) ∧ (Reader.s2 : Decoder Int).runAt c (p + 1) = .ok (v, p + 3) := by
  obtain ⟨b, b1, b2, r, h, rfl, rfl⟩ := h
  have h1 := rd_1 h
  have h2 := rd_1 h1.2
  exact ⟨h1.1, rn_map (r_u2 h2.1 (rd_1 h2.2).1)⟩
def bn (c : ByteArray) (l : List (Nat × Nat × Nat × Nat)) : Bool := l.all (fun x => match c.data.toList.drop x.1, x.2.1 with
  | b :: _, 0 => Nat.beq b.toNat x.2.2.1
  | b :: b1 :: _, 1 => Nat.beq b.toNat x.2.2.1 && Nat.beq b1.toNat x.2.2.2
  | b :: b1 :: b2 :: _, 2 => Nat.beq b.toNat x.2.2.1 && Nat.beq (b1.toNat * 256 + b2.toNat) x.2.2.2
  | _, _ => false)
def bz (c : ByteArray) (l : List (Nat × Nat × Nat × Int)) : Bool := l.all (fun x => match c.data.toList.drop x.1, x.2.1 with
  | b :: b1 :: _, 3 => Nat.beq b.toNat x.2.2.1 && decide (Reader.signed 8 b1.toNat = x.2.2.2)
  | b :: b1 :: b2 :: _, 4 => Nat.beq b.toNat x.2.2.1 && decide (Reader.signed 16 (b1.toNat * 256 + b2.toNat) = x.2.2.2)
  | _, _ => false)
theorem bn_0 {c : ByteArray} {l : List (Nat × Nat × Nat × Nat)} (h : bn c l = true) {p op : Nat} (m : (p, 0, op, 0) ∈ l) : e_0 c p op := by
  unfold bn at h
  rw [List.all_eq_true] at h
  have h1 := h (p, 0, op, 0) m
  generalize hd : List.drop p c.data.toList = d at h1
  match d, hd, h1 with
  | b :: r, hd, h1 => exact ⟨b, r, hd, Nat.eq_of_beq_eq_true h1⟩
  | [], hd, h1 => cases h1
theorem bn_1 {c : ByteArray} {l : List (Nat × Nat × Nat × Nat)} (h : bn c l = true) {p op x : Nat} (m : (p, 1, op, x) ∈ l) : e_1 c p op x := by
  unfold bn at h
  rw [List.all_eq_true] at h
  have h1 := h (p, 1, op, x) m
  generalize hd : List.drop p c.data.toList = d at h1
  match d, hd, h1 with
  | b :: b1 :: r, hd, h1 =>
    have h1 := Bool.and_eq_true_iff.mp h1
    exact ⟨b, b1, r, hd, Nat.eq_of_beq_eq_true h1.1, Nat.eq_of_beq_eq_true h1.2⟩
  | [b], hd, h1 => cases h1
  | [], hd, h1 => cases h1
theorem bn_2 {c : ByteArray} {l : List (Nat × Nat × Nat × Nat)} (h : bn c l = true) {p op x : Nat} (m : (p, 2, op, x) ∈ l) : e_2 c p op x := by
  unfold bn at h
  rw [List.all_eq_true] at h
  have h1 := h (p, 2, op, x) m
  generalize hd : List.drop p c.data.toList = d at h1
  match d, hd, h1 with
  | b :: b1 :: b2 :: r, hd, h1 =>
    have h1 := Bool.and_eq_true_iff.mp h1
    exact ⟨b, b1, b2, r, hd, Nat.eq_of_beq_eq_true h1.1, Nat.eq_of_beq_eq_true h1.2⟩
  | [b, b1], hd, h1 => cases h1
  | [b], hd, h1 => cases h1
  | [], hd, h1 => cases h1
theorem bz_3 {c : ByteArray} {l : List (Nat × Nat × Nat × Int)} (h : bz c l = true) {p op : Nat} {x : Int} (m : (p, 3, op, x) ∈ l) : e_3 c p op x := by
  unfold bz at h
  rw [List.all_eq_true] at h
  have h1 := h (p, 3, op, x) m
  generalize hd : List.drop p c.data.toList = d at h1
  match d, hd, h1 with
  | b :: b1 :: r, hd, h1 =>
    have h1 := Bool.and_eq_true_iff.mp h1
    exact ⟨b, b1, r, hd, Nat.eq_of_beq_eq_true h1.1, of_decide_eq_true h1.2⟩
  | [b], hd, h1 => cases h1
  | [], hd, h1 => cases h1
theorem bz_4 {c : ByteArray} {l : List (Nat × Nat × Nat × Int)} (h : bz c l = true) {p op : Nat} {x : Int} (m : (p, 4, op, x) ∈ l) : e_4 c p op x := by
  unfold bz at h
  rw [List.all_eq_true] at h
  have h1 := h (p, 4, op, x) m
  generalize hd : List.drop p c.data.toList = d at h1
  match d, hd, h1 with
  | b :: b1 :: b2 :: r, hd, h1 =>
    have h1 := Bool.and_eq_true_iff.mp h1
    exact ⟨b, b1, b2, r, hd, Nat.eq_of_beq_eq_true h1.1, of_decide_eq_true h1.2⟩
  | [b, b1], hd, h1 => cases h1
  | [b], hd, h1 => cases h1
  | [], hd, h1 => cases h1
theorem op_2 {c : ByteArray} {p : Nat} (h : e_0 c p 2) : decode c p = .ok (.iconst (-1), 1) := dc_e rfl (r_0 h) rfl
theorem op_3 {c : ByteArray} {p : Nat} (h : e_0 c p 3) : decode c p = .ok (.iconst 0, 1) := dc_e rfl (r_0 h) rfl
theorem op_4 {c : ByteArray} {p : Nat} (h : e_0 c p 4) : decode c p = .ok (.iconst 1, 1) := dc_e rfl (r_0 h) rfl
theorem op_5 {c : ByteArray} {p : Nat} (h : e_0 c p 5) : decode c p = .ok (.iconst 2, 1) := dc_e rfl (r_0 h) rfl
theorem op_6 {c : ByteArray} {p : Nat} (h : e_0 c p 6) : decode c p = .ok (.iconst 3, 1) := dc_e rfl (r_0 h) rfl
theorem op_7 {c : ByteArray} {p : Nat} (h : e_0 c p 7) : decode c p = .ok (.iconst 4, 1) := dc_e rfl (r_0 h) rfl
theorem op_8 {c : ByteArray} {p : Nat} (h : e_0 c p 8) : decode c p = .ok (.iconst 5, 1) := dc_e rfl (r_0 h) rfl
theorem op_9 {c : ByteArray} {p : Nat} (h : e_0 c p 9) : decode c p = .ok (.lconst 0, 1) := dc_e rfl (r_0 h) rfl
theorem op_10 {c : ByteArray} {p : Nat} (h : e_0 c p 10) : decode c p = .ok (.lconst 1, 1) := dc_e rfl (r_0 h) rfl
theorem op_16 {c : ByteArray} {p : Nat} {x : Int} (h : e_3 c p 16 x) : decode c p = .ok (.bipush x, 2) := dc_e rfl (r_3 h).1 ((rn_ok (f := fun x => (pure (.bipush x) : Decoder Instr)) (r_3 h).2).trans rfl)
theorem op_17 {c : ByteArray} {p : Nat} {x : Int} (h : e_4 c p 17 x) : decode c p = .ok (.sipush x, 3) := dc_e rfl (r_4 h).1 ((rn_ok (f := fun x => (pure (.sipush x) : Decoder Instr)) (r_4 h).2).trans rfl)
theorem op_18 {c : ByteArray} {p x : Nat} (h : e_1 c p 18 x) : decode c p = .ok (.ldc x, 2) := dc_e rfl (r_1 h).1 ((rn_ok (f := fun x => (pure (.ldc x) : Decoder Instr)) (r_1 h).2).trans rfl)
theorem op_19 {c : ByteArray} {p x : Nat} (h : e_2 c p 19 x) : decode c p = .ok (.ldc_w x, 3) := dc_e rfl (r_2 h).1 ((rn_ok (f := fun x => (pure (.ldc_w x) : Decoder Instr)) (r_2 h).2).trans rfl)
theorem op_20 {c : ByteArray} {p x : Nat} (h : e_2 c p 20 x) : decode c p = .ok (.ldc2_w x, 3) := dc_e rfl (r_2 h).1 ((rn_ok (f := fun x => (pure (.ldc2_w x) : Decoder Instr)) (r_2 h).2).trans rfl)
theorem op_21 {c : ByteArray} {p x : Nat} (h : e_1 c p 21 x) : decode c p = .ok (.iload x, 2) := dc_e rfl (r_1 h).1 ((rn_ok (f := fun x => (pure (.iload x) : Decoder Instr)) (r_1 h).2).trans rfl)
theorem op_22 {c : ByteArray} {p x : Nat} (h : e_1 c p 22 x) : decode c p = .ok (.lload x, 2) := dc_e rfl (r_1 h).1 ((rn_ok (f := fun x => (pure (.lload x) : Decoder Instr)) (r_1 h).2).trans rfl)
theorem op_25 {c : ByteArray} {p x : Nat} (h : e_1 c p 25 x) : decode c p = .ok (.aload x, 2) := dc_e rfl (r_1 h).1 ((rn_ok (f := fun x => (pure (.aload x) : Decoder Instr)) (r_1 h).2).trans rfl)
theorem op_26 {c : ByteArray} {p : Nat} (h : e_0 c p 26) : decode c p = .ok (.iload_n 0, 1) := dc_e rfl (r_0 h) rfl
theorem op_27 {c : ByteArray} {p : Nat} (h : e_0 c p 27) : decode c p = .ok (.iload_n 1, 1) := dc_e rfl (r_0 h) rfl
theorem op_28 {c : ByteArray} {p : Nat} (h : e_0 c p 28) : decode c p = .ok (.iload_n 2, 1) := dc_e rfl (r_0 h) rfl
theorem op_29 {c : ByteArray} {p : Nat} (h : e_0 c p 29) : decode c p = .ok (.iload_n 3, 1) := dc_e rfl (r_0 h) rfl
theorem op_30 {c : ByteArray} {p : Nat} (h : e_0 c p 30) : decode c p = .ok (.lload_n 0, 1) := dc_e rfl (r_0 h) rfl
theorem op_31 {c : ByteArray} {p : Nat} (h : e_0 c p 31) : decode c p = .ok (.lload_n 1, 1) := dc_e rfl (r_0 h) rfl
theorem op_32 {c : ByteArray} {p : Nat} (h : e_0 c p 32) : decode c p = .ok (.lload_n 2, 1) := dc_e rfl (r_0 h) rfl
theorem op_33 {c : ByteArray} {p : Nat} (h : e_0 c p 33) : decode c p = .ok (.lload_n 3, 1) := dc_e rfl (r_0 h) rfl
theorem op_42 {c : ByteArray} {p : Nat} (h : e_0 c p 42) : decode c p = .ok (.aload_n 0, 1) := dc_e rfl (r_0 h) rfl
theorem op_43 {c : ByteArray} {p : Nat} (h : e_0 c p 43) : decode c p = .ok (.aload_n 1, 1) := dc_e rfl (r_0 h) rfl
theorem op_44 {c : ByteArray} {p : Nat} (h : e_0 c p 44) : decode c p = .ok (.aload_n 2, 1) := dc_e rfl (r_0 h) rfl
theorem op_45 {c : ByteArray} {p : Nat} (h : e_0 c p 45) : decode c p = .ok (.aload_n 3, 1) := dc_e rfl (r_0 h) rfl
theorem op_46 {c : ByteArray} {p : Nat} (h : e_0 c p 46) : decode c p = .ok (.iaload, 1) := dc_e rfl (r_0 h) rfl
theorem op_47 {c : ByteArray} {p : Nat} (h : e_0 c p 47) : decode c p = .ok (.laload, 1) := dc_e rfl (r_0 h) rfl
theorem op_50 {c : ByteArray} {p : Nat} (h : e_0 c p 50) : decode c p = .ok (.aaload, 1) := dc_e rfl (r_0 h) rfl
theorem op_51 {c : ByteArray} {p : Nat} (h : e_0 c p 51) : decode c p = .ok (.baload, 1) := dc_e rfl (r_0 h) rfl
theorem op_54 {c : ByteArray} {p x : Nat} (h : e_1 c p 54 x) : decode c p = .ok (.istore x, 2) := dc_e rfl (r_1 h).1 ((rn_ok (f := fun x => (pure (.istore x) : Decoder Instr)) (r_1 h).2).trans rfl)
theorem op_55 {c : ByteArray} {p x : Nat} (h : e_1 c p 55 x) : decode c p = .ok (.lstore x, 2) := dc_e rfl (r_1 h).1 ((rn_ok (f := fun x => (pure (.lstore x) : Decoder Instr)) (r_1 h).2).trans rfl)
theorem op_58 {c : ByteArray} {p x : Nat} (h : e_1 c p 58 x) : decode c p = .ok (.astore x, 2) := dc_e rfl (r_1 h).1 ((rn_ok (f := fun x => (pure (.astore x) : Decoder Instr)) (r_1 h).2).trans rfl)
theorem op_59 {c : ByteArray} {p : Nat} (h : e_0 c p 59) : decode c p = .ok (.istore_n 0, 1) := dc_e rfl (r_0 h) rfl
theorem op_60 {c : ByteArray} {p : Nat} (h : e_0 c p 60) : decode c p = .ok (.istore_n 1, 1) := dc_e rfl (r_0 h) rfl
theorem op_61 {c : ByteArray} {p : Nat} (h : e_0 c p 61) : decode c p = .ok (.istore_n 2, 1) := dc_e rfl (r_0 h) rfl
theorem op_62 {c : ByteArray} {p : Nat} (h : e_0 c p 62) : decode c p = .ok (.istore_n 3, 1) := dc_e rfl (r_0 h) rfl
theorem op_65 {c : ByteArray} {p : Nat} (h : e_0 c p 65) : decode c p = .ok (.lstore_n 2, 1) := dc_e rfl (r_0 h) rfl
theorem op_66 {c : ByteArray} {p : Nat} (h : e_0 c p 66) : decode c p = .ok (.lstore_n 3, 1) := dc_e rfl (r_0 h) rfl
theorem op_76 {c : ByteArray} {p : Nat} (h : e_0 c p 76) : decode c p = .ok (.astore_n 1, 1) := dc_e rfl (r_0 h) rfl
theorem op_77 {c : ByteArray} {p : Nat} (h : e_0 c p 77) : decode c p = .ok (.astore_n 2, 1) := dc_e rfl (r_0 h) rfl
theorem op_78 {c : ByteArray} {p : Nat} (h : e_0 c p 78) : decode c p = .ok (.astore_n 3, 1) := dc_e rfl (r_0 h) rfl
theorem op_79 {c : ByteArray} {p : Nat} (h : e_0 c p 79) : decode c p = .ok (.iastore, 1) := dc_e rfl (r_0 h) rfl
theorem op_80 {c : ByteArray} {p : Nat} (h : e_0 c p 80) : decode c p = .ok (.lastore, 1) := dc_e rfl (r_0 h) rfl
theorem op_83 {c : ByteArray} {p : Nat} (h : e_0 c p 83) : decode c p = .ok (.aastore, 1) := dc_e rfl (r_0 h) rfl
theorem op_84 {c : ByteArray} {p : Nat} (h : e_0 c p 84) : decode c p = .ok (.bastore, 1) := dc_e rfl (r_0 h) rfl
theorem op_87 {c : ByteArray} {p : Nat} (h : e_0 c p 87) : decode c p = .ok (.pop, 1) := dc_e rfl (r_0 h) rfl
theorem op_88 {c : ByteArray} {p : Nat} (h : e_0 c p 88) : decode c p = .ok (.pop2, 1) := dc_e rfl (r_0 h) rfl
theorem op_89 {c : ByteArray} {p : Nat} (h : e_0 c p 89) : decode c p = .ok (.dup, 1) := dc_e rfl (r_0 h) rfl
theorem op_92 {c : ByteArray} {p : Nat} (h : e_0 c p 92) : decode c p = .ok (.dup2, 1) := dc_e rfl (r_0 h) rfl
theorem op_96 {c : ByteArray} {p : Nat} (h : e_0 c p 96) : decode c p = .ok (.iadd, 1) := dc_e rfl (r_0 h) rfl
theorem op_97 {c : ByteArray} {p : Nat} (h : e_0 c p 97) : decode c p = .ok (.ladd, 1) := dc_e rfl (r_0 h) rfl
theorem op_100 {c : ByteArray} {p : Nat} (h : e_0 c p 100) : decode c p = .ok (.isub, 1) := dc_e rfl (r_0 h) rfl
theorem op_101 {c : ByteArray} {p : Nat} (h : e_0 c p 101) : decode c p = .ok (.lsub, 1) := dc_e rfl (r_0 h) rfl
theorem op_104 {c : ByteArray} {p : Nat} (h : e_0 c p 104) : decode c p = .ok (.imul, 1) := dc_e rfl (r_0 h) rfl
theorem op_105 {c : ByteArray} {p : Nat} (h : e_0 c p 105) : decode c p = .ok (.lmul, 1) := dc_e rfl (r_0 h) rfl
theorem op_108 {c : ByteArray} {p : Nat} (h : e_0 c p 108) : decode c p = .ok (.idiv, 1) := dc_e rfl (r_0 h) rfl
theorem op_109 {c : ByteArray} {p : Nat} (h : e_0 c p 109) : decode c p = .ok (.ldiv, 1) := dc_e rfl (r_0 h) rfl
theorem op_112 {c : ByteArray} {p : Nat} (h : e_0 c p 112) : decode c p = .ok (.irem, 1) := dc_e rfl (r_0 h) rfl
theorem op_116 {c : ByteArray} {p : Nat} (h : e_0 c p 116) : decode c p = .ok (.ineg, 1) := dc_e rfl (r_0 h) rfl
theorem op_120 {c : ByteArray} {p : Nat} (h : e_0 c p 120) : decode c p = .ok (.ishl, 1) := dc_e rfl (r_0 h) rfl
theorem op_121 {c : ByteArray} {p : Nat} (h : e_0 c p 121) : decode c p = .ok (.lshl, 1) := dc_e rfl (r_0 h) rfl
theorem op_122 {c : ByteArray} {p : Nat} (h : e_0 c p 122) : decode c p = .ok (.ishr, 1) := dc_e rfl (r_0 h) rfl
theorem op_123 {c : ByteArray} {p : Nat} (h : e_0 c p 123) : decode c p = .ok (.lshr, 1) := dc_e rfl (r_0 h) rfl
theorem op_124 {c : ByteArray} {p : Nat} (h : e_0 c p 124) : decode c p = .ok (.iushr, 1) := dc_e rfl (r_0 h) rfl
theorem op_126 {c : ByteArray} {p : Nat} (h : e_0 c p 126) : decode c p = .ok (.iand, 1) := dc_e rfl (r_0 h) rfl
theorem op_127 {c : ByteArray} {p : Nat} (h : e_0 c p 127) : decode c p = .ok (.land, 1) := dc_e rfl (r_0 h) rfl
theorem op_128 {c : ByteArray} {p : Nat} (h : e_0 c p 128) : decode c p = .ok (.ior, 1) := dc_e rfl (r_0 h) rfl
theorem op_129 {c : ByteArray} {p : Nat} (h : e_0 c p 129) : decode c p = .ok (.lor, 1) := dc_e rfl (r_0 h) rfl
theorem op_131 {c : ByteArray} {p : Nat} (h : e_0 c p 131) : decode c p = .ok (.lxor, 1) := dc_e rfl (r_0 h) rfl
theorem op_133 {c : ByteArray} {p : Nat} (h : e_0 c p 133) : decode c p = .ok (.i2l, 1) := dc_e rfl (r_0 h) rfl
theorem op_136 {c : ByteArray} {p : Nat} (h : e_0 c p 136) : decode c p = .ok (.l2i, 1) := dc_e rfl (r_0 h) rfl
theorem op_145 {c : ByteArray} {p : Nat} (h : e_0 c p 145) : decode c p = .ok (.i2b, 1) := dc_e rfl (r_0 h) rfl
theorem op_146 {c : ByteArray} {p : Nat} (h : e_0 c p 146) : decode c p = .ok (.i2c, 1) := dc_e rfl (r_0 h) rfl
theorem op_148 {c : ByteArray} {p : Nat} (h : e_0 c p 148) : decode c p = .ok (.lcmp, 1) := dc_e rfl (r_0 h) rfl
theorem op_153 {c : ByteArray} {p : Nat} {x : Int} (h : e_4 c p 153 x) : decode c p = .ok (.ifCond .eq x, 3) := dc_e rfl (r_4 h).1 ((rn_ok (f := fun x => (pure (.ifCond .eq x) : Decoder Instr)) (r_4 h).2).trans rfl)
theorem op_154 {c : ByteArray} {p : Nat} {x : Int} (h : e_4 c p 154 x) : decode c p = .ok (.ifCond .ne x, 3) := dc_e rfl (r_4 h).1 ((rn_ok (f := fun x => (pure (.ifCond .ne x) : Decoder Instr)) (r_4 h).2).trans rfl)
theorem op_155 {c : ByteArray} {p : Nat} {x : Int} (h : e_4 c p 155 x) : decode c p = .ok (.ifCond .lt x, 3) := dc_e rfl (r_4 h).1 ((rn_ok (f := fun x => (pure (.ifCond .lt x) : Decoder Instr)) (r_4 h).2).trans rfl)
theorem op_156 {c : ByteArray} {p : Nat} {x : Int} (h : e_4 c p 156 x) : decode c p = .ok (.ifCond .ge x, 3) := dc_e rfl (r_4 h).1 ((rn_ok (f := fun x => (pure (.ifCond .ge x) : Decoder Instr)) (r_4 h).2).trans rfl)
theorem op_157 {c : ByteArray} {p : Nat} {x : Int} (h : e_4 c p 157 x) : decode c p = .ok (.ifCond .gt x, 3) := dc_e rfl (r_4 h).1 ((rn_ok (f := fun x => (pure (.ifCond .gt x) : Decoder Instr)) (r_4 h).2).trans rfl)
theorem op_158 {c : ByteArray} {p : Nat} {x : Int} (h : e_4 c p 158 x) : decode c p = .ok (.ifCond .le x, 3) := dc_e rfl (r_4 h).1 ((rn_ok (f := fun x => (pure (.ifCond .le x) : Decoder Instr)) (r_4 h).2).trans rfl)
theorem op_159 {c : ByteArray} {p : Nat} {x : Int} (h : e_4 c p 159 x) : decode c p = .ok (.if_icmp .eq x, 3) := dc_e rfl (r_4 h).1 ((rn_ok (f := fun x => (pure (.if_icmp .eq x) : Decoder Instr)) (r_4 h).2).trans rfl)
theorem op_160 {c : ByteArray} {p : Nat} {x : Int} (h : e_4 c p 160 x) : decode c p = .ok (.if_icmp .ne x, 3) := dc_e rfl (r_4 h).1 ((rn_ok (f := fun x => (pure (.if_icmp .ne x) : Decoder Instr)) (r_4 h).2).trans rfl)
theorem op_161 {c : ByteArray} {p : Nat} {x : Int} (h : e_4 c p 161 x) : decode c p = .ok (.if_icmp .lt x, 3) := dc_e rfl (r_4 h).1 ((rn_ok (f := fun x => (pure (.if_icmp .lt x) : Decoder Instr)) (r_4 h).2).trans rfl)
theorem op_162 {c : ByteArray} {p : Nat} {x : Int} (h : e_4 c p 162 x) : decode c p = .ok (.if_icmp .ge x, 3) := dc_e rfl (r_4 h).1 ((rn_ok (f := fun x => (pure (.if_icmp .ge x) : Decoder Instr)) (r_4 h).2).trans rfl)
theorem op_163 {c : ByteArray} {p : Nat} {x : Int} (h : e_4 c p 163 x) : decode c p = .ok (.if_icmp .gt x, 3) := dc_e rfl (r_4 h).1 ((rn_ok (f := fun x => (pure (.if_icmp .gt x) : Decoder Instr)) (r_4 h).2).trans rfl)
theorem op_164 {c : ByteArray} {p : Nat} {x : Int} (h : e_4 c p 164 x) : decode c p = .ok (.if_icmp .le x, 3) := dc_e rfl (r_4 h).1 ((rn_ok (f := fun x => (pure (.if_icmp .le x) : Decoder Instr)) (r_4 h).2).trans rfl)
theorem op_167 {c : ByteArray} {p : Nat} {x : Int} (h : e_4 c p 167 x) : decode c p = .ok (.goto x, 3) := dc_e rfl (r_4 h).1 ((rn_ok (f := fun x => (pure (.goto x) : Decoder Instr)) (r_4 h).2).trans rfl)
theorem op_172 {c : ByteArray} {p : Nat} (h : e_0 c p 172) : decode c p = .ok (.ireturn, 1) := dc_e rfl (r_0 h) rfl
theorem op_173 {c : ByteArray} {p : Nat} (h : e_0 c p 173) : decode c p = .ok (.lreturn, 1) := dc_e rfl (r_0 h) rfl
theorem op_177 {c : ByteArray} {p : Nat} (h : e_0 c p 177) : decode c p = .ok (.return_, 1) := dc_e rfl (r_0 h) rfl
theorem op_178 {c : ByteArray} {p x : Nat} (h : e_2 c p 178 x) : decode c p = .ok (.getstatic x, 3) := dc_e rfl (r_2 h).1 ((rn_ok (f := fun x => (pure (.getstatic x) : Decoder Instr)) (r_2 h).2).trans rfl)
theorem op_180 {c : ByteArray} {p x : Nat} (h : e_2 c p 180 x) : decode c p = .ok (.getfield x, 3) := dc_e rfl (r_2 h).1 ((rn_ok (f := fun x => (pure (.getfield x) : Decoder Instr)) (r_2 h).2).trans rfl)
theorem op_181 {c : ByteArray} {p x : Nat} (h : e_2 c p 181 x) : decode c p = .ok (.putfield x, 3) := dc_e rfl (r_2 h).1 ((rn_ok (f := fun x => (pure (.putfield x) : Decoder Instr)) (r_2 h).2).trans rfl)
theorem op_182 {c : ByteArray} {p x : Nat} (h : e_2 c p 182 x) : decode c p = .ok (.invokevirtual x, 3) := dc_e rfl (r_2 h).1 ((rn_ok (f := fun x => (pure (.invokevirtual x) : Decoder Instr)) (r_2 h).2).trans rfl)
theorem op_183 {c : ByteArray} {p x : Nat} (h : e_2 c p 183 x) : decode c p = .ok (.invokespecial x, 3) := dc_e rfl (r_2 h).1 ((rn_ok (f := fun x => (pure (.invokespecial x) : Decoder Instr)) (r_2 h).2).trans rfl)
theorem op_184 {c : ByteArray} {p x : Nat} (h : e_2 c p 184 x) : decode c p = .ok (.invokestatic x, 3) := dc_e rfl (r_2 h).1 ((rn_ok (f := fun x => (pure (.invokestatic x) : Decoder Instr)) (r_2 h).2).trans rfl)
theorem op_187 {c : ByteArray} {p x : Nat} (h : e_2 c p 187 x) : decode c p = .ok (.new x, 3) := dc_e rfl (r_2 h).1 ((rn_ok (f := fun x => (pure (.new x) : Decoder Instr)) (r_2 h).2).trans rfl)
theorem op_189 {c : ByteArray} {p x : Nat} (h : e_2 c p 189 x) : decode c p = .ok (.anewarray x, 3) := dc_e rfl (r_2 h).1 ((rn_ok (f := fun x => (pure (.anewarray x) : Decoder Instr)) (r_2 h).2).trans rfl)
theorem op_190 {c : ByteArray} {p : Nat} (h : e_0 c p 190) : decode c p = .ok (.arraylength, 1) := dc_e rfl (r_0 h) rfl
theorem op_191 {c : ByteArray} {p : Nat} (h : e_0 c p 191) : decode c p = .ok (.athrow, 1) := dc_e rfl (r_0 h) rfl
theorem op_199 {c : ByteArray} {p : Nat} {x : Int} (h : e_4 c p 199 x) : decode c p = .ok (.ifnonnull x, 3) := dc_e rfl (r_4 h).1 ((rn_ok (f := fun x => (pure (.ifnonnull x) : Decoder Instr)) (r_4 h).2).trans rfl)
