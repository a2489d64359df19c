section A5
variable {ρ : Type} {V : ρ → Option Value} {g : AGl} {b : ABn} {cc : ByteArray} {own : String} {nL : Nat} {ret : Option FieldType} {d pc : Nat} {lv lv2 : List (Option Value)} {st : List Value} {D : ADD} {K K0 K1 Kd : Option (ρ × ADD)}
theorem A_to (kk : AT V g b pc lv2 st D K) (h : aLe lv2 lv) : AT V g b pc lv st D K := A_le h kk
theorem i32_toInt_eq {x z : Int32} : x.toInt = z.toInt ↔ x = z := ⟨fun h => Int32.toInt_inj.mp h, fun h => by rw [h]⟩
theorem A_look2 {dflt c0 o0 c1 o1 : Int} {len t0 t1 td : Nat} {x z0 z1 : Int32} (hC : AC g b cc own nL ret d) (hd : decode cc pc = .ok (.lookupswitch dflt #[(c0, o0), (c1, o1)], len)) (hz0 : z0.toInt = c0) (hz1 : z1.toInt = c1) (hlt : c0 < c1) (h0 : (pc : Int) + o0 = (t0 : Int)) (h1 : (pc : Int) + o1 = (t1 : Int)) (h9 : (pc : Int) + dflt = (td : Int)) (k0 : AT V g b t0 lv st D K0) (k1 : AT V g b t1 lv st D K1) (kd : AT V g b td lv st D Kd) : AT V g b pc lv (.int x :: st) D (if x = z0 then K0 else if x = z1 then K1 else Kd) := by
  obtain ⟨n0, dC, dI, cy, ex, w⟩ := g
  obtain ⟨⟨p, l, e, R, s, m, args, below, meth, c⟩, r1, D1⟩ := b
  obtain ⟨hx, hb, -⟩ := hC
  intro hk H ls locs h2 h3 h4 h5
  have hp : (((#[(c0, o0), (c1, o1)] : Array (Int × Int)).toList.zip ((#[(c0, o0), (c1, o1)] : Array (Int × Int)).toList.drop 1)).all (fun (a, next) => a.1 < next.1)) = true := by simp [hlt]
  by_cases e0 : x = z0
  · rw [if_pos e0] at hk
    exact lv_lookup (off := o0) hx hb hd hp (by rw [show ((#[(c0, o0), (c1, o1)] : Array (Int × Int)).toList) = [(c0, o0), (c1, o1)] from rfl, Op.lookupswitch.offset_cons, if_pos (by rw [e0]; exact hz0.symm)]) h0 (k0 hk H ls locs h2 h3 h4 h5)
  · rw [if_neg e0] at hk
    have n0' : ¬ c0 = x.toInt := by
      intro h; exact e0 (i32_toInt_eq.mp (by rw [← h, hz0]))
    by_cases e1 : x = z1
    · rw [if_pos e1] at hk
      exact lv_lookup (off := o1) hx hb hd hp (by rw [show ((#[(c0, o0), (c1, o1)] : Array (Int × Int)).toList) = [(c0, o0), (c1, o1)] from rfl, Op.lookupswitch.offset_cons, if_neg n0', Op.lookupswitch.offset_cons, if_pos (by rw [e1]; exact hz1.symm)]) h1 (k1 hk H ls locs h2 h3 h4 h5)
    · rw [if_neg e1] at hk
      have n1' : ¬ c1 = x.toInt := by
        intro h; exact e1 (i32_toInt_eq.mp (by rw [← h, hz1]))
      exact lv_lookup (off := dflt) hx hb hd hp (by rw [show ((#[(c0, o0), (c1, o1)] : Array (Int × Int)).toList) = [(c0, o0), (c1, o1)] from rfl, Op.lookupswitch.offset_cons, if_neg n0', Op.lookupswitch.offset_cons, if_neg n1', Op.lookupswitch.offset_nil]) h9 (kd hk H ls locs h2 h3 h4 h5)
/-! what lies outside the worlds -/
theorem aA_ge {n0 : Nat} {w : AWS} : ∀ q, aA n0 w q → (fun q => n0 ≤ q) q := by
  intro q h
  rcases h with ⟨k, -, e⟩ | e
  · show n0 ≤ q; omega
  · show n0 ≤ q; omega
theorem A_sleast {idx : Nat} (hC : AC g b cc "StonesOfWeight$Book" nL ret d) (hq : (idx, "FACT_LEAST") ∈ aNestF) (hd : decode cc pc = .ok (.getstatic idx, 3)) (kk : AT V g b (pc + 3) lv (.ref g.2.2.2.2.1.1 :: st) D K) : AT V g b pc lv st D K := by
  obtain ⟨n0, dC, dI, cy, ex, w⟩ := g
  obtain ⟨⟨p, l, e, R, s, m, args, below, meth, c⟩, r1, D1⟩ := b
  obtain ⟨hx, hb, hml, hown, hts, hr, hlk, hR, hK, hE, hz⟩ := hC
  intro hk H ls locs h2 h3 h4 h5
  obtain ⟨e1, e2, e3, e4, e5, e6, e7, e8, e11, e9, e10⟩ := hE
  exact va_getsN hx hb (e1.narrow aA_ge) h4 hown ((e7 _ hq).use rfl) (fun _ h9 => h9) hd (kk hk H ls locs h2 h3 h4 h5)
theorem A_smost {idx : Nat} (hC : AC g b cc "StonesOfWeight$Book" nL ret d) (hq : (idx, "FACT_MOST") ∈ aNestF) (hd : decode cc pc = .ok (.getstatic idx, 3)) (kk : AT V g b (pc + 3) lv (.ref g.2.2.2.2.1.2.1 :: st) D K) : AT V g b pc lv st D K := by
  obtain ⟨n0, dC, dI, cy, ex, w⟩ := g
  obtain ⟨⟨p, l, e, R, s, m, args, below, meth, c⟩, r1, D1⟩ := b
  obtain ⟨hx, hb, hml, hown, hts, hr, hlk, hR, hK, hE, hz⟩ := hC
  intro hk H ls locs h2 h3 h4 h5
  obtain ⟨e1, e2, e3, e4, e5, e6, e7, e8, e11, e9, e10⟩ := hE
  exact va_getsN hx hb (e3.narrow aA_ge) h4 hown ((e7 _ hq).use rfl) (fun _ h9 => h9) hd (kk hk H ls locs h2 h3 h4 h5)
theorem aX_tald {p : Program} {l : Launch} {e : Env} {R : Room} {s : State} {m : MethodId} {args : Array Value} {below : List Frame} {meth : Method} {c : Code} {H : Heap} {locs : List Loc} {Q : State → Prop} {ls : Array Slot} {rest : List Value} {A : Nat → Prop} {t N : Nat} {f : Nat → Int32} {i : Int32} (hexec : p.tables.exec = Jvm.exec) (hb : c.code = cc) (hT : va_T .int t N (fun j => .int (f j)) A s s.heap) (hS : va_S A s.heap H locs) (hin : ¬ (i < 0 ∨ N ≤ i.toNatClampNeg)) (hdg : decode cc pc = .ok (.iaload, 1))
    (kk : W p l e R s m args below meth c H locs 0 0 Q (F0 m (pc + 1) ls (.int (f i.toNatClampNeg) :: rest))) : W p l e R s m args below meth c H locs 0 0 Q (F0 m pc ls (.int i :: .ref t :: rest)) := by
  obtain ⟨cell, q1, q2, q3, q4, q5, q6, q7⟩ := hT
  have hlt : i.toNatClampNeg < N := Nat.not_le.mp fun q => hin (Or.inr q)
  exact W.iald (v := .int (f i.toNatClampNeg)) hexec hb (by rw [hS.2.1 t (Array.getElem?_eq_some_iff.mp q1).1 q7]; exact q1) q2 q3 (by intro h; rcases h with h | h; exact hin (Or.inl h); omega) (q6 _ hlt) rfl rfl hdg kk
theorem A_tleast {i : Int32} (hC : AC g b cc own nL ret d) (hd : decode cc pc = .ok (.iaload, 1)) (kk : AT V g b (pc + 1) lv (.int (aLeast.getD i.toNatClampNeg 0) :: st) D K) : AT V g b pc lv (.int i :: .ref g.2.2.2.2.1.1 :: st) D (aIn i 11 K) := by
  obtain ⟨n0, dC, dI, cy, ex, w⟩ := g
  obtain ⟨⟨p, l, e, R, s, m, args, below, meth, c⟩, r1, D1⟩ := b
  obtain ⟨hx, hb, hml, hown, hts, hr, hlk, hR, hK, hE, hz⟩ := hC
  intro hk H ls locs h2 h3 h4 h5
  obtain ⟨e1, e2, e3, e4, e5, e6, e7, e8, e11, e9, e10⟩ := hE
  by_cases hin : i < 0 ∨ 11 ≤ i.toNatClampNeg
  case pos =>
    obtain ⟨z, hk, -⟩ := hk
    rw [aIn, if_pos hin] at hk
    cases hk
  rw [aIn, if_neg hin] at hk
  exact aX_tald (f := fun j => aLeast.getD j 0) hx hb (e2.narrow aA_ge) h4 hin hd (kk hk H ls locs h2 h3 h4 h5)
theorem A_tmost {i : Int32} (hC : AC g b cc own nL ret d) (hd : decode cc pc = .ok (.iaload, 1)) (kk : AT V g b (pc + 1) lv (.int (aMost.getD i.toNatClampNeg 0) :: st) D K) : AT V g b pc lv (.int i :: .ref g.2.2.2.2.1.2.1 :: st) D (aIn i 11 K) := by
  obtain ⟨n0, dC, dI, cy, ex, w⟩ := g
  obtain ⟨⟨p, l, e, R, s, m, args, below, meth, c⟩, r1, D1⟩ := b
  obtain ⟨hx, hb, hml, hown, hts, hr, hlk, hR, hK, hE, hz⟩ := hC
  intro hk H ls locs h2 h3 h4 h5
  obtain ⟨e1, e2, e3, e4, e5, e6, e7, e8, e11, e9, e10⟩ := hE
  by_cases hin : i < 0 ∨ 11 ≤ i.toNatClampNeg
  case pos =>
    obtain ⟨z, hk, -⟩ := hk
    rw [aIn, if_pos hin] at hk
    cases hk
  rw [aIn, if_neg hin] at hk
  exact aX_tald (f := fun j => aMost.getD j 0) hx hb (e4.narrow aA_ge) h4 hin hd (kk hk H ls locs h2 h3 h4 h5)
theorem A_ldcs {i idx : Nat} {tx : String} (hC : AC g b cc "StonesOfWeight$Reader" nL ret d) (hq : aTexts[i]? = some (idx, tx)) (hd : decode cc pc = .ok (.ldc idx, 2)) (kk : AT V g b (pc + 2) lv (.ref (g.2.2.2.2.1.2.2.1 i) :: st) D K) : AT V g b pc lv st D K := by
  obtain ⟨n0, dC, dI, cy, ex, w⟩ := g
  obtain ⟨⟨p, l, e, R, s, m, args, below, meth, c⟩, r1, D1⟩ := b
  obtain ⟨hx, hb, hml, hown, hts, hr, hlk, hR, hK, hE, hz⟩ := hC
  intro hk H ls locs h2 h3 h4 h5
  obtain ⟨e1, e2, e3, e4, e5, e6, e7, e8, e11, e9, e10⟩ := hE
  exact va_ldcS hx hb hown (e10 _ _ hq) hd (kk hk H ls locs h2 h3 h4 h5)
/-- a text's length, its signs -/
def aTl (i : Nat) : Nat := (aTexts.map (fun q => q.2.length)).getD i 0
def aTc (i j : Nat) : Int32 := (aBytes.getD i []).getD j 0
theorem A_xval {i idx : Nat} (hi : i < 8) (hC : AC g b cc "java/lang/String" nL ret d) (hl : Cond.fieldLink "java/lang/String" idx "java/lang/String" "value" "[B" ∈ aT) (hd : decode cc pc = .ok (.getfield idx, 3)) (kk : AT V g b (pc + 3) lv (.ref (g.2.2.2.2.1.2.2.2 i) :: st) D K) : AT V g b pc lv (.ref (g.2.2.2.2.1.2.2.1 i) :: st) D K := by
  obtain ⟨n0, dC, dI, cy, ex, w⟩ := g
  obtain ⟨⟨p, l, e, R, s, m, args, below, meth, c⟩, r1, D1⟩ := b
  obtain ⟨hx, hb, hml, hown, hts, hr, hlk, hR, hK, hE, hz⟩ := hC
  intro hk H ls locs h2 h3 h4 h5
  obtain ⟨e1, e2, e3, e4, e5, e6, e7, e8, e11, e9, e10⟩ := hE
  have e9 := e9.narrow (B := aA n0 w) aA_ge
  exact vk_getf hx hb (e9.1 i hi).2.2.1 h4 hown (hts _ hl) (fun _ h9 => h9) hd (kk hk H ls locs h2 h3 h4 h5)
theorem A_xcod {i idx : Nat} (hi : i < 8) (hC : AC g b cc "java/lang/String" nL ret d) (hl : Cond.fieldLink "java/lang/String" idx "java/lang/String" "coder" "B" ∈ aT) (hd : decode cc pc = .ok (.getfield idx, 3)) (kk : AT V g b (pc + 3) lv (.int 0 :: st) D K) : AT V g b pc lv (.ref (g.2.2.2.2.1.2.2.1 i) :: st) D K := by
  obtain ⟨n0, dC, dI, cy, ex, w⟩ := g
  obtain ⟨⟨p, l, e, R, s, m, args, below, meth, c⟩, r1, D1⟩ := b
  obtain ⟨hx, hb, hml, hown, hts, hr, hlk, hR, hK, hE, hz⟩ := hC
  intro hk H ls locs h2 h3 h4 h5
  obtain ⟨e1, e2, e3, e4, e5, e6, e7, e8, e11, e9, e10⟩ := hE
  have e9 := e9.narrow (B := aA n0 w) aA_ge
  exact vk_getf hx hb (e9.1 i hi).2.1 h4 hown (hts _ hl) (fun _ h9 => h9) hd (kk hk H ls locs h2 h3 h4 h5)
theorem A_xcomp {idx : Nat} (hC : AC g b cc "java/lang/String" nL ret d) (hl : Cond.fieldLink "java/lang/String" idx "java/lang/String" "COMPACT_STRINGS" "Z" ∈ aT) (hd : decode cc pc = .ok (.getstatic idx, 3)) (kk : AT V g b (pc + 3) lv (.int 1 :: st) D K) : AT V g b pc lv st D K := by
  obtain ⟨n0, dC, dI, cy, ex, w⟩ := g
  obtain ⟨⟨p, l, e, R, s, m, args, below, meth, c⟩, r1, D1⟩ := b
  obtain ⟨hx, hb, hml, hown, hts, hr, hlk, hR, hK, hE, hz⟩ := hC
  intro hk H ls locs h2 h3 h4 h5
  obtain ⟨e1, e2, e3, e4, e5, e6, e7, e8, e11, e9, e10⟩ := hE
  exact va_gets hx hb (e5.narrow aA_ge) h4 hown (hts _ hl) (fun _ h9 => h9) hd (kk hk H ls locs h2 h3 h4 h5)
theorem A_xfmt {idx : Nat} (hC : AC g b cc "java/lang/String" nL ret d) (hl : Cond.fieldLink "java/lang/String" idx "jdk/internal/util/Preconditions" "SIOOBE_FORMATTER" "Ljava/util/function/BiFunction;" ∈ aT) (hd : decode cc pc = .ok (.getstatic idx, 3)) (kk : ∀ v : Value, (v = .null ∨ ∃ t, v = .ref t) → AT V g b (pc + 3) lv (v :: st) D K) : AT V g b pc lv st D K := by
  obtain ⟨n0, dC, dI, cy, ex, w⟩ := g
  obtain ⟨⟨p, l, e, R, s, m, args, below, meth, c⟩, r1, D1⟩ := b
  obtain ⟨hx, hb, hml, hown, hts, hr, hlk, hR, hK, hE, hz⟩ := hC
  intro hk H ls locs h2 h3 h4 h5
  obtain ⟨e1, e2, e3, e4, e5, e6, e7, e8, e11, e9, e10⟩ := hE
  rcases e6 with e6 | ⟨t, e6⟩
  · exact va_gets hx hb (e6.narrow aA_ge) h4 hown (hts _ hl) (fun _ h9 => h9) hd (kk .null (Or.inl rfl) hk H ls locs h2 h3 h4 h5)
  · exact va_gets hx hb (e6.narrow aA_ge) h4 hown (hts _ hl) (fun _ h9 => h9) hd (kk (.ref t) (Or.inr ⟨t, rfl⟩) hk H ls locs h2 h3 h4 h5)
theorem A_xlen {i : Nat} (hi : i < 8) (hC : AC g b cc own nL ret d) (hd : decode cc pc = .ok (.arraylength, 1)) (kk : AT V g b (pc + 1) lv (.int (Int32.ofNat (aTl i)) :: st) D K) : AT V g b pc lv (.ref (g.2.2.2.2.1.2.2.2 i) :: st) D K := by
  obtain ⟨n0, dC, dI, cy, ex, w⟩ := g
  obtain ⟨⟨p, l, e, R, s, m, args, below, meth, c⟩, r1, D1⟩ := b
  obtain ⟨hx, hb, hml, hown, hts, hr, hlk, hR, hK, hE, hz⟩ := hC
  intro hk H ls locs h2 h3 h4 h5
  obtain ⟨e1, e2, e3, e4, e5, e6, e7, e8, e11, e9, e10⟩ := hE
  have e9 := e9.narrow (B := aA n0 w) aA_ge
  obtain ⟨cell, q1, q2, q3, q4, q5, q6, q7⟩ := (e9.1 i hi).2.2.2
  exact W.alen (n := Int32.ofNat (aTl i)) hx hb (by rw [h4.2.1 _ (Array.getElem?_eq_some_iff.mp q1).1 q7]; exact q1) q2 q5 rfl rfl hd (kk hk H ls locs h2 h3 h4 h5)
theorem A_xbal {i : Nat} {j : Int32} (hi : i < 8) (hC : AC g b cc own nL ret d) (hd : decode cc pc = .ok (.baload, 1)) (kk : AT V g b (pc + 1) lv (.int (aTc i j.toNatClampNeg) :: st) D K) : AT V g b pc lv (.int j :: .ref (g.2.2.2.2.1.2.2.2 i) :: st) D (aIn j (aTl i) K) := by
  obtain ⟨n0, dC, dI, cy, ex, w⟩ := g
  obtain ⟨⟨p, l, e, R, s, m, args, below, meth, c⟩, r1, D1⟩ := b
  obtain ⟨hx, hb, hml, hown, hts, hr, hlk, hR, hK, hE, hz⟩ := hC
  intro hk H ls locs h2 h3 h4 h5
  obtain ⟨e1, e2, e3, e4, e5, e6, e7, e8, e11, e9, e10⟩ := hE
  have e9 := e9.narrow (B := aA n0 w) aA_ge
  obtain ⟨cell, q1, q2, q3, q4, q5, q6, q7⟩ := (e9.1 i hi).2.2.2
  by_cases hin : j < 0 ∨ aTl i ≤ j.toNatClampNeg
  case pos =>
    obtain ⟨z, hk, -⟩ := hk
    rw [aIn, if_pos hin] at hk
    cases hk
  rw [aIn, if_neg hin] at hk
  have hlt : j.toNatClampNeg < aTl i := Nat.not_le.mp fun q => hin (Or.inr q)
  have q4' : aTl i ≤ cell.slots.size := q4
  exact W.bald (v := .int (aTc i j.toNatClampNeg)) hx hb (by rw [h4.2.1 _ (Array.getElem?_eq_some_iff.mp q1).1 q7]; exact q1) q2 q3 (by intro h; rcases h with h | h; exact hin (Or.inl h); omega) (q6 _ hlt) rfl rfl hd (kk hk H ls locs h2 h3 h4 h5)
theorem A_i2c {x : Int32} (hC : AC g b cc own nL ret d) (hd : decode cc pc = .ok (.i2c, 1)) (kk : AT V g b (pc + 1) lv (.int (x.toUInt32 % 65536).toInt32 :: st) D K) : AT V g b pc lv (.int x :: st) D K := by
  obtain ⟨n0, dC, dI, cy, ex, w⟩ := g
  obtain ⟨⟨p, l, e, R, s, m, args, below, meth, c⟩, r1, D1⟩ := b
  obtain ⟨hx, hb, -⟩ := hC
  intro hk H ls locs h2 h3 h4 h5
  exact lv_i2c hx hb hd rfl (kk hk H ls locs h2 h3 h4 h5)
theorem A_tret {x : Int32} {ty : FieldType} (hC : AC g b cc own nL (some ty) d) (hd : decode cc pc = .ok (.ireturn, 1)) (hn : narrow ty (.int x) = .int x) : AT aVi g b pc lv [.int x] D (some (x, D)) := by
  obtain ⟨n0, dC, dI, cy, ex, w⟩ := g
  obtain ⟨⟨p, l, e, R, s, m, args, below, meth, c⟩, r1, D1⟩ := b
  obtain ⟨hx, hb, hml, hown, hts, hr, hlk, hR, hK, hE, hz⟩ := hC
  intro hk H ls locs h2 h3 h4 h5
  obtain ⟨z, hk1, rfl⟩ := hk
  cases hk1
  refine W_sz (fun hs9 => ?_)
  exact W.zret hx hb hr hn (fun t ht hW => ⟨rfl, by have := h4.1; rw [ht]; omega, by rw [ht]; exact h2, h4.F ht⟩) h4.2.2 hd hlk
/-- a call of a method of a text that lies outside -/
theorem A_callX {y : MethodName} {cc2 : ByteArray} {nL2 d2 n idx i : Nat} {ret2 : Option FieldType} {As stk : List Value} {f : Option (Int32 × ADD)} {F : Int32 → ADD → Option (ρ × ADD)} (hC : AC g b cc own nL ret d) (hM : ∀ l, AM aVi l y cc2 nL2 ret2 d2 g (.ref (g.2.2.2.2.1.2.2.1 i) :: As) D f) (hi : i < 8) (hci : y.cls = "java/lang/String") (hY : aYV own idx y cc2 nL2 ret2 n) (hn : As.length = n) (hlen : lv.length = nL) (hdd : d2 + 1 ≤ d ∧ nL2 ≤ 21) (hst : (st.map fun v => v.category).sum ≤ 8) (hs : stk = As.reverse ++ .ref (g.2.2.2.2.1.2.2.1 i) :: st) (hd : decode cc pc = .ok (.invokevirtual idx, 3)) (kk : ∀ (x : Int32) (D2 : ADD), AT V g b (pc + 3) lv (.int x :: st) D2 (F x D2)) : AT V g b pc lv stk D (aBind f F) := by
  obtain ⟨n0, dC, dI, cy, ex, w⟩ := g
  obtain ⟨⟨p, l, e, R, s, m, args, below, meth, c⟩, r1, D1⟩ := b
  obtain ⟨hx, hb, hml, hown, hts, hr, hlk, hR, hK, hE, hz⟩ := hC
  intro hk H ls locs h2 h3 h4 h5
  have hk2 := hk
  cases f with
  | none =>
    obtain ⟨z, hk2, -⟩ := hk2
    cases hk2
  | some q9 =>
  obtain ⟨x, D2⟩ := q9
  have hk3 : ∃ z, F x D2 = some (z, D1) ∧ V z = r1 := hk2
  have M := hM l x D2 rfl
  subst hs
  subst hR
  refine W_sz (fun hs9 => ?_)
  have hsz : H.size = n0 + w.1 := by have := h4.1; omega
  intro T9 hT X
  have e9 : vk_S 8 (aTexts.map (fun q => q.2.length)) aBytes ex.2.2.1 ex.2.2.2 (aA n0 w) s s.heap := hE.2.2.2.2.2.2.2.2.2.1.narrow aA_ge
  have hrec := vk_recv e9 hi h4
  rw [← hci] at hrec
  obtain ⟨y1, y2, y3, y4, y5, y6, y7, y8⟩ := hY
  obtain ⟨v, st₀, t, T', L, e0, X', hL, e1, e2, hq, go⟩ := va_runV (R := aRm d) (As := As) (rest := st) (b := ex.2.2.1 i) (C := y.cls) (g := F0 m pc ls (As.reverse ++ .ref (ex.2.2.1 i) :: st)) ⟨hx, hb, hml, hown, hts⟩ M (cwV n hts (aT_good _ (by intro q9 hq9; simp only [wsV, List.mem_append, List.mem_cons, List.not_mem_nil, or_false] at hq9; rcases hq9 with (rfl | rfl | rfl | rfl) | rfl | hq9 <;> assumption)) rfl rfl rfl ⟨rfl, y6, y7, y8⟩ ⟨hdd.1, by show 8 + (nL2 + 11) + 40 * d2 ≤ 40 * d; have := hdd.1; have := hdd.2; omega⟩) ⟨aBlind, hrec, fun U2 hU hW => ⟨rfl, by rw [hU]; exact hsz, by rw [hU]; exact h2, h3, va_K.moved hW.alike hK, aEX_warm hE hz h4 hU hW⟩⟩ rfl hn (h5.1.trans hlen) rfl (lv_room hst) hd ⟨Nat.le_refl 0, Nat.le_refl 0⟩ T9 hT X
  have hv : v = aVi x := Outcome.returned.inj hq.1
  subst hv
  obtain ⟨-, hsz2, hP2, hF⟩ := hq
  have hS2 : va_S (aA n0 w) s.heap T'.heap (locs ++ L) := by
    refine ⟨?_, fun q g1 g2 => ?_, fun q hq => ?_⟩
    · rw [e1]; have := hF.1; rw [e0] at this; have := h4.1; omega
    · have h9 := hF.2 q (by rw [e0]; have := h4.1; omega) g2
      rw [e1, h9, e0]
      exact h4.2.1 q g1 g2
    · rcases List.mem_append.mp hq with h | h
      · exact h4.2.2 q h
      · exact hL q h
  obtain ⟨t2, a1, b1⟩ := kk x D2 hk3 T'.heap ls (locs ++ L) (by rw [e1]; exact hP2) (aD_any h3) hS2 h5 T' rfl X'
  exact ⟨t2, go t2 a1, b1⟩
end A5
