section A1
variable {ρ : Type} {V : ρ → Option Value} {g : AGl} {b : ABn} {cc : ByteArray} {own : String} {nL : Nat} {ret : Option FieldType} {d pc : Nat} {lv : List (Option Value)} {st : List Value} {D : ADD} {K K1 K2 : Option (ρ × ADD)}
theorem A_iadd {x y : Int32} (hC : AC g b cc own nL ret d) (hd : decode cc pc = .ok (.iadd, 1)) (kk : AT V g b (pc + 1) lv (.int (x + y) :: st) D K) : AT V g b pc lv (.int y :: .int x :: st) D K := by
  obtain ⟨n0, dC, dI, cy, ex, w⟩ := g
  obtain ⟨⟨p, l, e, R, s, m, args, below, meth, c⟩, r1, D1⟩ := b
  obtain ⟨hx, hb, hml, hown, hts, hr, hlk, hR, hK, hE, hz⟩ := hC
  intro hk H ls locs h2 h3 h4 h5
  exact lv_iadd hx hb hd (kk hk H ls locs h2 h3 h4 h5)
theorem A_ladd {x y : Int64} (hC : AC g b cc own nL ret d) (hd : decode cc pc = .ok (.ladd, 1)) (kk : AT V g b (pc + 1) lv (.long (x + y) :: st) D K) : AT V g b pc lv (.long y :: .long x :: st) D K := by
  obtain ⟨n0, dC, dI, cy, ex, w⟩ := g
  obtain ⟨⟨p, l, e, R, s, m, args, below, meth, c⟩, r1, D1⟩ := b
  obtain ⟨hx, hb, hml, hown, hts, hr, hlk, hR, hK, hE, hz⟩ := hC
  intro hk H ls locs h2 h3 h4 h5
  exact lv_ladd hx hb hd (kk hk H ls locs h2 h3 h4 h5)
theorem A_isub {x y : Int32} (hC : AC g b cc own nL ret d) (hd : decode cc pc = .ok (.isub, 1)) (kk : AT V g b (pc + 1) lv (.int (x - y) :: st) D K) : AT V g b pc lv (.int y :: .int x :: st) D K := by
  obtain ⟨n0, dC, dI, cy, ex, w⟩ := g
  obtain ⟨⟨p, l, e, R, s, m, args, below, meth, c⟩, r1, D1⟩ := b
  obtain ⟨hx, hb, hml, hown, hts, hr, hlk, hR, hK, hE, hz⟩ := hC
  intro hk H ls locs h2 h3 h4 h5
  exact lv_isub hx hb hd (kk hk H ls locs h2 h3 h4 h5)
theorem A_lsub {x y : Int64} (hC : AC g b cc own nL ret d) (hd : decode cc pc = .ok (.lsub, 1)) (kk : AT V g b (pc + 1) lv (.long (x - y) :: st) D K) : AT V g b pc lv (.long y :: .long x :: st) D K := by
  obtain ⟨n0, dC, dI, cy, ex, w⟩ := g
  obtain ⟨⟨p, l, e, R, s, m, args, below, meth, c⟩, r1, D1⟩ := b
  obtain ⟨hx, hb, hml, hown, hts, hr, hlk, hR, hK, hE, hz⟩ := hC
  intro hk H ls locs h2 h3 h4 h5
  exact lv_lsub hx hb hd (kk hk H ls locs h2 h3 h4 h5)
theorem A_imul {x y : Int32} (hC : AC g b cc own nL ret d) (hd : decode cc pc = .ok (.imul, 1)) (kk : AT V g b (pc + 1) lv (.int (x * y) :: st) D K) : AT V g b pc lv (.int y :: .int x :: st) D K := by
  obtain ⟨n0, dC, dI, cy, ex, w⟩ := g
  obtain ⟨⟨p, l, e, R, s, m, args, below, meth, c⟩, r1, D1⟩ := b
  obtain ⟨hx, hb, hml, hown, hts, hr, hlk, hR, hK, hE, hz⟩ := hC
  intro hk H ls locs h2 h3 h4 h5
  exact lv_imul hx hb hd (kk hk H ls locs h2 h3 h4 h5)
theorem A_lmul {x y : Int64} (hC : AC g b cc own nL ret d) (hd : decode cc pc = .ok (.lmul, 1)) (kk : AT V g b (pc + 1) lv (.long (x * y) :: st) D K) : AT V g b pc lv (.long y :: .long x :: st) D K := by
  obtain ⟨n0, dC, dI, cy, ex, w⟩ := g
  obtain ⟨⟨p, l, e, R, s, m, args, below, meth, c⟩, r1, D1⟩ := b
  obtain ⟨hx, hb, hml, hown, hts, hr, hlk, hR, hK, hE, hz⟩ := hC
  intro hk H ls locs h2 h3 h4 h5
  exact lv_lmul hx hb hd (kk hk H ls locs h2 h3 h4 h5)
theorem A_iand {x y : Int32} (hC : AC g b cc own nL ret d) (hd : decode cc pc = .ok (.iand, 1)) (kk : AT V g b (pc + 1) lv (.int (x &&& y) :: st) D K) : AT V g b pc lv (.int y :: .int x :: st) D K := by
  obtain ⟨n0, dC, dI, cy, ex, w⟩ := g
  obtain ⟨⟨p, l, e, R, s, m, args, below, meth, c⟩, r1, D1⟩ := b
  obtain ⟨hx, hb, hml, hown, hts, hr, hlk, hR, hK, hE, hz⟩ := hC
  intro hk H ls locs h2 h3 h4 h5
  exact lv_iand hx hb hd (kk hk H ls locs h2 h3 h4 h5)
theorem A_land {x y : Int64} (hC : AC g b cc own nL ret d) (hd : decode cc pc = .ok (.land, 1)) (kk : AT V g b (pc + 1) lv (.long (x &&& y) :: st) D K) : AT V g b pc lv (.long y :: .long x :: st) D K := by
  obtain ⟨n0, dC, dI, cy, ex, w⟩ := g
  obtain ⟨⟨p, l, e, R, s, m, args, below, meth, c⟩, r1, D1⟩ := b
  obtain ⟨hx, hb, hml, hown, hts, hr, hlk, hR, hK, hE, hz⟩ := hC
  intro hk H ls locs h2 h3 h4 h5
  exact lv_land hx hb hd (kk hk H ls locs h2 h3 h4 h5)
theorem A_ior {x y : Int32} (hC : AC g b cc own nL ret d) (hd : decode cc pc = .ok (.ior, 1)) (kk : AT V g b (pc + 1) lv (.int (x ||| y) :: st) D K) : AT V g b pc lv (.int y :: .int x :: st) D K := by
  obtain ⟨n0, dC, dI, cy, ex, w⟩ := g
  obtain ⟨⟨p, l, e, R, s, m, args, below, meth, c⟩, r1, D1⟩ := b
  obtain ⟨hx, hb, hml, hown, hts, hr, hlk, hR, hK, hE, hz⟩ := hC
  intro hk H ls locs h2 h3 h4 h5
  exact lv_ior hx hb hd (kk hk H ls locs h2 h3 h4 h5)
theorem A_lor {x y : Int64} (hC : AC g b cc own nL ret d) (hd : decode cc pc = .ok (.lor, 1)) (kk : AT V g b (pc + 1) lv (.long (x ||| y) :: st) D K) : AT V g b pc lv (.long y :: .long x :: st) D K := by
  obtain ⟨n0, dC, dI, cy, ex, w⟩ := g
  obtain ⟨⟨p, l, e, R, s, m, args, below, meth, c⟩, r1, D1⟩ := b
  obtain ⟨hx, hb, hml, hown, hts, hr, hlk, hR, hK, hE, hz⟩ := hC
  intro hk H ls locs h2 h3 h4 h5
  exact lv_lor hx hb hd (kk hk H ls locs h2 h3 h4 h5)
theorem A_ixor {x y : Int32} (hC : AC g b cc own nL ret d) (hd : decode cc pc = .ok (.ixor, 1)) (kk : AT V g b (pc + 1) lv (.int (x ^^^ y) :: st) D K) : AT V g b pc lv (.int y :: .int x :: st) D K := by
  obtain ⟨n0, dC, dI, cy, ex, w⟩ := g
  obtain ⟨⟨p, l, e, R, s, m, args, below, meth, c⟩, r1, D1⟩ := b
  obtain ⟨hx, hb, hml, hown, hts, hr, hlk, hR, hK, hE, hz⟩ := hC
  intro hk H ls locs h2 h3 h4 h5
  exact lv_ixor hx hb hd (kk hk H ls locs h2 h3 h4 h5)
theorem A_lxor {x y : Int64} (hC : AC g b cc own nL ret d) (hd : decode cc pc = .ok (.lxor, 1)) (kk : AT V g b (pc + 1) lv (.long (x ^^^ y) :: st) D K) : AT V g b pc lv (.long y :: .long x :: st) D K := by
  obtain ⟨n0, dC, dI, cy, ex, w⟩ := g
  obtain ⟨⟨p, l, e, R, s, m, args, below, meth, c⟩, r1, D1⟩ := b
  obtain ⟨hx, hb, hml, hown, hts, hr, hlk, hR, hK, hE, hz⟩ := hC
  intro hk H ls locs h2 h3 h4 h5
  exact lv_lxor hx hb hd (kk hk H ls locs h2 h3 h4 h5)
theorem A_ineg {x : Int32} (hC : AC g b cc own nL ret d) (hd : decode cc pc = .ok (.ineg, 1)) (kk : AT V g b (pc + 1) lv (.int (-x) :: st) D K) : AT V g b pc lv (.int x :: st) D K := by
  obtain ⟨n0, dC, dI, cy, ex, w⟩ := g
  obtain ⟨⟨p, l, e, R, s, m, args, below, meth, c⟩, r1, D1⟩ := b
  obtain ⟨hx, hb, hml, hown, hts, hr, hlk, hR, hK, hE, hz⟩ := hC
  intro hk H ls locs h2 h3 h4 h5
  exact lv_ineg hx hb hd (kk hk H ls locs h2 h3 h4 h5)
theorem A_ishl {x y : Int32} (hC : AC g b cc own nL ret d) (hd : decode cc pc = .ok (.ishl, 1)) (kk : AT V g b (pc + 1) lv (.int (x <<< (y &&& 31)) :: st) D K) : AT V g b pc lv (.int y :: .int x :: st) D K := by
  obtain ⟨n0, dC, dI, cy, ex, w⟩ := g
  obtain ⟨⟨p, l, e, R, s, m, args, below, meth, c⟩, r1, D1⟩ := b
  obtain ⟨hx, hb, hml, hown, hts, hr, hlk, hR, hK, hE, hz⟩ := hC
  intro hk H ls locs h2 h3 h4 h5
  exact lv_ishl hx hb hd (kk hk H ls locs h2 h3 h4 h5)
theorem A_ishr {x y : Int32} (hC : AC g b cc own nL ret d) (hd : decode cc pc = .ok (.ishr, 1)) (kk : AT V g b (pc + 1) lv (.int (x >>> (y &&& 31)) :: st) D K) : AT V g b pc lv (.int y :: .int x :: st) D K := by
  obtain ⟨n0, dC, dI, cy, ex, w⟩ := g
  obtain ⟨⟨p, l, e, R, s, m, args, below, meth, c⟩, r1, D1⟩ := b
  obtain ⟨hx, hb, hml, hown, hts, hr, hlk, hR, hK, hE, hz⟩ := hC
  intro hk H ls locs h2 h3 h4 h5
  exact lv_ishr hx hb hd (kk hk H ls locs h2 h3 h4 h5)
theorem A_iushr {x y : Int32} (hC : AC g b cc own nL ret d) (hd : decode cc pc = .ok (.iushr, 1)) (kk : AT V g b (pc + 1) lv (.int ((x.toUInt32 >>> (y.toUInt32 &&& Int32.toUInt32 31)).toInt32) :: st) D K) : AT V g b pc lv (.int y :: .int x :: st) D K := by
  obtain ⟨n0, dC, dI, cy, ex, w⟩ := g
  obtain ⟨⟨p, l, e, R, s, m, args, below, meth, c⟩, r1, D1⟩ := b
  obtain ⟨hx, hb, hml, hown, hts, hr, hlk, hR, hK, hE, hz⟩ := hC
  intro hk H ls locs h2 h3 h4 h5
  exact lv_iushr hx hb hd rfl (kk hk H ls locs h2 h3 h4 h5)
theorem A_lshl {x : Int64} {y : Int32} (hC : AC g b cc own nL ret d) (hd : decode cc pc = .ok (.lshl, 1)) (kk : AT V g b (pc + 1) lv (.long (x <<< (y.toInt64 &&& 63)) :: st) D K) : AT V g b pc lv (.int y :: .long x :: st) D K := by
  obtain ⟨n0, dC, dI, cy, ex, w⟩ := g
  obtain ⟨⟨p, l, e, R, s, m, args, below, meth, c⟩, r1, D1⟩ := b
  obtain ⟨hx, hb, hml, hown, hts, hr, hlk, hR, hK, hE, hz⟩ := hC
  intro hk H ls locs h2 h3 h4 h5
  exact lv_lshl hx hb hd rfl (kk hk H ls locs h2 h3 h4 h5)
theorem A_lshr {x : Int64} {y : Int32} (hC : AC g b cc own nL ret d) (hd : decode cc pc = .ok (.lshr, 1)) (kk : AT V g b (pc + 1) lv (.long (x >>> (y.toInt64 &&& 63)) :: st) D K) : AT V g b pc lv (.int y :: .long x :: st) D K := by
  obtain ⟨n0, dC, dI, cy, ex, w⟩ := g
  obtain ⟨⟨p, l, e, R, s, m, args, below, meth, c⟩, r1, D1⟩ := b
  obtain ⟨hx, hb, hml, hown, hts, hr, hlk, hR, hK, hE, hz⟩ := hC
  intro hk H ls locs h2 h3 h4 h5
  exact lv_lshr hx hb hd rfl (kk hk H ls locs h2 h3 h4 h5)
theorem A_i2l {x : Int32} (hC : AC g b cc own nL ret d) (hd : decode cc pc = .ok (.i2l, 1)) (kk : AT V g b (pc + 1) lv (.long x.toInt64 :: st) D K) : AT V g b pc lv (.int x :: st) D K := by
  obtain ⟨n0, dC, dI, cy, ex, w⟩ := g
  obtain ⟨⟨p, l, e, R, s, m, args, below, meth, c⟩, r1, D1⟩ := b
  obtain ⟨hx, hb, hml, hown, hts, hr, hlk, hR, hK, hE, hz⟩ := hC
  intro hk H ls locs h2 h3 h4 h5
  exact lv_i2l hx hb hd rfl (kk hk H ls locs h2 h3 h4 h5)
theorem A_l2i {x : Int64} (hC : AC g b cc own nL ret d) (hd : decode cc pc = .ok (.l2i, 1)) (kk : AT V g b (pc + 1) lv (.int x.toInt32 :: st) D K) : AT V g b pc lv (.long x :: st) D K := by
  obtain ⟨n0, dC, dI, cy, ex, w⟩ := g
  obtain ⟨⟨p, l, e, R, s, m, args, below, meth, c⟩, r1, D1⟩ := b
  obtain ⟨hx, hb, hml, hown, hts, hr, hlk, hR, hK, hE, hz⟩ := hC
  intro hk H ls locs h2 h3 h4 h5
  exact lv_l2i hx hb hd rfl (kk hk H ls locs h2 h3 h4 h5)
theorem A_i2b {x : Int32} (hC : AC g b cc own nL ret d) (hd : decode cc pc = .ok (.i2b, 1)) (kk : AT V g b (pc + 1) lv (.int x.toInt8.toInt32 :: st) D K) : AT V g b pc lv (.int x :: st) D K := by
  obtain ⟨n0, dC, dI, cy, ex, w⟩ := g
  obtain ⟨⟨p, l, e, R, s, m, args, below, meth, c⟩, r1, D1⟩ := b
  obtain ⟨hx, hb, hml, hown, hts, hr, hlk, hR, hK, hE, hz⟩ := hC
  intro hk H ls locs h2 h3 h4 h5
  exact lv_i2b hx hb hd rfl (kk hk H ls locs h2 h3 h4 h5)
theorem A_lcmp {x y : Int64} (hC : AC g b cc own nL ret d) (hd : decode cc pc = .ok (.lcmp, 1)) (kk : AT V g b (pc + 1) lv (.int (aCmp x y) :: st) D K) : AT V g b pc lv (.long y :: .long x :: st) D K := by
  obtain ⟨n0, dC, dI, cy, ex, w⟩ := g
  obtain ⟨⟨p, l, e, R, s, m, args, below, meth, c⟩, r1, D1⟩ := b
  obtain ⟨hx, hb, hml, hown, hts, hr, hlk, hR, hK, hE, hz⟩ := hC
  intro hk H ls locs h2 h3 h4 h5
  exact W.lcmp hx hb hd (kk hk H ls locs h2 h3 h4 h5)
theorem A_dup {v : Value} (hC : AC g b cc own nL ret d) (hd : decode cc pc = .ok (.dup, 1)) (hv : v.category = 1) (kk : AT V g b (pc + 1) lv (v :: v :: st) D K) : AT V g b pc lv (v :: st) D K := by
  obtain ⟨n0, dC, dI, cy, ex, w⟩ := g
  obtain ⟨⟨p, l, e, R, s, m, args, below, meth, c⟩, r1, D1⟩ := b
  obtain ⟨hx, hb, hml, hown, hts, hr, hlk, hR, hK, hE, hz⟩ := hC
  intro hk H ls locs h2 h3 h4 h5
  exact lv_dup hx hb hd hv (kk hk H ls locs h2 h3 h4 h5)
theorem A_dup2 {v u : Value} (hC : AC g b cc own nL ret d) (hd : decode cc pc = .ok (.dup2, 1)) (hv : v.category = 1) (hu : u.category = 1) (kk : AT V g b (pc + 1) lv (v :: u :: v :: u :: st) D K) : AT V g b pc lv (v :: u :: st) D K := by
  obtain ⟨n0, dC, dI, cy, ex, w⟩ := g
  obtain ⟨⟨p, l, e, R, s, m, args, below, meth, c⟩, r1, D1⟩ := b
  obtain ⟨hx, hb, hml, hown, hts, hr, hlk, hR, hK, hE, hz⟩ := hC
  intro hk H ls locs h2 h3 h4 h5
  exact lv_dup2_11 hx hb hd hv hu (kk hk H ls locs h2 h3 h4 h5)
theorem A_pop {v : Value} (hC : AC g b cc own nL ret d) (hd : decode cc pc = .ok (.pop, 1)) (hv : v.category = 1) (kk : AT V g b (pc + 1) lv st D K) : AT V g b pc lv (v :: st) D K := by
  obtain ⟨n0, dC, dI, cy, ex, w⟩ := g
  obtain ⟨⟨p, l, e, R, s, m, args, below, meth, c⟩, r1, D1⟩ := b
  obtain ⟨hx, hb, hml, hown, hts, hr, hlk, hR, hK, hE, hz⟩ := hC
  intro hk H ls locs h2 h3 h4 h5
  exact lv_pop hx hb hd hv (kk hk H ls locs h2 h3 h4 h5)
theorem A_iconst {n : Int} {v : Int32} (hC : AC g b cc own nL ret d) (hd : decode cc pc = .ok (.iconst n, 1)) (hv : Int32.ofInt n = v) (kk : AT V g b (pc + 1) lv (.int v :: st) D K) : AT V g b pc lv st D K := by
  obtain ⟨n0, dC, dI, cy, ex, w⟩ := g
  obtain ⟨⟨p, l, e, R, s, m, args, below, meth, c⟩, r1, D1⟩ := b
  obtain ⟨hx, hb, hml, hown, hts, hr, hlk, hR, hK, hE, hz⟩ := hC
  intro hk H ls locs h2 h3 h4 h5
  exact lv_iconst hx hb hd hv (kk hk H ls locs h2 h3 h4 h5)
theorem A_lconst {n : Fin 2} {v : Int64} (hC : AC g b cc own nL ret d) (hd : decode cc pc = .ok (.lconst n, 1)) (hv : Int64.ofNat (n : Nat) = v) (kk : AT V g b (pc + 1) lv (.long v :: st) D K) : AT V g b pc lv st D K := by
  obtain ⟨n0, dC, dI, cy, ex, w⟩ := g
  obtain ⟨⟨p, l, e, R, s, m, args, below, meth, c⟩, r1, D1⟩ := b
  obtain ⟨hx, hb, hml, hown, hts, hr, hlk, hR, hK, hE, hz⟩ := hC
  intro hk H ls locs h2 h3 h4 h5
  exact lv_lconst hx hb hd hv (kk hk H ls locs h2 h3 h4 h5)
theorem A_bipush {n : Int} {v : Int32} (hC : AC g b cc own nL ret d) (hd : decode cc pc = .ok (.bipush n, 2)) (hv : (Int8.ofInt n).toInt32 = v) (kk : AT V g b (pc + 2) lv (.int v :: st) D K) : AT V g b pc lv st D K := by
  obtain ⟨n0, dC, dI, cy, ex, w⟩ := g
  obtain ⟨⟨p, l, e, R, s, m, args, below, meth, c⟩, r1, D1⟩ := b
  obtain ⟨hx, hb, hml, hown, hts, hr, hlk, hR, hK, hE, hz⟩ := hC
  intro hk H ls locs h2 h3 h4 h5
  exact lv_bipush hx hb hd hv (kk hk H ls locs h2 h3 h4 h5)
theorem A_sipush {n : Int} {v : Int32} (hC : AC g b cc own nL ret d) (hd : decode cc pc = .ok (.sipush n, 3)) (hv : (Int16.ofInt n).toInt32 = v) (kk : AT V g b (pc + 3) lv (.int v :: st) D K) : AT V g b pc lv st D K := by
  obtain ⟨n0, dC, dI, cy, ex, w⟩ := g
  obtain ⟨⟨p, l, e, R, s, m, args, below, meth, c⟩, r1, D1⟩ := b
  obtain ⟨hx, hb, hml, hown, hts, hr, hlk, hR, hK, hE, hz⟩ := hC
  intro hk H ls locs h2 h3 h4 h5
  exact lv_sipush hx hb hd hv (kk hk H ls locs h2 h3 h4 h5)
theorem A_ldc {i : Nat} {v : Int32} (hC : AC g b cc own nL ret d) (hd : decode cc pc = .ok (.ldc i, 2)) (hc : Cond.constant own i v ∈ aT) (kk : AT V g b (pc + 2) lv (.int v :: st) D K) : AT V g b pc lv st D K := by
  obtain ⟨n0, dC, dI, cy, ex, w⟩ := g
  obtain ⟨⟨p, l, e, R, s, m, args, below, meth, c⟩, r1, D1⟩ := b
  obtain ⟨hx, hb, hml, hown, hts, hr, hlk, hR, hK, hE, hz⟩ := hC
  intro hk H ls locs h2 h3 h4 h5
  exact lv_ldc hx hb hown (hts _ hc) hd (kk hk H ls locs h2 h3 h4 h5)
theorem A_ldcw {i : Nat} {v : Int32} (hC : AC g b cc own nL ret d) (hd : decode cc pc = .ok (.ldc_w i, 3)) (hc : Cond.constant own i v ∈ aT) (kk : AT V g b (pc + 3) lv (.int v :: st) D K) : AT V g b pc lv st D K := by
  obtain ⟨n0, dC, dI, cy, ex, w⟩ := g
  obtain ⟨⟨p, l, e, R, s, m, args, below, meth, c⟩, r1, D1⟩ := b
  obtain ⟨hx, hb, hml, hown, hts, hr, hlk, hR, hK, hE, hz⟩ := hC
  intro hk H ls locs h2 h3 h4 h5
  exact lv_ldcw hx hb hown (hts _ hc) hd (kk hk H ls locs h2 h3 h4 h5)
theorem A_ldc2 {i : Nat} {v : Int64} (hC : AC g b cc own nL ret d) (hd : decode cc pc = .ok (.ldc2_w i, 3)) (hc : Cond.constantLong own i v ∈ aT) (kk : AT V g b (pc + 3) lv (.long v :: st) D K) : AT V g b pc lv st D K := by
  obtain ⟨n0, dC, dI, cy, ex, w⟩ := g
  obtain ⟨⟨p, l, e, R, s, m, args, below, meth, c⟩, r1, D1⟩ := b
  obtain ⟨hx, hb, hml, hown, hts, hr, hlk, hR, hK, hE, hz⟩ := hC
  intro hk H ls locs h2 h3 h4 h5
  exact lv_ldc2 hx hb hown (hts _ hc) hd (kk hk H ls locs h2 h3 h4 h5)
theorem A_iload_n {k : Fin 4} {x : Int32} (hC : AC g b cc own nL ret d) (hd : decode cc pc = .ok (.iload_n k, 1)) (hl : lv[(k : Nat)]? = some (some (.int x))) (kk : AT V g b (pc + 1) lv (.int x :: st) D K) : AT V g b pc lv st D K := by
  obtain ⟨n0, dC, dI, cy, ex, w⟩ := g
  obtain ⟨⟨p, l, e, R, s, m, args, below, meth, c⟩, r1, D1⟩ := b
  obtain ⟨hx, hb, hml, hown, hts, hr, hlk, hR, hK, hE, hz⟩ := hC
  intro hk H ls locs h2 h3 h4 h5
  exact lv_iload_n hx hb hd rfl (h5.2.2 _ _ hl) (kk hk H ls locs h2 h3 h4 h5)
theorem A_iload {i : Nat} {x : Int32} (hC : AC g b cc own nL ret d) (hd : decode cc pc = .ok (.iload i, 2)) (hl : lv[i]? = some (some (.int x))) (kk : AT V g b (pc + 2) lv (.int x :: st) D K) : AT V g b pc lv st D K := by
  obtain ⟨n0, dC, dI, cy, ex, w⟩ := g
  obtain ⟨⟨p, l, e, R, s, m, args, below, meth, c⟩, r1, D1⟩ := b
  obtain ⟨hx, hb, hml, hown, hts, hr, hlk, hR, hK, hE, hz⟩ := hC
  intro hk H ls locs h2 h3 h4 h5
  exact lv_iload hx hb hd (h5.2.2 _ _ hl) (kk hk H ls locs h2 h3 h4 h5)
theorem A_lload_n {k : Fin 4} {x : Int64} (hC : AC g b cc own nL ret d) (hd : decode cc pc = .ok (.lload_n k, 1)) (hl : lv[(k : Nat)]? = some (some (.long x))) (kk : AT V g b (pc + 1) lv (.long x :: st) D K) : AT V g b pc lv st D K := by
  obtain ⟨n0, dC, dI, cy, ex, w⟩ := g
  obtain ⟨⟨p, l, e, R, s, m, args, below, meth, c⟩, r1, D1⟩ := b
  obtain ⟨hx, hb, hml, hown, hts, hr, hlk, hR, hK, hE, hz⟩ := hC
  intro hk H ls locs h2 h3 h4 h5
  exact lv_lload_n hx hb hd rfl (h5.2.2 _ _ hl) (kk hk H ls locs h2 h3 h4 h5)
theorem A_lload {i : Nat} {x : Int64} (hC : AC g b cc own nL ret d) (hd : decode cc pc = .ok (.lload i, 2)) (hl : lv[i]? = some (some (.long x))) (kk : AT V g b (pc + 2) lv (.long x :: st) D K) : AT V g b pc lv st D K := by
  obtain ⟨n0, dC, dI, cy, ex, w⟩ := g
  obtain ⟨⟨p, l, e, R, s, m, args, below, meth, c⟩, r1, D1⟩ := b
  obtain ⟨hx, hb, hml, hown, hts, hr, hlk, hR, hK, hE, hz⟩ := hC
  intro hk H ls locs h2 h3 h4 h5
  exact lv_lload hx hb hd (h5.2.2 _ _ hl) (kk hk H ls locs h2 h3 h4 h5)
theorem A_aload_n {k : Fin 4} {x : Nat} (hC : AC g b cc own nL ret d) (hd : decode cc pc = .ok (.aload_n k, 1)) (hl : lv[(k : Nat)]? = some (some (.ref x))) (kk : AT V g b (pc + 1) lv (.ref x :: st) D K) : AT V g b pc lv st D K := by
  obtain ⟨n0, dC, dI, cy, ex, w⟩ := g
  obtain ⟨⟨p, l, e, R, s, m, args, below, meth, c⟩, r1, D1⟩ := b
  obtain ⟨hx, hb, hml, hown, hts, hr, hlk, hR, hK, hE, hz⟩ := hC
  intro hk H ls locs h2 h3 h4 h5
  exact lv_aload_n hx hb hd rfl (h5.2.2 _ _ hl) (kk hk H ls locs h2 h3 h4 h5)
theorem A_aload {i : Nat} {x : Nat} (hC : AC g b cc own nL ret d) (hd : decode cc pc = .ok (.aload i, 2)) (hl : lv[i]? = some (some (.ref x))) (kk : AT V g b (pc + 2) lv (.ref x :: st) D K) : AT V g b pc lv st D K := by
  obtain ⟨n0, dC, dI, cy, ex, w⟩ := g
  obtain ⟨⟨p, l, e, R, s, m, args, below, meth, c⟩, r1, D1⟩ := b
  obtain ⟨hx, hb, hml, hown, hts, hr, hlk, hR, hK, hE, hz⟩ := hC
  intro hk H ls locs h2 h3 h4 h5
  exact lv_aload hx hb hd (h5.2.2 _ _ hl) (kk hk H ls locs h2 h3 h4 h5)
theorem A_istore_n {k : Fin 4} {x : Int32} {lv2 : List (Option Value)} (hC : AC g b cc own nL ret d) (hd : decode cc pc = .ok (.istore_n k, 1)) (hi : (k : Nat) < lv.length) (ho : aOk lv (k : Nat) = true) (hl : lv.set (k : Nat) (some (.int x)) = lv2) (kk : AT V g b (pc + 1) lv2 st D K) : AT V g b pc lv (.int x :: st) D K := by
  obtain ⟨n0, dC, dI, cy, ex, w⟩ := g
  obtain ⟨⟨p, l, e, R, s, m, args, below, meth, c⟩, r1, D1⟩ := b
  obtain ⟨hx, hb, hml, hown, hts, hr, hlk, hR, hK, hE, hz⟩ := hC
  intro hk H ls locs h2 h3 h4 h5
  refine lv_istore_n hx hb hd rfl (aLv_has h5) hi rfl (fun ls2 h6 => ?_)
  subst hl
  exact kk hk H ls2 locs h2 h3 h4 (aLv_1 hi ho h6)
theorem A_istore {i : Nat} {x : Int32} {lv2 : List (Option Value)} (hC : AC g b cc own nL ret d) (hd : decode cc pc = .ok (.istore i, 2)) (hi : i < lv.length) (ho : aOk lv i = true) (hl : lv.set i (some (.int x)) = lv2) (kk : AT V g b (pc + 2) lv2 st D K) : AT V g b pc lv (.int x :: st) D K := by
  obtain ⟨n0, dC, dI, cy, ex, w⟩ := g
  obtain ⟨⟨p, l, e, R, s, m, args, below, meth, c⟩, r1, D1⟩ := b
  obtain ⟨hx, hb, hml, hown, hts, hr, hlk, hR, hK, hE, hz⟩ := hC
  intro hk H ls locs h2 h3 h4 h5
  refine lv_istore hx hb hd (aLv_has h5) hi rfl (fun ls2 h6 => ?_)
  subst hl
  exact kk hk H ls2 locs h2 h3 h4 (aLv_1 hi ho h6)
theorem A_astore_n {k : Fin 4} {x : Nat} {lv2 : List (Option Value)} (hC : AC g b cc own nL ret d) (hd : decode cc pc = .ok (.astore_n k, 1)) (hi : (k : Nat) < lv.length) (ho : aOk lv (k : Nat) = true) (hl : lv.set (k : Nat) (some (.ref x)) = lv2) (kk : AT V g b (pc + 1) lv2 st D K) : AT V g b pc lv (.ref x :: st) D K := by
  obtain ⟨n0, dC, dI, cy, ex, w⟩ := g
  obtain ⟨⟨p, l, e, R, s, m, args, below, meth, c⟩, r1, D1⟩ := b
  obtain ⟨hx, hb, hml, hown, hts, hr, hlk, hR, hK, hE, hz⟩ := hC
  intro hk H ls locs h2 h3 h4 h5
  refine lv_astore_n hx hb hd rfl (aLv_has h5) hi rfl (fun ls2 h6 => ?_)
  subst hl
  exact kk hk H ls2 locs h2 h3 h4 (aLv_1 hi ho h6)
theorem A_astore {i : Nat} {x : Nat} {lv2 : List (Option Value)} (hC : AC g b cc own nL ret d) (hd : decode cc pc = .ok (.astore i, 2)) (hi : i < lv.length) (ho : aOk lv i = true) (hl : lv.set i (some (.ref x)) = lv2) (kk : AT V g b (pc + 2) lv2 st D K) : AT V g b pc lv (.ref x :: st) D K := by
  obtain ⟨n0, dC, dI, cy, ex, w⟩ := g
  obtain ⟨⟨p, l, e, R, s, m, args, below, meth, c⟩, r1, D1⟩ := b
  obtain ⟨hx, hb, hml, hown, hts, hr, hlk, hR, hK, hE, hz⟩ := hC
  intro hk H ls locs h2 h3 h4 h5
  refine lv_astore hx hb hd (aLv_has h5) hi rfl (fun ls2 h6 => ?_)
  subst hl
  exact kk hk H ls2 locs h2 h3 h4 (aLv_1 hi ho h6)
theorem A_lstore_n {k : Fin 4} {x : Int64} {lv2 : List (Option Value)} (hC : AC g b cc own nL ret d) (hd : decode cc pc = .ok (.lstore_n k, 1)) (hi : (k : Nat) + 1 < lv.length) (ho : aOk lv (k : Nat) = true) (hl : (lv.set (k : Nat) (some (.long x))).set ((k : Nat) + 1) none = lv2) (kk : AT V g b (pc + 1) lv2 st D K) : AT V g b pc lv (.long x :: st) D K := by
  obtain ⟨n0, dC, dI, cy, ex, w⟩ := g
  obtain ⟨⟨p, l, e, R, s, m, args, below, meth, c⟩, r1, D1⟩ := b
  obtain ⟨hx, hb, hml, hown, hts, hr, hlk, hR, hK, hE, hz⟩ := hC
  intro hk H ls locs h2 h3 h4 h5
  refine lv_lstore_n hx hb hd rfl (aLv_has h5) hi rfl (fun ls2 h6 => ?_)
  subst hl
  exact kk hk H ls2 locs h2 h3 h4 (aLv_2 hi ho h6)
theorem A_lstore {i : Nat} {x : Int64} {lv2 : List (Option Value)} (hC : AC g b cc own nL ret d) (hd : decode cc pc = .ok (.lstore i, 2)) (hi : i + 1 < lv.length) (ho : aOk lv i = true) (hl : (lv.set i (some (.long x))).set (i + 1) none = lv2) (kk : AT V g b (pc + 2) lv2 st D K) : AT V g b pc lv (.long x :: st) D K := by
  obtain ⟨n0, dC, dI, cy, ex, w⟩ := g
  obtain ⟨⟨p, l, e, R, s, m, args, below, meth, c⟩, r1, D1⟩ := b
  obtain ⟨hx, hb, hml, hown, hts, hr, hlk, hR, hK, hE, hz⟩ := hC
  intro hk H ls locs h2 h3 h4 h5
  refine lv_lstore hx hb hd (aLv_has h5) hi rfl (fun ls2 h6 => ?_)
  subst hl
  exact kk hk H ls2 locs h2 h3 h4 (aLv_2 hi ho h6)
theorem aEn_at {lv : List (Option Value)} {i : Nat} {v : Value} (h : lv[i]? = some (some v)) : ∃ k : Nat, (aEn 0 lv)[k]? = some (i, v) := List.getElem?_of_mem ((aEn_mem lv 0 (i, v)).mpr ⟨i, by simp, h⟩)
theorem A_iinc {i : Nat} {n : Int} {x v : Int32} {lv2 : List (Option Value)} (hC : AC g b cc own nL ret d) (hd : decode cc pc = .ok (.iinc i n, 3)) (hx0 : lv[i]? = some (some (.int x))) (hv : x + Int32.ofInt n = v) (hi : i < lv.length) (ho : aOk lv i = true) (hl : lv.set i (some (.int v)) = lv2) (kk : AT V g b (pc + 3) lv2 st D K) : AT V g b pc lv st D K := by
  obtain ⟨n0, dC, dI, cy, ex, w⟩ := g
  obtain ⟨⟨p, l, e, R, s, m, args, below, meth, c⟩, r1, D1⟩ := b
  obtain ⟨hx, hb, hml, hown, hts, hr, hlk, hR, hK, hE, hz⟩ := hC
  intro hk H ls locs h2 h3 h4 h5
  obtain ⟨k, hk9⟩ := aEn_at hx0
  refine lv_iinc hx hb hd (aLv_has h5) hk9 hv hi rfl (fun ls2 h6 => ?_)
  subst hl
  exact kk hk H ls2 locs h2 h3 h4 (aLv_1 hi ho h6)
theorem A_iincL {i : Nat} {n : Int} {x z : Int32} {lv2 : Int32 → List (Option Value)} {F : Int32 → Option (ρ × ADD)} (hC : AC g b cc own nL ret d) (hd : decode cc pc = .ok (.iinc i n, 3)) (hx0 : lv[i]? = some (some (.int x))) (hn : Int32.ofInt n = z) (hi : i < lv.length) (ho : aOk lv i = true) (hl : ∀ v, lv.set i (some (.int v)) = lv2 v) (kk : ∀ v : Int32, AT V g b (pc + 3) (lv2 v) st D (F v)) : AT V g b pc lv st D (aLet (x + z) F) := A_iinc hC hd hx0 (by rw [hn]) hi ho (hl _) (kk (x + z))
theorem A_idiv {x y : Int32} (hC : AC g b cc own nL ret d) (hd : decode cc pc = .ok (.idiv, 1)) (kk : AT V g b (pc + 1) lv (.int (x / y) :: st) D K) : AT V g b pc lv (.int y :: .int x :: st) D (aNZ y K) := by
  obtain ⟨n0, dC, dI, cy, ex, w⟩ := g
  obtain ⟨⟨p, l, e, R, s, m, args, below, meth, c⟩, r1, D1⟩ := b
  obtain ⟨hx, hb, hml, hown, hts, hr, hlk, hR, hK, hE, hz⟩ := hC
  intro hk H ls locs h2 h3 h4 h5
  by_cases hy : y = 0
  · obtain ⟨z, hk, -⟩ := hk
    rw [aNZ, if_pos hy] at hk
    cases hk
  · rw [aNZ, if_neg hy] at hk
    exact lv_idiv hx hb hd hy (kk hk H ls locs h2 h3 h4 h5)
theorem A_irem {x y : Int32} (hC : AC g b cc own nL ret d) (hd : decode cc pc = .ok (.irem, 1)) (kk : AT V g b (pc + 1) lv (.int (x - x / y * y) :: st) D K) : AT V g b pc lv (.int y :: .int x :: st) D (aNZ y K) := by
  obtain ⟨n0, dC, dI, cy, ex, w⟩ := g
  obtain ⟨⟨p, l, e, R, s, m, args, below, meth, c⟩, r1, D1⟩ := b
  obtain ⟨hx, hb, hml, hown, hts, hr, hlk, hR, hK, hE, hz⟩ := hC
  intro hk H ls locs h2 h3 h4 h5
  by_cases hy : y = 0
  · obtain ⟨z, hk, -⟩ := hk
    rw [aNZ, if_pos hy] at hk
    cases hk
  · rw [aNZ, if_neg hy] at hk
    exact lv_irem hx hb hd hy (kk hk H ls locs h2 h3 h4 h5)
theorem A_ldiv {x y : Int64} (hC : AC g b cc own nL ret d) (hd : decode cc pc = .ok (.ldiv, 1)) (kk : AT V g b (pc + 1) lv (.long (x / y) :: st) D K) : AT V g b pc lv (.long y :: .long x :: st) D (aNZl y K) := by
  obtain ⟨n0, dC, dI, cy, ex, w⟩ := g
  obtain ⟨⟨p, l, e, R, s, m, args, below, meth, c⟩, r1, D1⟩ := b
  obtain ⟨hx, hb, hml, hown, hts, hr, hlk, hR, hK, hE, hz⟩ := hC
  intro hk H ls locs h2 h3 h4 h5
  by_cases hy : y = 0
  · obtain ⟨z, hk, -⟩ := hk
    rw [aNZl, if_pos hy] at hk
    cases hk
  · rw [aNZl, if_neg hy] at hk
    exact lv_ldiv hx hb hd hy (kk hk H ls locs h2 h3 h4 h5)
theorem A_if_eq {x : Int32} {off : Int} {tgt : Nat} (hC : AC g b cc own nL ret d) (hd : decode cc pc = .ok (.ifCond .eq off, 3)) (ht : (pc : Int) + off = (tgt : Int)) (k1 : AT V g b tgt lv st D K1) (k2 : AT V g b (pc + 3) lv st D K2) : AT V g b pc lv (.int x :: st) D (if x = 0 then K1 else K2) := by
  obtain ⟨n0, dC, dI, cy, ex, w⟩ := g
  obtain ⟨⟨p, l, e, R, s, m, args, below, meth, c⟩, r1, D1⟩ := b
  obtain ⟨hx, hb, hml, hown, hts, hr, hlk, hR, hK, hE, hz⟩ := hC
  intro hk H ls locs h2 h3 h4 h5
  exact lv_if_eq hx hb hd ht (fun c9 => k1 (by rw [if_pos c9] at hk; exact hk) H ls locs h2 h3 h4 h5) (fun c9 => k2 (by rw [if_neg c9] at hk; exact hk) H ls locs h2 h3 h4 h5)
theorem A_icmp_eq {x y : Int32} {off : Int} {tgt : Nat} (hC : AC g b cc own nL ret d) (hd : decode cc pc = .ok (.if_icmp .eq off, 3)) (ht : (pc : Int) + off = (tgt : Int)) (k1 : AT V g b tgt lv st D K1) (k2 : AT V g b (pc + 3) lv st D K2) : AT V g b pc lv (.int y :: .int x :: st) D (if x = y then K1 else K2) := by
  obtain ⟨n0, dC, dI, cy, ex, w⟩ := g
  obtain ⟨⟨p, l, e, R, s, m, args, below, meth, c⟩, r1, D1⟩ := b
  obtain ⟨hx, hb, hml, hown, hts, hr, hlk, hR, hK, hE, hz⟩ := hC
  intro hk H ls locs h2 h3 h4 h5
  exact lv_icmp_eq hx hb hd ht (fun c9 => k1 (by rw [if_pos c9] at hk; exact hk) H ls locs h2 h3 h4 h5) (fun c9 => k2 (by rw [if_neg c9] at hk; exact hk) H ls locs h2 h3 h4 h5)
theorem A_if_ne {x : Int32} {off : Int} {tgt : Nat} (hC : AC g b cc own nL ret d) (hd : decode cc pc = .ok (.ifCond .ne off, 3)) (ht : (pc : Int) + off = (tgt : Int)) (k1 : AT V g b tgt lv st D K1) (k2 : AT V g b (pc + 3) lv st D K2) : AT V g b pc lv (.int x :: st) D (if x = 0 then K2 else K1) := by
  obtain ⟨n0, dC, dI, cy, ex, w⟩ := g
  obtain ⟨⟨p, l, e, R, s, m, args, below, meth, c⟩, r1, D1⟩ := b
  obtain ⟨hx, hb, hml, hown, hts, hr, hlk, hR, hK, hE, hz⟩ := hC
  intro hk H ls locs h2 h3 h4 h5
  exact lv_if_ne hx hb hd ht (fun c9 => k1 (by rw [if_neg c9] at hk; exact hk) H ls locs h2 h3 h4 h5) (fun c9 => k2 (by rw [if_pos c9] at hk; exact hk) H ls locs h2 h3 h4 h5)
theorem A_icmp_ne {x y : Int32} {off : Int} {tgt : Nat} (hC : AC g b cc own nL ret d) (hd : decode cc pc = .ok (.if_icmp .ne off, 3)) (ht : (pc : Int) + off = (tgt : Int)) (k1 : AT V g b tgt lv st D K1) (k2 : AT V g b (pc + 3) lv st D K2) : AT V g b pc lv (.int y :: .int x :: st) D (if x = y then K2 else K1) := by
  obtain ⟨n0, dC, dI, cy, ex, w⟩ := g
  obtain ⟨⟨p, l, e, R, s, m, args, below, meth, c⟩, r1, D1⟩ := b
  obtain ⟨hx, hb, hml, hown, hts, hr, hlk, hR, hK, hE, hz⟩ := hC
  intro hk H ls locs h2 h3 h4 h5
  exact lv_icmp_ne hx hb hd ht (fun c9 => k1 (by rw [if_neg c9] at hk; exact hk) H ls locs h2 h3 h4 h5) (fun c9 => k2 (by rw [if_pos c9] at hk; exact hk) H ls locs h2 h3 h4 h5)
theorem A_if_lt {x : Int32} {off : Int} {tgt : Nat} (hC : AC g b cc own nL ret d) (hd : decode cc pc = .ok (.ifCond .lt off, 3)) (ht : (pc : Int) + off = (tgt : Int)) (k1 : AT V g b tgt lv st D K1) (k2 : AT V g b (pc + 3) lv st D K2) : AT V g b pc lv (.int x :: st) D (if x < 0 then K1 else K2) := by
  obtain ⟨n0, dC, dI, cy, ex, w⟩ := g
  obtain ⟨⟨p, l, e, R, s, m, args, below, meth, c⟩, r1, D1⟩ := b
  obtain ⟨hx, hb, hml, hown, hts, hr, hlk, hR, hK, hE, hz⟩ := hC
  intro hk H ls locs h2 h3 h4 h5
  exact lv_if_lt hx hb hd ht (fun c9 => k1 (by rw [if_pos c9] at hk; exact hk) H ls locs h2 h3 h4 h5) (fun c9 => k2 (by rw [if_neg c9] at hk; exact hk) H ls locs h2 h3 h4 h5)
theorem A_icmp_lt {x y : Int32} {off : Int} {tgt : Nat} (hC : AC g b cc own nL ret d) (hd : decode cc pc = .ok (.if_icmp .lt off, 3)) (ht : (pc : Int) + off = (tgt : Int)) (k1 : AT V g b tgt lv st D K1) (k2 : AT V g b (pc + 3) lv st D K2) : AT V g b pc lv (.int y :: .int x :: st) D (if x < y then K1 else K2) := by
  obtain ⟨n0, dC, dI, cy, ex, w⟩ := g
  obtain ⟨⟨p, l, e, R, s, m, args, below, meth, c⟩, r1, D1⟩ := b
  obtain ⟨hx, hb, hml, hown, hts, hr, hlk, hR, hK, hE, hz⟩ := hC
  intro hk H ls locs h2 h3 h4 h5
  exact lv_icmp_lt hx hb hd ht (fun c9 => k1 (by rw [if_pos c9] at hk; exact hk) H ls locs h2 h3 h4 h5) (fun c9 => k2 (by rw [if_neg c9] at hk; exact hk) H ls locs h2 h3 h4 h5)
theorem A_if_ge {x : Int32} {off : Int} {tgt : Nat} (hC : AC g b cc own nL ret d) (hd : decode cc pc = .ok (.ifCond .ge off, 3)) (ht : (pc : Int) + off = (tgt : Int)) (k1 : AT V g b tgt lv st D K1) (k2 : AT V g b (pc + 3) lv st D K2) : AT V g b pc lv (.int x :: st) D (if 0 ≤ x then K1 else K2) := by
  obtain ⟨n0, dC, dI, cy, ex, w⟩ := g
  obtain ⟨⟨p, l, e, R, s, m, args, below, meth, c⟩, r1, D1⟩ := b
  obtain ⟨hx, hb, hml, hown, hts, hr, hlk, hR, hK, hE, hz⟩ := hC
  intro hk H ls locs h2 h3 h4 h5
  exact lv_if_ge hx hb hd ht (fun c9 => k1 (by rw [if_pos c9] at hk; exact hk) H ls locs h2 h3 h4 h5) (fun c9 => k2 (by rw [if_neg c9] at hk; exact hk) H ls locs h2 h3 h4 h5)
theorem A_icmp_ge {x y : Int32} {off : Int} {tgt : Nat} (hC : AC g b cc own nL ret d) (hd : decode cc pc = .ok (.if_icmp .ge off, 3)) (ht : (pc : Int) + off = (tgt : Int)) (k1 : AT V g b tgt lv st D K1) (k2 : AT V g b (pc + 3) lv st D K2) : AT V g b pc lv (.int y :: .int x :: st) D (if y ≤ x then K1 else K2) := by
  obtain ⟨n0, dC, dI, cy, ex, w⟩ := g
  obtain ⟨⟨p, l, e, R, s, m, args, below, meth, c⟩, r1, D1⟩ := b
  obtain ⟨hx, hb, hml, hown, hts, hr, hlk, hR, hK, hE, hz⟩ := hC
  intro hk H ls locs h2 h3 h4 h5
  exact lv_icmp_ge hx hb hd ht (fun c9 => k1 (by rw [if_pos c9] at hk; exact hk) H ls locs h2 h3 h4 h5) (fun c9 => k2 (by rw [if_neg c9] at hk; exact hk) H ls locs h2 h3 h4 h5)
theorem A_if_gt {x : Int32} {off : Int} {tgt : Nat} (hC : AC g b cc own nL ret d) (hd : decode cc pc = .ok (.ifCond .gt off, 3)) (ht : (pc : Int) + off = (tgt : Int)) (k1 : AT V g b tgt lv st D K1) (k2 : AT V g b (pc + 3) lv st D K2) : AT V g b pc lv (.int x :: st) D (if 0 < x then K1 else K2) := by
  obtain ⟨n0, dC, dI, cy, ex, w⟩ := g
  obtain ⟨⟨p, l, e, R, s, m, args, below, meth, c⟩, r1, D1⟩ := b
  obtain ⟨hx, hb, hml, hown, hts, hr, hlk, hR, hK, hE, hz⟩ := hC
  intro hk H ls locs h2 h3 h4 h5
  exact lv_if_gt hx hb hd ht (fun c9 => k1 (by rw [if_pos c9] at hk; exact hk) H ls locs h2 h3 h4 h5) (fun c9 => k2 (by rw [if_neg c9] at hk; exact hk) H ls locs h2 h3 h4 h5)
theorem A_icmp_gt {x y : Int32} {off : Int} {tgt : Nat} (hC : AC g b cc own nL ret d) (hd : decode cc pc = .ok (.if_icmp .gt off, 3)) (ht : (pc : Int) + off = (tgt : Int)) (k1 : AT V g b tgt lv st D K1) (k2 : AT V g b (pc + 3) lv st D K2) : AT V g b pc lv (.int y :: .int x :: st) D (if y < x then K1 else K2) := by
  obtain ⟨n0, dC, dI, cy, ex, w⟩ := g
  obtain ⟨⟨p, l, e, R, s, m, args, below, meth, c⟩, r1, D1⟩ := b
  obtain ⟨hx, hb, hml, hown, hts, hr, hlk, hR, hK, hE, hz⟩ := hC
  intro hk H ls locs h2 h3 h4 h5
  exact lv_icmp_gt hx hb hd ht (fun c9 => k1 (by rw [if_pos c9] at hk; exact hk) H ls locs h2 h3 h4 h5) (fun c9 => k2 (by rw [if_neg c9] at hk; exact hk) H ls locs h2 h3 h4 h5)
theorem A_if_le {x : Int32} {off : Int} {tgt : Nat} (hC : AC g b cc own nL ret d) (hd : decode cc pc = .ok (.ifCond .le off, 3)) (ht : (pc : Int) + off = (tgt : Int)) (k1 : AT V g b tgt lv st D K1) (k2 : AT V g b (pc + 3) lv st D K2) : AT V g b pc lv (.int x :: st) D (if x ≤ 0 then K1 else K2) := by
  obtain ⟨n0, dC, dI, cy, ex, w⟩ := g
  obtain ⟨⟨p, l, e, R, s, m, args, below, meth, c⟩, r1, D1⟩ := b
  obtain ⟨hx, hb, hml, hown, hts, hr, hlk, hR, hK, hE, hz⟩ := hC
  intro hk H ls locs h2 h3 h4 h5
  exact lv_if_le hx hb hd ht (fun c9 => k1 (by rw [if_pos c9] at hk; exact hk) H ls locs h2 h3 h4 h5) (fun c9 => k2 (by rw [if_neg c9] at hk; exact hk) H ls locs h2 h3 h4 h5)
theorem A_icmp_le {x y : Int32} {off : Int} {tgt : Nat} (hC : AC g b cc own nL ret d) (hd : decode cc pc = .ok (.if_icmp .le off, 3)) (ht : (pc : Int) + off = (tgt : Int)) (k1 : AT V g b tgt lv st D K1) (k2 : AT V g b (pc + 3) lv st D K2) : AT V g b pc lv (.int y :: .int x :: st) D (if x ≤ y then K1 else K2) := by
  obtain ⟨n0, dC, dI, cy, ex, w⟩ := g
  obtain ⟨⟨p, l, e, R, s, m, args, below, meth, c⟩, r1, D1⟩ := b
  obtain ⟨hx, hb, hml, hown, hts, hr, hlk, hR, hK, hE, hz⟩ := hC
  intro hk H ls locs h2 h3 h4 h5
  exact lv_icmp_le hx hb hd ht (fun c9 => k1 (by rw [if_pos c9] at hk; exact hk) H ls locs h2 h3 h4 h5) (fun c9 => k2 (by rw [if_neg c9] at hk; exact hk) H ls locs h2 h3 h4 h5)
theorem A_goto {off : Int} {tgt : Nat} (hC : AC g b cc own nL ret d) (hd : decode cc pc = .ok (.goto off, 3)) (ht : (pc : Int) + off = (tgt : Int)) (kk : AT V g b tgt lv st D K) : AT V g b pc lv st D K := by
  obtain ⟨n0, dC, dI, cy, ex, w⟩ := g
  obtain ⟨⟨p, l, e, R, s, m, args, below, meth, c⟩, r1, D1⟩ := b
  obtain ⟨hx, hb, hml, hown, hts, hr, hlk, hR, hK, hE, hz⟩ := hC
  intro hk H ls locs h2 h3 h4 h5
  exact lv_goto hx hb hd ht (kk hk H ls locs h2 h3 h4 h5)
theorem A_let {α : Type} {x : α} {F : α → Option (ρ × ADD)} (kk : ∀ y : α, AT V g b pc lv st D (F y)) : AT V g b pc lv st D (aLet x F) := kk x
theorem A_join {α : Type} {J : α} {F : α → Option (ρ × ADD)} (P : α → Prop) (hJ : P J) (kk : ∀ y : α, P y → AT V g b pc lv st D (F y)) : AT V g b pc lv st D (aLet J F) := kk J hJ
theorem aFix_all {α : Type} (P : α → Prop) {F : α → α} {z : α} (hz : P z) (hF : ∀ y, P y → P (F y)) : ∀ n, P (aFix n F z)
  | 0 => hz
  | n + 1 => hF _ (aFix_all P hz hF n)
theorem A_none : AT V g b pc lv st D (none : Option (ρ × ADD)) := by
  obtain ⟨n0, dC, dI, cy, ex, w⟩ := g
  obtain ⟨⟨p, l, e, R, s, m, args, below, meth, c⟩, r1, D1⟩ := b
  intro hk
  obtain ⟨z, hk, -⟩ := hk
  cases hk
theorem A_le {lv2 : List (Option Value)} (h : aLe lv2 lv) (kk : AT V g b pc lv2 st D K) : AT V g b pc lv st D K := by
  obtain ⟨n0, dC, dI, cy, ex, w⟩ := g
  obtain ⟨⟨p, l, e, R, s, m, args, below, meth, c⟩, r1, D1⟩ := b
  intro hk H ls locs h2 h3 h4 h5
  exact kk hk H ls locs h2 h3 h4 (aLv_le h h5)
theorem A_topi {x : Int32} {F : Int32 → Option (ρ × ADD)} (kk : ∀ y : Int32, AT V g b pc lv (.int y :: st) D (F y)) : AT V g b pc lv (.int x :: st) D (aLet x F) := kk x
theorem A_topl {x : Int64} {F : Int64 → Option (ρ × ADD)} (kk : ∀ y : Int64, AT V g b pc lv (.long y :: st) D (F y)) : AT V g b pc lv (.long x :: st) D (aLet x F) := kk x
end A1
