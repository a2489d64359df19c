/-! THE MAKING OF CELLS: worlds that grow -/
abbrev APD : Type := AWS × ADD
def aZr (D : ADD) (k : Nat) : ADD := (fun a j => if a = k then 0 else D.1 a j, fun a j => if a = k then 0 else D.2 a j)
def aNC (P : APD) (S : ASh) : APD := ((P.1.1 + 1, P.1.2.1 ++ [P.1.1], fun q => if q = P.1.1 then S else P.1.2.2 q), aZr P.2 P.1.1)
def aNO (P : APD) (ci : Nat) : APD := aNC P (ci, 0, fun _ => none)
def aNA (P : APD) (kind n : Nat) : APD := aNC P (kind, n, fun _ => none)
def aPR (P : APD) (k f v : Nat) : APD := ((P.1.1, P.1.2.1, fun q => if q = k then ((P.1.2.2 q).1, (P.1.2.2 q).2.1, fun j => if j = f then some v else (P.1.2.2 q).2.2 j) else P.1.2.2 q), P.2)
def aPI (P : APD) (k f : Nat) (x : Int32) : APD := (P.1, aSI P.2 k f x)
def ARm (d mc ms : Nat) : Room := { frames := d, cells := mc, slots := ms, locals := 40 * d }
def aHas (P : APD) (k ci : Nat) : Prop := k ∈ P.1.2.1 ∧ (P.1.2.2 k).1 = ci ∧ k < P.1.1
def aQc (g : AGl) (r : Option Value) (E : APD) : Array Value → State → Outcome → State → Prop := match g with
  | (n0, dC, dI, cy, _, w0) => fun _ st oc t => oc = .returned r ∧ t.heap.size = n0 + E.1.1 ∧ va_P (dC, dI) vwCl (aW n0 cy E.1 E.2) t.heap ∧ va_D (aA n0 w0) (aW n0 cy E.1 E.2) ∧ va_F (aA n0 w0) st t
def ACc (g : AGl) (b : AMc) (cc : ByteArray) (own : String) (nL : Nat) (ret : Option FieldType) (d mc ms : Nat) (nm : String) : Prop := match g, b with
  | (n0, dC, dI, cy, ex, w0), (p, _, _, R, s, m, args, _, meth, c) => p.tables.exec = Jvm.exec ∧ c.code = cc ∧ c.maxLocals = nL ∧ s.vm.findClass own = some m.cls ∧ (∀ q ∈ aT, q.before args s = true) ∧ meth.sig.returnType = ret ∧ meth.locks = false ∧ R = ARm d mc ms ∧ va_K (dC, dI) vwCl (aTys cy) s ∧ aEX ex n0 s ∧ s.heap.size = n0 + w0.1 ∧ meth.name = nm
def ATc (g : AGl) (b : AMc) (mc ms : Nat) (P : APD) (cl sl pc : Nat) (lv : List (Option Value)) (st : List Value) (r : Option Value) (E : APD) : Prop := match g, b with
  | (n0, dC, dI, cy, ex, w0), (p, l, e, R, s, m, args, below, meth, c) =>
    ∀ (H : Heap) (ls : Array Slot) (locs : List Loc), H.size = n0 + P.1.1 → va_P (dC, dI) vwCl (aW n0 cy P.1 P.2) H → va_D (aA n0 w0) (aW n0 cy P.1 P.2) → va_S (aA n0 w0) s.heap H locs → aLv ls lv →
      W p l e R s m args below meth c H locs cl sl (MQ below (aQc (n0, dC, dI, cy, ex, w0) r E) args s mc ms (aA n0 w0)) (F0 m pc ls st)
def AMk (l : Launch) (y : MethodName) (cc : ByteArray) (nL : Nat) (ret : Option FieldType) (d mc ms : Nat) (g : AGl) (av : List Value) (D : ADD) (r : Option Value) (E : APD) : Prop :=
  Met l y (.code y cc nL ret :: aT) (ARm d mc ms) (va_Pc av (aWD g D)) (aQc g r E) mc ms (aA g.1 g.2.2.2.2.2)
theorem aEX_warm2 {ex : AEx} {n0 : Nat} {w0 : AWS} {s U : State} {H : Heap} {locs : List Loc} (h : aEX ex n0 s) (hs : s.heap.size = n0 + w0.1) (hS : va_S (aA n0 w0) s.heap H locs) (hH : U.heap = H) (hW : s.WarmedH U.vm) : aEX ex n0 U := aEX_warm h hs hS hH hW
theorem aHas_NC {P : APD} {S : ASh} {k ci : Nat} (h : aHas P k ci) : aHas (aNC P S) k ci := by
  obtain ⟨h1, h2, h3⟩ := h
  refine ⟨List.mem_append_left _ h1, ?_, by show k < P.1.1 + 1; omega⟩
  show (if k = P.1.1 then S else P.1.2.2 k).1 = ci
  rw [if_neg (by omega)]; exact h2
theorem aHas_new {P : APD} {S : ASh} : aHas (aNC P S) P.1.1 S.1 := by
  refine ⟨List.mem_append_right _ (List.mem_singleton.mpr rfl), ?_, by show P.1.1 < P.1.1 + 1; omega⟩
  show (if P.1.1 = P.1.1 then S else P.1.2.2 P.1.1).1 = S.1
  rw [if_pos rfl]
theorem aHas_PR {P : APD} {k0 f v k ci : Nat} (h : aHas P k ci) : aHas (aPR P k0 f v) k ci := by
  obtain ⟨h1, h2, h3⟩ := h
  refine ⟨h1, ?_, h3⟩
  show (if k = k0 then ((P.1.2.2 k).1, (P.1.2.2 k).2.1, fun j => if j = f then some v else (P.1.2.2 k).2.2 j) else P.1.2.2 k).1 = ci
  split <;> exact h2
theorem aHas_PI {P : APD} {k0 f k ci : Nat} {x : Int32} (h : aHas P k ci) : aHas (aPI P k0 f x) k ci := h
theorem aW_set2 {n0 : Nat} {cy : Nat → ClassId} {w w' : AWS} {D D' : ADD} {A : Nat → Prop} {k j : Nat} {e0 e : va_E} (hL : w'.2.1 = w.2.1) (hD : va_D A (aW n0 cy w D)) (hj : (aW n0 cy w D)[j]? = some (n0 + k, e0)) (hp : aPic cy (w'.2.2 k) D' k = e) (ho : ∀ i, i ≠ k → aPic cy (w'.2.2 i) D' i = aPic cy (w.2.2 i) D i) : (aW n0 cy w D).set j (n0 + k, e) = aW n0 cy w' D' := by
  have hl := (List.getElem?_eq_some_iff.mp hj).1
  apply List.ext_getElem?
  intro i
  by_cases hi : i = j
  · subst hi
    rw [List.getElem?_set_self hl]
    have h1 := hj
    simp only [aW, List.getElem?_map, hL] at h1 ⊢
    cases hx : w.2.1[i]? with
    | none => rw [hx] at h1; cases h1
    | some q =>
      rw [hx] at h1
      have h2 : n0 + q = n0 + k := congrArg Prod.fst (Option.some.inj h1)
      have h3 : q = k := by omega
      subst h3
      simp [hp]
  · rw [List.getElem?_set_ne (Ne.symm hi)]
    simp only [aW, List.getElem?_map, hL]
    cases hx : w.2.1[i]? with
    | none => rfl
    | some q =>
      have hq : q ≠ k := by
        intro hqk
        subst hqk
        exact hi (hD.1 i j _ _ (show (aW n0 cy w D)[i]? = some (n0 + q, aPic cy (w.2.2 q) D q) by simp only [aW, List.getElem?_map, hx]; rfl) hj rfl)
      simp [ho q hq]
theorem aD_L {n0 : Nat} {cy : Nat → ClassId} {w w' : AWS} {D D' : ADD} {A : Nat → Prop} (hL : w'.2.1 = w.2.1) (hD : va_D A (aW n0 cy w D)) : va_D A (aW n0 cy w' D') := by
  have key : ∀ (k : Nat) (q : Nat × va_E), (aW n0 cy w' D')[k]? = some q → ∃ q0, (aW n0 cy w D)[k]? = some q0 ∧ q0.1 = q.1 := by
    intro k q hk
    simp only [aW, List.getElem?_map, hL] at hk ⊢
    cases hx : w.2.1[k]? with
    | none => rw [hx] at hk; cases hk
    | some a =>
      rw [hx] at hk
      exact ⟨_, rfl, by rw [← Option.some.inj hk]⟩
  refine ⟨fun i j x y hi hj hxy => ?_, fun k q hk => ?_⟩
  · obtain ⟨x0, h1, h2⟩ := key i x hi
    obtain ⟨y0, h3, h4⟩ := key j y hj
    exact hD.1 i j x0 y0 h1 h3 (h2.trans (hxy.trans h4.symm))
  · obtain ⟨q0, h1, h2⟩ := key k q hk
    rw [← h2]
    exact hD.2 k q0 h1
/-- a world with a new cell behind it -/
theorem aP_new {n0 : Nat} {dC : Nat → ClassId} {dI : Nat → Nat → Nat} {cy : Nat → ClassId} {P : APD} {S : ASh} {H H1 : Heap} (hz : H.size = n0 + P.1.1) (h2 : va_P (dC, dI) vwCl (aW n0 cy P.1 P.2) H) (ho : ∀ q, q < H.size → H1[q]? = H[q]?) (hn : va_at (dC, dI) vwCl (n0 + P.1.1, aPic cy S (aZr P.2 P.1.1) P.1.1) H1) : va_P (dC, dI) vwCl (aW n0 cy (aNC P S).1 (aNC P S).2) H1 := by
  have hlt : ∀ k, k ∈ P.1.2.1 → k < P.1.1 := by
    intro k hk
    obtain ⟨j, hj⟩ := aW_get (n0 := n0) (cy := cy) (w := P.1) (D := P.2) hk
    have := (h2 j _ hj).lt
    simp only at this
    omega
  have e : aW n0 cy (aNC P S).1 (aNC P S).2 = aW n0 cy P.1 P.2 ++ [(n0 + P.1.1, aPic cy S (aZr P.2 P.1.1) P.1.1)] := by
    show (P.1.2.1 ++ [P.1.1]).map _ = _
    rw [List.map_append]
    congr 1
    · apply List.map_congr_left
      intro k hk
      have hk2 := hlt k hk
      have hne : k ≠ P.1.1 := by omega
      show (n0 + k, aPic cy (if k = P.1.1 then S else P.1.2.2 k) (aZr P.2 P.1.1) k) = (n0 + k, aPic cy (P.1.2.2 k) P.2 k)
      rw [if_neg hne]
      have a1 : (aZr P.2 P.1.1).1 k = P.2.1 k := by funext j; simp [aZr, hne]
      have a2 : (aZr P.2 P.1.1).2 k = P.2.2 k := by funext j; simp [aZr, hne]
      have a3 : aFv (P.1.2.2 k) (aZr P.2 P.1.1) k = aFv (P.1.2.2 k) P.2 k := by funext j; simp only [aFv, a1, a2]
      simp only [aPic, a1, a2, a3]
    · show [(n0 + P.1.1, aPic cy (if P.1.1 = P.1.1 then S else P.1.2.2 P.1.1) (aZr P.2 P.1.1) P.1.1)] = _
      rw [if_pos rfl]
  rw [e]
  refine (h2.kept (fun k q hk => ho q.1 (h2 k q hk).lt)).app (fun k q hk => ?_)
  have hz9 : k < 1 := (List.getElem?_eq_some_iff.mp hk).1
  rw [show k = 0 by omega] at hk
  cases hk
  exact hn
theorem aD_new {n0 : Nat} {dC : Nat → ClassId} {dI : Nat → Nat → Nat} {cy : Nat → ClassId} {P : APD} {S : ASh} {A : Nat → Prop} {H : Heap} (hz : H.size = n0 + P.1.1) (h2 : va_P (dC, dI) vwCl (aW n0 cy P.1 P.2) H) (h3 : va_D A (aW n0 cy P.1 P.2)) (hA : A (n0 + P.1.1)) : va_D A (aW n0 cy (aNC P S).1 (aNC P S).2) := by
  have h := h3.push (e := aPic cy S (aZr P.2 P.1.1) P.1.1) h2 hz.symm hA
  have key : ∀ (k : Nat) (q : Nat × va_E), (aW n0 cy (aNC P S).1 (aNC P S).2)[k]? = some q → ∃ q0, (aW n0 cy P.1 P.2 ++ [(n0 + P.1.1, aPic cy S (aZr P.2 P.1.1) P.1.1)])[k]? = some q0 ∧ q0.1 = q.1 := by
    intro k q hk
    have hk : ((P.1.2.1 ++ [P.1.1]).map (fun i => (n0 + i, aPic cy ((aNC P S).1.2.2 i) (aNC P S).2 i)))[k]? = some q := hk
    rw [List.getElem?_map] at hk
    cases hx : (P.1.2.1 ++ [P.1.1])[k]? with
    | none => rw [hx] at hk; cases hk
    | some a =>
      rw [hx] at hk
      have hq : n0 + a = q.1 := by rw [← Option.some.inj hk]
      by_cases hl : k < P.1.2.1.length
      · rw [List.getElem?_append_left hl] at hx
        refine ⟨(n0 + a, aPic cy (P.1.2.2 a) P.2 a), ?_, hq⟩
        rw [List.getElem?_append_left (by simpa [aW] using hl)]
        simp only [aW, List.getElem?_map, hx]; rfl
      · rw [List.getElem?_append_right (by omega)] at hx
        have hz9 : k - P.1.2.1.length < 1 := (List.getElem?_eq_some_iff.mp hx).1
        rw [show k - P.1.2.1.length = 0 by omega] at hx
        cases hx
        refine ⟨(n0 + P.1.1, aPic cy S (aZr P.2 P.1.1) P.1.1), ?_, hq⟩
        rw [List.getElem?_append_right (by simp [aW]; omega)]
        rw [show k - (aW n0 cy P.1 P.2).length = 0 by simp [aW]; omega]
        rfl
  refine ⟨fun i j x y hi hj hxy => ?_, fun k q hk => ?_⟩
  · obtain ⟨x0, h1, h2⟩ := key i x hi
    obtain ⟨y0, h3, h4⟩ := key j y hj
    exact h.1 i j x0 y0 h1 h3 (h2.trans (hxy.trans h4.symm))
  · obtain ⟨q0, h1, h2⟩ := key k q hk
    rw [← h2]
    exact h.2 k q0 h1
def aRI (P : APD) (o f a : Nat) : Prop := (P.1.2.2 o).2.2 f = some a
theorem aRI_NC {P : APD} {S : ASh} {o f a : Nat} (hl : o < P.1.1) (h : aRI P o f a) : aRI (aNC P S) o f a := by
  show ((if o = P.1.1 then S else P.1.2.2 o)).2.2 f = some a
  rw [if_neg (by omega)]; exact h
theorem aRI_PI {P : APD} {k f2 o f a : Nat} {x : Int32} (h : aRI P o f a) : aRI (aPI P k f2 x) o f a := h
theorem aRI_self {P : APD} {o f v : Nat} : aRI (aPR P o f v) o f v := by
  show (if o = o then ((P.1.2.2 o).1, (P.1.2.2 o).2.1, fun j => if j = f then some v else (P.1.2.2 o).2.2 j) else P.1.2.2 o).2.2 f = some v
  rw [if_pos rfl]
  show (if f = f then some v else _) = some v
  rw [if_pos rfl]
theorem aRI_PR {P : APD} {k f2 v o f a : Nat} (hne : o ≠ k ∨ f ≠ f2) (h : aRI P o f a) : aRI (aPR P k f2 v) o f a := by
  show (if o = k then ((P.1.2.2 o).1, (P.1.2.2 o).2.1, fun j => if j = f2 then some v else (P.1.2.2 o).2.2 j) else P.1.2.2 o).2.2 f = some a
  by_cases ho : o = k
  · rw [if_pos ho]
    show (if f = f2 then some v else (P.1.2.2 o).2.2 f) = some a
    rw [if_neg (by rcases hne with h9 | h9; exact absurd ho h9; exact h9)]
    exact h
  · rw [if_neg ho]; exact h
def aAr (P : APD) (o kind n : Nat) : Prop := o ∈ P.1.2.1 ∧ P.1.2.2 o = (kind, n, fun _ => none) ∧ o < P.1.1
theorem aAr_new {P : APD} {kind n o : Nat} (ho : P.1.1 = o) : aAr (aNA P kind n) o kind n := by
  subst ho
  refine ⟨List.mem_append_right _ (List.mem_singleton.mpr rfl), ?_, by show P.1.1 < P.1.1 + 1; omega⟩
  show (if P.1.1 = P.1.1 then (kind, n, fun _ => none) else P.1.2.2 P.1.1) = _
  rw [if_pos rfl]
theorem aAr_NC {P : APD} {S : ASh} {o kind n : Nat} (h : aAr P o kind n) : aAr (aNC P S) o kind n := by
  obtain ⟨h1, h2, h3⟩ := h
  refine ⟨List.mem_append_left _ h1, ?_, by show o < P.1.1 + 1; omega⟩
  show (if o = P.1.1 then S else P.1.2.2 o) = _
  rw [if_neg (by omega)]; exact h2
theorem aAr_PR {P : APD} {k f v o kind n : Nat} (hne : o ≠ k) (h : aAr P o kind n) : aAr (aPR P k f v) o kind n := by
  obtain ⟨h1, h2, h3⟩ := h
  refine ⟨h1, ?_, h3⟩
  show (if o = k then _ else P.1.2.2 o) = _
  rw [if_neg hne]; exact h2
theorem aAr_PI {P : APD} {k f o kind n : Nat} {x : Int32} (h : aAr P o kind n) : aAr (aPI P k f x) o kind n := h
section C1
variable {g : AGl} {b : AMc} {cc : ByteArray} {own nm : String} {nL : Nat} {ret : Option FieldType} {d mc ms cl sl pc : Nat} {lv : List (Option Value)} {st : List Value} {P E : APD} {r : Option Value}
theorem C_iconst {n : Int} {v : Int32} (hC : ACc g b cc own nL ret d mc ms nm) (hd : decode cc pc = .ok (.iconst n, 1)) (hv : Int32.ofInt n = v) (kk : ATc g b mc ms P cl sl (pc + 1) lv (.int v :: st) r E) : ATc g b mc ms P cl sl pc lv st r E := by
  obtain ⟨n0, dC, dI, cy, ex, w0⟩ := g
  obtain ⟨p, l, e, R, s, m, args, below, meth, c⟩ := b
  obtain ⟨hx, hb, hml, hown, hts, hr, hlk, hR, hK, hE, hz, hnm⟩ := hC
  intro H ls locs h1 h2 h3 h4 h5
  exact lv_iconst hx hb hd hv (kk H ls locs h1 h2 h3 h4 h5)
theorem C_bipush {n : Int} {v : Int32} (hC : ACc g b cc own nL ret d mc ms nm) (hd : decode cc pc = .ok (.bipush n, 2)) (hv : (Int8.ofInt n).toInt32 = v) (kk : ATc g b mc ms P cl sl (pc + 2) lv (.int v :: st) r E) : ATc g b mc ms P cl sl pc lv st r E := by
  obtain ⟨n0, dC, dI, cy, ex, w0⟩ := g
  obtain ⟨p, l, e, R, s, m, args, below, meth, c⟩ := b
  obtain ⟨hx, hb, hml, hown, hts, hr, hlk, hR, hK, hE, hz, hnm⟩ := hC
  intro H ls locs h1 h2 h3 h4 h5
  exact lv_bipush hx hb hd hv (kk H ls locs h1 h2 h3 h4 h5)
theorem C_sipush {n : Int} {v : Int32} (hC : ACc g b cc own nL ret d mc ms nm) (hd : decode cc pc = .ok (.sipush n, 3)) (hv : (Int16.ofInt n).toInt32 = v) (kk : ATc g b mc ms P cl sl (pc + 3) lv (.int v :: st) r E) : ATc g b mc ms P cl sl pc lv st r E := by
  obtain ⟨n0, dC, dI, cy, ex, w0⟩ := g
  obtain ⟨p, l, e, R, s, m, args, below, meth, c⟩ := b
  obtain ⟨hx, hb, hml, hown, hts, hr, hlk, hR, hK, hE, hz, hnm⟩ := hC
  intro H ls locs h1 h2 h3 h4 h5
  exact lv_sipush hx hb hd hv (kk H ls locs h1 h2 h3 h4 h5)
theorem C_dup {v : Value} (hC : ACc g b cc own nL ret d mc ms nm) (hd : decode cc pc = .ok (.dup, 1)) (hv : v.category = 1) (kk : ATc g b mc ms P cl sl (pc + 1) lv (v :: v :: st) r E) : ATc g b mc ms P cl sl pc lv (v :: st) r E := by
  obtain ⟨n0, dC, dI, cy, ex, w0⟩ := g
  obtain ⟨p, l, e, R, s, m, args, below, meth, c⟩ := b
  obtain ⟨hx, hb, hml, hown, hts, hr, hlk, hR, hK, hE, hz, hnm⟩ := hC
  intro H ls locs h1 h2 h3 h4 h5
  exact lv_dup hx hb hd hv (kk H ls locs h1 h2 h3 h4 h5)
theorem C_iload_n {k : Fin 4} {x : Int32} (hC : ACc g b cc own nL ret d mc ms nm) (hd : decode cc pc = .ok (.iload_n k, 1)) (hl : lv[(k : Nat)]? = some (some (.int x))) (kk : ATc g b mc ms P cl sl (pc + 1) lv (.int x :: st) r E) : ATc g b mc ms P cl sl pc lv st r E := by
  obtain ⟨n0, dC, dI, cy, ex, w0⟩ := g
  obtain ⟨p, l, e, R, s, m, args, below, meth, c⟩ := b
  obtain ⟨hx, hb, hml, hown, hts, hr, hlk, hR, hK, hE, hz, hnm⟩ := hC
  intro H ls locs h1 h2 h3 h4 h5
  exact lv_iload_n hx hb hd rfl (h5.2.2 _ _ hl) (kk H ls locs h1 h2 h3 h4 h5)
theorem C_aload_n {k : Fin 4} {x : Nat} (hC : ACc g b cc own nL ret d mc ms nm) (hd : decode cc pc = .ok (.aload_n k, 1)) (hl : lv[(k : Nat)]? = some (some (.ref x))) (kk : ATc g b mc ms P cl sl (pc + 1) lv (.ref x :: st) r E) : ATc g b mc ms P cl sl pc lv st r E := by
  obtain ⟨n0, dC, dI, cy, ex, w0⟩ := g
  obtain ⟨p, l, e, R, s, m, args, below, meth, c⟩ := b
  obtain ⟨hx, hb, hml, hown, hts, hr, hlk, hR, hK, hE, hz, hnm⟩ := hC
  intro H ls locs h1 h2 h3 h4 h5
  exact lv_aload_n hx hb hd rfl (h5.2.2 _ _ hl) (kk H ls locs h1 h2 h3 h4 h5)
theorem C_astore_n {k : Fin 4} {x : Nat} {lv2 : List (Option Value)} (hC : ACc g b cc own nL ret d mc ms nm) (hd : decode cc pc = .ok (.astore_n k, 1)) (hi : (k : Nat) < lv.length) (ho : aOk lv (k : Nat) = true) (hl : lv.set (k : Nat) (some (.ref x)) = lv2) (kk : ATc g b mc ms P cl sl (pc + 1) lv2 st r E) : ATc g b mc ms P cl sl pc lv (.ref x :: st) r E := by
  obtain ⟨n0, dC, dI, cy, ex, w0⟩ := g
  obtain ⟨p, l, e, R, s, m, args, below, meth, c⟩ := b
  obtain ⟨hx, hb, hml, hown, hts, hr, hlk, hR, hK, hE, hz, hnm⟩ := hC
  intro H ls locs h1 h2 h3 h4 h5
  refine lv_astore_n hx hb hd rfl (aLv_has h5) hi rfl (fun ls2 h6 => ?_)
  subst hl
  exact kk H ls2 locs h1 h2 h3 h4 (aLv_1 hi ho h6)
theorem C_objInit {a idx : Nat} (hC : ACc g b cc own nL ret d mc ms nm) (hd : decode cc pc = .ok (.invokespecial idx, 3)) (w1 : Cond.methodLink own idx Lib.objectInit ∈ aT) (w2 : Cond.instanceMethod Lib.objectInit ∈ aT) (w3 : Cond.code Lib.objectInit ⟨#[0xb1]⟩ 1 none ∈ aT) (hlen : lv.length = nL) (hdd : 1 ≤ d) (hst : (st.map fun v => v.category).sum ≤ 8) (kk : ATc g b mc ms P cl sl (pc + 3) lv st r E) : ATc g b mc ms P cl sl pc lv (.ref a :: st) r E := by
  obtain ⟨n0, dC, dI, cy, ex, w0⟩ := g
  obtain ⟨p, l, e, R, s, m, args, below, meth, c⟩ := b
  obtain ⟨hx, hb, hml, hown, hts, hr, hlk, hR, hK, hE, hz, hnm⟩ := hC
  intro H ls locs h1 h2 h3 h4 h5
  subst hR
  refine W.objInit hx hb hown (hts _ w1) (hts _ w2) (hts _ w3) rfl (h5.1.trans (hlen.trans hml.symm)) rfl hd hdd (by show 2 * 0 + _ + 12 ≤ 40 * d; omega) ?_
  exact kk H ls locs h1 h2 h3 h4 h5
theorem C_new {ci idx N : Nat} {C : String} {T : u_T} {ty : Nat → FieldType} (hC : ACc g b cc own nL ret d mc ms nm) (kc : aCl ci C T N ty) (h11 : ci < 11) (hdf : ∀ j, j < N → defaultValue (ty j) = if aRef ci j = 0 then .int 0 else if aRef ci j = 1 then .null else .long 0) (w1 : Cond.classLink own idx C ∈ aT) (w2 : Cond.instantiable C N ∈ aT) (w3 : Cond.initialized C ∈ aT) (hroom : cl + 1 ≤ mc ∧ sl + N ≤ ms) (hd : decode cc pc = .ok (.new idx, 3)) (kk : ∀ P2, P2 = aNO P ci → ATc g b mc ms P2 (cl + 1) (sl + N) (pc + 3) lv (.ref (g.1 + P.1.1) :: st) r E) : ATc g b mc ms P cl sl pc lv st r E := by
  obtain ⟨n0, dC, dI, cy, ex, w0⟩ := g
  obtain ⟨p, l, e, R, s, m, args, below, meth, c⟩ := b
  obtain ⟨hx, hb, hml, hown, hts, hr, hlk, hR, hK, hE, hz, hnm⟩ := hC
  intro H ls locs h1 h2 h3 h4 h5
  subst hR
  have hKn := hK.1 ci _ kc.1
  refine W.newcK hx hb hown (hts _ w1) (hts _ w2) (hts _ w3) rfl hd hroom.1 hroom.2 hKn.2.1 h1 fun H1 kC hkC e1 z1 o1 => ?_
  have hA : aA n0 w0 (n0 + P.1.1) := Or.inr (by have := h4.1; omega)
  refine kk _ rfl H1 ls locs z1 (aP_new h1 h2 (fun q hq => o1 q (by omega)) ?_) (aD_new h1 h2 h3 hA) ⟨by have := h4.1; omega, fun q g1 g2 => (o1 q (by have := h4.1; omega)).trans (h4.2.1 q g1 g2), h4.2.2⟩ h5
  rw [aPic_obj h11]
  refine ⟨_, kc.1, (u_born ty hts kc.2.1 hKn hkC e1 kc.2.2.1).to (fun j hj => ?_)⟩
  rw [hdf j hj]
  have hN : j < aNF ci := by rw [aNF_eq kc.1]; exact hj
  have hg := aFs_get (S := (ci, 0, fun _ => none)) (D := aZr P.2 P.1.1) (o := P.1.1) hN
  show _ = vp_V _ j
  simp only [vp_V, List.getD_eq_getElem?_getD, hg, Option.getD_some]
  simp only [aFv, aZr]
  split
  · simp
  · split <;> simp [va_rf]
theorem C_newai {n : Int32} {N : Nat} (hC : ACc g b cc own nL ret d mc ms nm) (w1 : Cond.arrayClass .int ∈ aT) (hn : ¬ n < 0) (hN : n.toNatClampNeg = N) (hby : N * componentBytes .int ≤ 536870912) (hroom : cl + 1 ≤ mc ∧ sl + N ≤ ms) (hd : decode cc pc = .ok (.newarray .int, 2)) (kk : ∀ P2, P2 = aNA P 11 N → ATc g b mc ms P2 (cl + 1) (sl + N) (pc + 2) lv (.ref (g.1 + P.1.1) :: st) r E) : ATc g b mc ms P cl sl pc lv (.int n :: st) r E := by
  obtain ⟨n0, dC, dI, cy, ex, w0⟩ := g
  obtain ⟨p, l, e, R, s, m, args, below, meth, c⟩ := b
  obtain ⟨hx, hb, hml, hown, hts, hr, hlk, hR, hK, hE, hz, hnm⟩ := hC
  intro H ls locs h1 h2 h3 h4 h5
  subst hR
  refine va_newaK hx hb (atype := .int) (hts _ w1) rfl hd rfl hn hN hby hroom.1 hroom.2 h1 fun H1 cA e1 z1 o1 hAr hNm => ?_
  have hcA : cA = cy 0 := Option.some.inj (hNm.symm.trans (show s.vm.findClass _ = some (cy 0) from (hK.2 0 _ rfl).2))
  subst hcA
  have hA : aA n0 w0 (n0 + P.1.1) := Or.inr (by have := h4.1; omega)
  refine kk _ rfl H1 ls locs z1 (aP_new h1 h2 (fun q hq => o1 q (by omega)) ?_) (aD_new h1 h2 h3 hA) ⟨by have := h4.1; omega, fun q g1 g2 => (o1 q (by have := h4.1; omega)).trans (h4.2.1 q g1 g2), h4.2.2⟩ h5
  show H1[n0 + P.1.1]? = some (vp_cell ((cy 0, N, .inl ((aZr P.2 P.1.1).1 P.1.1)) : ClassId × vp_A).1 ((cy 0, N, .inl ((aZr P.2 P.1.1).1 P.1.1)) : ClassId × vp_A).2)
  rw [e1]
  have hz9 : (aZr P.2 P.1.1).1 P.1.1 = fun _ => 0 := by funext j; simp [aZr]
  have hz8 : (aZr P.2 P.1.1).2 P.1.1 = fun _ => 0 := by funext j; simp [aZr]
  simp only [hz9, hz8]
  rfl
theorem C_newal {n : Int32} {N : Nat} (hC : ACc g b cc own nL ret d mc ms nm) (w1 : Cond.arrayClass .long ∈ aT) (hn : ¬ n < 0) (hN : n.toNatClampNeg = N) (hby : N * componentBytes .long ≤ 536870912) (hroom : cl + 1 ≤ mc ∧ sl + N ≤ ms) (hd : decode cc pc = .ok (.newarray .long, 2)) (kk : ∀ P2, P2 = aNA P 12 N → ATc g b mc ms P2 (cl + 1) (sl + N) (pc + 2) lv (.ref (g.1 + P.1.1) :: st) r E) : ATc g b mc ms P cl sl pc lv (.int n :: st) r E := by
  obtain ⟨n0, dC, dI, cy, ex, w0⟩ := g
  obtain ⟨p, l, e, R, s, m, args, below, meth, c⟩ := b
  obtain ⟨hx, hb, hml, hown, hts, hr, hlk, hR, hK, hE, hz, hnm⟩ := hC
  intro H ls locs h1 h2 h3 h4 h5
  subst hR
  refine va_newaK hx hb (atype := .long) (hts _ w1) rfl hd rfl hn hN hby hroom.1 hroom.2 h1 fun H1 cA e1 z1 o1 hAr hNm => ?_
  have hcA : cA = cy 1 := Option.some.inj (hNm.symm.trans (show s.vm.findClass _ = some (cy 1) from (hK.2 1 _ rfl).2))
  subst hcA
  have hA : aA n0 w0 (n0 + P.1.1) := Or.inr (by have := h4.1; omega)
  refine kk _ rfl H1 ls locs z1 (aP_new h1 h2 (fun q hq => o1 q (by omega)) ?_) (aD_new h1 h2 h3 hA) ⟨by have := h4.1; omega, fun q g1 g2 => (o1 q (by have := h4.1; omega)).trans (h4.2.1 q g1 g2), h4.2.2⟩ h5
  show H1[n0 + P.1.1]? = some (vp_cell ((cy 1, N, .inr (.inl ((aZr P.2 P.1.1).2 P.1.1))) : ClassId × vp_A).1 ((cy 1, N, .inr (.inl ((aZr P.2 P.1.1).2 P.1.1))) : ClassId × vp_A).2)
  rw [e1]
  have hz9 : (aZr P.2 P.1.1).1 P.1.1 = fun _ => 0 := by funext j; simp [aZr]
  have hz8 : (aZr P.2 P.1.1).2 P.1.1 = fun _ => 0 := by funext j; simp [aZr]
  simp only [hz9, hz8]
  rfl
theorem C_newab {n : Int32} {N : Nat} (hC : ACc g b cc own nL ret d mc ms nm) (w1 : Cond.arrayClass .byte ∈ aT) (hn : ¬ n < 0) (hN : n.toNatClampNeg = N) (hby : N * componentBytes .byte ≤ 536870912) (hroom : cl + 1 ≤ mc ∧ sl + N ≤ ms) (hd : decode cc pc = .ok (.newarray .byte, 2)) (kk : ∀ P2, P2 = aNA P 13 N → ATc g b mc ms P2 (cl + 1) (sl + N) (pc + 2) lv (.ref (g.1 + P.1.1) :: st) r E) : ATc g b mc ms P cl sl pc lv (.int n :: st) r E := by
  obtain ⟨n0, dC, dI, cy, ex, w0⟩ := g
  obtain ⟨p, l, e, R, s, m, args, below, meth, c⟩ := b
  obtain ⟨hx, hb, hml, hown, hts, hr, hlk, hR, hK, hE, hz, hnm⟩ := hC
  intro H ls locs h1 h2 h3 h4 h5
  subst hR
  refine va_newaK hx hb (atype := .byte) (hts _ w1) rfl hd rfl hn hN hby hroom.1 hroom.2 h1 fun H1 cA e1 z1 o1 hAr hNm => ?_
  have hcA : cA = cy 2 := Option.some.inj (hNm.symm.trans (show s.vm.findClass _ = some (cy 2) from (hK.2 2 _ rfl).2))
  subst hcA
  have hA : aA n0 w0 (n0 + P.1.1) := Or.inr (by have := h4.1; omega)
  refine kk _ rfl H1 ls locs z1 (aP_new h1 h2 (fun q hq => o1 q (by omega)) ?_) (aD_new h1 h2 h3 hA) ⟨by have := h4.1; omega, fun q g1 g2 => (o1 q (by have := h4.1; omega)).trans (h4.2.1 q g1 g2), h4.2.2⟩ h5
  show H1[n0 + P.1.1]? = some (vp_cell ((cy 2, N, .inl (fun q => vp_nar .byte ((aZr P.2 P.1.1).1 P.1.1 q))) : ClassId × vp_A).1 ((cy 2, N, .inl (fun q => vp_nar .byte ((aZr P.2 P.1.1).1 P.1.1 q))) : ClassId × vp_A).2)
  rw [e1]
  have hz9 : (aZr P.2 P.1.1).1 P.1.1 = fun _ => 0 := by funext j; simp [aZr]
  have hz8 : (aZr P.2 P.1.1).2 P.1.1 = fun _ => 0 := by funext j; simp [aZr]
  simp only [hz9, hz8]
  rfl
theorem C_newaz {n : Int32} {N : Nat} (hC : ACc g b cc own nL ret d mc ms nm) (w1 : Cond.arrayClass .boolean ∈ aT) (hn : ¬ n < 0) (hN : n.toNatClampNeg = N) (hby : N * componentBytes .boolean ≤ 536870912) (hroom : cl + 1 ≤ mc ∧ sl + N ≤ ms) (hd : decode cc pc = .ok (.newarray .boolean, 2)) (kk : ∀ P2, P2 = aNA P 14 N → ATc g b mc ms P2 (cl + 1) (sl + N) (pc + 2) lv (.ref (g.1 + P.1.1) :: st) r E) : ATc g b mc ms P cl sl pc lv (.int n :: st) r E := by
  obtain ⟨n0, dC, dI, cy, ex, w0⟩ := g
  obtain ⟨p, l, e, R, s, m, args, below, meth, c⟩ := b
  obtain ⟨hx, hb, hml, hown, hts, hr, hlk, hR, hK, hE, hz, hnm⟩ := hC
  intro H ls locs h1 h2 h3 h4 h5
  subst hR
  refine va_newaK hx hb (atype := .boolean) (hts _ w1) rfl hd rfl hn hN hby hroom.1 hroom.2 h1 fun H1 cA e1 z1 o1 hAr hNm => ?_
  have hcA : cA = cy 3 := Option.some.inj (hNm.symm.trans (show s.vm.findClass _ = some (cy 3) from (hK.2 3 _ rfl).2))
  subst hcA
  have hA : aA n0 w0 (n0 + P.1.1) := Or.inr (by have := h4.1; omega)
  refine kk _ rfl H1 ls locs z1 (aP_new h1 h2 (fun q hq => o1 q (by omega)) ?_) (aD_new h1 h2 h3 hA) ⟨by have := h4.1; omega, fun q g1 g2 => (o1 q (by have := h4.1; omega)).trans (h4.2.1 q g1 g2), h4.2.2⟩ h5
  show H1[n0 + P.1.1]? = some (vp_cell ((cy 3, N, .inl (fun q => vp_nar .boolean ((aZr P.2 P.1.1).1 P.1.1 q))) : ClassId × vp_A).1 ((cy 3, N, .inl (fun q => vp_nar .boolean ((aZr P.2 P.1.1).1 P.1.1 q))) : ClassId × vp_A).2)
  rw [e1]
  have hz9 : (aZr P.2 P.1.1).1 P.1.1 = fun _ => 0 := by funext j; simp [aZr]
  have hz8 : (aZr P.2 P.1.1).2 P.1.1 = fun _ => 0 := by funext j; simp [aZr]
  simp only [hz9, hz8]
  rfl
theorem aFs_setR {S : ASh} {D : ADD} {o kf v : Nat} (h : kf < aNF S.1) (hr : aRef S.1 kf = 1) : (List.range (aNF S.1)).map (aFv (S.1, S.2.1, fun j => if j = kf then some v else S.2.2 j) D o) = ((List.range (aNF S.1)).map (aFv S D o)).set kf (.ref v) := by
  apply List.ext_getElem?
  intro i
  by_cases hi : i = kf
  · subst hi
    rw [List.getElem?_set_self (by simpa using h), List.getElem?_map, List.getElem?_range h]
    simp [aFv, hr, va_rf]
  · rw [List.getElem?_set_ne (Ne.symm hi), List.getElem?_map, List.getElem?_map]
    cases hx : (List.range (aNF S.1))[i]? with
    | none => rfl
    | some q =>
      have hq : q = i := by
        obtain ⟨h2, h3⟩ := (List.getElem?_eq_some_iff.mp hx)
        simpa using h3.symm
      subst hq
      simp [aFv, hi]
theorem C_putr {v : Nat} {C : String} {T : u_T} {N ci o kf idx : Nat} {ty : Nat → FieldType} (hC : ACc g b cc own nL ret d mc ms nm) (kc : aCl ci C T N ty) (hO : aHas P o ci) (h11 : ci < 11) (hk0 : kf < N) (hrf : aRef ci kf = 1) (hfin : (T kf).2.2.2 = true) (hdecl : (T kf).1 = own) (hnf : narrow (ty kf) (.ref v) = .ref v ∧ fits (ty kf) (.ref v) = true) (hin : nm = "<init>") (hlink : Cond.fieldLink own idx (T kf).1 (T kf).2.1 (T kf).2.2.1 ∈ aT) (hd : decode cc pc = .ok (.putfield idx, 3)) (kk : ∀ P2, P2 = aPR P o kf v → ATc g b mc ms P2 cl sl (pc + 3) lv st r E) : ATc g b mc ms P cl sl pc lv (.ref v :: .ref (g.1 + o) :: st) r E := by
  obtain ⟨n0, dC, dI, cy, ex, w0⟩ := g
  obtain ⟨p, l, e, R, s, m, args, below, meth, c⟩ := b
  obtain ⟨hx, hb, hml, hown, hts, hr, hlk, hR, hK, hE, hz, hnm⟩ := hC
  intro H ls locs h1 h2 h3 h4 h5
  obtain ⟨hoL, hoS, hoN⟩ := hO
  obtain ⟨j, hj⟩ := aW_get (n0 := n0) (cy := cy) (w := P.1) (D := P.2) hoL
  subst hoS
  have hN : kf < aNF (P.1.2.2 o).1 := by rw [aNF_eq kc.1]; exact hk0
  rw [aPic_obj h11] at hj
  have hap := va_apart (own := own) hts kc.2.1 ty kc.2.2.1 kc.2.2.2 hK kc.1
  obtain ⟨rr, g1, cell, q1, q2, q3, q4⟩ := h2 j _ hj
  have hrr : rr = (C, T, N) := Option.some.inj (g1.symm.trans kc.1)
  subst hrr
  obtain ⟨hS, hfc, kC, hkC, hkind⟩ := hK.1 _ _ kc.1
  obtain ⟨cf, kf2, fi, f, hi, hsl⟩ := hS kf hk0
  have hlay := hts _ (kc.2.1 _ (u_in_lay hk0))
  unfold u_lay at hlay
  rw [if_pos hfin] at hlay
  have hst := (u_facts hfc hkC (u_lays hts kc.2.1 hk0) hi).1
  have hcf : m.cls = cf := by
    obtain ⟨_, _, c', _, _, _, -, -, hf', -, -, -, hown2, -⟩ := Cond.laysFinal_spec hlay
    have e1 : c' = cf := by have := hi.symm.trans hf'; simp at this; exact this.1.symm
    rw [hdecl] at hown2
    rw [← e1]; exact Option.some.inj (hown.symm.trans hown2)
  have h6 := u_fits hfc hkC hkind (Or.inr hlay) hi (kc.2.2.1 kf hk0) hnf.1 hnf.2
  refine W.putFinK hx hb hown (hts _ hlink) hi hst hcf (hnm.trans hin) (by rw [q2]; exact h6) q1 q3 (by rw [hsl]; exact k2_hasslot (q4 kf hk0)) rfl rfl hd fun H' e1 e2 e3 => ?_
  rw [hsl] at e1 ⊢
  have q9 := h2.set (e := .inr ((P.1.2.2 o).1, ((List.range (aNF (P.1.2.2 o).1)).map (aFv (P.1.2.2 o) P.2 o)).set kf (.ref v))) h3 hj ⟨_, kc.1, t_OB.to (V := updV (vp_V ((List.range (aNF (P.1.2.2 o).1)).map (aFv (P.1.2.2 o) P.2 o))) kf (.ref v)) ⟨_, e1, q2, q3, t_set q4 hap hk0 (.ref v)⟩ (fun j9 _ => vp_updV_set (by simpa using hN) (.ref v) j9)⟩ e3
  rw [aW_set2 (w := P.1) (D := P.2) (w' := (aPR P o kf v).1) (D' := (aPR P o kf v).2) rfl h3 hj (by show aPic cy (if o = o then _ else _) P.2 o = _; rw [if_pos rfl, aPic_obj (s := ((P.1.2.2 o).1, (P.1.2.2 o).2.1, fun j => if j = kf then some v else (P.1.2.2 o).2.2 j)) h11]; rw [← aFs_setR hN hrf]) (fun i hi => by show aPic cy (if i = o then _ else _) P.2 i = _; rw [if_neg hi])] at q9
  exact kk _ rfl H' ls _ (e2.trans h1) q9 (aD_L (w := P.1) (D := P.2) rfl h3) (h4.put e2 e3 (h3.2 j _ hj)) h5
theorem C_puti {x : Int32} {C : String} {T : u_T} {N ci o kf idx : Nat} {ty : Nat → FieldType} (hC : ACc g b cc own nL ret d mc ms nm) (kc : aCl ci C T N ty) (hO : aHas P o ci) (h11 : ci < 11) (hk0 : kf < N) (hrf : aRef ci kf = 0) (hfin : (T kf).2.2.2 = false) (hnf : narrow (ty kf) (.int x) = .int x ∧ fits (ty kf) (.int x) = true) (hlink : Cond.fieldLink own idx (T kf).1 (T kf).2.1 (T kf).2.2.1 ∈ aT) (hd : decode cc pc = .ok (.putfield idx, 3)) (kk : ∀ P2, P2 = aPI P o kf x → ATc g b mc ms P2 cl sl (pc + 3) lv st r E) : ATc g b mc ms P cl sl pc lv (.int x :: .ref (g.1 + o) :: st) r E := by
  obtain ⟨n0, dC, dI, cy, ex, w0⟩ := g
  obtain ⟨p, l, e, R, s, m, args, below, meth, c⟩ := b
  obtain ⟨hx, hb, hml, hown, hts, hr, hlk, hR, hK, hE, hz, hnm⟩ := hC
  intro H ls locs h1 h2 h3 h4 h5
  obtain ⟨hoL, hoS, hoN⟩ := hO
  obtain ⟨j, hj⟩ := aW_get (n0 := n0) (cy := cy) (w := P.1) (D := P.2) hoL
  subst hoS
  have hN : kf < aNF (P.1.2.2 o).1 := by rw [aNF_eq kc.1]; exact hk0
  rw [aPic_obj h11] at hj
  have hap := va_apart (own := own) hts kc.2.1 ty kc.2.2.1 kc.2.2.2 hK kc.1
  obtain ⟨rr, g1, cell, q1, q2, q3, q4⟩ := h2 j _ hj
  have hrr : rr = (C, T, N) := Option.some.inj (g1.symm.trans kc.1)
  subst hrr
  obtain ⟨hS, hfc, kC, hkC, hkind⟩ := hK.1 _ _ kc.1
  obtain ⟨cf, kf2, fi, f, hi, hsl⟩ := hS kf hk0
  have hlay := hts _ (kc.2.1 _ (u_in_lay hk0))
  unfold u_lay at hlay
  rw [if_neg (by rw [hfin]; decide)] at hlay
  have hst := (u_facts hfc hkC (u_lays hts kc.2.1 hk0) hi).1
  have h6 := u_store hfc hkC hkind hlay hi (kc.2.2.1 kf hk0) hnf.1 hnf.2
  refine W.putK hx hb (f := f) ⟨hown, hts _ hlink, ⟨_, _, _, hi⟩, hst⟩ (by rw [q2]; exact h6) q1 q3 (by rw [hsl]; exact k2_hasslot (q4 kf hk0)) rfl rfl hd fun H' e1 e2 e3 => ?_
  rw [hsl] at e1 ⊢
  have q9 := h2.set (e := .inr ((P.1.2.2 o).1, ((List.range (aNF (P.1.2.2 o).1)).map (aFv (P.1.2.2 o) P.2 o)).set kf (.int x))) h3 hj ⟨_, kc.1, t_OB.to (V := updV (vp_V ((List.range (aNF (P.1.2.2 o).1)).map (aFv (P.1.2.2 o) P.2 o))) kf (.int x)) ⟨_, e1, q2, q3, t_set q4 hap hk0 (.int x)⟩ (fun j9 _ => vp_updV_set (by simpa using hN) (.int x) j9)⟩ e3
  rw [aW_set2 (w := P.1) (D := P.2) (w' := (aPI P o kf x).1) (D' := (aPI P o kf x).2) rfl h3 hj (by show aPic cy (P.1.2.2 o) (aSI P.2 o kf x) o = _; rw [aPic_obj h11, aFs_set hN hrf]) (fun i hi => aPic_I hi)] at q9
  exact kk _ rfl H' ls _ (e2.trans h1) q9 (aD_L (w := P.1) (D := P.2) rfl h3) (h4.put e2 e3 (h3.2 j _ hj)) h5
theorem C_getr {a : Nat} {C : String} {T : u_T} {N ci o kf idx : Nat} {ty : Nat → FieldType} (hC : ACc g b cc own nL ret d mc ms nm) (kc : aCl ci C T N ty) (hO : aHas P o ci) (h11 : ci < 11) (hk0 : kf < N) (hrf : aRef ci kf = 1) (hv : (P.1.2.2 o).2.2 kf = some a) (hlink : Cond.fieldLink own idx (T kf).1 (T kf).2.1 (T kf).2.2.1 ∈ aT) (hd : decode cc pc = .ok (.getfield idx, 3)) (kk : ATc g b mc ms P cl sl (pc + 3) lv (.ref a :: st) r E) : ATc g b mc ms P cl sl pc lv (.ref (g.1 + o) :: st) r E := by
  obtain ⟨n0, dC, dI, cy, ex, w0⟩ := g
  obtain ⟨p, l, e, R, s, m, args, below, meth, c⟩ := b
  obtain ⟨hx, hb, hml, hown, hts, hr, hlk, hR, hK, hE, hz, hnm⟩ := hC
  intro H ls locs h1 h2 h3 h4 h5
  obtain ⟨hoL, hoS, hoN⟩ := hO
  obtain ⟨j, hj⟩ := aW_get (n0 := n0) (cy := cy) (w := P.1) (D := P.2) hoL
  subst hoS
  have hN : kf < aNF (P.1.2.2 o).1 := by rw [aNF_eq kc.1]; exact hk0
  rw [aPic_obj h11] at hj
  exact va_get hx hb hts kc.2.1 hown hK h2 j hj kc.1 kf hk0 (hts _ hlink) (fun _ h9 => h9) (by rw [aFs_get hN, aFv, if_neg (by rw [hrf]; decide), if_pos hrf, hv]; rfl) hd (kk H ls locs h1 h2 h3 h4 h5)
theorem C_iast {o n : Nat} {rf : Nat → Option Nat} {i x : Int32} (hC : ACc g b cc own nL ret d mc ms nm) (hO : o ∈ P.1.2.1 ∧ P.1.2.2 o = (11, n, rf)) (hin : ¬ (i < 0 ∨ n ≤ i.toNatClampNeg)) (hd : decode cc pc = .ok (.iastore, 1)) (kk : ∀ P2, P2 = aPI P o i.toNatClampNeg x → ATc g b mc ms P2 cl sl (pc + 1) lv st r E) : ATc g b mc ms P cl sl pc lv (.int x :: .int i :: .ref (g.1 + o) :: st) r E := by
  obtain ⟨n0, dC, dI, cy, ex, w0⟩ := g
  obtain ⟨p, l, e, R, s, m, args, below, meth, c⟩ := b
  obtain ⟨hx, hb, hml, hown, hts, hr, hlk, hR, hK, hE, hz, hnm⟩ := hC
  intro H ls locs h1 h2 h3 h4 h5
  obtain ⟨hoL, hoS⟩ := hO
  obtain ⟨j, hj⟩ := aW_get (n0 := n0) (cy := cy) (w := P.1) (D := P.2) hoL
  rw [hoS] at hj
  have hj : (aW n0 cy P.1 P.2)[j]? = some (n0 + o, .inl (cy 0, n, .inl (P.2.1 o))) := hj
  refine W.iast hx hb (h2 j _ hj) ((hK.2 0 _ rfl).1 n (fun j => .int (P.2.1 o j))) (fun q => by cases q) (by show ¬ (i < 0 ∨ (arrV _ _ _).slots.size ≤ _); rw [arrV_size]; exact hin) rfl rfl hd fun H1 e9 z oq => ?_
  have q9 := h2.set (e := .inl (cy 0, n, .inl (upd (P.2.1 o) i.toNatClampNeg x))) h3 hj (by
    show H1[n0 + o]? = some (vp_cell _ _)
    rw [e9, vp_cell_i, vp_cell_i, arrV_store]
    congr 2
    funext q
    by_cases hq : q = i.toNatClampNeg
    · subst hq
      simp [updV, upd]
    · simp [updV, upd, hq]) oq
  rw [aW_set2 (w := P.1) (D := P.2) (w' := (aPI P o i.toNatClampNeg x).1) (D' := (aPI P o i.toNatClampNeg x).2) rfl h3 hj (by show aPic cy (P.1.2.2 o) (aSI P.2 o i.toNatClampNeg x) o = _; rw [hoS]; show (.inl (cy 0, n, .inl ((aSI P.2 o i.toNatClampNeg x).1 o)) : va_E) = _; rw [aSI_row]) (fun i hi => aPic_I hi)] at q9
  exact kk _ rfl H1 ls _ (z.trans h1) q9 (aD_L (w := P.1) (D := P.2) rfl h3) (h4.put z oq (h3.2 j _ hj)) h5
theorem C_anew {n : Int32} {N idx : Nat} (hC : ACc g b cc own nL ret d mc ms nm) (w1 : Cond.classLink own idx "StonesOfWeight$State" ∈ aT) (hn : ¬ n < 0) (hN : n.toNatClampNeg = N) (hby : N * 4 ≤ 536870912) (hroom : cl + 1 ≤ mc ∧ sl + N ≤ ms) (hd : decode cc pc = .ok (.anewarray idx, 3)) (kk : ∀ P2, P2 = aNA P 15 N → ATc g b mc ms P2 (cl + 1) (sl + N) (pc + 3) lv (.ref (g.1 + P.1.1) :: st) r E) : ATc g b mc ms P cl sl pc lv (.int n :: st) r E := by
  obtain ⟨n0, dC, dI, cy, ex, w0⟩ := g
  obtain ⟨p, l, e, R, s, m, args, below, meth, c⟩ := b
  obtain ⟨hx, hb, hml, hown, hts, hr, hlk, hR, hK, hE, hz, hnm⟩ := hC
  intro H ls locs h1 h2 h3 h4 h5
  subst hR
  subst hN
  have hAO := hE.2.2.2.2.2.2.2.2.1
  refine W.anew hx hb hown (hts _ w1) (va_AO.use hAO) rfl hd rfl hn hby hroom.1 hroom.2 fun cA kA comp f1 f2 f3 f4 => ?_
  generalize hH1 : H.push ({ cls := cA, slots := Array.replicate n.toNatClampNeg .null, vm := .none } : Cell) = H1
  have z1 : H1.size = H.size + 1 := by rw [← hH1, Array.size_push]
  have e1 : H1[H.size]? = some (arrV cA n.toNatClampNeg (fun _ => .null)) := by rw [← hH1, Array.getElem?_push_size, ← arrV_new]
  have o1 : ∀ q : Nat, q < H.size → H1[q]? = H[q]? := fun q hq => by rw [← hH1, Array.getElem?_push, if_neg (Nat.ne_of_lt hq)]
  obtain ⟨kA2, comp2, k1, k2, k3, k4⟩ := (hK.2 4 _ rfl).2
  have hcA : cA = cy 4 := by
    exact Option.some.inj (f1.symm.trans k4)
  subst hcA
  have hA : aA n0 w0 (n0 + P.1.1) := Or.inr (by have := h4.1; omega)
  rw [show (Value.ref H.size) = .ref (n0 + P.1.1) by rw [h1]]
  refine kk _ rfl H1 ls locs (by rw [z1, h1]; rfl) (aP_new h1 h2 o1 ?_) (aD_new h1 h2 h3 hA) ⟨by have := h4.1; omega, fun q g1 g2 => (o1 q (by have := h4.1; omega)).trans (h4.2.1 q g1 g2), h4.2.2⟩ h5
  show H1[n0 + P.1.1]? = some (vp_cell (cy 4) (n.toNatClampNeg, .inr (.inr (.inr (.inr (fun _ => none))))))
  rw [← h1, e1]
  rfl
theorem C_vret (hC : ACc g b cc own nL none d mc ms nm) (hP : P = E) (hc : cl = mc ∧ sl = ms) (hr0 : r = none) (hd : decode cc pc = .ok (.return_, 1)) : ATc g b mc ms P cl sl pc lv [] r E := by
  obtain ⟨n0, dC, dI, cy, ex, w0⟩ := g
  obtain ⟨p, l, e, R, s, m, args, below, meth, c⟩ := b
  obtain ⟨hx, hb, hml, hown, hts, hr, hlk, hR, hK, hE, hz, hnm⟩ := hC
  intro H ls locs h1 h2 h3 h4 h5
  subst hP
  subst hr0
  obtain ⟨rfl, rfl⟩ := hc
  exact W.vret hx hb hr (fun t ht hW => ⟨rfl, by rw [ht]; exact h1, by rw [ht]; exact h2, h3, h4.F ht⟩) h4.2.2 hd hlk
theorem aBlindc {g : AGl} {av : List Value} {D : ADD} : FrameBlind (va_Pc av (aWD g D)) := aBlind
/-- a constructor's call: of a nest mate (private), or of a class of ours -/
theorem C_init {y : MethodName} {cc2 : ByteArray} {nL2 d2 n idx mc2 ms2 o : Nat} {As stk : List Value} {E2 : APD} (hC : ACc g b cc own nL ret d mc ms nm) (hM : ∀ l, AMk l y cc2 nL2 none d2 mc2 ms2 (g.1, g.2.1, g.2.2.1, g.2.2.2.1, g.2.2.2.2.1, P.1) (.ref (g.1 + o) :: As) P.2 none E2) (hn1 : y.name = "<init>") (hl : (own, idx, y.cls) ∈ aNestM ∧ y.desc = "()V" ∨ Cond.methodLink own idx y ∈ aT) (y2 : Cond.instanceMethod y ∈ aT) (y4 : Cond.initialized y.cls ∈ aT) (y5 : Cond.code y cc2 nL2 none ∈ aT) (hy : y.cls ≠ "java/lang/invoke/MethodHandle" ∧ y.cls ≠ "java/lang/invoke/VarHandle" ∧ (parseMethodDescriptor y.desc).map (fun d => d.parameters.length) = some n) (hn : As.length = n) (hlen : lv.length = nL) (hdd : d2 + 1 ≤ d ∧ nL2 ≤ 21) (hst : (st.map fun v => v.category).sum ≤ 8) (hroom : cl + mc2 ≤ mc ∧ sl + ms2 ≤ ms) (hs : stk = As.reverse ++ .ref (g.1 + o) :: st) (hd : decode cc pc = .ok (.invokespecial idx, 3)) (kk : ∀ P2, P2 = E2 → ATc g b mc ms P2 (cl + mc2) (sl + ms2) (pc + 3) lv st r E) : ATc g b mc ms P cl sl pc lv stk r E := by
  obtain ⟨n0, dC, dI, cy, ex, w0⟩ := g
  obtain ⟨p, l, e, R, s, m, args, below, meth, c⟩ := b
  obtain ⟨hx, hb, hml, hown, hts, hr, hlk, hR, hK, hE, hz, hnm⟩ := hC
  intro H ls locs h1 h2 h3 h4 h5
  have M := hM l
  subst hs
  subst hR
  intro T9 hT X
  have hpre : PreS s H (va_Pc (.ref (n0 + o) :: As) (aWD (n0, dC, dI, cy, ex, P.1) P.2)) (.ref (n0 + o) :: As) := by
    refine ⟨aBlind, fun U2 hU hW => ⟨rfl, by rw [hU]; exact h1, by rw [hU]; exact h2, ?_, va_K.moved hW.alike hK, aEX_warm hE hz h4 hU hW⟩⟩
    refine ⟨h3.1, fun k q hk => ?_⟩
    have hk2 := hk
    simp only [aW, List.getElem?_map] at hk2
    cases hx9 : P.1.2.1[k]? with
    | none => rw [hx9] at hk2; cases hk2
    | some a9 =>
      rw [hx9] at hk2
      exact Or.inl ⟨a9, List.mem_of_getElem? hx9, by rw [← Option.some.inj hk2]⟩
  have hgood : GoodIn aT (Cond.code y cc2 nL2 none :: aT) := aT_good _ (by intro q9 hq9; rcases List.mem_cons.mp hq9 with rfl | hq9 <;> assumption)
  have hrun : va_Run p l e (ARm d mc ms) s m args below meth c H locs cl sl mc2 ms2 (F0 m pc ls (As.reverse ++ .ref (n0 + o) :: st)) st (aQc (n0, dC, dI, cy, ex, P.1) none E2 (Value.ref (n0 + o) :: As).toArray) (aA n0 P.1) := by
    rcases hl with ⟨hl, hds⟩ | hl
    · have hl2 : va_Nw (.methodLinkNest own idx y "StonesOfWeight") s := by
        have h9 := hE.2.2.2.2.2.2.2.1 _ hl
        have hyy : y = ⟨y.cls, "<init>", "()V"⟩ := by cases y; simp only at hn1 hds; subst hn1; subst hds; rfl
        rw [hyy]
        exact h9
      exact va_runIN (As := As) (rest := st) (b := n0 + o) ⟨hx, hb, hml, hown, hts⟩ M ⟨va_cnB n hts hgood rfl rfl rfl hl2 (hts _ y4) hy ⟨hdd.1, by show 8 + (nL2 + 11) + 40 * d2 ≤ 40 * d; have := hdd.1; have := hdd.2; omega⟩, hn1, hts _ y2⟩ hpre rfl hn (h5.1.trans hlen) rfl (lv_room hst) hd hroom
    · exact va_runI (As := As) (rest := st) (b := n0 + o) ⟨hx, hb, hml, hown, hts⟩ M (cwI n hts hgood rfl rfl rfl (hts _ y4) (hts _ hl) (hts _ y2) hn1 hy ⟨hdd.1, by show 8 + (nL2 + 11) + 40 * d2 ≤ 40 * d; have := hdd.1; have := hdd.2; omega⟩) hpre rfl hn (h5.1.trans hlen) rfl (lv_room hst) hd hroom
  obtain ⟨v, st₀, t, T', L, e0, X', hL, e1, e2, hq, go⟩ := hrun T9 hT X
  have hv : v = none := Outcome.returned.inj hq.1
  subst hv
  obtain ⟨-, hsz2, hP2, hD2, hF⟩ := hq
  have hsub : ∀ q, aA n0 P.1 q → aA n0 w0 q := by
    intro q hq9
    rcases hq9 with ⟨k9, hk9, rfl⟩ | hq9
    · obtain ⟨j9, hj9⟩ := aW_get (n0 := n0) (cy := cy) (w := P.1) (D := P.2) hk9
      exact h3.2 j9 _ hj9
    · exact Or.inr (by have := h4.1; omega)
  have hS2 : va_S (aA n0 w0) s.heap T'.heap (locs ++ L) := by
    refine ⟨?_, fun q g1 g2 => ?_, fun q hq => ?_⟩
    · rw [e1]; have := hF.1; rw [e0] at this; have := h4.1; omega
    · have h9 := hF.2 q (by rw [e0]; have := h4.1; omega) (fun h => g2 (hsub q h))
      rw [e1, h9, e0]
      exact h4.2.1 q g1 g2
    · rcases List.mem_append.mp hq with h | h
      · exact h4.2.2 q h
      · exact hsub _ (hL q h)
  obtain ⟨t2, a1, b1⟩ := kk _ rfl T'.heap ls (locs ++ L) (by rw [e1]; exact hsz2) (by rw [e1]; exact hP2) (hD2.weaken (fun k q _ h => hsub _ h)) hS2 h5 T' rfl X'
  exact ⟨t2, go t2 a1, b1⟩
theorem AMk_of {l : Launch} {y : MethodName} {av : List Value} {lv0 : List (Option Value)} {D : ADD} (hy : plainName y.cls = true) (ho : y.cls = own) (hnn : y.name = nm) (hl : (aSl av).length ≤ nL) (hlv : aLoc nL av = lv0) (h : ∀ b : AMc, ACc g b cc own nL ret d mc ms nm → ATc g b mc ms (g.2.2.2.2.2, D) 0 0 0 lv0 [] r E) : AMk l y cc nL ret d mc ms g av D r E := by
  obtain ⟨n0, dC, dI, cy, ex, w⟩ := g
  refine Met.ofW (cc := cc) (maxL := nL) (ret := ret) hy rfl ?_
  intro p e s m args below meth c s₁ B hml hv
  obtain ⟨rfl, hsz, hP, hD, hK, hE⟩ := hv
  have hts := atoms_spec (ws := .code y cc nL ret :: aT) B.pre
  have h9 := h (p, l, e, ARm d mc ms, s, m, av.toArray, below, meth, c) ⟨B.exec, B.bytes, hml, by rw [← ho]; exact findClass_of_methodNamed B.named, fun q hq => hts q (List.mem_cons_of_mem _ hq), B.returns, B.notSynchronized, rfl, hK, hE, hsz, by rw [← hnn]; exact (name_of_methodNamed B.named B.method).1⟩ s.heap _ [] hsz hP hD va_S.rf (by rw [← hlv]; exact aLoc_lv hl)
  rw [lg_entry_eq]
  exact h9
end C1
