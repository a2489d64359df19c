theorem W_sz {p : Program} {l : Launch} {e : Env} {R : Room} {s : State} {m : MethodId} {args : Array Value} {below : List Frame} {meth : Method} {c : Code} {H : Heap} {locs : List Loc} {slots : Nat} {Q : State → Prop} {f : JFrame} (h : H.size ≤ s.heap.size → W p l e R s m args below meth c H locs 0 slots Q f) : W p l e R s m args below meth c H locs 0 slots Q f := fun T hT X => h (by have := X.heapSize; rw [hT] at this; omega) T hT X
theorem aNF_eq {ci N : Nat} {C : String} {T : u_T} (h : vwCl[ci]? = some (C, T, N)) : aNF ci = N := by unfold aNF; rw [h]
theorem aFs_get {S : ASh} {D : ADD} {o kf : Nat} (h : kf < aNF S.1) : ((List.range (aNF S.1)).map (aFv S D o))[kf]? = some (aFv S D o kf) := by
  rw [List.getElem?_map, List.getElem?_range h]
  rfl
theorem aFs_set {S : ASh} {D : ADD} {o kf : Nat} {x : Int32} (h : kf < aNF S.1) (hr : aRef S.1 kf = 0) : (List.range (aNF S.1)).map (aFv S (aSI D o kf x) o) = ((List.range (aNF S.1)).map (aFv S D o)).set kf (.int x) := by
  apply List.ext_getElem?
  intro i
  by_cases hi : i = kf
  · subst hi
    rw [List.getElem?_set_self (by simpa using h), aFs_get h]
    simp [aFv, hr, aSI]
  · rw [List.getElem?_set_ne (Ne.symm hi), List.getElem?_map, List.getElem?_map]
    cases hx : (List.range (aNF S.1))[i]? with
    | none => rfl
    | some q =>
      have hq : q = i := by
        have h1 := (List.getElem?_eq_some_iff.mp hx)
        obtain ⟨h2, h3⟩ := h1
        simpa using h3.symm
      subst hq
      simp [aFv, aSI, hi]
theorem aFs_setL {S : ASh} {D : ADD} {o kf : Nat} {x : Int64} (h : kf < aNF S.1) (hr : aRef S.1 kf = 2) : (List.range (aNF S.1)).map (aFv S (aSL D o kf x) o) = ((List.range (aNF S.1)).map (aFv S D o)).set kf (.long x) := by
  apply List.ext_getElem?
  intro i
  by_cases hi : i = kf
  · subst hi
    rw [List.getElem?_set_self (by simpa using h), aFs_get h]
    simp [aFv, hr, aSL]
  · rw [List.getElem?_set_ne (Ne.symm hi), List.getElem?_map, List.getElem?_map]
    cases hx : (List.range (aNF S.1))[i]? with
    | none => rfl
    | some q =>
      have hq : q = i := by
        have h1 := (List.getElem?_eq_some_iff.mp hx)
        obtain ⟨h2, h3⟩ := h1
        simpa using h3.symm
      subst hq
      simp [aFv, aSL, hi]
theorem aSI_row {D : ADD} {o j : Nat} {x : Int32} : (aSI D o j x).1 o = upd (D.1 o) j x := by
  funext k
  simp [aSI, upd]
theorem aSL_row {D : ADD} {o j : Nat} {x : Int64} : (aSL D o j x).2 o = vp_updL (D.2 o) j x := by
  funext k
  simp [aSL, vp_updL]
theorem aNar_row {D : ADD} {o j : Nat} {x : Int32} {ty : FieldType} : (fun k => vp_nar ty ((aSI D o j x).1 o k)) = upd (fun k => vp_nar ty (D.1 o k)) j (vp_nar ty x) := by
  funext k
  by_cases h : k = j <;> simp [aSI, upd, h]
theorem aEX_same {ex : AEx} {n0 : Nat} {u U : State} (hv : U.vm = u.vm) (hh : U.heap = u.heap) (h : aEX ex n0 u) : aEX ex n0 U := by
  obtain ⟨h1, h2, h3, h4, h5, h8, h9, h10, h11, h6, h7⟩ := h
  have ha : u.vm.Alike U.vm := by rw [hv]; exact Vm.Alike.refl _
  unfold aEX
  rw [hh]
  exact ⟨va_Z.moved ha h1, va_T.moved ha h2, va_Z.moved ha h3, va_T.moved ha h4, va_Z.moved ha h5, va_Zq.moved ha h8, fun q h => (h9 q h).same rfl hv.symm, fun q h => (h10 q h).same rfl hv.symm, va_AO.moved ha h11, vk_S.moved ha h6, fun i q hi => (h7 i q hi).same hv⟩
/-- what a call of y at own's entry idx needs of the tables -/
def aYV (own : String) (idx : Nat) (y : MethodName) (cc : ByteArray) (nL : Nat) (ret : Option FieldType) (n : Nat) : Prop := Cond.methodLink own idx y ∈ aT ∧ Cond.instanceMethod y ∈ aT ∧ Cond.selects y.cls y y ∈ aT ∧ Cond.initialized y.cls ∈ aT ∧ Cond.code y cc nL ret ∈ aT ∧ y.cls ≠ "java/lang/invoke/MethodHandle" ∧ y.cls ≠ "java/lang/invoke/VarHandle" ∧ (parseMethodDescriptor y.desc).map (fun d => d.parameters.length) = some n
def aYS (own : String) (idx : Nat) (y : MethodName) (cc : ByteArray) (nL : Nat) (ret : Option FieldType) (n : Nat) : Prop := Cond.methodLink own idx y ∈ aT ∧ Cond.static y ∈ aT ∧ Cond.initialized y.cls ∈ aT ∧ Cond.code y cc nL ret ∈ aT ∧ y.cls ≠ "java/lang/invoke/MethodHandle" ∧ y.cls ≠ "java/lang/invoke/VarHandle" ∧ (parseMethodDescriptor y.desc).map (fun d => d.parameters.length) = some n
def aMax (x y : Int32) : Int32 := if x < y then y else x
def aMin (x y : Int32) : Int32 := if y < x then y else x
def aAbs (x : Int32) : Int32 := if 0 ≤ x then x else 0 - x
def aMinL (x y : Int64) : Int64 := if y < x then y else x
theorem aBlind {g : AGl} {av : List Value} {D : ADD} : FrameBlind (va_Pc av (aWD g D)) := by
  obtain ⟨n0, dC, dI, cy, ex, w⟩ := g
  intro a U f mk q
  obtain ⟨q0, q1, qP, qD, qK, qE⟩ := q
  exact ⟨q0, q1, qP, qD, va_K.moved (u := U) (U := U.calling f mk a) (Vm.Alike.refl U.vm) qK, aEX_same (u := U) rfl rfl qE⟩
theorem aZ_nar {x : Int32} (h : x = 0 ∨ x = 1) : narrow .boolean (.int x) = .int x ∧ fits .boolean (.int x) = true := by
  rcases h with rfl | rfl <;> exact ⟨by decide, by decide⟩
section A2
variable {ρ : Type} {V : ρ → Option Value} {g : AGl} {b : ABn} {cc : ByteArray} {own : String} {nL : Nat} {ret : Option FieldType} {d pc : Nat} {lv : List (Option Value)} {st : List Value} {D : ADD} {K K1 K2 : Option (ρ × ADD)} {C : String} {T : u_T} {N ci o kf idx : Nat} {ty : Nat → FieldType} {S : ASh}
theorem A_geti (hC : AC g b cc own nL ret d) (kc : aCl ci C T N ty) (hO : aAt g o S) (hci : S.1 = ci) (h11 : ci < 11) (hk0 : kf < N) (hrf : aRef ci kf = 0) (hlink : Cond.fieldLink own idx (T kf).1 (T kf).2.1 (T kf).2.2.1 ∈ aT) (hd : decode cc pc = .ok (.getfield idx, 3)) (kk : AT V g b (pc + 3) lv (.int (D.1 o kf) :: st) D K) : AT V g b pc lv (.ref (g.1 + o) :: st) D K := by
  obtain ⟨n0, dC, dI, cy, ex, w⟩ := g
  obtain ⟨⟨p, l, e, R, s, m, args, below, meth, c⟩, r1, D1⟩ := b
  obtain ⟨hx, hb, hml, hown, hts, hr, hlk, hR, hK, hE, hz⟩ := hC
  intro hk H ls locs h2 h3 h4 h5
  obtain ⟨hoL, hoS⟩ := hO
  have hoS : w.2.2 o = S := hoS
  obtain ⟨j, hj⟩ := aW_get (n0 := n0) (cy := cy) (w := w) (D := D) hoL
  subst hci
  have hN : kf < aNF S.1 := by rw [aNF_eq kc.1]; exact hk0
  rw [hoS, aPic_obj h11] at hj
  exact va_get hx hb hts kc.2.1 hown hK h2 j hj kc.1 kf hk0 (hts _ hlink) (fun _ h9 => h9) (by rw [aFs_get hN, aFv, if_pos hrf]) hd (kk hk H ls locs h2 h3 h4 h5)
theorem A_getr {a : Nat} (hC : AC g b cc own nL ret d) (kc : aCl ci C T N ty) (hO : aAt g o S) (hci : S.1 = ci) (h11 : ci < 11) (hk0 : kf < N) (hrf : aRef ci kf = 1) (hv : S.2.2 kf = some a) (hlink : Cond.fieldLink own idx (T kf).1 (T kf).2.1 (T kf).2.2.1 ∈ aT) (hd : decode cc pc = .ok (.getfield idx, 3)) (kk : AT V g b (pc + 3) lv (.ref a :: st) D K) : AT V g b pc lv (.ref (g.1 + o) :: st) D K := by
  obtain ⟨n0, dC, dI, cy, ex, w⟩ := g
  obtain ⟨⟨p, l, e, R, s, m, args, below, meth, c⟩, r1, D1⟩ := b
  obtain ⟨hx, hb, hml, hown, hts, hr, hlk, hR, hK, hE, hz⟩ := hC
  intro hk H ls locs h2 h3 h4 h5
  obtain ⟨hoL, hoS⟩ := hO
  have hoS : w.2.2 o = S := hoS
  obtain ⟨j, hj⟩ := aW_get (n0 := n0) (cy := cy) (w := w) (D := D) hoL
  subst hci
  have hN : kf < aNF S.1 := by rw [aNF_eq kc.1]; exact hk0
  rw [hoS, aPic_obj h11] at hj
  exact va_get hx hb hts kc.2.1 hown hK h2 j hj kc.1 kf hk0 (hts _ hlink) (fun _ h9 => h9) (by rw [aFs_get hN, aFv, if_neg (by rw [hrf]; decide), if_pos hrf, hv]; rfl) hd (kk hk H ls locs h2 h3 h4 h5)
theorem A_getl (hC : AC g b cc own nL ret d) (kc : aCl ci C T N ty) (hO : aAt g o S) (hci : S.1 = ci) (h11 : ci < 11) (hk0 : kf < N) (hrf : aRef ci kf = 2) (hlink : Cond.fieldLink own idx (T kf).1 (T kf).2.1 (T kf).2.2.1 ∈ aT) (hd : decode cc pc = .ok (.getfield idx, 3)) (kk : AT V g b (pc + 3) lv (.long (D.2 o kf) :: st) D K) : AT V g b pc lv (.ref (g.1 + o) :: st) D K := by
  obtain ⟨n0, dC, dI, cy, ex, w⟩ := g
  obtain ⟨⟨p, l, e, R, s, m, args, below, meth, c⟩, r1, D1⟩ := b
  obtain ⟨hx, hb, hml, hown, hts, hr, hlk, hR, hK, hE, hz⟩ := hC
  intro hk H ls locs h2 h3 h4 h5
  obtain ⟨hoL, hoS⟩ := hO
  have hoS : w.2.2 o = S := hoS
  obtain ⟨j, hj⟩ := aW_get (n0 := n0) (cy := cy) (w := w) (D := D) hoL
  subst hci
  have hN : kf < aNF S.1 := by rw [aNF_eq kc.1]; exact hk0
  rw [hoS, aPic_obj h11] at hj
  exact va_get hx hb hts kc.2.1 hown hK h2 j hj kc.1 kf hk0 (hts _ hlink) (fun _ h9 => h9) (by rw [aFs_get hN, aFv, if_neg (by rw [hrf]; decide), if_neg (by rw [hrf]; decide)]) hd (kk hk H ls locs h2 h3 h4 h5)
theorem A_puti {x : Int32} {F : ADD → Option (ρ × ADD)} (hC : AC g b cc own nL ret d) (kc : aCl ci C T N ty) (hO : aAt g o S) (hci : S.1 = ci) (h11 : ci < 11) (hk0 : kf < N) (hrf : aRef ci kf = 0) (hty : ty kf = .int) (hfin : (T kf).2.2.2 = false) (hlink : Cond.fieldLink own idx (T kf).1 (T kf).2.1 (T kf).2.2.1 ∈ aT) (hd : decode cc pc = .ok (.putfield idx, 3)) (kk : ∀ D2 : ADD, AT V g b (pc + 3) lv st D2 (F D2)) : AT V g b pc lv (.int x :: .ref (g.1 + o) :: st) D (aLet (aSI D o kf x) F) := by
  obtain ⟨n0, dC, dI, cy, ex, w⟩ := g
  obtain ⟨⟨p, l, e, R, s, m, args, below, meth, c⟩, r1, D1⟩ := b
  obtain ⟨hx, hb, hml, hown, hts, hr, hlk, hR, hK, hE, hz⟩ := hC
  intro hk H ls locs h2 h3 h4 h5
  obtain ⟨hoL, hoS⟩ := hO
  have hoS : w.2.2 o = S := hoS
  obtain ⟨j, hj⟩ := aW_get (n0 := n0) (cy := cy) (w := w) (D := D) hoL
  subst hci
  have hN : kf < aNF S.1 := by rw [aNF_eq kc.1]; exact hk0
  rw [hoS, aPic_obj h11] at hj
  refine va_put hx hb hts kc.2.1 ty kc.2.2.1 kc.2.2.2 hown hK h2 h3 h4 j hj kc.1 kf hk0 (hts _ hlink) (fun _ h9 => h9) hfin (v := .int x) (ty := .int) (by rw [kc.2.2.1 kf hk0, hty]) rfl rfl (by simpa using hN) hd (fun H1 locs1 q1 q2 q3 => ?_)
  rw [aW_set (D' := aSI D o kf x) h3 hj (by rw [hoS, aPic_obj h11, aFs_set hN hrf]) (fun i hi => aPic_I hi)] at q1
  exact kk (aSI D o kf x) hk H1 ls locs1 q1 (aD_any h3) q3 h5
theorem A_putz {x : Int32} {F : ADD → Option (ρ × ADD)} (hC : AC g b cc own nL ret d) (kc : aCl ci C T N ty) (hO : aAt g o S) (hci : S.1 = ci) (h11 : ci < 11) (hk0 : kf < N) (hrf : aRef ci kf = 0) (hty : ty kf = .boolean) (hfin : (T kf).2.2.2 = false) (hlink : Cond.fieldLink own idx (T kf).1 (T kf).2.1 (T kf).2.2.1 ∈ aT) (hd : decode cc pc = .ok (.putfield idx, 3)) (kk : ∀ D2 : ADD, AT V g b (pc + 3) lv st D2 (F D2)) : AT V g b pc lv (.int x :: .ref (g.1 + o) :: st) D (aZ x (aLet (aSI D o kf x) F)) := by
  obtain ⟨n0, dC, dI, cy, ex, w⟩ := g
  obtain ⟨⟨p, l, e, R, s, m, args, below, meth, c⟩, r1, D1⟩ := b
  obtain ⟨hx, hb, hml, hown, hts, hr, hlk, hR, hK, hE, hz⟩ := hC
  intro hk H ls locs h2 h3 h4 h5
  by_cases hzz : x = 0 ∨ x = 1
  case neg =>
    obtain ⟨z, hk, -⟩ := hk
    rw [aZ, if_neg hzz] at hk
    cases hk
  rw [aZ, if_pos hzz] at hk
  obtain ⟨hoL, hoS⟩ := hO
  have hoS : w.2.2 o = S := hoS
  obtain ⟨j, hj⟩ := aW_get (n0 := n0) (cy := cy) (w := w) (D := D) hoL
  subst hci
  have hN : kf < aNF S.1 := by rw [aNF_eq kc.1]; exact hk0
  rw [hoS, aPic_obj h11] at hj
  refine va_put hx hb hts kc.2.1 ty kc.2.2.1 kc.2.2.2 hown hK h2 h3 h4 j hj kc.1 kf hk0 (hts _ hlink) (fun _ h9 => h9) hfin (v := .int x) (ty := .boolean) (by rw [kc.2.2.1 kf hk0, hty]) (aZ_nar hzz).1 (aZ_nar hzz).2 (by simpa using hN) hd (fun H1 locs1 q1 q2 q3 => ?_)
  rw [aW_set (D' := aSI D o kf x) h3 hj (by rw [hoS, aPic_obj h11, aFs_set hN hrf]) (fun i hi => aPic_I hi)] at q1
  exact kk (aSI D o kf x) hk H1 ls locs1 q1 (aD_any h3) q3 h5
theorem A_putl {x : Int64} {F : ADD → Option (ρ × ADD)} (hC : AC g b cc own nL ret d) (kc : aCl ci C T N ty) (hO : aAt g o S) (hci : S.1 = ci) (h11 : ci < 11) (hk0 : kf < N) (hrf : aRef ci kf = 2) (hty : ty kf = .long) (hfin : (T kf).2.2.2 = false) (hlink : Cond.fieldLink own idx (T kf).1 (T kf).2.1 (T kf).2.2.1 ∈ aT) (hd : decode cc pc = .ok (.putfield idx, 3)) (kk : ∀ D2 : ADD, AT V g b (pc + 3) lv st D2 (F D2)) : AT V g b pc lv (.long x :: .ref (g.1 + o) :: st) D (aLet (aSL D o kf x) F) := by
  obtain ⟨n0, dC, dI, cy, ex, w⟩ := g
  obtain ⟨⟨p, l, e, R, s, m, args, below, meth, c⟩, r1, D1⟩ := b
  obtain ⟨hx, hb, hml, hown, hts, hr, hlk, hR, hK, hE, hz⟩ := hC
  intro hk H ls locs h2 h3 h4 h5
  obtain ⟨hoL, hoS⟩ := hO
  have hoS : w.2.2 o = S := hoS
  obtain ⟨j, hj⟩ := aW_get (n0 := n0) (cy := cy) (w := w) (D := D) hoL
  subst hci
  have hN : kf < aNF S.1 := by rw [aNF_eq kc.1]; exact hk0
  rw [hoS, aPic_obj h11] at hj
  refine va_put hx hb hts kc.2.1 ty kc.2.2.1 kc.2.2.2 hown hK h2 h3 h4 j hj kc.1 kf hk0 (hts _ hlink) (fun _ h9 => h9) hfin (v := .long x) (ty := .long) (by rw [kc.2.2.1 kf hk0, hty]) rfl rfl (by simpa using hN) hd (fun H1 locs1 q1 q2 q3 => ?_)
  rw [aW_set (D' := aSL D o kf x) h3 hj (by rw [hoS, aPic_obj h11, aFs_setL hN hrf]) (fun i hi => aPic_L hi)] at q1
  exact kk (aSL D o kf x) hk H1 ls locs1 q1 (aD_any h3) q3 h5
end A2
section A3
variable {ρ : Type} {V : ρ → Option Value} {g : AGl} {b : ABn} {cc : ByteArray} {own : String} {nL : Nat} {ret : Option FieldType} {d pc : Nat} {lv : List (Option Value)} {st : List Value} {D : ADD} {K K1 K2 : Option (ρ × ADD)} {o n : Nat} {rf : Nat → Option Nat} {i : Int32}
theorem A_iald (hC : AC g b cc own nL ret d) (hO : aAt g o (11, n, rf)) (hd : decode cc pc = .ok (.iaload, 1)) (kk : AT V g b (pc + 1) lv (.int (D.1 o i.toNatClampNeg) :: st) D K) : AT V g b pc lv (.int i :: .ref (g.1 + o) :: st) D (aIn i n K) := by
  obtain ⟨n0, dC, dI, cy, ex, w⟩ := g
  obtain ⟨⟨p, l, e, R, s, m, args, below, meth, c⟩, r1, D1⟩ := b
  obtain ⟨hx, hb, hml, hown, hts, hr, hlk, hR, hK, hE, hz⟩ := hC
  intro hk H ls locs h2 h3 h4 h5
  by_cases hin : i < 0 ∨ n ≤ i.toNatClampNeg
  case pos =>
    obtain ⟨z, hk, -⟩ := hk
    rw [aIn, if_pos hin] at hk
    cases hk
  rw [aIn, if_neg hin] at hk
  obtain ⟨hoL, hoS⟩ := hO
  have hoS : w.2.2 o = (11, n, rf) := hoS
  obtain ⟨j, hj⟩ := aW_get (n0 := n0) (cy := cy) (w := w) (D := D) hoL
  rw [hoS] at hj
  have hj : (aW n0 cy w D)[j]? = some (n0 + o, .inl (cy 0, n, .inl (D.1 o))) := hj
  exact va_iald hx hb hK h2 j 0 hj rfl hin hd (kk hk H ls locs h2 h3 h4 h5)
theorem A_bald (hC : AC g b cc own nL ret d) (hO : aAt g o (13, n, rf)) (hd : decode cc pc = .ok (.baload, 1)) (kk : AT V g b (pc + 1) lv (.int (aB (D.1 o i.toNatClampNeg)) :: st) D K) : AT V g b pc lv (.int i :: .ref (g.1 + o) :: st) D (aIn i n K) := by
  obtain ⟨n0, dC, dI, cy, ex, w⟩ := g
  obtain ⟨⟨p, l, e, R, s, m, args, below, meth, c⟩, r1, D1⟩ := b
  obtain ⟨hx, hb, hml, hown, hts, hr, hlk, hR, hK, hE, hz⟩ := hC
  intro hk H ls locs h2 h3 h4 h5
  by_cases hin : i < 0 ∨ n ≤ i.toNatClampNeg
  case pos =>
    obtain ⟨z, hk, -⟩ := hk
    rw [aIn, if_pos hin] at hk
    cases hk
  rw [aIn, if_neg hin] at hk
  obtain ⟨hoL, hoS⟩ := hO
  have hoS : w.2.2 o = (13, n, rf) := hoS
  obtain ⟨j, hj⟩ := aW_get (n0 := n0) (cy := cy) (w := w) (D := D) hoL
  rw [hoS] at hj
  have hj : (aW n0 cy w D)[j]? = some (n0 + o, .inl (cy 2, n, .inl (fun q => vp_nar .byte (D.1 o q)))) := hj
  exact va_bald hx hb hK h2 j 2 hj rfl hin hd (kk hk H ls locs h2 h3 h4 h5)
theorem A_zald (hC : AC g b cc own nL ret d) (hO : aAt g o (14, n, rf)) (hd : decode cc pc = .ok (.baload, 1)) (kk : AT V g b (pc + 1) lv (.int (aBz (D.1 o i.toNatClampNeg)) :: st) D K) : AT V g b pc lv (.int i :: .ref (g.1 + o) :: st) D (aIn i n K) := by
  obtain ⟨n0, dC, dI, cy, ex, w⟩ := g
  obtain ⟨⟨p, l, e, R, s, m, args, below, meth, c⟩, r1, D1⟩ := b
  obtain ⟨hx, hb, hml, hown, hts, hr, hlk, hR, hK, hE, hz⟩ := hC
  intro hk H ls locs h2 h3 h4 h5
  by_cases hin : i < 0 ∨ n ≤ i.toNatClampNeg
  case pos =>
    obtain ⟨z, hk, -⟩ := hk
    rw [aIn, if_pos hin] at hk
    cases hk
  rw [aIn, if_neg hin] at hk
  obtain ⟨hoL, hoS⟩ := hO
  have hoS : w.2.2 o = (14, n, rf) := hoS
  obtain ⟨j, hj⟩ := aW_get (n0 := n0) (cy := cy) (w := w) (D := D) hoL
  rw [hoS] at hj
  have hj : (aW n0 cy w D)[j]? = some (n0 + o, .inl (cy 3, n, .inl (fun q => vp_nar .boolean (D.1 o q)))) := hj
  exact va_zald hx hb hK h2 j 3 hj rfl hin hd (kk hk H ls locs h2 h3 h4 h5)
theorem A_lald (hC : AC g b cc own nL ret d) (hO : aAt g o (12, n, rf)) (hd : decode cc pc = .ok (.laload, 1)) (kk : AT V g b (pc + 1) lv (.long (D.2 o i.toNatClampNeg) :: st) D K) : AT V g b pc lv (.int i :: .ref (g.1 + o) :: st) D (aIn i n K) := by
  obtain ⟨n0, dC, dI, cy, ex, w⟩ := g
  obtain ⟨⟨p, l, e, R, s, m, args, below, meth, c⟩, r1, D1⟩ := b
  obtain ⟨hx, hb, hml, hown, hts, hr, hlk, hR, hK, hE, hz⟩ := hC
  intro hk H ls locs h2 h3 h4 h5
  by_cases hin : i < 0 ∨ n ≤ i.toNatClampNeg
  case pos =>
    obtain ⟨z, hk, -⟩ := hk
    rw [aIn, if_pos hin] at hk
    cases hk
  rw [aIn, if_neg hin] at hk
  obtain ⟨hoL, hoS⟩ := hO
  have hoS : w.2.2 o = (12, n, rf) := hoS
  obtain ⟨j, hj⟩ := aW_get (n0 := n0) (cy := cy) (w := w) (D := D) hoL
  rw [hoS] at hj
  have hj : (aW n0 cy w D)[j]? = some (n0 + o, .inl (cy 1, n, .inr (.inl (D.2 o)))) := hj
  exact va_lald hx hb hK h2 j 1 hj rfl hin hd (kk hk H ls locs h2 h3 h4 h5)
theorem A_iast {x : Int32} {F : ADD → Option (ρ × ADD)} (hC : AC g b cc own nL ret d) (hO : aAt g o (11, n, rf)) (hd : decode cc pc = .ok (.iastore, 1)) (kk : ∀ D2 : ADD, AT V g b (pc + 1) lv st D2 (F D2)) : AT V g b pc lv (.int x :: .int i :: .ref (g.1 + o) :: st) D (aIn i n (aLet (aSI D o i.toNatClampNeg x) F)) := by
  obtain ⟨n0, dC, dI, cy, ex, w⟩ := g
  obtain ⟨⟨p, l, e, R, s, m, args, below, meth, c⟩, r1, D1⟩ := b
  obtain ⟨hx, hb, hml, hown, hts, hr, hlk, hR, hK, hE, hz⟩ := hC
  intro hk H ls locs h2 h3 h4 h5
  by_cases hin : i < 0 ∨ n ≤ i.toNatClampNeg
  case pos =>
    obtain ⟨z, hk, -⟩ := hk
    rw [aIn, if_pos hin] at hk
    cases hk
  rw [aIn, if_neg hin] at hk
  obtain ⟨hoL, hoS⟩ := hO
  have hoS : w.2.2 o = (11, n, rf) := hoS
  obtain ⟨j, hj⟩ := aW_get (n0 := n0) (cy := cy) (w := w) (D := D) hoL
  rw [hoS] at hj
  have hj : (aW n0 cy w D)[j]? = some (n0 + o, .inl (cy 0, n, .inl (D.1 o))) := hj
  refine va_iast hx hb hK h2 h3 h4 j 0 hj rfl hin hd (fun H1 locs1 q1 q2 q3 => ?_)
  rw [aW_set (D' := aSI D o i.toNatClampNeg x) h3 hj (by rw [hoS]; show (.inl (cy 0, n, .inl ((aSI D o i.toNatClampNeg x).1 o)) : va_E) = _; rw [aSI_row]) (fun i9 hi => aPic_I hi)] at q1
  exact kk (aSI D o i.toNatClampNeg x) hk H1 ls locs1 q1 (aD_any h3) q3 h5
theorem A_bast {x : Int32} {F : ADD → Option (ρ × ADD)} (hC : AC g b cc own nL ret d) (hO : aAt g o (13, n, rf)) (hd : decode cc pc = .ok (.bastore, 1)) (kk : ∀ D2 : ADD, AT V g b (pc + 1) lv st D2 (F D2)) : AT V g b pc lv (.int x :: .int i :: .ref (g.1 + o) :: st) D (aIn i n (aLet (aSI D o i.toNatClampNeg x) F)) := by
  obtain ⟨n0, dC, dI, cy, ex, w⟩ := g
  obtain ⟨⟨p, l, e, R, s, m, args, below, meth, c⟩, r1, D1⟩ := b
  obtain ⟨hx, hb, hml, hown, hts, hr, hlk, hR, hK, hE, hz⟩ := hC
  intro hk H ls locs h2 h3 h4 h5
  by_cases hin : i < 0 ∨ n ≤ i.toNatClampNeg
  case pos =>
    obtain ⟨z, hk, -⟩ := hk
    rw [aIn, if_pos hin] at hk
    cases hk
  rw [aIn, if_neg hin] at hk
  obtain ⟨hoL, hoS⟩ := hO
  have hoS : w.2.2 o = (13, n, rf) := hoS
  obtain ⟨j, hj⟩ := aW_get (n0 := n0) (cy := cy) (w := w) (D := D) hoL
  rw [hoS] at hj
  have hj : (aW n0 cy w D)[j]? = some (n0 + o, .inl (cy 2, n, .inl (fun q => vp_nar .byte (D.1 o q)))) := hj
  refine va_bast hx hb hK h2 h3 h4 j 2 hj rfl hin hd (fun H1 locs1 q1 q2 q3 => ?_)
  rw [aW_set (D' := aSI D o i.toNatClampNeg x) h3 hj (by rw [hoS]; show (.inl (cy 2, n, .inl (fun q => vp_nar .byte ((aSI D o i.toNatClampNeg x).1 o q))) : va_E) = _; rw [aNar_row]) (fun i9 hi => aPic_I hi)] at q1
  exact kk (aSI D o i.toNatClampNeg x) hk H1 ls locs1 q1 (aD_any h3) q3 h5
theorem A_zast {x : Int32} {F : ADD → Option (ρ × ADD)} (hC : AC g b cc own nL ret d) (hO : aAt g o (14, n, rf)) (hd : decode cc pc = .ok (.bastore, 1)) (kk : ∀ D2 : ADD, AT V g b (pc + 1) lv st D2 (F D2)) : AT V g b pc lv (.int x :: .int i :: .ref (g.1 + o) :: st) D (aIn i n (aLet (aSI D o i.toNatClampNeg x) F)) := by
  obtain ⟨n0, dC, dI, cy, ex, w⟩ := g
  obtain ⟨⟨p, l, e, R, s, m, args, below, meth, c⟩, r1, D1⟩ := b
  obtain ⟨hx, hb, hml, hown, hts, hr, hlk, hR, hK, hE, hz⟩ := hC
  intro hk H ls locs h2 h3 h4 h5
  by_cases hin : i < 0 ∨ n ≤ i.toNatClampNeg
  case pos =>
    obtain ⟨z, hk, -⟩ := hk
    rw [aIn, if_pos hin] at hk
    cases hk
  rw [aIn, if_neg hin] at hk
  obtain ⟨hoL, hoS⟩ := hO
  have hoS : w.2.2 o = (14, n, rf) := hoS
  obtain ⟨j, hj⟩ := aW_get (n0 := n0) (cy := cy) (w := w) (D := D) hoL
  rw [hoS] at hj
  have hj : (aW n0 cy w D)[j]? = some (n0 + o, .inl (cy 3, n, .inl (fun q => vp_nar .boolean (D.1 o q)))) := hj
  refine va_zast hx hb hK h2 h3 h4 j 3 hj rfl hin hd (fun H1 locs1 q1 q2 q3 => ?_)
  rw [aW_set (D' := aSI D o i.toNatClampNeg x) h3 hj (by rw [hoS]; show (.inl (cy 3, n, .inl (fun q => vp_nar .boolean ((aSI D o i.toNatClampNeg x).1 o q))) : va_E) = _; rw [aNar_row]) (fun i9 hi => aPic_I hi)] at q1
  exact kk (aSI D o i.toNatClampNeg x) hk H1 ls locs1 q1 (aD_any h3) q3 h5
theorem A_last {x : Int64} {F : ADD → Option (ρ × ADD)} (hC : AC g b cc own nL ret d) (hO : aAt g o (12, n, rf)) (hd : decode cc pc = .ok (.lastore, 1)) (kk : ∀ D2 : ADD, AT V g b (pc + 1) lv st D2 (F D2)) : AT V g b pc lv (.long x :: .int i :: .ref (g.1 + o) :: st) D (aIn i n (aLet (aSL D o i.toNatClampNeg x) F)) := by
  obtain ⟨n0, dC, dI, cy, ex, w⟩ := g
  obtain ⟨⟨p, l, e, R, s, m, args, below, meth, c⟩, r1, D1⟩ := b
  obtain ⟨hx, hb, hml, hown, hts, hr, hlk, hR, hK, hE, hz⟩ := hC
  intro hk H ls locs h2 h3 h4 h5
  by_cases hin : i < 0 ∨ n ≤ i.toNatClampNeg
  case pos =>
    obtain ⟨z, hk, -⟩ := hk
    rw [aIn, if_pos hin] at hk
    cases hk
  rw [aIn, if_neg hin] at hk
  obtain ⟨hoL, hoS⟩ := hO
  have hoS : w.2.2 o = (12, n, rf) := hoS
  obtain ⟨j, hj⟩ := aW_get (n0 := n0) (cy := cy) (w := w) (D := D) hoL
  rw [hoS] at hj
  have hj : (aW n0 cy w D)[j]? = some (n0 + o, .inl (cy 1, n, .inr (.inl (D.2 o)))) := hj
  refine va_last hx hb hK h2 h3 h4 j 1 hj rfl hin hd (fun H1 locs1 q1 q2 q3 => ?_)
  rw [aW_set (D' := aSL D o i.toNatClampNeg x) h3 hj (by rw [hoS]; show (.inl (cy 1, n, .inr (.inl ((aSL D o i.toNatClampNeg x).2 o))) : va_E) = _; rw [aSL_row]) (fun i9 hi => aPic_L hi)] at q1
  exact kk (aSL D o i.toNatClampNeg x) hk H1 ls locs1 q1 (aD_any h3) q3 h5
theorem A_aleni (hC : AC g b cc own nL ret d) (hO : aAt g o (11, n, rf)) (hd : decode cc pc = .ok (.arraylength, 1)) (kk : AT V g b (pc + 1) lv (.int (Int32.ofNat n) :: st) D K) : AT V g b pc lv (.ref (g.1 + o) :: st) D K := by
  obtain ⟨n0, dC, dI, cy, ex, w⟩ := g
  obtain ⟨⟨p, l, e, R, s, m, args, below, meth, c⟩, r1, D1⟩ := b
  obtain ⟨hx, hb, hml, hown, hts, hr, hlk, hR, hK, hE, hz⟩ := hC
  intro hk H ls locs h2 h3 h4 h5
  obtain ⟨hoL, hoS⟩ := hO
  have hoS : w.2.2 o = (11, n, rf) := hoS
  obtain ⟨j, hj⟩ := aW_get (n0 := n0) (cy := cy) (w := w) (D := D) hoL
  rw [hoS] at hj
  have hj : (aW n0 cy w D)[j]? = some (n0 + o, .inl (cy 0, n, .inl (D.1 o))) := hj
  exact va_alen hx hb hK h2 j 0 hj rfl rfl hd (kk hk H ls locs h2 h3 h4 h5)
theorem A_alenb (hC : AC g b cc own nL ret d) (hO : aAt g o (13, n, rf)) (hd : decode cc pc = .ok (.arraylength, 1)) (kk : AT V g b (pc + 1) lv (.int (Int32.ofNat n) :: st) D K) : AT V g b pc lv (.ref (g.1 + o) :: st) D K := by
  obtain ⟨n0, dC, dI, cy, ex, w⟩ := g
  obtain ⟨⟨p, l, e, R, s, m, args, below, meth, c⟩, r1, D1⟩ := b
  obtain ⟨hx, hb, hml, hown, hts, hr, hlk, hR, hK, hE, hz⟩ := hC
  intro hk H ls locs h2 h3 h4 h5
  obtain ⟨hoL, hoS⟩ := hO
  have hoS : w.2.2 o = (13, n, rf) := hoS
  obtain ⟨j, hj⟩ := aW_get (n0 := n0) (cy := cy) (w := w) (D := D) hoL
  rw [hoS] at hj
  have hj : (aW n0 cy w D)[j]? = some (n0 + o, .inl (cy 2, n, .inl (fun q => vp_nar .byte (D.1 o q)))) := hj
  exact va_alen hx hb hK h2 j 2 hj rfl rfl hd (kk hk H ls locs h2 h3 h4 h5)
theorem A_alenq (hC : AC g b cc own nL ret d) (hO : aAt g o (15, n, rf)) (hd : decode cc pc = .ok (.arraylength, 1)) (kk : AT V g b (pc + 1) lv (.int (Int32.ofNat n) :: st) D K) : AT V g b pc lv (.ref (g.1 + o) :: st) D K := by
  obtain ⟨n0, dC, dI, cy, ex, w⟩ := g
  obtain ⟨⟨p, l, e, R, s, m, args, below, meth, c⟩, r1, D1⟩ := b
  obtain ⟨hx, hb, hml, hown, hts, hr, hlk, hR, hK, hE, hz⟩ := hC
  intro hk H ls locs h2 h3 h4 h5
  obtain ⟨hoL, hoS⟩ := hO
  have hoS : w.2.2 o = (15, n, rf) := hoS
  obtain ⟨j, hj⟩ := aW_get (n0 := n0) (cy := cy) (w := w) (D := D) hoL
  rw [hoS] at hj
  have hj : (aW n0 cy w D)[j]? = some (n0 + o, .inl (cy 4, n, .inr (.inr (.inr (.inr rf))))) := hj
  exact va_alen hx hb hK h2 j 4 hj rfl rfl hd (kk hk H ls locs h2 h3 h4 h5)
end A3
section A4
variable {ρ : Type} {V : ρ → Option Value} {g : AGl} {b : ABn} {cc : ByteArray} {own : String} {nL : Nat} {ret : Option FieldType} {d pc : Nat} {lv : List (Option Value)} {st : List Value} {D : ADD} {K K1 K2 : Option (ρ × ADD)}
theorem A_iret {x : Int32} (hC : AC g b cc own nL (some .int) d) (hd : decode cc pc = .ok (.ireturn, 1)) : AT aVi g b pc lv [.int x] D (some (x, D)) := by
  obtain ⟨n0, dC, dI, cy, ex, w⟩ := g
  obtain ⟨⟨p, l, e, R, s, m, args, below, meth, c⟩, r1, D1⟩ := b
  obtain ⟨hx, hb, hml, hown, hts, hr, hlk, hR, hK, hE, hz⟩ := hC
  intro hk H ls locs h2 h3 h4 h5
  obtain ⟨z, hk1, rfl⟩ := hk
  cases hk1
  refine W_sz (fun hs9 => ?_)
  exact W.iret hx hb hr (fun t ht hW => ⟨rfl, by have := h4.1; rw [ht]; omega, by rw [ht]; exact h2, h4.F ht⟩) h4.2.2 hd hlk
theorem A_lret {x : Int64} (hC : AC g b cc own nL (some .long) d) (hd : decode cc pc = .ok (.lreturn, 1)) : AT aVl g b pc lv [.long x] D (some (x, D)) := by
  obtain ⟨n0, dC, dI, cy, ex, w⟩ := g
  obtain ⟨⟨p, l, e, R, s, m, args, below, meth, c⟩, r1, D1⟩ := b
  obtain ⟨hx, hb, hml, hown, hts, hr, hlk, hR, hK, hE, hz⟩ := hC
  intro hk H ls locs h2 h3 h4 h5
  obtain ⟨z, hk1, rfl⟩ := hk
  cases hk1
  refine W_sz (fun hs9 => ?_)
  exact W.lret hx hb hr (fun t ht hW => ⟨rfl, by have := h4.1; rw [ht]; omega, by rw [ht]; exact h2, h4.F ht⟩) h4.2.2 hd hlk
theorem A_vret (hC : AC g b cc own nL none d) (hd : decode cc pc = .ok (.return_, 1)) : AT aVv g b pc lv [] D (some ((), D)) := by
  obtain ⟨n0, dC, dI, cy, ex, w⟩ := g
  obtain ⟨⟨p, l, e, R, s, m, args, below, meth, c⟩, r1, D1⟩ := b
  obtain ⟨hx, hb, hml, hown, hts, hr, hlk, hR, hK, hE, hz⟩ := hC
  intro hk H ls locs h2 h3 h4 h5
  obtain ⟨z, hk1, rfl⟩ := hk
  cases hk1
  refine W_sz (fun hs9 => ?_)
  exact W.vret hx hb hr (fun t ht hW => ⟨rfl, by have := h4.1; rw [ht]; omega, by rw [ht]; exact h2, h4.F ht⟩) h4.2.2 hd hlk
theorem A_zret {x : Int32} (hC : AC g b cc own nL (some .boolean) d) (hd : decode cc pc = .ok (.ireturn, 1)) (h01 : x = 0 ∨ x = 1) : AT aVi g b pc lv [.int x] D (some (x, D)) := by
  obtain ⟨n0, dC, dI, cy, ex, w⟩ := g
  obtain ⟨⟨p, l, e, R, s, m, args, below, meth, c⟩, r1, D1⟩ := b
  obtain ⟨hx, hb, hml, hown, hts, hr, hlk, hR, hK, hE, hz⟩ := hC
  intro hk H ls locs h2 h3 h4 h5
  obtain ⟨z, hk1, rfl⟩ := hk
  cases hk1
  refine W_sz (fun hs9 => ?_)
  exact W.zret hx hb hr (aZ_nar h01).1 (fun t ht hW => ⟨rfl, by have := h4.1; rw [ht]; omega, by rw [ht]; exact h2, h4.F ht⟩) h4.2.2 hd hlk
theorem A_zretc {x : Int32} (hC : AC g b cc own nL (some .boolean) d) (hd : decode cc pc = .ok (.ireturn, 1)) : AT aVi g b pc lv [.int x] D (aZ x (some (x, D))) := by
  by_cases h01 : x = 0 ∨ x = 1
  · rw [aZ, if_pos h01]
    exact A_zret hC hd h01
  · rw [aZ, if_neg h01]
    exact A_none
theorem A_callV {σ : Type} {U : σ → Option Value} {y : MethodName} {cc2 : ByteArray} {nL2 d2 n idx : Nat} {ret2 : Option FieldType} {As stk : List Value} {f : Option (σ × ADD)} {F : σ → ADD → Option (ρ × ADD)} {o N : Nat} {T : u_T} {S : ASh} (hC : AC g b cc own nL ret d) (hM : ∀ l, AM U l y cc2 nL2 ret2 d2 g (.ref (g.1 + o) :: As) D f) (hO : aAt g o S) (hci : vwCl[S.1]? = some (y.cls, T, N)) (h11 : S.1 < 11) (hY : aYV own idx y cc2 nL2 ret2 n) (hn : As.length = n) (hlen : lv.length = nL) (hdd : d2 + 1 ≤ d ∧ nL2 ≤ 21) (hst : (st.map fun v => v.category).sum ≤ 8) (hs : stk = As.reverse ++ .ref (g.1 + o) :: st) (hd : decode cc pc = .ok (.invokevirtual idx, 3)) (kk : ∀ (x : σ) (D2 : ADD), AT V g b (pc + 3) lv ((U x).toList ++ st) D2 (F x D2)) : AT V g b pc lv stk D (aBind f F) := by
  obtain ⟨n0, dC, dI, cy, ex, w⟩ := g
  obtain ⟨⟨p, l, e, R, s, m, args, below, meth, c⟩, r1, D1⟩ := b
  obtain ⟨hx, hb, hml, hown, hts, hr, hlk, hR, hK, hE, hz⟩ := hC
  intro hk H ls locs h2 h3 h4 h5
  have hk2 := hk
  cases f with
  | none =>
    obtain ⟨z, hk2, -⟩ := hk2
    cases hk2
  | some q9 =>
  obtain ⟨x, D2⟩ := q9
  have hk3 : ∃ z, F x D2 = some (z, D1) ∧ V z = r1 := hk2
  have M := hM l x D2 rfl
  subst hs
  subst hR
  refine W_sz (fun hs9 => ?_)
  have hsz : H.size = n0 + w.1 := by have := h4.1; omega
  intro T9 hT X
  obtain ⟨hoL, hoS⟩ := hO
  have hoS : w.2.2 o = S := hoS
  obtain ⟨j, hj⟩ := aW_get (n0 := n0) (cy := cy) (w := w) (D := D) hoL
  rw [hoS, aPic_obj h11] at hj
  obtain ⟨y1, y2, y3, y4, y5, y6, y7, y8⟩ := hY
  obtain ⟨v, st₀, t, T', L, e0, X', hL, e1, e2, hq, go⟩ := va_runV (R := aRm d) (As := As) (rest := st) (b := n0 + o) (C := y.cls) (g := F0 m pc ls (As.reverse ++ .ref (n0 + o) :: st)) ⟨hx, hb, hml, hown, hts⟩ M (cwV n hts (aT_good _ (by intro q9 hq9; simp only [wsV, List.mem_append, List.mem_cons, List.not_mem_nil, or_false] at hq9; rcases hq9 with (rfl | rfl | rfl | rfl) | rfl | hq9 <;> assumption)) rfl rfl rfl ⟨rfl, y6, y7, y8⟩ ⟨hdd.1, by show 8 + (nL2 + 11) + 40 * d2 ≤ 40 * d; have := hdd.1; have := hdd.2; omega⟩) ⟨aBlind, va_recv hK h2 hci hj, fun U2 hU hW => ⟨rfl, by rw [hU]; exact hsz, by rw [hU]; exact h2, h3, va_K.moved hW.alike hK, aEX_warm hE hz h4 hU hW⟩⟩ rfl hn (h5.1.trans hlen) rfl (lv_room hst) hd ⟨Nat.le_refl 0, Nat.le_refl 0⟩ T9 hT X
  have hv : v = U x := Outcome.returned.inj hq.1
  subst hv
  obtain ⟨-, hsz2, hP2, hF⟩ := hq
  have hS2 : va_S (aA n0 w) s.heap T'.heap (locs ++ L) := by
    refine ⟨?_, fun q g1 g2 => ?_, fun q hq => ?_⟩
    · rw [e1]; have := hF.1; rw [e0] at this; have := h4.1; omega
    · have h9 := hF.2 q (by rw [e0]; have := h4.1; omega) g2
      rw [e1, h9, e0]
      exact h4.2.1 q g1 g2
    · rcases List.mem_append.mp hq with h | h
      · exact h4.2.2 q h
      · exact hL q h
  obtain ⟨t2, a1, b1⟩ := kk x D2 hk3 T'.heap ls (locs ++ L) (by rw [e1]; exact hP2) (aD_any h3) hS2 h5 T' rfl X'
  exact ⟨t2, go t2 a1, b1⟩
theorem A_callS {σ : Type} {U : σ → Option Value} {y : MethodName} {cc2 : ByteArray} {nL2 d2 n idx : Nat} {ret2 : Option FieldType} {As stk : List Value} {f : Option (σ × ADD)} {F : σ → ADD → Option (ρ × ADD)} (hC : AC g b cc own nL ret d) (hM : ∀ l, AM U l y cc2 nL2 ret2 d2 g As D f) (hY : aYS own idx y cc2 nL2 ret2 n) (hn : As.length = n) (hlen : lv.length = nL) (hdd : d2 + 1 ≤ d ∧ nL2 ≤ 21) (hst : (st.map fun v => v.category).sum ≤ 8) (hs : stk = As.reverse ++ st) (hd : decode cc pc = .ok (.invokestatic idx, 3)) (kk : ∀ (x : σ) (D2 : ADD), AT V g b (pc + 3) lv ((U x).toList ++ st) D2 (F x D2)) : AT V g b pc lv stk D (aBind f F) := by
  obtain ⟨n0, dC, dI, cy, ex, w⟩ := g
  obtain ⟨⟨p, l, e, R, s, m, args, below, meth, c⟩, r1, D1⟩ := b
  obtain ⟨hx, hb, hml, hown, hts, hr, hlk, hR, hK, hE, hz⟩ := hC
  intro hk H ls locs h2 h3 h4 h5
  have hk2 := hk
  cases f with
  | none =>
    obtain ⟨z, hk2, -⟩ := hk2
    cases hk2
  | some q9 =>
  obtain ⟨x, D2⟩ := q9
  have hk3 : ∃ z, F x D2 = some (z, D1) ∧ V z = r1 := hk2
  have M := hM l x D2 rfl
  subst hs
  subst hR
  refine W_sz (fun hs9 => ?_)
  have hsz : H.size = n0 + w.1 := by have := h4.1; omega
  intro T9 hT X
  obtain ⟨y1, y2, y4, y5, y6, y7, y8⟩ := hY
  obtain ⟨v, st₀, t, T', L, e0, X', hL, e1, e2, hq, go⟩ := va_runS (R := aRm d) (As := As) (rest := st) (g := F0 m pc ls (As.reverse ++ st)) ⟨hx, hb, hml, hown, hts⟩ M (va_cwS n hts (aT_good _ (by intro q9 hq9; simp only [va_wsS, List.mem_append, List.mem_cons, List.not_mem_nil, or_false] at hq9; rcases hq9 with (rfl | rfl | rfl) | rfl | hq9 <;> assumption)) rfl rfl rfl ⟨y6, y7, y8⟩ ⟨hdd.1, by show 8 + (nL2 + 11) + 40 * d2 ≤ 40 * d; have := hdd.1; have := hdd.2; omega⟩) ⟨aBlind, fun U2 hU hW => ⟨rfl, by rw [hU]; exact hsz, by rw [hU]; exact h2, h3, va_K.moved hW.alike hK, aEX_warm hE hz h4 hU hW⟩⟩ rfl hn (h5.1.trans hlen) rfl (lv_room hst) hd ⟨Nat.le_refl 0, Nat.le_refl 0⟩ T9 hT X
  have hv : v = U x := Outcome.returned.inj hq.1
  subst hv
  obtain ⟨-, hsz2, hP2, hF⟩ := hq
  have hS2 : va_S (aA n0 w) s.heap T'.heap (locs ++ L) := by
    refine ⟨?_, fun q g1 g2 => ?_, fun q hq => ?_⟩
    · rw [e1]; have := hF.1; rw [e0] at this; have := h4.1; omega
    · have h9 := hF.2 q (by rw [e0]; have := h4.1; omega) g2
      rw [e1, h9, e0]
      exact h4.2.1 q g1 g2
    · rcases List.mem_append.mp hq with h | h
      · exact h4.2.2 q h
      · exact hL q h
  obtain ⟨t2, a1, b1⟩ := kk x D2 hk3 T'.heap ls (locs ++ L) (by rw [e1]; exact hP2) (aD_any h3) hS2 h5 T' rfl X'
  exact ⟨t2, go t2 a1, b1⟩
theorem A_callVi {y : MethodName} {cc2 : ByteArray} {nL2 d2 n idx : Nat} {ret2 : Option FieldType} {As stk : List Value} {f : Option (Int32 × ADD)} {F : Int32 → ADD → Option (ρ × ADD)} {o N : Nat} {T : u_T} {S : ASh} (hC : AC g b cc own nL ret d) (hM : ∀ l, AM aVi l y cc2 nL2 ret2 d2 g (.ref (g.1 + o) :: As) D f) (hO : aAt g o S) (hci : vwCl[S.1]? = some (y.cls, T, N)) (h11 : S.1 < 11) (hY : aYV own idx y cc2 nL2 ret2 n) (hn : As.length = n) (hlen : lv.length = nL) (hdd : d2 + 1 ≤ d ∧ nL2 ≤ 21) (hst : (st.map fun v => v.category).sum ≤ 8) (hs : stk = As.reverse ++ .ref (g.1 + o) :: st) (hd : decode cc pc = .ok (.invokevirtual idx, 3)) (kk : ∀ (x : Int32) (D2 : ADD), AT V g b (pc + 3) lv (.int x :: st) D2 (F x D2)) : AT V g b pc lv stk D (aBind f F) := A_callV hC hM hO hci h11 hY hn hlen hdd hst hs hd kk
theorem A_callSi {y : MethodName} {cc2 : ByteArray} {nL2 d2 n idx : Nat} {ret2 : Option FieldType} {As stk : List Value} {f : Option (Int32 × ADD)} {F : Int32 → ADD → Option (ρ × ADD)} (hC : AC g b cc own nL ret d) (hM : ∀ l, AM aVi l y cc2 nL2 ret2 d2 g As D f) (hY : aYS own idx y cc2 nL2 ret2 n) (hn : As.length = n) (hlen : lv.length = nL) (hdd : d2 + 1 ≤ d ∧ nL2 ≤ 21) (hst : (st.map fun v => v.category).sum ≤ 8) (hs : stk = As.reverse ++ st) (hd : decode cc pc = .ok (.invokestatic idx, 3)) (kk : ∀ (x : Int32) (D2 : ADD), AT V g b (pc + 3) lv (.int x :: st) D2 (F x D2)) : AT V g b pc lv stk D (aBind f F) := A_callS hC hM hY hn hlen hdd hst hs hd kk
theorem A_callVl {y : MethodName} {cc2 : ByteArray} {nL2 d2 n idx : Nat} {ret2 : Option FieldType} {As stk : List Value} {f : Option (Int64 × ADD)} {F : Int64 → ADD → Option (ρ × ADD)} {o N : Nat} {T : u_T} {S : ASh} (hC : AC g b cc own nL ret d) (hM : ∀ l, AM aVl l y cc2 nL2 ret2 d2 g (.ref (g.1 + o) :: As) D f) (hO : aAt g o S) (hci : vwCl[S.1]? = some (y.cls, T, N)) (h11 : S.1 < 11) (hY : aYV own idx y cc2 nL2 ret2 n) (hn : As.length = n) (hlen : lv.length = nL) (hdd : d2 + 1 ≤ d ∧ nL2 ≤ 21) (hst : (st.map fun v => v.category).sum ≤ 8) (hs : stk = As.reverse ++ .ref (g.1 + o) :: st) (hd : decode cc pc = .ok (.invokevirtual idx, 3)) (kk : ∀ (x : Int64) (D2 : ADD), AT V g b (pc + 3) lv (.long x :: st) D2 (F x D2)) : AT V g b pc lv stk D (aBind f F) := A_callV hC hM hO hci h11 hY hn hlen hdd hst hs hd kk
theorem A_callSl {y : MethodName} {cc2 : ByteArray} {nL2 d2 n idx : Nat} {ret2 : Option FieldType} {As stk : List Value} {f : Option (Int64 × ADD)} {F : Int64 → ADD → Option (ρ × ADD)} (hC : AC g b cc own nL ret d) (hM : ∀ l, AM aVl l y cc2 nL2 ret2 d2 g As D f) (hY : aYS own idx y cc2 nL2 ret2 n) (hn : As.length = n) (hlen : lv.length = nL) (hdd : d2 + 1 ≤ d ∧ nL2 ≤ 21) (hst : (st.map fun v => v.category).sum ≤ 8) (hs : stk = As.reverse ++ st) (hd : decode cc pc = .ok (.invokestatic idx, 3)) (kk : ∀ (x : Int64) (D2 : ADD), AT V g b (pc + 3) lv (.long x :: st) D2 (F x D2)) : AT V g b pc lv stk D (aBind f F) := A_callS hC hM hY hn hlen hdd hst hs hd kk
theorem A_callVv {y : MethodName} {cc2 : ByteArray} {nL2 d2 n idx : Nat} {ret2 : Option FieldType} {As stk : List Value} {f : Option (Unit × ADD)} {F : Unit → ADD → Option (ρ × ADD)} {o N : Nat} {T : u_T} {S : ASh} (hC : AC g b cc own nL ret d) (hM : ∀ l, AM aVv l y cc2 nL2 ret2 d2 g (.ref (g.1 + o) :: As) D f) (hO : aAt g o S) (hci : vwCl[S.1]? = some (y.cls, T, N)) (h11 : S.1 < 11) (hY : aYV own idx y cc2 nL2 ret2 n) (hn : As.length = n) (hlen : lv.length = nL) (hdd : d2 + 1 ≤ d ∧ nL2 ≤ 21) (hst : (st.map fun v => v.category).sum ≤ 8) (hs : stk = As.reverse ++ .ref (g.1 + o) :: st) (hd : decode cc pc = .ok (.invokevirtual idx, 3)) (kk : ∀ (x : Unit) (D2 : ADD), AT V g b (pc + 3) lv st D2 (F x D2)) : AT V g b pc lv stk D (aBind f F) := A_callV hC hM hO hci h11 hY hn hlen hdd hst hs hd kk
theorem A_callSv {y : MethodName} {cc2 : ByteArray} {nL2 d2 n idx : Nat} {ret2 : Option FieldType} {As stk : List Value} {f : Option (Unit × ADD)} {F : Unit → ADD → Option (ρ × ADD)} (hC : AC g b cc own nL ret d) (hM : ∀ l, AM aVv l y cc2 nL2 ret2 d2 g As D f) (hY : aYS own idx y cc2 nL2 ret2 n) (hn : As.length = n) (hlen : lv.length = nL) (hdd : d2 + 1 ≤ d ∧ nL2 ≤ 21) (hst : (st.map fun v => v.category).sum ≤ 8) (hs : stk = As.reverse ++ st) (hd : decode cc pc = .ok (.invokestatic idx, 3)) (kk : ∀ (x : Unit) (D2 : ADD), AT V g b (pc + 3) lv st D2 (F x D2)) : AT V g b pc lv stk D (aBind f F) := A_callS hC hM hY hn hlen hdd hst hs hd kk
theorem A_mmax {x y : Int32} {idx : Nat} (hC : AC g b cc own nL ret d) (w1 : Cond.methodLink own idx Lib.Math.max.name ∈ aT) (w2 : Cond.static Lib.Math.max.name ∈ aT) (w3 : Cond.initialized "java/lang/Math" ∈ aT) (w4 : Cond.code Lib.Math.max.name Lib.Math.max.code 2 (some .int) ∈ aT) (hlen : lv.length = nL) (hdd : 1 ≤ d) (hst : (st.map fun v => v.category).sum ≤ 8) (hd : decode cc pc = .ok (.invokestatic idx, 3)) (kk : AT V g b (pc + 3) lv (.int (aMax x y) :: st) D K) : AT V g b pc lv (.int y :: .int x :: st) D K := by
  obtain ⟨n0, dC, dI, cy, ex, w⟩ := g
  obtain ⟨⟨p, l, e, R, s, m, args, below, meth, c⟩, r1, D1⟩ := b
  obtain ⟨hx, hb, hml, hown, hts, hr, hlk, hR, hK, hE, hz⟩ := hC
  intro hk H ls locs h2 h3 h4 h5
  subst hR
  exact va_mmax hx hb (hml.trans (hlen.symm.trans h5.1.symm)) hown (hts _ w1) (hts _ w2) (hts _ w3) (hts _ w4) hdd (by show _ ≤ 40 * d; omega) (Nat.le_refl 0) (Nat.le_refl 0) hd (kk hk H ls locs h2 h3 h4 h5)
theorem A_mmin {x y : Int32} {idx : Nat} (hC : AC g b cc own nL ret d) (w1 : Cond.methodLink own idx Lib.Math.min.name ∈ aT) (w2 : Cond.static Lib.Math.min.name ∈ aT) (w3 : Cond.initialized "java/lang/Math" ∈ aT) (w4 : Cond.code Lib.Math.min.name Lib.Math.min.code 2 (some .int) ∈ aT) (hlen : lv.length = nL) (hdd : 1 ≤ d) (hst : (st.map fun v => v.category).sum ≤ 8) (hd : decode cc pc = .ok (.invokestatic idx, 3)) (kk : AT V g b (pc + 3) lv (.int (aMin x y) :: st) D K) : AT V g b pc lv (.int y :: .int x :: st) D K := by
  obtain ⟨n0, dC, dI, cy, ex, w⟩ := g
  obtain ⟨⟨p, l, e, R, s, m, args, below, meth, c⟩, r1, D1⟩ := b
  obtain ⟨hx, hb, hml, hown, hts, hr, hlk, hR, hK, hE, hz⟩ := hC
  intro hk H ls locs h2 h3 h4 h5
  subst hR
  exact va_mmin hx hb (hml.trans (hlen.symm.trans h5.1.symm)) hown (hts _ w1) (hts _ w2) (hts _ w3) (hts _ w4) hdd (by show _ ≤ 40 * d; omega) (Nat.le_refl 0) (Nat.le_refl 0) hd (kk hk H ls locs h2 h3 h4 h5)
theorem A_mabs {x : Int32} {idx : Nat} (hC : AC g b cc own nL ret d) (w1 : Cond.methodLink own idx Lib.Math.abs.name ∈ aT) (w2 : Cond.static Lib.Math.abs.name ∈ aT) (w3 : Cond.initialized "java/lang/Math" ∈ aT) (w4 : Cond.code Lib.Math.abs.name Lib.Math.abs.code 1 (some .int) ∈ aT) (hlen : lv.length = nL) (hdd : 1 ≤ d) (hst : (st.map fun v => v.category).sum ≤ 8) (hd : decode cc pc = .ok (.invokestatic idx, 3)) (kk : AT V g b (pc + 3) lv (.int (aAbs x) :: st) D K) : AT V g b pc lv (.int x :: st) D K := by
  obtain ⟨n0, dC, dI, cy, ex, w⟩ := g
  obtain ⟨⟨p, l, e, R, s, m, args, below, meth, c⟩, r1, D1⟩ := b
  obtain ⟨hx, hb, hml, hown, hts, hr, hlk, hR, hK, hE, hz⟩ := hC
  intro hk H ls locs h2 h3 h4 h5
  subst hR
  exact va_mabs hx hb (hml.trans (hlen.symm.trans h5.1.symm)) hown (hts _ w1) (hts _ w2) (hts _ w3) (hts _ w4) hdd (by show _ ≤ 40 * d; omega) (Nat.le_refl 0) (Nat.le_refl 0) hd (kk hk H ls locs h2 h3 h4 h5)
theorem A_mminl {x y : Int64} {idx : Nat} (hC : AC g b cc own nL ret d) (w1 : Cond.methodLink own idx Lib.MathLoose.min_long.x ∈ aT) (w2 : Cond.static Lib.MathLoose.min_long.x ∈ aT) (w3 : Cond.initialized "java/lang/Math" ∈ aT) (w4 : Cond.code Lib.MathLoose.min_long.x Lib.MathLoose.min_long.code 4 (some .long) ∈ aT) (hlen : lv.length = nL) (hdd : 1 ≤ d) (hst : (st.map fun v => v.category).sum ≤ 8) (hd : decode cc pc = .ok (.invokestatic idx, 3)) (kk : AT V g b (pc + 3) lv (.long (aMinL x y) :: st) D K) : AT V g b pc lv (.long y :: .long x :: st) D K := by
  obtain ⟨n0, dC, dI, cy, ex, w⟩ := g
  obtain ⟨⟨p, l, e, R, s, m, args, below, meth, c⟩, r1, D1⟩ := b
  obtain ⟨hx, hb, hml, hown, hts, hr, hlk, hR, hK, hE, hz⟩ := hC
  intro hk H ls locs h2 h3 h4 h5
  subst hR
  exact va_mmin_long hx hb (hml.trans (hlen.symm.trans h5.1.symm)) hown (hts _ w1) (hts _ w2) (hts _ w3) (hts _ w4) hdd (by show _ ≤ 40 * d; omega) (Nat.le_refl 0) (Nat.le_refl 0) hd (kk hk H ls locs h2 h3 h4 h5)
def aAll {ρ : Type} (V : ρ → Option Value) (g : AGl) (b : ABn) (pc : Nat) (lv : List (Option Value)) (st : List Value) (D : ADD) : List Int → List (Option (ρ × ADD)) → Prop
  | [], [] => True
  | o :: os, K :: Ks => (∃ tgt : Nat, (pc : Int) + o = (tgt : Int) ∧ AT V g b tgt lv st D K) ∧ aAll V g b pc lv st D os Ks
  | _, _ => False
theorem aAll_at {ρ : Type} {V : ρ → Option Value} {g : AGl} {b : ABn} {pc : Nat} {lv : List (Option Value)} {st : List Value} {D : ADD} : ∀ (os : List Int) (Ks : List (Option (ρ × ADD))), aAll V g b pc lv st D os Ks → os.length = Ks.length ∧ ∀ (j : Nat) (K : Option (ρ × ADD)), Ks[j]? = some K → ∃ (o : Int) (tgt : Nat), os[j]? = some o ∧ (pc : Int) + o = (tgt : Int) ∧ AT V g b tgt lv st D K
  | [], [], _ => ⟨rfl, fun j K h => by simp at h⟩
  | o :: os, K :: Ks, h => by
    obtain ⟨⟨tgt, e1, e2⟩, h2⟩ := h
    obtain ⟨l1, l2⟩ := aAll_at os Ks h2
    refine ⟨by simp [l1], fun j K' hj => ?_⟩
    cases j with
    | zero => simp at hj; subst hj; exact ⟨o, tgt, rfl, e1, e2⟩
    | succ j => simpa using l2 j K' (by simpa using hj)
  | [], _ :: _, h => h.elim
  | _ :: _, [], h => h.elim
theorem A_tab {dflt lo hi : Int} {offs : Array Int} {len td : Nat} {x : Int32} {Ks : List (Option (ρ × ADD))} {Kd : Option (ρ × ADD)} (hC : AC g b cc own nL ret d) (hd : decode cc pc = .ok (.tableswitch dflt lo hi offs, len)) (hhi : hi = lo + (Ks.length : Int) - 1) (ht : (pc : Int) + dflt = (td : Int)) (kd : AT V g b td lv st D Kd) (ks : aAll V g b pc lv st D offs.toList Ks) : AT V g b pc lv (.int x :: st) D (aTab x lo Ks Kd) := by
  obtain ⟨l1, l2⟩ := aAll_at offs.toList Ks ks
  by_cases hlo : x.toInt < lo
  · rw [aTab, if_pos hlo]
    obtain ⟨n0, dC, dI, cy, ex, w⟩ := g
    obtain ⟨⟨p, l, e, R, s, m, args, below, meth, c⟩, r1, D1⟩ := b
    obtain ⟨hx, hb, -⟩ := hC
    intro hk H ls locs h2 h3 h4 h5
    exact lv_tableOut hx hb hd (Or.inl hlo) ht (kd hk H ls locs h2 h3 h4 h5)
  · rw [aTab, if_neg hlo]
    cases hK : Ks[(x.toInt - lo).toNat]? with
    | none =>
      have h9 : Ks.length ≤ (x.toInt - lo).toNat := List.getElem?_eq_none_iff.mp hK
      obtain ⟨n0, dC, dI, cy, ex, w⟩ := g
      obtain ⟨⟨p, l, e, R, s, m, args, below, meth, c⟩, r1, D1⟩ := b
      obtain ⟨hx, hb, -⟩ := hC
      intro hk H ls locs h2 h3 h4 h5
      exact lv_tableOut hx hb hd (Or.inr (by omega)) ht (kd hk H ls locs h2 h3 h4 h5)
    | some K9 =>
      obtain ⟨o, tgt, e1, e2, e3⟩ := l2 _ _ hK
      have h9 : (x.toInt - lo).toNat < Ks.length := (List.getElem?_eq_some_iff.mp hK).1
      obtain ⟨n0, dC, dI, cy, ex, w⟩ := g
      obtain ⟨⟨p, l, e, R, s, m, args, below, meth, c⟩, r1, D1⟩ := b
      obtain ⟨hx, hb, -⟩ := hC
      intro hk H ls locs h2 h3 h4 h5
      exact lv_tableIn hx hb hd hlo (by omega) (by rw [← Array.getElem?_toList]; exact e1) e2 (e3 hk H ls locs h2 h3 h4 h5)
def aSl : List Value → List (Option Value)
  | [] => []
  | v :: vs => if v.category = 2 then some v :: none :: aSl vs else some v :: aSl vs
def aLoc (nL : Nat) (av : List Value) : List (Option Value) := aSl av ++ List.replicate (nL - (aSl av).length) none
theorem aSl_len : ∀ (av : List Value), (aSl av).length = (lg_sl av).length
  | [] => rfl
  | v :: vs => by
    have h := aSl_len vs
    have h2 : (lg_sl (v :: vs)).length = (if v.category = 2 then 2 else 1) + (lg_sl vs).length := by
      simp only [lg_sl, List.flatMap_cons, List.length_append]
      by_cases hc : v.category = 2 <;> simp [hc]
    rw [h2, aSl]
    by_cases hc : v.category = 2 <;> simp [hc, h] <;> omega
theorem aSl_at : ∀ (vs : List Value) (j i : Nat) (v : Value), (aSl vs)[i]? = some (some v) → (j + i, v) ∈ lv_args j vs
  | [], j, i, v, h => by simp [aSl] at h
  | u :: vs, j, i, v, h => by
    rw [lv_args]
    rw [aSl] at h
    by_cases hc : u.category = 2
    · rw [if_pos hc] at h
      rw [if_pos hc]
      match i, h with
      | 0, h => simp at h; subst h; exact List.mem_cons_self
      | 1, h => simp at h
      | i + 2, h =>
        have h1 := aSl_at vs (j + 2) i v (by simpa using h)
        exact List.mem_cons_of_mem _ (by rw [show j + (i + 2) = j + 2 + i by omega]; exact h1)
    · rw [if_neg hc] at h
      rw [if_neg hc]
      match i, h with
      | 0, h => simp at h; subst h; exact List.mem_cons_self
      | i + 1, h =>
        have h1 := aSl_at vs (j + 1) i v (by simpa using h)
        exact List.mem_cons_of_mem _ (by rw [show j + (i + 1) = j + 1 + i by omega]; exact h1)
theorem aLoc_lv {nL : Nat} {av : List Value} (h : (aSl av).length ≤ nL) : aLv ((lg_sl av ++ List.replicate (nL - (lg_sl av).length) Slot.unset).toArray) (aLoc nL av) := by
  have h1 := lv_entry av (n := nL) (by rw [← aSl_len]; exact h)
  refine ⟨by rw [h1.1, aLoc, List.length_append, List.length_replicate]; omega, h1.2.1, fun i v hi => ?_⟩
  have h2 : (aSl av)[i]? = some (some v) := by
    rw [aLoc] at hi
    by_cases hl : i < (aSl av).length
    · rwa [List.getElem?_append_left hl] at hi
    · rw [List.getElem?_append_right (by omega), List.getElem?_replicate] at hi
      split at hi <;> cases hi
  have h3 := h1.2.2 (0 + i, v) (aSl_at av 0 i v h2)
  simpa using h3
/-- a contract out of the walk of the body -/
theorem AM_of {l : Launch} {y : MethodName} {av : List Value} {lv0 : List (Option Value)} {k : Option (ρ × ADD)} (hy : plainName y.cls = true) (ho : y.cls = own) (hl : (aSl av).length ≤ nL) (hlv : aLoc nL av = lv0) (h : ∀ b : ABn, AC g b cc own nL ret d → AT V g b 0 lv0 [] D k) : AM V l y cc nL ret d g av D k := by
  intro x D1 hk
  obtain ⟨n0, dC, dI, cy, ex, w⟩ := g
  refine Met.ofW (cc := cc) (maxL := nL) (ret := ret) hy rfl ?_
  intro p e s m args below meth c s₁ B hml hv
  obtain ⟨rfl, hsz, hP, hD, hK, hE⟩ := hv
  have hts := atoms_spec (ws := .code y cc nL ret :: aT) B.pre
  have h9 := h ((p, l, e, aRm d, s, m, av.toArray, below, meth, c), (V x, D1)) ⟨B.exec, B.bytes, hml, by rw [← ho]; exact findClass_of_methodNamed B.named, fun q hq => hts q (List.mem_cons_of_mem _ hq), B.returns, B.notSynchronized, rfl, hK, hE, hsz⟩ ⟨x, hk, rfl⟩ s.heap _ [] hP hD va_S.rf (by rw [← hlv]; exact aLoc_lv hl)
  rw [lg_entry_eq]
  exact h9
end A4
