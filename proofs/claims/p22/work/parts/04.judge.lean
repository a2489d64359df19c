/-! THE JUDGEMENT: a method's bytecode against a functional model (an Option-valued term: none where the machine would throw). A world's data are two functions (ints, longs) of a cell's number and a place. -/
abbrev ASh : Type := Nat × Nat × (Nat → Option Nat)
abbrev ADD : Type := (Nat → Nat → Int32) × (Nat → Nat → Int64)
abbrev AWS : Type := Nat × List Nat × (Nat → ASh)
abbrev AEx : Type := Nat × Nat × (Nat → Nat) × (Nat → Nat)
abbrev AGl : Type := Nat × (Nat → ClassId) × (Nat → Nat → Nat) × (Nat → ClassId) × AEx × AWS
abbrev AMc : Type := Program × Launch × Env × Room × State × MethodId × Array Value × List Frame × Method × Code
abbrev ABn : Type := AMc × (Option Value × ADD)
/-- the tables' words that a call may hand on -/
def aT : List Cond := lw_tbl.filter goodWord
theorem aT_in {w : Cond} (i : Nat) (h : tables_1[i]? = some w) (hg : goodWord w = true) : w ∈ aT := List.mem_filter.mpr ⟨List.mem_append_right _ (List.mem_of_getElem? h), hg⟩
theorem aT_sel {w : Cond} (i : Nat) (h : (k2_sels lw_privs)[i]? = some w) (hg : goodWord w = true) : w ∈ aT := List.mem_filter.mpr ⟨List.mem_append_left _ (List.mem_of_getElem? h), hg⟩
theorem aT_good (l : List Cond) (h : ∀ w ∈ l, w ∈ aT) : GoodIn aT l := fun w hw => ⟨h w hw, good_of_word (List.mem_filter.mp (h w hw)).2⟩
/-- how many fields an object of vwCl's number c has; which of them are references -/
def aNF (c : Nat) : Nat := match vwCl[c]? with
  | some q => q.2.2
  | none => 0
def aFk (c : Nat) : List Nat := match c with
  | 0 => [1, 1, 1, 1, 1, 1, 1, 1, 0, 0, 0, 0, 0]
  | 1 => [0, 0, 0, 0, 0]
  | 2 => [1]
  | 3 => [0, 1, 1, 1, 1, 1, 1]
  | 4 => [1, 0, 0, 1, 0, 0, 0, 0]
  | 5 => [0, 1, 1, 1, 1, 1, 1, 1, 1]
  | 6 => [0, 0, 1, 1, 1, 0, 1]
  | 7 => [1, 1, 1, 1, 1, 0, 0]
  | 8 => [1, 0]
  | 9 => [1, 1, 1, 1, 1, 1, 1]
  | _ => [0, 1, 1, 1, 1, 1, 1, 1, 1, 1, 1, 1, 1, 1, 1, 1, 1, 1, 1, 1, 1, 1, 1, 0, 0, 0, 0, 0, 2, 0, 0, 0, 0, 1, 1, 1, 1, 1, 1, 1, 1, 0, 1, 1, 1, 1, 1, 1, 1, 1, 1]
def aRef (c k : Nat) : Nat := (aFk c).getD k 0
def aFv (s : ASh) (D : ADD) (a k : Nat) : Value := if aRef s.1 k = 0 then .int (D.1 a k) else if aRef s.1 k = 1 then va_rf (s.2.2 k) else .long (D.2 a k)
/-- a cell by its shape: 0 .. 10 an object, 11 ints, 12 longs, 13 bytes, 14 booleans, 15 States -/
def aPic (cy : Nat → ClassId) (s : ASh) (D : ADD) (a : Nat) : va_E :=
  if s.1 = 11 then .inl (cy 0, s.2.1, .inl (D.1 a))
  else if s.1 = 12 then .inl (cy 1, s.2.1, .inr (.inl (D.2 a)))
  else if s.1 = 13 then .inl (cy 2, s.2.1, .inl (fun j => vp_nar .byte (D.1 a j)))
  else if s.1 = 14 then .inl (cy 3, s.2.1, .inl (fun j => vp_nar .boolean (D.1 a j)))
  else if s.1 = 15 then .inl (cy 4, s.2.1, .inr (.inr (.inr (.inr s.2.2))))
  else .inr (s.1, (List.range (aNF s.1)).map (aFv s D a))
def aW (n0 : Nat) (cy : Nat → ClassId) (w : AWS) (D : ADD) : va_W := w.2.1.map (fun k => (n0 + k, aPic cy (w.2.2 k) D k))
def aTys (cy : Nat → ClassId) : List (ClassId × FieldType) := [(cy 0, .int), (cy 1, .long), (cy 2, .byte), (cy 3, .boolean), (cy 4, .object "StonesOfWeight$State")]
/-- which old cells a method may change: its world's, and new ones -/
def aA (n0 : Nat) (w : AWS) : Nat → Prop := fun q => (∃ k ∈ w.2.1, q = n0 + k) ∨ n0 + w.1 ≤ q
def aSI (D : ADD) (o j : Nat) (x : Int32) : ADD := (fun a k => if a = o ∧ k = j then x else D.1 a k, D.2)
def aSL (D : ADD) (o j : Nat) (x : Int64) : ADD := (D.1, fun a k => if a = o ∧ k = j then x else D.2 a k)
/-- words of the models -/
def aLet {α β : Type} (x : α) (K : α → β) : β := K x
def aIn {α : Type} (i : Int32) (n : Nat) (K : Option α) : Option α := if i < 0 ∨ n ≤ i.toNatClampNeg then none else K
def aNZ {α : Type} (y : Int32) (K : Option α) : Option α := if y = 0 then none else K
def aNZl {α : Type} (y : Int64) (K : Option α) : Option α := if y = 0 then none else K
def aZ {α : Type} (v : Int32) (K : Option α) : Option α := if v = 0 ∨ v = 1 then K else none
def aBind {α β : Type} (f : Option (α × ADD)) (K : α → ADD → Option β) : Option β := match f with
  | none => none
  | some q => K q.1 q.2
def aFix {α : Type} : Nat → (α → α) → α → α
  | 0, _, z => z
  | n + 1, F, z => F (aFix n F z)
def aFuel : Nat := 1000000
def aB (x : Int32) : Int32 := vp_nar .byte x
def aBz (x : Int32) : Int32 := vp_nar .boolean x
def aCmp (x y : Int64) : Int32 := lg_cmp x y
def aTab {α : Type} (x : Int32) (lo : Int) (Ks : List (Option α)) (Kd : Option α) : Option α := if x.toInt < lo then Kd else (match Ks[(x.toInt - lo).toNat]? with
  | some K => K
  | none => Kd)
def aVi : Int32 → Option Value := fun x => some (.int x)
def aVl : Int64 → Option Value := fun x => some (.long x)
def aVv : Unit → Option Value := fun _ => none
/-- what lies outside the worlds: the two static arrays, the eight texts -/
def aLeast : List Int32 := [1, 0, 0, 0, 0, -3000, -3000, 0, 0, 0, 0]
def aMost : List Int32 := [30000, 4, 3, 2000, 5, 1900, 1900, 60, 9, 1, 8]
def aChars (t : String) : List Int32 := t.toList.map (fun c => Int32.ofNat c.toNat)
def aTexts : List (Nat × String) := [(66, "if"), (86, "not"), (88, "many near mean chance tried place towns marks"), (90, "stuff chips lead town mark owner age"), (84, "and"), (113, "sure likely open against"), (115, "more less stop"), (125, "to")]
def aNestF : List (Nat × String) := [(79, "FACT_LEAST"), (82, "FACT_MOST")]
def aNestM : List (String × Nat × String) := [("StonesOfWeight", 9, "StonesOfWeight$State"), ("StonesOfWeight$State", 11, "StonesOfWeight$Book"), ("StonesOfWeight$State", 20, "StonesOfWeight$Tape"), ("StonesOfWeight$State", 27, "StonesOfWeight$Rules"), ("StonesOfWeight$State", 37, "StonesOfWeight$Choice"), ("StonesOfWeight$Reader", 11, "StonesOfWeight$Rules"), ("StonesOfWeight", 35, "StonesOfWeight$Pile"), ("StonesOfWeight", 42, "StonesOfWeight$Search"), ("StonesOfWeight", 49, "StonesOfWeight$Odds")]
def aBytes : List (List Int32) := aTexts.map (fun q => aChars q.2)
def aEX (ex : AEx) (n0 : Nat) (U : State) : Prop :=
  va_Z "StonesOfWeight" "FACT_LEAST" "[I" (.ref ex.1) (fun q => n0 ≤ q) U U.heap ∧ va_T .int ex.1 11 (fun j => .int (aLeast.getD j 0)) (fun q => n0 ≤ q) U U.heap ∧
  va_Z "StonesOfWeight" "FACT_MOST" "[I" (.ref ex.2.1) (fun q => n0 ≤ q) U U.heap ∧ va_T .int ex.2.1 11 (fun j => .int (aMost.getD j 0)) (fun q => n0 ≤ q) U U.heap ∧
  va_Z "java/lang/String" "COMPACT_STRINGS" "Z" (.int 1) (fun q => n0 ≤ q) U U.heap ∧
  va_Zq "jdk/internal/util/Preconditions" "SIOOBE_FORMATTER" "Ljava/util/function/BiFunction;" (fun q => n0 ≤ q) U U.heap ∧
  (∀ q ∈ aNestF, va_Nw (.fieldLinkNest "StonesOfWeight$Book" q.1 "StonesOfWeight" q.2 "[I" "StonesOfWeight") U) ∧
  (∀ q ∈ aNestM, va_Nw (.methodLinkNest q.1 q.2.1 ⟨q.2.2, "<init>", "()V"⟩ "StonesOfWeight") U) ∧
  va_AO "StonesOfWeight$State" U ∧
  vk_S 8 (aTexts.map (fun q => q.2.length)) aBytes ex.2.2.1 ex.2.2.2 (fun q => n0 ≤ q) U U.heap ∧
  ∀ (i : Nat) (q : Nat × String), aTexts[i]? = some q → vk_R "StonesOfWeight$Reader" q.1 q.2 (ex.2.2.1 i) U
/-- locals, by place -/
def aLv (ls : Array Slot) (lv : List (Option Value)) : Prop := ls.size = lv.length ∧ lv_wf ls ∧ ∀ (i : Nat) (v : Value), lv[i]? = some (some v) → ls[i]? = some (.val v)
def aRm (d : Nat) : Room := { frames := d, cells := 0, slots := 0, locals := 40 * d }
def aQ (g : AGl) (r : Option Value) (D1 : ADD) : Array Value → State → Outcome → State → Prop := match g with
  | (n0, dC, dI, cy, _, w) => fun _ st oc t => oc = .returned r ∧ t.heap.size = n0 + w.1 ∧ va_P (dC, dI) vwCl (aW n0 cy w D1) t.heap ∧ va_F (aA n0 w) st t
/-- a method's surroundings: its code, the tables, its room; depth d -/
def AC (g : AGl) (b : ABn) (cc : ByteArray) (own : String) (nL : Nat) (ret : Option FieldType) (d : Nat) : Prop := match g, b with
  | (n0, dC, dI, cy, ex, w), ((p, _, _, R, s, m, args, _, meth, c), _) => p.tables.exec = Jvm.exec ∧ c.code = cc ∧ c.maxLocals = nL ∧ s.vm.findClass own = some m.cls ∧ (∀ q ∈ aT, q.before args s = true) ∧ meth.sig.returnType = ret ∧ meth.locks = false ∧ R = aRm d ∧ va_K (dC, dI) vwCl (aTys cy) s ∧ aEX ex n0 s ∧ s.heap.size = n0 + w.1
def AT {ρ : Type} (V : ρ → Option Value) (g : AGl) (b : ABn) (pc : Nat) (lv : List (Option Value)) (st : List Value) (D : ADD) (k : Option (ρ × ADD)) : Prop := match g, b with
  | (n0, dC, dI, cy, ex, w), ((p, l, e, R, s, m, args, below, meth, c), (r1, D1)) =>
    (∃ x, k = some (x, D1) ∧ V x = r1) → ∀ (H : Heap) (ls : Array Slot) (locs : List Loc), va_P (dC, dI) vwCl (aW n0 cy w D) H → va_D (aA n0 w) (aW n0 cy w D) → va_S (aA n0 w) s.heap H locs → aLv ls lv →
      W p l e R s m args below meth c H locs 0 0 (MQ below (aQ (n0, dC, dI, cy, ex, w) r1 D1) args s 0 0 (aA n0 w)) (F0 m pc ls st)
/-- a cell of the world and its shape -/
def aAt (g : AGl) (o : Nat) (S : ASh) : Prop := o ∈ g.2.2.2.2.2.2.1 ∧ g.2.2.2.2.2.2.2 o = S
/-- what a method's world is at its start -/
def aWD (g : AGl) (D : ADD) (U : State) : Prop := match g with
  | (n0, dC, dI, cy, ex, w) => U.heap.size = n0 + w.1 ∧ va_P (dC, dI) vwCl (aW n0 cy w D) U.heap ∧ va_D (aA n0 w) (aW n0 cy w D) ∧ va_K (dC, dI) vwCl (aTys cy) U ∧ aEX ex n0 U
/-- a method's contract: where the model answers, the method does -/
def AM {ρ : Type} (V : ρ → Option Value) (l : Launch) (y : MethodName) (cc : ByteArray) (nL : Nat) (ret : Option FieldType) (d : Nat) (g : AGl) (av : List Value) (D : ADD) (k : Option (ρ × ADD)) : Prop :=
  ∀ (x : ρ) (D1 : ADD), k = some (x, D1) → Met l y (.code y cc nL ret :: aT) (aRm d) (va_Pc av (aWD g D)) (aQ g (V x) D1) 0 0 (aA g.1 g.2.2.2.2.2)
/-- a class's table -/
def aCl (ci : Nat) (C : String) (T : u_T) (N : Nat) (ty : Nat → FieldType) : Prop := vwCl[ci]? = some (C, T, N) ∧ (∀ w ∈ u_ws C T N, w ∈ aT) ∧ (∀ k, k < N → parseFieldDescriptor (T k).2.2.1 = some (ty k)) ∧ ∀ a, a < N → ∀ b, b < N → a ≠ b → (T a).2.1 ≠ (T b).2.1
/-! lemmas of the world -/
theorem aW_get {n0 : Nat} {cy : Nat → ClassId} {w : AWS} {D : ADD} {k : Nat} (h : k ∈ w.2.1) : ∃ j : Nat, (aW n0 cy w D)[j]? = some (n0 + k, aPic cy (w.2.2 k) D k) := by
  apply List.getElem?_of_mem
  exact List.mem_map.mpr ⟨k, h, rfl⟩
theorem aW_set {n0 : Nat} {cy : Nat → ClassId} {w : AWS} {D D' : ADD} {A : Nat → Prop} {k j : Nat} {e0 e : va_E} (hD : va_D A (aW n0 cy w D)) (hj : (aW n0 cy w D)[j]? = some (n0 + k, e0)) (hp : aPic cy (w.2.2 k) D' k = e) (ho : ∀ i, i ≠ k → aPic cy (w.2.2 i) D' i = aPic cy (w.2.2 i) D i) : (aW n0 cy w D).set j (n0 + k, e) = aW n0 cy w D' := by
  have hl := (List.getElem?_eq_some_iff.mp hj).1
  apply List.ext_getElem?
  intro i
  by_cases hi : i = j
  · subst hi
    rw [List.getElem?_set_self hl]
    have h1 := hj
    simp only [aW, List.getElem?_map] at h1 ⊢
    cases hx : w.2.1[i]? with
    | none => rw [hx] at h1; cases h1
    | some q =>
      rw [hx] at h1
      have h2 : n0 + q = n0 + k := congrArg Prod.fst (Option.some.inj h1)
      have h3 : q = k := by omega
      subst h3
      simp [hp]
  · rw [List.getElem?_set_ne (Ne.symm hi)]
    simp only [aW, List.getElem?_map]
    cases hx : w.2.1[i]? with
    | none => rfl
    | some q =>
      have hq : q ≠ k := by
        intro hqk
        subst hqk
        exact hi (hD.1 i j _ _ (show (aW n0 cy w D)[i]? = some (n0 + q, aPic cy (w.2.2 q) D q) by simp only [aW, List.getElem?_map, hx]; rfl) hj rfl)
      simp [ho q hq]
theorem aD_any {n0 : Nat} {cy : Nat → ClassId} {w : AWS} {D D' : ADD} {A : Nat → Prop} (hD : va_D A (aW n0 cy w D)) : va_D A (aW n0 cy w D') := by
  have key : ∀ (k : Nat) (q : Nat × va_E), (aW n0 cy w D')[k]? = some q → ∃ q0, (aW n0 cy w D)[k]? = some q0 ∧ q0.1 = q.1 := by
    intro k q hk
    simp only [aW, List.getElem?_map] at hk ⊢
    cases hx : w.2.1[k]? with
    | none => rw [hx] at hk; cases hk
    | some a =>
      rw [hx] at hk
      exact ⟨_, rfl, by rw [← Option.some.inj hk]⟩
  refine ⟨fun i j x y hi hj hxy => ?_, fun k q hk => ?_⟩
  · obtain ⟨x0, h1, h2⟩ := key i x hi
    obtain ⟨y0, h3, h4⟩ := key j y hj
    exact hD.1 i j x0 y0 h1 h3 (h2.trans (hxy.trans h4.symm))
  · obtain ⟨q0, h1, h2⟩ := key k q hk
    rw [← h2]
    exact hD.2 k q0 h1
theorem aPic_I {cy : Nat → ClassId} {s : ASh} {D : ADD} {o j : Nat} {x : Int32} {i : Nat} (h : i ≠ o) : aPic cy s (aSI D o j x) i = aPic cy s D i := by
  have h1 : (aSI D o j x).1 i = D.1 i := by funext k; simp [aSI, h]
  have h2 : aFv s (aSI D o j x) i = aFv s D i := by funext k; simp only [aFv, h1]; rfl
  have h3 : (aSI D o j x).2 = D.2 := rfl
  simp only [aPic, h1, h2, h3]
theorem aPic_L {cy : Nat → ClassId} {s : ASh} {D : ADD} {o j : Nat} {x : Int64} {i : Nat} (h : i ≠ o) : aPic cy s (aSL D o j x) i = aPic cy s D i := by
  have h1 : (aSL D o j x).2 i = D.2 i := by funext k; simp [aSL, h]
  have h2 : aFv s (aSL D o j x) i = aFv s D i := by funext k; simp only [aFv, h1]; rfl
  have h3 : (aSL D o j x).1 = D.1 := rfl
  simp only [aPic, h1, h2, h3]
theorem aPic_obj {cy : Nat → ClassId} {s : ASh} {D : ADD} {a : Nat} (h : s.1 < 11) : aPic cy s D a = .inr (s.1, (List.range (aNF s.1)).map (aFv s D a)) := by
  unfold aPic
  rw [if_neg (by omega), if_neg (by omega), if_neg (by omega), if_neg (by omega), if_neg (by omega)]
theorem aEX_warm {ex : AEx} {n0 : Nat} {w : AWS} {s U : State} {H : Heap} {locs : List Loc} (h : aEX ex n0 s) (hs : s.heap.size = n0 + w.1) (hS : va_S (aA n0 w) s.heap H locs) (hH : U.heap = H) (hW : s.WarmedH U.vm) : aEX ex n0 U := by
  obtain ⟨h1, h2, h3, h4, h5, h8, h9, h10, h11, h6, h7⟩ := h
  have hq : ∀ a : Nat, a < s.heap.size → ¬ n0 ≤ a → U.heap[a]? = s.heap[a]? := by
    intro a ha hn
    rw [hH]
    refine hS.2.1 a ha ?_
    intro hA
    rcases hA with ⟨k, -, e⟩ | e <;> omega
  exact ⟨(va_Z.moved hW.alike h1).kept hq, (va_T.moved hW.alike h2).kept hq, (va_Z.moved hW.alike h3).kept hq, (va_T.moved hW.alike h4).kept hq, (va_Z.moved hW.alike h5).kept hq, (va_Zq.moved hW.alike h8).kept hq, fun q h => (h9 q h).warmF hW, fun q h => (h10 q h).warmM hW, va_AO.moved hW.alike h11, (vk_S.moved hW.alike h6).kept hq, fun i q hi => (h7 i q hi).warm hW⟩
/-! locals -/
def aEn : Nat → List (Option Value) → List (Nat × Value)
  | _, [] => []
  | i, none :: l => aEn (i + 1) l
  | i, some v :: l => (i, v) :: aEn (i + 1) l
theorem aEn_mem : ∀ (l : List (Option Value)) (i : Nat) (q : Nat × Value), q ∈ aEn i l ↔ ∃ j, q.1 = i + j ∧ l[j]? = some (some q.2)
  | [], i, q => by simp [aEn]
  | none :: l, i, q => by
    rw [aEn, aEn_mem l (i + 1) q]
    constructor
    · rintro ⟨j, h1, h2⟩; exact ⟨j + 1, by omega, by simpa using h2⟩
    · rintro ⟨j, h1, h2⟩
      cases j with
      | zero => simp at h2
      | succ j => exact ⟨j, by omega, by simpa using h2⟩
  | some v :: l, i, q => by
    rw [aEn, List.mem_cons, aEn_mem l (i + 1) q]
    constructor
    · rintro (h | ⟨j, h1, h2⟩)
      · subst h; exact ⟨0, rfl, rfl⟩
      · exact ⟨j + 1, by omega, by simpa using h2⟩
    · rintro ⟨j, h1, h2⟩
      cases j with
      | zero =>
        left
        simp at h2
        obtain ⟨a, b⟩ := q
        simp only at h1 h2
        simp [h1, h2]
      | succ j => right; exact ⟨j, by omega, by simpa using h2⟩
theorem aLv_has {ls : Array Slot} {lv : List (Option Value)} (h : aLv ls lv) : lv_has ls lv.length (aEn 0 lv) := by
  refine ⟨h.1, h.2.1, fun q hq => ?_⟩
  obtain ⟨j, h1, h2⟩ := (aEn_mem lv 0 q).mp hq
  rw [h1, Nat.zero_add]
  exact h.2.2 j q.2 h2
/-- is the place below free of a long -/
def aOk (lv : List (Option Value)) (i : Nat) : Bool := match i with
  | 0 => true
  | j + 1 => match lv[j]? with
    | some (some v) => v.category == 1
    | _ => true
theorem aLv_1 {ls : Array Slot} {lv : List (Option Value)} {i : Nat} {v : Value} (hi : i < lv.length) (hok : aOk lv i = true) (h : lv_has ls lv.length ((i, v) :: (aEn 0 lv).filter (fun q => !(q.1 == i) && !(q.1 + 1 == i && q.2.category == 2)))) : aLv ls (lv.set i (some v)) := by
  refine ⟨by rw [List.length_set]; exact h.1, h.2.1, fun j u hj => ?_⟩
  by_cases hji : j = i
  · subst hji
    rw [List.getElem?_set_self hi] at hj
    cases hj
    exact h.2.2 (j, v) List.mem_cons_self
  · rw [List.getElem?_set_ne (Ne.symm hji)] at hj
    refine h.2.2 (j, u) (List.mem_cons_of_mem _ (List.mem_filter.mpr ⟨(aEn_mem lv 0 (j, u)).mpr ⟨j, by simp, hj⟩, ?_⟩))
    by_cases h2 : j + 1 = i
    · subst h2
      simp only [aOk, hj] at hok
      have : u.category = 1 := by simpa using hok
      simp [this]
    · simp [hji, h2]
theorem aLv_2 {ls : Array Slot} {lv : List (Option Value)} {i : Nat} {v : Value} (hi : i + 1 < lv.length) (hok : aOk lv i = true) (h : lv_has ls lv.length ((i, v) :: (aEn 0 lv).filter (fun q => !(q.1 == i) && (!(q.1 == i + 1) && !(q.1 + 1 == i && q.2.category == 2))))) : aLv ls ((lv.set i (some v)).set (i + 1) none) := by
  refine ⟨by rw [List.length_set, List.length_set]; exact h.1, h.2.1, fun j u hj => ?_⟩
  by_cases hj1 : j = i + 1
  · subst hj1
    rw [List.getElem?_set_self (by rw [List.length_set]; omega)] at hj
    cases hj
  · rw [List.getElem?_set_ne (Ne.symm hj1)] at hj
    by_cases hji : j = i
    · subst hji
      rw [List.getElem?_set_self (by omega)] at hj
      cases hj
      exact h.2.2 (j, v) List.mem_cons_self
    · rw [List.getElem?_set_ne (Ne.symm hji)] at hj
      refine h.2.2 (j, u) (List.mem_cons_of_mem _ (List.mem_filter.mpr ⟨(aEn_mem lv 0 (j, u)).mpr ⟨j, by simp, hj⟩, ?_⟩))
      by_cases h2 : j + 1 = i
      · subst h2
        simp only [aOk, hj] at hok
        have : u.category = 1 := by simpa using hok
        simp [this, hj1]
      · simp [hji, h2, hj1]
def aLe : List (Option Value) → List (Option Value) → Prop
  | [], [] => True
  | none :: a, _ :: b => aLe a b
  | some v :: a, some u :: b => v = u ∧ aLe a b
  | _, _ => False
theorem aLe_at : ∀ (a b : List (Option Value)), aLe a b → a.length = b.length ∧ ∀ (i : Nat) (v : Value), a[i]? = some (some v) → b[i]? = some (some v)
  | [], [], _ => ⟨rfl, fun i v h => by simp at h⟩
  | none :: a, x :: b, h => by
    obtain ⟨h1, h2⟩ := aLe_at a b h
    refine ⟨by simp [h1], fun i v hi => ?_⟩
    cases i with
    | zero => simp at hi
    | succ i => simpa using h2 i v (by simpa using hi)
  | some u :: a, some w :: b, h => by
    obtain ⟨h1, h2⟩ := aLe_at a b h.2
    have h0 : u = w := h.1
    subst h0
    refine ⟨by simp [h1], fun i v hi => ?_⟩
    cases i with
    | zero => simpa using hi
    | succ i => simpa using h2 i v (by simpa using hi)
  | [], _ :: _, h => h.elim
  | some _ :: _, [], h => h.elim
  | none :: _, [], h => h.elim
  | some _ :: _, none :: _, h => h.elim
theorem aLv_le {ls : Array Slot} {a b : List (Option Value)} (h : aLe a b) (hb : aLv ls b) : aLv ls a := by
  obtain ⟨h1, h2⟩ := aLe_at a b h
  exact ⟨hb.1.trans h1.symm, hb.2.1, fun i v hi => hb.2.2 i v (h2 i v hi)⟩
