/-! THE LAW: two worlds, x's from n0 on, m's from n0 + 58 on -/
abbrev LQ : Type := Program × Launch × Env × State × MethodId × List Frame × Method × Code
abbrev LG : Type := (Nat → ClassId) × (Nat → Nat → Nat) × (Nat → ClassId) × AEx
def mSh (n1 : Nat) (k : Nat) : ASh := ((mTab n1).map Prod.snd).getD k (0, 0, fun _ => none)
def lM (n0 N : Nat) : AWS := (N - 58, List.range 40, mSh (n0 + 58))
def LC (q : LQ) (b L : Nat) (xs : Nat → Int32) (G : LG) : Prop := match q, G with
  | (p, _, _, s, m, _, meth, c), (dC, dI, cy, ex) => lw_At p s m meth c b L xs ∧ va_K (dC, dI) vwCl (aTys cy) s ∧ aEX ex s.heap.size s
def AL (q : LQ) (b : Nat) (G : LG) (cl sl pc : Nat) (lv : List (Option Value)) (st : List Value) (P : APD) (Dm : ADD) : Prop := match q, G with
  | (p, l, e, s, m, below, meth, c), (dC, dI, cy, _) =>
    ∀ (H : Heap) (ls : Array Slot) (locs : List Loc), H.size = s.heap.size + P.1.1 → va_P (dC, dI) vwCl (aW s.heap.size cy P.1 P.2) H → va_P (dC, dI) vwCl (aW (s.heap.size + 58) cy (lM s.heap.size P.1.1) Dm) H → va_D (fun q => s.heap.size ≤ q) (aW s.heap.size cy P.1 P.2) → va_S (fun q => s.heap.size ≤ q) s.heap H locs → aLv ls lv →
      W p l e room_1 s m #[Value.ref b] below meth c H locs cl sl (lw_Z below #[Value.ref b] s) (F0 m pc ls st)
def LB (q : LQ) : Nat := q.2.2.2.1.heap.size
def LLay (P : APD) : Prop := 98 ≤ P.1.1 ∧ ∀ k ∈ P.1.2.1, (k < 58 ∨ 98 ≤ k) ∧ k < P.1.1
theorem W_run {p : Program} {l : Launch} {e : Env} {R : Room} {s : State} {m : MethodId} {args : Array Value} {below : List Frame} {meth : Method} {c : Code} {H : Heap} {locs : List Loc} {cl sl mc ms pc : Nat} {ls : Array Slot} {stk st : List Value} {Qa : State → Outcome → State → Prop} {free : Addr → Prop} {Q : State → Prop} (hR : va_Run p l e R s m args below meth c H locs cl sl mc ms (F0 m pc ls stk) st Qa free) (kk : ∀ (v : Option Value) (st₀ t : State) (H1 : Heap) (L : List Loc), st₀.heap = H → (∀ q ∈ L, free q.base) → H1 = t.heap → Qa st₀ (.returned v) t → W p l e R s m args below meth c H1 (locs ++ L) (cl + mc) (sl + ms) Q (F0 m (pc + 3) ls (v.toList ++ st))) : W p l e R s m args below meth c H locs cl sl Q (F0 m pc ls stk) := by
  intro T hT X
  obtain ⟨v, st₀, t, T', L, e0, X', hL, e1, e2, hq, go⟩ := hR T hT X
  obtain ⟨t2, a1, b1⟩ := kk v st₀ t T'.heap L e0 hL e1 hq T' rfl X'
  exact ⟨t2, go t2 a1, b1⟩
theorem aD_ge {n0 : Nat} {cy : Nat → ClassId} {w : AWS} {D : ADD} {B : Nat → Prop} (h : va_D B (aW n0 cy w D)) : va_D (aA n0 w) (aW n0 cy w D) := by
  refine ⟨h.1, fun k q hk => ?_⟩
  have hk2 := hk
  simp only [aW, List.getElem?_map] at hk2
  cases hx9 : w.2.1[k]? with
  | none => rw [hx9] at hk2; cases hk2
  | some a9 =>
    rw [hx9] at hk2
    exact Or.inl ⟨a9, List.mem_of_getElem? hx9, by rw [← Option.some.inj hk2]⟩
theorem mD_ok {n1 : Nat} {cy : Nat → ClassId} {N : Nat} {f : Nat → ASh} {D : ADD} : va_D (aA n1 (N, List.range 40, f)) (aW n1 cy (N, List.range 40, f) D) := by
  have key : ∀ (k : Nat) (q : Nat × va_E), (aW n1 cy (N, List.range 40, f) D)[k]? = some q → q.1 = n1 + k ∧ k < 40 := by
    intro k q hk
    simp only [aW, List.getElem?_map] at hk
    cases hx : (List.range 40)[k]? with
    | none => rw [hx] at hk; cases hk
    | some a =>
      obtain ⟨h2, h3⟩ := (List.getElem?_eq_some_iff.mp hx)
      have ha : a = k := by simpa using h3.symm
      subst ha
      rw [hx] at hk
      exact ⟨by rw [← Option.some.inj hk], by simpa using h2⟩
  refine ⟨fun i j x y hi hj hxy => ?_, fun k q hk => ?_⟩
  · have h1 := (key i x hi).1
    have h2 := (key j y hj).1
    omega
  · obtain ⟨h1, h2⟩ := key k q hk
    exact Or.inl ⟨k, List.mem_range.mpr h2, h1⟩
theorem mTab_at {n1 : Nat} : ∀ i, i < 40 → (mTab n1)[i]? = some (i, mSh n1 i)
  | 0, _ => rfl
  | 1, _ => rfl
  | 2, _ => rfl
  | 3, _ => rfl
  | 4, _ => rfl
  | 5, _ => rfl
  | 6, _ => rfl
  | 7, _ => rfl
  | 8, _ => rfl
  | 9, _ => rfl
  | 10, _ => rfl
  | 11, _ => rfl
  | 12, _ => rfl
  | 13, _ => rfl
  | 14, _ => rfl
  | 15, _ => rfl
  | 16, _ => rfl
  | 17, _ => rfl
  | 18, _ => rfl
  | 19, _ => rfl
  | 20, _ => rfl
  | 21, _ => rfl
  | 22, _ => rfl
  | 23, _ => rfl
  | 24, _ => rfl
  | 25, _ => rfl
  | 26, _ => rfl
  | 27, _ => rfl
  | 28, _ => rfl
  | 29, _ => rfl
  | 30, _ => rfl
  | 31, _ => rfl
  | 32, _ => rfl
  | 33, _ => rfl
  | 34, _ => rfl
  | 35, _ => rfl
  | 36, _ => rfl
  | 37, _ => rfl
  | 38, _ => rfl
  | 39, _ => rfl
  | n + 40, h => absurd h (by omega)
theorem mL_ok {n1 N : Nat} {dC : Nat → ClassId} {dI : Nat → Nat → Nat} {cy : Nat → ClassId} {ex : AEx} : aLM (n1, dC, dI, cy, ex, (N, List.range 40, mSh n1)) := by
  intro k S hk
  obtain ⟨i, hi⟩ := List.getElem?_of_mem hk
  have hl : i < 40 := by
    have := (List.getElem?_eq_some_iff.mp hi).1
    exact this
  rw [mTab_at i hl] at hi
  cases hi
  exact ⟨List.mem_range.mpr hl, rfl⟩
theorem aEX_up {ex : AEx} {n0 n1 : Nat} {s : State} (h : n0 ≤ n1) (hE : aEX ex n0 s) : aEX ex n1 s := by
  obtain ⟨h1, h2, h3, h4, h5, h6, h7, h8, h9, h10, h11⟩ := hE
  have hAB : ∀ q, (fun q => n1 ≤ q) q → (fun q => n0 ≤ q) q := fun q hq => Nat.le_trans h hq
  exact ⟨h1.narrow hAB, h2.narrow hAB, h3.narrow hAB, h4.narrow hAB, h5.narrow hAB, h6.narrow hAB, h7, h8, h9, h10.narrow hAB, h11⟩
theorem aEX_at {ex : AEx} {n0 n1 : Nat} {s U : State} {H : Heap} {locs : List Loc} (h : aEX ex n0 s) (hn : n0 ≤ n1) (hs : n0 = s.heap.size) (hS : va_S (fun q => n0 ≤ q) s.heap H locs) (hH : U.heap = H) (hW : s.WarmedH U.vm) : aEX ex n1 U := by
  refine aEX_up hn ?_
  refine aEX_warm (w := (0, [], fun _ => (0, 0, fun _ => none))) (locs := locs) h (by show s.heap.size = n0 + 0; omega) ?_ hH hW
  refine ⟨hS.1, fun q h1 h2 => hS.2.1 q h1 (fun h3 => h2 (Or.inr (by show n0 + 0 ≤ q; omega))), fun q hq => Or.inr (by have := hS.2.2 q hq; show n0 + 0 ≤ q.base; omega)⟩
section L1
variable {q : LQ} {b L : Nat} {xs : Nat → Int32} {G : LG} {cl sl pc : Nat} {lv : List (Option Value)} {st : List Value} {P : APD} {Dm : ADD}
theorem L_iadd {x y : Int32} (hC : LC q b L xs G) (hd : decode code pc = .ok (.iadd, 1)) (kk : AL q b G cl sl (pc + 1) lv (.int (x + y) :: st) P Dm) : AL q b G cl sl pc lv (.int y :: .int x :: st) P Dm := by
  obtain ⟨p, l, e, s, m, below, meth, c⟩ := q
  obtain ⟨dC, dI, cy, ex⟩ := G
  obtain ⟨⟨hx, hb, hr, hml, hown, hts, hX, hbl, hlocks, hgv⟩, hK, hE⟩ := hC
  intro H ls locs h1 h2 h6 h3 h4 h5
  exact lv_iadd hx hb hd (kk H ls locs h1 h2 h6 h3 h4 h5)
theorem L_isub {x y : Int32} (hC : LC q b L xs G) (hd : decode code pc = .ok (.isub, 1)) (kk : AL q b G cl sl (pc + 1) lv (.int (x - y) :: st) P Dm) : AL q b G cl sl pc lv (.int y :: .int x :: st) P Dm := by
  obtain ⟨p, l, e, s, m, below, meth, c⟩ := q
  obtain ⟨dC, dI, cy, ex⟩ := G
  obtain ⟨⟨hx, hb, hr, hml, hown, hts, hX, hbl, hlocks, hgv⟩, hK, hE⟩ := hC
  intro H ls locs h1 h2 h6 h3 h4 h5
  exact lv_isub hx hb hd (kk H ls locs h1 h2 h6 h3 h4 h5)
theorem L_iand {x y : Int32} (hC : LC q b L xs G) (hd : decode code pc = .ok (.iand, 1)) (kk : AL q b G cl sl (pc + 1) lv (.int (x &&& y) :: st) P Dm) : AL q b G cl sl pc lv (.int y :: .int x :: st) P Dm := by
  obtain ⟨p, l, e, s, m, below, meth, c⟩ := q
  obtain ⟨dC, dI, cy, ex⟩ := G
  obtain ⟨⟨hx, hb, hr, hml, hown, hts, hX, hbl, hlocks, hgv⟩, hK, hE⟩ := hC
  intro H ls locs h1 h2 h6 h3 h4 h5
  exact lv_iand hx hb hd (kk H ls locs h1 h2 h6 h3 h4 h5)
theorem L_lcmp {x y : Int64} (hC : LC q b L xs G) (hd : decode code pc = .ok (.lcmp, 1)) (kk : AL q b G cl sl (pc + 1) lv (.int (aCmp x y) :: st) P Dm) : AL q b G cl sl pc lv (.long y :: .long x :: st) P Dm := by
  obtain ⟨p, l, e, s, m, below, meth, c⟩ := q
  obtain ⟨dC, dI, cy, ex⟩ := G
  obtain ⟨⟨hx, hb, hr, hml, hown, hts, hX, hbl, hlocks, hgv⟩, hK, hE⟩ := hC
  intro H ls locs h1 h2 h6 h3 h4 h5
  exact W.lcmp hx hb hd (kk H ls locs h1 h2 h6 h3 h4 h5)
theorem L_iconst {n : Int} {v : Int32} (hC : LC q b L xs G) (hd : decode code pc = .ok (.iconst n, 1)) (hv : Int32.ofInt n = v) (kk : AL q b G cl sl (pc + 1) lv (.int v :: st) P Dm) : AL q b G cl sl pc lv st P Dm := by
  obtain ⟨p, l, e, s, m, below, meth, c⟩ := q
  obtain ⟨dC, dI, cy, ex⟩ := G
  obtain ⟨⟨hx, hb, hr, hml, hown, hts, hX, hbl, hlocks, hgv⟩, hK, hE⟩ := hC
  intro H ls locs h1 h2 h6 h3 h4 h5
  exact lv_iconst hx hb hd hv (kk H ls locs h1 h2 h6 h3 h4 h5)
theorem L_bipush {n : Int} {v : Int32} (hC : LC q b L xs G) (hd : decode code pc = .ok (.bipush n, 2)) (hv : (Int8.ofInt n).toInt32 = v) (kk : AL q b G cl sl (pc + 2) lv (.int v :: st) P Dm) : AL q b G cl sl pc lv st P Dm := by
  obtain ⟨p, l, e, s, m, below, meth, c⟩ := q
  obtain ⟨dC, dI, cy, ex⟩ := G
  obtain ⟨⟨hx, hb, hr, hml, hown, hts, hX, hbl, hlocks, hgv⟩, hK, hE⟩ := hC
  intro H ls locs h1 h2 h6 h3 h4 h5
  exact lv_bipush hx hb hd hv (kk H ls locs h1 h2 h6 h3 h4 h5)
theorem L_pop {v : Value} (hC : LC q b L xs G) (hd : decode code pc = .ok (.pop, 1)) (hv : v.category = 1) (kk : AL q b G cl sl (pc + 1) lv st P Dm) : AL q b G cl sl pc lv (v :: st) P Dm := by
  obtain ⟨p, l, e, s, m, below, meth, c⟩ := q
  obtain ⟨dC, dI, cy, ex⟩ := G
  obtain ⟨⟨hx, hb, hr, hml, hown, hts, hX, hbl, hlocks, hgv⟩, hK, hE⟩ := hC
  intro H ls locs h1 h2 h6 h3 h4 h5
  exact lv_pop hx hb hd hv (kk H ls locs h1 h2 h6 h3 h4 h5)
theorem L_pop2 {v : Value} (hC : LC q b L xs G) (hd : decode code pc = .ok (.pop2, 1)) (hv : v.category = 2) (kk : AL q b G cl sl (pc + 1) lv st P Dm) : AL q b G cl sl pc lv (v :: st) P Dm := by
  obtain ⟨p, l, e, s, m, below, meth, c⟩ := q
  obtain ⟨dC, dI, cy, ex⟩ := G
  obtain ⟨⟨hx, hb, hr, hml, hown, hts, hX, hbl, hlocks, hgv⟩, hK, hE⟩ := hC
  intro H ls locs h1 h2 h6 h3 h4 h5
  exact lv_pop2_2 hx hb hd hv (kk H ls locs h1 h2 h6 h3 h4 h5)
theorem L_iload_n {k : Fin 4} {x : Int32} (hC : LC q b L xs G) (hd : decode code pc = .ok (.iload_n k, 1)) (hl : lv[(k : Nat)]? = some (some (.int x))) (kk : AL q b G cl sl (pc + 1) lv (.int x :: st) P Dm) : AL q b G cl sl pc lv st P Dm := by
  obtain ⟨p, l, e, s, m, below, meth, c⟩ := q
  obtain ⟨dC, dI, cy, ex⟩ := G
  obtain ⟨⟨hx, hb, hr, hml, hown, hts, hX, hbl, hlocks, hgv⟩, hK, hE⟩ := hC
  intro H ls locs h1 h2 h6 h3 h4 h5
  exact lv_iload_n hx hb hd rfl (h5.2.2 _ _ hl) (kk H ls locs h1 h2 h6 h3 h4 h5)
theorem L_istore_n {k : Fin 4} {x : Int32} {lv2 : List (Option Value)} (hC : LC q b L xs G) (hd : decode code pc = .ok (.istore_n k, 1)) (hi : (k : Nat) < lv.length) (ho : aOk lv (k : Nat) = true) (hl : lv.set (k : Nat) (some (.int x)) = lv2) (kk : AL q b G cl sl (pc + 1) lv2 st P Dm) : AL q b G cl sl pc lv (.int x :: st) P Dm := by
  obtain ⟨p, l, e, s, m, below, meth, c⟩ := q
  obtain ⟨dC, dI, cy, ex⟩ := G
  obtain ⟨⟨hx, hb, hr, hml, hown, hts, hX, hbl, hlocks, hgv⟩, hK, hE⟩ := hC
  intro H ls locs h1 h2 h6 h3 h4 h5
  refine lv_istore_n hx hb hd rfl (aLv_has h5) hi rfl (fun ls2 h9 => ?_)
  subst hl
  exact kk H ls2 locs h1 h2 h6 h3 h4 (aLv_1 hi ho h9)
theorem L_aload_n {k : Fin 4} {x : Nat} (hC : LC q b L xs G) (hd : decode code pc = .ok (.aload_n k, 1)) (hl : lv[(k : Nat)]? = some (some (.ref x))) (kk : AL q b G cl sl (pc + 1) lv (.ref x :: st) P Dm) : AL q b G cl sl pc lv st P Dm := by
  obtain ⟨p, l, e, s, m, below, meth, c⟩ := q
  obtain ⟨dC, dI, cy, ex⟩ := G
  obtain ⟨⟨hx, hb, hr, hml, hown, hts, hX, hbl, hlocks, hgv⟩, hK, hE⟩ := hC
  intro H ls locs h1 h2 h6 h3 h4 h5
  exact lv_aload_n hx hb hd rfl (h5.2.2 _ _ hl) (kk H ls locs h1 h2 h6 h3 h4 h5)
theorem L_astore_n {k : Fin 4} {x : Nat} {lv2 : List (Option Value)} (hC : LC q b L xs G) (hd : decode code pc = .ok (.astore_n k, 1)) (hi : (k : Nat) < lv.length) (ho : aOk lv (k : Nat) = true) (hl : lv.set (k : Nat) (some (.ref x)) = lv2) (kk : AL q b G cl sl (pc + 1) lv2 st P Dm) : AL q b G cl sl pc lv (.ref x :: st) P Dm := by
  obtain ⟨p, l, e, s, m, below, meth, c⟩ := q
  obtain ⟨dC, dI, cy, ex⟩ := G
  obtain ⟨⟨hx, hb, hr, hml, hown, hts, hX, hbl, hlocks, hgv⟩, hK, hE⟩ := hC
  intro H ls locs h1 h2 h6 h3 h4 h5
  refine lv_astore_n hx hb hd rfl (aLv_has h5) hi rfl (fun ls2 h9 => ?_)
  subst hl
  exact kk H ls2 locs h1 h2 h6 h3 h4 (aLv_1 hi ho h9)
theorem L_iinc {i : Nat} {n : Int} {x v : Int32} {lv2 : List (Option Value)} (hC : LC q b L xs G) (hd : decode code pc = .ok (.iinc i n, 3)) (hx0 : lv[i]? = some (some (.int x))) (hv : x + Int32.ofInt n = v) (hi : i < lv.length) (ho : aOk lv i = true) (hl : lv.set i (some (.int v)) = lv2) (kk : AL q b G cl sl (pc + 3) lv2 st P Dm) : AL q b G cl sl pc lv st P Dm := by
  obtain ⟨p, l, e, s, m, below, meth, c⟩ := q
  obtain ⟨dC, dI, cy, ex⟩ := G
  obtain ⟨⟨hx, hb, hr, hml, hown, hts, hX, hbl, hlocks, hgv⟩, hK, hE⟩ := hC
  intro H ls locs h1 h2 h6 h3 h4 h5
  obtain ⟨k, hk9⟩ := aEn_at hx0
  refine lv_iinc hx hb hd (aLv_has h5) hk9 hv hi rfl (fun ls2 h9 => ?_)
  subst hl
  exact kk H ls2 locs h1 h2 h6 h3 h4 (aLv_1 hi ho h9)
theorem L_goto {off : Int} {tgt : Nat} (hC : LC q b L xs G) (hd : decode code pc = .ok (.goto off, 3)) (ht : (pc : Int) + off = (tgt : Int)) (kk : AL q b G cl sl tgt lv st P Dm) : AL q b G cl sl pc lv st P Dm := by
  obtain ⟨p, l, e, s, m, below, meth, c⟩ := q
  obtain ⟨dC, dI, cy, ex⟩ := G
  obtain ⟨⟨hx, hb, hr, hml, hown, hts, hX, hbl, hlocks, hgv⟩, hK, hE⟩ := hC
  intro H ls locs h1 h2 h6 h3 h4 h5
  exact lv_goto hx hb hd ht (kk H ls locs h1 h2 h6 h3 h4 h5)
theorem L_icmpeq_t {x y : Int32} {off : Int} {tgt : Nat} (hC : LC q b L xs G) (hd : decode code pc = .ok (.if_icmp .eq off, 3)) (ht : (pc : Int) + off = (tgt : Int)) (hx9 : x = y) (kk : AL q b G cl sl tgt lv st P Dm) : AL q b G cl sl pc lv (.int y :: .int x :: st) P Dm := by
  obtain ⟨p, l, e, s, m, below, meth, c⟩ := q
  obtain ⟨dC, dI, cy, ex⟩ := G
  obtain ⟨⟨hx, hb, hr, hml, hown, hts, hX, hbl, hlocks, hgv⟩, hK, hE⟩ := hC
  intro H ls locs h1 h2 h6 h3 h4 h5
  exact lv_icmp_eq hx hb hd ht (fun _ => (kk H ls locs h1 h2 h6 h3 h4 h5)) (fun h => absurd hx9 h)
theorem L_icmpeq_n {x y : Int32} {off : Int} {tgt : Nat} (hC : LC q b L xs G) (hd : decode code pc = .ok (.if_icmp .eq off, 3)) (ht : (pc : Int) + off = (tgt : Int)) (hx9 : ¬ x = y) (kk : AL q b G cl sl (pc + 3) lv st P Dm) : AL q b G cl sl pc lv (.int y :: .int x :: st) P Dm := by
  obtain ⟨p, l, e, s, m, below, meth, c⟩ := q
  obtain ⟨dC, dI, cy, ex⟩ := G
  obtain ⟨⟨hx, hb, hr, hml, hown, hts, hX, hbl, hlocks, hgv⟩, hK, hE⟩ := hC
  intro H ls locs h1 h2 h6 h3 h4 h5
  exact lv_icmp_eq hx hb hd ht (fun h => absurd h hx9) (fun _ => (kk H ls locs h1 h2 h6 h3 h4 h5))
theorem L_icmpgt_t {x y : Int32} {off : Int} {tgt : Nat} (hC : LC q b L xs G) (hd : decode code pc = .ok (.if_icmp .gt off, 3)) (ht : (pc : Int) + off = (tgt : Int)) (hx9 : y < x) (kk : AL q b G cl sl tgt lv st P Dm) : AL q b G cl sl pc lv (.int y :: .int x :: st) P Dm := by
  obtain ⟨p, l, e, s, m, below, meth, c⟩ := q
  obtain ⟨dC, dI, cy, ex⟩ := G
  obtain ⟨⟨hx, hb, hr, hml, hown, hts, hX, hbl, hlocks, hgv⟩, hK, hE⟩ := hC
  intro H ls locs h1 h2 h6 h3 h4 h5
  exact lv_icmp_gt hx hb hd ht (fun _ => (kk H ls locs h1 h2 h6 h3 h4 h5)) (fun h => absurd hx9 h)
theorem L_icmpgt_n {x y : Int32} {off : Int} {tgt : Nat} (hC : LC q b L xs G) (hd : decode code pc = .ok (.if_icmp .gt off, 3)) (ht : (pc : Int) + off = (tgt : Int)) (hx9 : ¬ y < x) (kk : AL q b G cl sl (pc + 3) lv st P Dm) : AL q b G cl sl pc lv (.int y :: .int x :: st) P Dm := by
  obtain ⟨p, l, e, s, m, below, meth, c⟩ := q
  obtain ⟨dC, dI, cy, ex⟩ := G
  obtain ⟨⟨hx, hb, hr, hml, hown, hts, hX, hbl, hlocks, hgv⟩, hK, hE⟩ := hC
  intro H ls locs h1 h2 h6 h3 h4 h5
  exact lv_icmp_gt hx hb hd ht (fun h => absurd h hx9) (fun _ => (kk H ls locs h1 h2 h6 h3 h4 h5))
theorem L_ifeq_t {x : Int32} {off : Int} {tgt : Nat} (hC : LC q b L xs G) (hd : decode code pc = .ok (.ifCond .eq off, 3)) (ht : (pc : Int) + off = (tgt : Int)) (hx9 : x = 0) (kk : AL q b G cl sl tgt lv st P Dm) : AL q b G cl sl pc lv (.int x :: st) P Dm := by
  obtain ⟨p, l, e, s, m, below, meth, c⟩ := q
  obtain ⟨dC, dI, cy, ex⟩ := G
  obtain ⟨⟨hx, hb, hr, hml, hown, hts, hX, hbl, hlocks, hgv⟩, hK, hE⟩ := hC
  intro H ls locs h1 h2 h6 h3 h4 h5
  exact lv_if_eq hx hb hd ht (fun _ => (kk H ls locs h1 h2 h6 h3 h4 h5)) (fun h => absurd hx9 h)
theorem L_ifeq_n {x : Int32} {off : Int} {tgt : Nat} (hC : LC q b L xs G) (hd : decode code pc = .ok (.ifCond .eq off, 3)) (ht : (pc : Int) + off = (tgt : Int)) (hx9 : ¬ x = 0) (kk : AL q b G cl sl (pc + 3) lv st P Dm) : AL q b G cl sl pc lv (.int x :: st) P Dm := by
  obtain ⟨p, l, e, s, m, below, meth, c⟩ := q
  obtain ⟨dC, dI, cy, ex⟩ := G
  obtain ⟨⟨hx, hb, hr, hml, hown, hts, hX, hbl, hlocks, hgv⟩, hK, hE⟩ := hC
  intro H ls locs h1 h2 h6 h3 h4 h5
  exact lv_if_eq hx hb hd ht (fun h => absurd h hx9) (fun _ => (kk H ls locs h1 h2 h6 h3 h4 h5))
theorem L_sld {i : Int32} (hC : LC q b L xs G) (hin : vp_in i L) (hd : decode code pc = .ok (.iaload, 1)) (kk : AL q b G cl sl (pc + 1) lv (.int (xs i.toNatClampNeg) :: st) P Dm) : AL q b G cl sl pc lv (.int i :: .ref b :: st) P Dm := by
  obtain ⟨p, l, e, s, m, below, meth, c⟩ := q
  obtain ⟨dC, dI, cy, ex⟩ := G
  obtain ⟨⟨hx, hb, hr, hml, hown, hts, hX, hbl, hlocks, hgv⟩, hK, hE⟩ := hC
  intro H ls locs h1 h2 h6 h3 h4 h5
  exact va_sld hx hb hX hbl (A := fun q => s.heap.size ≤ q) (Nat.not_le.mpr hbl) h4 hin hd (kk H ls locs h1 h2 h6 h3 h4 h5)
theorem L_slen (hC : LC q b L xs G) (hd : decode code pc = .ok (.arraylength, 1)) (kk : AL q b G cl sl (pc + 1) lv (.int (Int32.ofNat L) :: st) P Dm) : AL q b G cl sl pc lv (.ref b :: st) P Dm := by
  obtain ⟨p, l, e, s, m, below, meth, c⟩ := q
  obtain ⟨dC, dI, cy, ex⟩ := G
  obtain ⟨⟨hx, hb, hr, hml, hown, hts, hX, hbl, hlocks, hgv⟩, hK, hE⟩ := hC
  intro H ls locs h1 h2 h6 h3 h4 h5
  exact va_slen hx hb hX hbl (A := fun q => s.heap.size ≤ q) (Nat.not_le.mpr hbl) h4 hd (kk H ls locs h1 h2 h6 h3 h4 h5)
theorem L_tabIn {dflt lo hi : Int} {offs : Array Int} {len : Nat} {x : Int32} {off : Int} {tgt : Nat} (hC : LC q b L xs G) (hd : decode code pc = .ok (.tableswitch dflt lo hi offs, len)) (hh : ¬ x.toInt < lo ∧ ¬ hi < x.toInt ∧ offs[(x.toInt - lo).toNat]? = some off) (ht : (pc : Int) + off = (tgt : Int)) (kk : AL q b G cl sl tgt lv st P Dm) : AL q b G cl sl pc lv (.int x :: st) P Dm := by
  obtain ⟨p, l, e, s, m, below, meth, c⟩ := q
  obtain ⟨dC, dI, cy, ex⟩ := G
  obtain ⟨⟨hx, hb, hr, hml, hown, hts, hX, hbl, hlocks, hgv⟩, hK, hE⟩ := hC
  intro H ls locs h1 h2 h6 h3 h4 h5
  exact lv_tableIn hx hb hd hh.1 hh.2.1 hh.2.2 ht (kk H ls locs h1 h2 h6 h3 h4 h5)
theorem L_tabOut {dflt lo hi : Int} {offs : Array Int} {len : Nat} {x : Int32} {tgt : Nat} (hC : LC q b L xs G) (hd : decode code pc = .ok (.tableswitch dflt lo hi offs, len)) (hh : x.toInt < lo ∨ hi < x.toInt) (ht : (pc : Int) + dflt = (tgt : Int)) (kk : AL q b G cl sl tgt lv st P Dm) : AL q b G cl sl pc lv (.int x :: st) P Dm := by
  obtain ⟨p, l, e, s, m, below, meth, c⟩ := q
  obtain ⟨dC, dI, cy, ex⟩ := G
  obtain ⟨⟨hx, hb, hr, hml, hown, hts, hX, hbl, hlocks, hgv⟩, hK, hE⟩ := hC
  intro H ls locs h1 h2 h6 h3 h4 h5
  exact lv_tableOut hx hb hd hh ht (kk H ls locs h1 h2 h6 h3 h4 h5)
theorem L_end (hC : LC q b L xs G) (hcl : cl ≤ 75420 ∧ sl ≤ 8875990) (hd1 : decode code pc = .ok (.ireturn, 1)) : AL q b G cl sl pc lv [.int 1] P Dm := by
  obtain ⟨p, l, e, s, m, below, meth, c⟩ := q
  obtain ⟨dC, dI, cy, ex⟩ := G
  obtain ⟨⟨hx, hb, hr, hml, hown, hts, hX, hbl, hlocks, hgv⟩, hK, hE⟩ := hC
  intro H ls locs h1 h2 h6 h3 h4 h5
  refine va_forget (fun z hz => h4.2.2 z hz) ?_
  refine W.widen (k := 75420) (n := 8875990) hcl.1 hcl.2 ?_
  exact lw_ret hx hb hr hlocks hd1
theorem L_callX {σ : Type} {U : σ → Option Value} {y : MethodName} {cc2 : ByteArray} {nL2 d2 n idx : Nat} {ret2 : Option FieldType} {As stk : List Value} {f : Option (σ × ADD)} {x : σ} {D2 : ADD} {T : u_T} {N : Nat} (hC : LC q b L xs G) (hlay : LLay P) (hX0 : 0 ∈ P.1.2.1 ∧ P.1.2.2 0 = (9, 0, xTab_r0 (LB q))) (hM : ∀ l, AM U l y cc2 nL2 ret2 d2 (LB q, G.1, G.2.1, G.2.2.1, G.2.2.2, P.1) (.ref (LB q + 0) :: As) P.2 f) (hf : f = some (x, D2)) (hci : vwCl[9]? = some (y.cls, T, N)) (hY : aYV RL idx y cc2 nL2 ret2 n) (hn : As.length = n) (hlen : lv.length = 4) (hdd : d2 ≤ 11 ∧ nL2 ≤ 21) (hst : (st.map fun v => v.category).sum ≤ 8) (hcap : cl ≤ 75420 ∧ sl ≤ 8875990) (hs : stk = As.reverse ++ .ref (LB q + 0) :: st) (hd : decode code pc = .ok (.invokevirtual idx, 3)) (kk : AL q b G cl sl (pc + 3) lv ((U x).toList ++ st) (P.1, D2) Dm) : AL q b G cl sl pc lv stk P Dm := by
  obtain ⟨p, l, e, s, m, below, meth, c⟩ := q
  obtain ⟨dC, dI, cy, ex⟩ := G
  obtain ⟨⟨hx, hb, hr, hml, hown, hts, hX, hbl, hlocks, hgv⟩, hK, hE⟩ := hC
  intro H ls locs h1 h2 h6 h3 h4 h5
  have M := hM l x D2 hf
  have hdm : ∀ k, k < 40 → ∀ z, z = s.heap.size + 58 + k → ¬ aA s.heap.size P.1 z := by
    intro k hk z hz hA
    rcases hA with ⟨k9, hk9, e9⟩ | hA
    · have := (hlay.2 k9 hk9).1; omega
    · have := hlay.1; omega
  have hts2 : ∀ w ∈ aT, w.before #[Value.ref b] s = true := fun w hw => hts w (List.mem_filter.mp hw).1
  obtain ⟨y1, y2, y3, y4, y5, y6, y7, y8⟩ := hY
  obtain ⟨j, hj⟩ := aW_get (n0 := s.heap.size) (cy := cy) (w := P.1) (D := P.2) hX0.1
  rw [hX0.2, aPic_obj (Nat.le_of_ble_eq_true rfl)] at hj
  subst hs
  refine W_run (va_runV (R := room_1) (As := As) (rest := st) (b := s.heap.size + 0) (C := y.cls) ⟨hx, hb, hml, hown, hts2⟩ M (cwV n hts2 (aT_good _ (by intro q9 hq9; simp only [wsV, List.mem_append, List.mem_cons, List.not_mem_nil, or_false] at hq9; rcases hq9 with (rfl | rfl | rfl | rfl) | rfl | hq9 <;> assumption)) rfl rfl rfl ⟨rfl, y6, y7, y8⟩ ⟨by show d2 + 1 ≤ 13; have := hdd.1; omega, by show 8 + (nL2 + 11) + 40 * d2 ≤ 486; have := hdd.1; have := hdd.2; omega⟩) ⟨aBlind, va_recv hK h2 hci hj, fun U2 hU hW => ⟨rfl, by rw [hU, h1]; rfl, by rw [hU]; exact h2, aD_ge h3, va_K.moved hW.alike hK, aEX_at hE (Nat.le_refl _) rfl h4 hU hW⟩⟩ rfl hn (h5.1.trans hlen) rfl (lv_room hst) hd ⟨by show cl + 0 ≤ 75420; have := hcap.1; omega, by show sl + 0 ≤ 8875990; have := hcap.2; omega⟩) (fun v st₀ t H1 Lc e0 hL e1 hq => ?_)
  obtain ⟨hv, hsz2, hP2, hF⟩ := hq
  have hv : v = U x := Outcome.returned.inj hv
  subst hv
  have hF := hF
  rw [va_F, e0] at hF
  refine kk H1 ls (locs ++ Lc) (by rw [e1]; exact hsz2) (by rw [e1]; exact hP2) ?_ (aD_any h3) ⟨by rw [e1]; have := hF.1; have := h4.1; omega, fun z g1 g2 => ?_, fun z hz => ?_⟩ h5
  · refine h6.kept (fun k z hk => ?_)
    have hk2 := hk
    simp only [aW, lM, List.getElem?_map] at hk2
    cases hx9 : (List.range 40)[k]? with
    | none => rw [hx9] at hk2; cases hk2
    | some a9 =>
      rw [hx9] at hk2
      have hz9 : z.1 = s.heap.size + 58 + a9 := by rw [← Option.some.inj hk2]
      have ha9 : a9 < 40 := List.mem_range.mp (List.mem_of_getElem? hx9)
      rw [e1]
      exact hF.2 z.1 (h6 k z hk).lt (hdm a9 ha9 _ hz9)
  · rw [e1, hF.2 z (by have := h4.1; omega) (fun hA => g2 (aA_ge z hA))]
    exact h4.2.1 z g1 g2
  · rcases List.mem_append.mp hz with h | h
    · exact h4.2.2 z h
    · exact aA_ge _ (hL z h)
theorem L_callM {σ : Type} {U : σ → Option Value} {y : MethodName} {cc2 : ByteArray} {nL2 d2 n idx : Nat} {ret2 : Option FieldType} {As stk : List Value} {f : Option (σ × ADD)} {x : σ} {D2 : ADD} {T : u_T} {N : Nat} (hC : LC q b L xs G) (hlay : LLay P) (hM : ∀ l, AM U l y cc2 nL2 ret2 d2 (LB q + 58, G.1, G.2.1, G.2.2.1, G.2.2.2, lM (LB q) P.1.1) (.ref (LB q + 58 + 0) :: As) Dm f) (hf : f = some (x, D2)) (hci : vwCl[10]? = some (y.cls, T, N)) (hY : aYV RL idx y cc2 nL2 ret2 n) (hn : As.length = n) (hlen : lv.length = 4) (hdd : d2 ≤ 11 ∧ nL2 ≤ 21) (hst : (st.map fun v => v.category).sum ≤ 8) (hcap : cl ≤ 75420 ∧ sl ≤ 8875990) (hs : stk = As.reverse ++ .ref (LB q + 58 + 0) :: st) (hd : decode code pc = .ok (.invokevirtual idx, 3)) (kk : AL q b G cl sl (pc + 3) lv ((U x).toList ++ st) P D2) : AL q b G cl sl pc lv stk P Dm := by
  obtain ⟨p, l, e, s, m, below, meth, c⟩ := q
  obtain ⟨dC, dI, cy, ex⟩ := G
  obtain ⟨⟨hx, hb, hr, hml, hown, hts, hX, hbl, hlocks, hgv⟩, hK, hE⟩ := hC
  intro H ls locs h1 h2 h6 h3 h4 h5
  have M := hM l x D2 hf
  have hts2 : ∀ w ∈ aT, w.before #[Value.ref b] s = true := fun w hw => hts w (List.mem_filter.mp hw).1
  obtain ⟨y1, y2, y3, y4, y5, y6, y7, y8⟩ := hY
  obtain ⟨j, hj⟩ := aW_get (n0 := (s.heap.size + 58)) (cy := cy) (w := (lM s.heap.size P.1.1)) (D := Dm) (List.mem_range.mpr (by decide : 0 < 40))
  rw [show (lM s.heap.size P.1.1).2.2 0 = (10, 0, mTab_r0 (s.heap.size + 58)) from rfl, aPic_obj (Nat.le_of_ble_eq_true rfl)] at hj
  subst hs
  refine W_run (va_runV (R := room_1) (As := As) (rest := st) (b := (s.heap.size + 58) + 0) (C := y.cls) ⟨hx, hb, hml, hown, hts2⟩ M (cwV n hts2 (aT_good _ (by intro q9 hq9; simp only [wsV, List.mem_append, List.mem_cons, List.not_mem_nil, or_false] at hq9; rcases hq9 with (rfl | rfl | rfl | rfl) | rfl | hq9 <;> assumption)) rfl rfl rfl ⟨rfl, y6, y7, y8⟩ ⟨by show d2 + 1 ≤ 13; have := hdd.1; omega, by show 8 + (nL2 + 11) + 40 * d2 ≤ 486; have := hdd.1; have := hdd.2; omega⟩) ⟨aBlind, va_recv hK h6 hci hj, fun U2 hU hW => ⟨rfl, by rw [hU, h1]; show _ = s.heap.size + 58 + (P.1.1 - 58); have := hlay.1; omega, by rw [hU]; exact h6, mD_ok, va_K.moved hW.alike hK, aEX_at hE (Nat.le_add_right _ _) rfl h4 hU hW⟩⟩ rfl hn (h5.1.trans hlen) rfl (lv_room hst) hd ⟨by show cl + 0 ≤ 75420; have := hcap.1; omega, by show sl + 0 ≤ 8875990; have := hcap.2; omega⟩) (fun v st₀ t H1 Lc e0 hL e1 hq => ?_)
  obtain ⟨hv, hsz2, hP2, hF⟩ := hq
  have hv : v = U x := Outcome.returned.inj hv
  subst hv
  have hF := hF
  rw [va_F, e0] at hF
  have hsz3 : t.heap.size = s.heap.size + P.1.1 := by
    have h9 : t.heap.size = s.heap.size + 58 + (P.1.1 - 58) := hsz2
    have := hlay.1
    omega
  have hge : ∀ z, aA (s.heap.size + 58) (lM s.heap.size P.1.1) z → s.heap.size ≤ z := by
    intro z hA
    rcases hA with ⟨k9, -, e9⟩ | hA
    · omega
    · omega
  refine kk H1 ls (locs ++ Lc) (by rw [e1]; exact hsz3) ?_ (by rw [e1]; exact hP2) h3 ⟨by rw [e1]; have := hF.1; have := h4.1; omega, fun z g1 g2 => ?_, fun z hz => ?_⟩ h5
  · refine h2.kept (fun k z hk => ?_)
    have hk2 := hk
    simp only [aW, List.getElem?_map] at hk2
    cases hx9 : P.1.2.1[k]? with
    | none => rw [hx9] at hk2; cases hk2
    | some a9 =>
      rw [hx9] at hk2
      have hz9 : z.1 = s.heap.size + a9 := by rw [← Option.some.inj hk2]
      have ha9 := hlay.2 a9 (List.mem_of_getElem? hx9)
      rw [e1]
      refine hF.2 z.1 (h2 k z hk).lt (fun hA => ?_)
      rcases hA with ⟨k9, hk9, e9⟩ | hA
      · have hk10 : k9 < 40 := List.mem_range.mp hk9
        have e9 : z.1 = s.heap.size + 58 + k9 := e9
        have := ha9.1
        omega
      · have hA : s.heap.size + 58 + (P.1.1 - 58) ≤ z.1 := hA
        have := ha9.2
        have := hlay.1
        omega
  · rw [e1, hF.2 z (by have := h4.1; omega) (fun hA => g2 (hge z hA))]
    exact h4.2.1 z g1 g2
  · rcases List.mem_append.mp hz with h | h
    · exact h4.2.2 z h
    · exact hge _ (hL z h)
theorem L_callK {y : MethodName} {cc2 : ByteArray} {nL2 d2 n idx mc2 ms2 : Nat} {ret2 : Option FieldType} {As stk : List Value} {x : Int32} {E : APD} {T : u_T} {N : Nat} (hC : LC q b L xs G) (hlay : LLay P) (hX0 : 0 ∈ P.1.2.1 ∧ P.1.2.2 0 = (9, 0, xTab_r0 (LB q))) (hM : ∀ l, AMk l y cc2 nL2 ret2 d2 mc2 ms2 (LB q, G.1, G.2.1, G.2.2.1, G.2.2.2, P.1) (.ref (LB q + 0) :: As) P.2 (some (.int x)) E) (hgrow : P.1.1 ≤ E.1.1) (hci : vwCl[9]? = some (y.cls, T, N)) (hY : aYV RL idx y cc2 nL2 ret2 n) (hn : As.length = n) (hlen : lv.length = 4) (hdd : d2 ≤ 11 ∧ nL2 ≤ 21) (hst : (st.map fun v => v.category).sum ≤ 8) (hcap : cl + mc2 ≤ 75420 ∧ sl + ms2 ≤ 8875990) (hs : stk = As.reverse ++ .ref (LB q + 0) :: st) (hd : decode code pc = .ok (.invokevirtual idx, 3)) (kk : AL q b G (cl + mc2) (sl + ms2) (pc + 3) lv (.int x :: st) E Dm) : AL q b G cl sl pc lv stk P Dm := by
  obtain ⟨p, l, e, s, m, below, meth, c⟩ := q
  obtain ⟨dC, dI, cy, ex⟩ := G
  obtain ⟨⟨hx, hb, hr, hml, hown, hts, hX, hbl, hlocks, hgv⟩, hK, hE⟩ := hC
  intro H ls locs h1 h2 h6 h3 h4 h5
  have M := hM l
  have hdm : ∀ k, k < 40 → ∀ z, z = s.heap.size + 58 + k → ¬ aA s.heap.size P.1 z := by
    intro k hk z hz hA
    rcases hA with ⟨k9, hk9, e9⟩ | hA
    · have := (hlay.2 k9 hk9).1; omega
    · have := hlay.1; omega
  have hts2 : ∀ w ∈ aT, w.before #[Value.ref b] s = true := fun w hw => hts w (List.mem_filter.mp hw).1
  obtain ⟨y1, y2, y3, y4, y5, y6, y7, y8⟩ := hY
  obtain ⟨j, hj⟩ := aW_get (n0 := s.heap.size) (cy := cy) (w := P.1) (D := P.2) hX0.1
  rw [hX0.2, aPic_obj (Nat.le_of_ble_eq_true rfl)] at hj
  subst hs
  refine W_run (va_runV (R := room_1) (As := As) (rest := st) (b := s.heap.size + 0) (C := y.cls) ⟨hx, hb, hml, hown, hts2⟩ M (cwV n hts2 (aT_good _ (by intro q9 hq9; simp only [wsV, List.mem_append, List.mem_cons, List.not_mem_nil, or_false] at hq9; rcases hq9 with (rfl | rfl | rfl | rfl) | rfl | hq9 <;> assumption)) rfl rfl rfl ⟨rfl, y6, y7, y8⟩ ⟨by show d2 + 1 ≤ 13; have := hdd.1; omega, by show 8 + (nL2 + 11) + 40 * d2 ≤ 486; have := hdd.1; have := hdd.2; omega⟩) ⟨aBlind, va_recv hK h2 hci hj, fun U2 hU hW => ⟨rfl, by rw [hU, h1]; rfl, by rw [hU]; exact h2, aD_ge h3, va_K.moved hW.alike hK, aEX_at hE (Nat.le_refl _) rfl h4 hU hW⟩⟩ rfl hn (h5.1.trans hlen) rfl (lv_room hst) hd hcap) (fun v st₀ t H1 Lc e0 hL e1 hq => ?_)
  obtain ⟨hv, hsz2, hP2, hD2, hF⟩ := hq
  have hv : v = some (.int x) := Outcome.returned.inj hv
  subst hv
  have hF := hF
  rw [va_F, e0] at hF
  refine kk H1 ls (locs ++ Lc) (by rw [e1]; exact hsz2) (by rw [e1]; exact hP2) ?_ (hD2.weaken (fun k z _ h => aA_ge _ h)) ⟨by rw [e1]; have := hF.1; have := h4.1; omega, fun z g1 g2 => ?_, fun z hz => ?_⟩ h5
  · have h7 : va_P (dC, dI) vwCl (aW (s.heap.size + 58) cy (lM s.heap.size P.1.1) Dm) H1 := by
      refine h6.kept (fun k z hk => ?_)
      have hk2 := hk
      simp only [aW, lM, List.getElem?_map] at hk2
      cases hx9 : (List.range 40)[k]? with
      | none => rw [hx9] at hk2; cases hk2
      | some a9 =>
        rw [hx9] at hk2
        have hz9 : z.1 = s.heap.size + 58 + a9 := by rw [← Option.some.inj hk2]
        have ha9 : a9 < 40 := List.mem_range.mp (List.mem_of_getElem? hx9)
        rw [e1]
        exact hF.2 z.1 (h6 k z hk).lt (hdm a9 ha9 _ hz9)
    exact h7
  · rw [e1, hF.2 z (by have := h4.1; omega) (fun hA => g2 (aA_ge z hA))]
    exact h4.2.1 z g1 g2
  · rcases List.mem_append.mp hz with h | h
    · exact h4.2.2 z h
    · exact aA_ge _ (hL z h)
end L1
