def aE0 : APD := ((0, [], fun _ => (0, 0, fun _ => none)), (fun _ _ => 0, fun _ _ => 0))
/-- x as it is made; m as it is made -/
def x0 (n0 : Nat) : APD := fI_X10_init n0 0 (aNO aE0 9)
def m0 (n1 : Nat) : APD := fI_X11_init n1 0 (aNO aE0 10)
/-- both behind the law's first rows -/
def x0P (n0 : Nat) : APD := (((x0 n0).1.1 + 40, (x0 n0).1.2.1, (x0 n0).1.2.2), (x0 n0).2)
section S1
variable {p : Program} {l : Launch} {e : Env} {s : State} {m : MethodId} {below : List Frame} {meth : Method} {c : Code} {H : Heap} {locs : List Loc} {cl sl : Nat} {Q : State → Prop} {b L pc base : Nat} {xs : Nat → Int32} {dC : Nat → ClassId} {dI : Nat → Nat → Nat} {cy : Nat → ClassId} {ex : AEx} {ls : Array Slot} {st : List Value} {P : APD}
theorem S_new {ci idx N : Nat} {C : String} {T : u_T} {ty : Nat → FieldType} (C0 : lw_At p s m meth c b L xs) (hK : va_K (dC, dI) vwCl (aTys cy) s) (kc : aCl ci C T N ty) (h11 : ci < 11) (hdf : ∀ j, j < N → defaultValue (ty j) = if aRef ci j = 0 then .int 0 else if aRef ci j = 1 then .null else .long 0) (w1 : Cond.classLink RL idx C ∈ aT) (w2 : Cond.instantiable C N ∈ aT) (w3 : Cond.initialized C ∈ aT) (hroom : cl + 1 ≤ 75420 ∧ sl + N ≤ 8875990) (h1 : H.size = base + P.1.1) (h2 : va_P (dC, dI) vwCl (aW base cy P.1 P.2) H) (hd : decode code pc = .ok (.new idx, 3)) (kk : ∀ H1 : Heap, H1.size = base + (aNO P ci).1.1 → va_P (dC, dI) vwCl (aW base cy (aNO P ci).1 (aNO P ci).2) H1 → (∀ z, z < H.size → H1[z]? = H[z]?) → W p l e room_1 s m #[Value.ref b] below meth c H1 locs (cl + 1) (sl + N) Q (F0 m (pc + 3) ls (.ref (base + P.1.1) :: st))) : W p l e room_1 s m #[Value.ref b] below meth c H locs cl sl Q (F0 m pc ls st) := by
  obtain ⟨hx, hb, hr, hml, hown, hts, hX, hbl, hlocks, hgv⟩ := C0
  have hts2 : ∀ w ∈ aT, w.before #[Value.ref b] s = true := fun w hw => hts w (List.mem_filter.mp hw).1
  have hKn := hK.1 ci _ kc.1
  refine W.newcK hx hb hown (hts2 _ w1) (hts2 _ w2) (hts2 _ w3) rfl hd hroom.1 hroom.2 hKn.2.1 h1 fun H1 kC hkC e1 z1 o1 => ?_
  refine kk H1 z1 (aP_new h1 h2 (fun q hq => o1 q (by omega)) ?_) (fun z hz => o1 z (by omega))
  rw [aPic_obj h11]
  refine ⟨_, kc.1, (u_born ty hts2 kc.2.1 hKn hkC e1 kc.2.2.1).to (fun j hj => ?_)⟩
  rw [hdf j hj]
  have hN : j < aNF ci := by rw [aNF_eq kc.1]; exact hj
  have hg := aFs_get (S := (ci, 0, fun _ => none)) (D := aZr P.2 P.1.1) (o := P.1.1) hN
  show _ = vp_V _ j
  simp only [vp_V, List.getD_eq_getElem?_getD, hg, Option.getD_some]
  simp only [aFv, aZr]
  split
  · simp
  · split <;> simp [va_rf]
theorem S_init {y : MethodName} {cc2 : ByteArray} {nL2 d2 idx mc2 ms2 o : Nat} {E2 : APD} (C0 : lw_At p s m meth c b L xs) (hK : va_K (dC, dI) vwCl (aTys cy) s) (hE : aEX ex s.heap.size s) (hbs : s.heap.size ≤ base) (M : AMk l y cc2 nL2 none d2 mc2 ms2 (base, dC, dI, cy, ex, P.1) [.ref (base + o)] P.2 none E2) (hn1 : y.name = "<init>") (hl : Cond.methodLink RL idx y ∈ aT) (y2 : Cond.instanceMethod y ∈ aT) (y4 : Cond.initialized y.cls ∈ aT) (y5 : Cond.code y cc2 nL2 none ∈ aT) (hy : y.cls ≠ "java/lang/invoke/MethodHandle" ∧ y.cls ≠ "java/lang/invoke/VarHandle" ∧ (parseMethodDescriptor y.desc).map (fun d => d.parameters.length) = some 0) (hlen : ls.size = 4) (hdd : d2 ≤ 11 ∧ nL2 ≤ 21) (hst : (st.map fun v => v.category).sum ≤ 8) (hroom : cl + mc2 ≤ 75420 ∧ sl + ms2 ≤ 8875990) (h1 : H.size = base + P.1.1) (h2 : va_P (dC, dI) vwCl (aW base cy P.1 P.2) H) (h3 : va_D (aA base P.1) (aW base cy P.1 P.2)) (h4 : va_S (fun q => s.heap.size ≤ q) s.heap H locs) (hd : decode code pc = .ok (.invokespecial idx, 3)) (kk : ∀ (H1 : Heap) (locs1 : List Loc), H1.size = base + E2.1.1 → va_P (dC, dI) vwCl (aW base cy E2.1 E2.2) H1 → (∀ z, z < H.size → ¬ aA base P.1 z → H1[z]? = H[z]?) → va_D (aA base P.1) (aW base cy E2.1 E2.2) → va_S (fun q => s.heap.size ≤ q) s.heap H1 locs1 → W p l e room_1 s m #[Value.ref b] below meth c H1 locs1 (cl + mc2) (sl + ms2) Q (F0 m (pc + 3) ls st)) : W p l e room_1 s m #[Value.ref b] below meth c H locs cl sl Q (F0 m pc ls (.ref (base + o) :: st)) := by
  obtain ⟨hx, hb, hr, hml, hown, hts, hX, hbl, hlocks, hgv⟩ := C0
  have hts2 : ∀ w ∈ aT, w.before #[Value.ref b] s = true := fun w hw => hts w (List.mem_filter.mp hw).1
  have hgood : GoodIn aT (Cond.code y cc2 nL2 none :: aT) := aT_good _ (by intro q9 hq9; rcases List.mem_cons.mp hq9 with rfl | hq9 <;> assumption)
  have hge : ∀ z, aA base P.1 z → s.heap.size ≤ z := fun z hz => Nat.le_trans hbs (aA_ge z hz)
  refine W_run (va_runI (R := room_1) (As := []) (rest := st) (b := base + o) ⟨hx, hb, hml, hown, hts2⟩ M (cwI 0 hts2 hgood rfl rfl rfl (hts2 _ y4) (hts2 _ hl) (hts2 _ y2) hn1 hy ⟨by show d2 + 1 ≤ 13; have := hdd.1; omega, by show 8 + (nL2 + 11) + 40 * d2 ≤ 486; have := hdd.1; have := hdd.2; omega⟩) ⟨aBlind, fun U2 hU hW => ⟨rfl, by rw [hU]; exact h1, by rw [hU]; exact h2, h3, va_K.moved hW.alike hK, aEX_at hE hbs rfl h4 hU hW⟩⟩ rfl rfl hlen rfl (lv_room hst) hd hroom) (fun v st₀ t H1 Lc e0 hL e1 hq => ?_)
  obtain ⟨hv, hsz2, hP2, hD2, hF⟩ := hq
  have hv : v = none := Outcome.returned.inj hv
  subst hv
  rw [va_F, e0] at hF
  refine kk H1 (locs ++ Lc) (by rw [e1]; exact hsz2) (by rw [e1]; exact hP2) (fun z g1 g2 => by rw [e1]; exact hF.2 z g1 g2) hD2 ⟨by rw [e1]; have := hF.1; have := h4.1; omega, fun z g1 g2 => ?_, fun z hz => ?_⟩
  · rw [e1, hF.2 z (by have := h4.1; omega) (fun hA => g2 (hge z hA))]
    exact h4.2.1 z g1 g2
  · rcases List.mem_append.mp hz with h | h
    · exact h4.2.2 z h
    · exact hge _ (hL z h)
end S1
abbrev aOp : Type := Nat × Nat × Nat × Nat × Int32
def opStep (n0 : Nat) (P : APD) (o : aOp) : APD := if o.1 = 0 then aNC P (o.2.1, o.2.2.1, fun _ => none) else if o.1 = 1 then aPR P o.2.1 o.2.2.1 (n0 + o.2.2.2.1) else aPI P o.2.1 o.2.2.1 o.2.2.2.2
def opRun (n0 : Nat) : List aOp → APD
  | [] => aE0
  | o :: r => opStep n0 (opRun n0 r) o
def opCnt : List aOp → Nat
  | [] => 0
  | o :: r => if o.1 = 0 then opCnt r + 1 else opCnt r
def opSh : List aOp → Nat → Nat × Nat
  | [], _ => (0, 0)
  | o :: r, q => if o.1 = 0 then (if q = opCnt r then (o.2.1, o.2.2.1) else opSh r q) else opSh r q
def opRef : List aOp → Nat → Nat → Option Nat
  | [], _, _ => none
  | o :: r, q, f => if o.1 = 0 then (if q = opCnt r then none else opRef r q f) else if o.1 = 1 then (if q = o.2.1 ∧ f = o.2.2.1 then some o.2.2.2.1 else opRef r q f) else opRef r q f
def opInt : List aOp → Nat → Nat → Int32
  | [], _, _ => 0
  | o :: r, q, f => if o.1 = 0 then (if q = opCnt r then 0 else opInt r q f) else if o.1 = 1 then opInt r q f else if q = o.2.1 ∧ f = o.2.2.1 then o.2.2.2.2 else opInt r q f
theorem opRun_spec (n0 : Nat) : ∀ ops : List aOp, (opRun n0 ops).1.1 = opCnt ops ∧ (opRun n0 ops).1.2.1 = List.range (opCnt ops) ∧ (∀ q, (opRun n0 ops).1.2.2 q = ((opSh ops q).1, (opSh ops q).2, fun f => (opRef ops q f).map (n0 + ·))) ∧ (∀ q f, (opRun n0 ops).2.1 q f = opInt ops q f) ∧ ∀ q f, (opRun n0 ops).2.2 q f = 0
  | [] => ⟨rfl, rfl, fun _ => rfl, fun _ _ => rfl, fun _ _ => rfl⟩
  | o :: r => by
    obtain ⟨h1, h2, h3, h4, h5⟩ := opRun_spec n0 r
    by_cases t0 : o.1 = 0
    · have e : opRun n0 (o :: r) = aNC (opRun n0 r) (o.2.1, o.2.2.1, fun _ => none) := by rw [opRun, opStep, if_pos t0]
      refine ⟨?_, ?_, fun q => ?_, fun q f => ?_, fun q f => ?_⟩
      · rw [e, opCnt, if_pos t0]; show (opRun n0 r).1.1 + 1 = _; rw [h1]
      · rw [e, opCnt, if_pos t0, List.range_succ]; show (opRun n0 r).1.2.1 ++ [(opRun n0 r).1.1] = _; rw [h1, h2]
      · rw [e]
        show (if q = (opRun n0 r).1.1 then _ else (opRun n0 r).1.2.2 q) = _
        rw [h1]
        by_cases hq : q = opCnt r
        · rw [if_pos hq]
          simp only [opSh, opRef, if_pos t0, if_pos hq]
          rfl
        · rw [if_neg hq, h3 q]
          simp only [opSh, opRef, if_pos t0, if_neg hq]
      · rw [e]
        show (if q = (opRun n0 r).1.1 then 0 else (opRun n0 r).2.1 q f) = _
        rw [h1, h4 q f, opInt, if_pos t0]
      · rw [e]
        show (if q = (opRun n0 r).1.1 then 0 else (opRun n0 r).2.2 q f) = _
        rw [h5 q f]
        split <;> rfl
    · by_cases t1 : o.1 = 1
      · have e : opRun n0 (o :: r) = aPR (opRun n0 r) o.2.1 o.2.2.1 (n0 + o.2.2.2.1) := by rw [opRun, opStep, if_neg t0, if_pos t1]
        refine ⟨?_, ?_, fun q => ?_, fun q f => ?_, fun q f => ?_⟩
        · rw [e, opCnt, if_neg t0]; exact h1
        · rw [e, opCnt, if_neg t0]; exact h2
        · rw [e]
          show (if q = o.2.1 then (((opRun n0 r).1.2.2 q).1, ((opRun n0 r).1.2.2 q).2.1, fun j => if j = o.2.2.1 then some (n0 + o.2.2.2.1) else ((opRun n0 r).1.2.2 q).2.2 j) else (opRun n0 r).1.2.2 q) = _
          rw [h3 q]
          simp only [opSh, opRef, if_neg t0, if_pos t1]
          by_cases hq : q = o.2.1
          · rw [if_pos hq]
            congr 2
            funext j
            by_cases hj : j = o.2.2.1
            · rw [if_pos hj, if_pos ⟨hq, hj⟩]; rfl
            · rw [if_neg hj, if_neg (fun h => hj h.2)]
          · rw [if_neg hq]
            congr 2
            funext j
            rw [if_neg (fun h => hq h.1)]
        · rw [e, opInt, if_neg t0, if_pos t1]; exact h4 q f
        · rw [e]; exact h5 q f
      · have e : opRun n0 (o :: r) = aPI (opRun n0 r) o.2.1 o.2.2.1 o.2.2.2.2 := by rw [opRun, opStep, if_neg t0, if_neg t1]
        refine ⟨?_, ?_, fun q => ?_, fun q f => ?_, fun q f => ?_⟩
        · rw [e, opCnt, if_neg t0]; exact h1
        · rw [e, opCnt, if_neg t0]; exact h2
        · rw [e]
          show (opRun n0 r).1.2.2 q = _
          rw [h3 q]
          simp only [opSh, opRef, if_neg t0, if_neg t1]
        · rw [e]
          show (if q = o.2.1 ∧ f = o.2.2.1 then o.2.2.2.2 else (opRun n0 r).2.1 q f) = _
          rw [h4 q f, opInt, if_neg t0, if_neg t1]
        · rw [e]; exact h5 q f
def xOps : List aOp := [(1, 0, 6, 57, 0), (0, 11, 8, 0, 0), (1, 0, 5, 55, 0), (1, 55, 0, 56, 0), (0, 12, 33, 0, 0), (0, 2, 0, 0, 0), (1, 0, 4, 50, 0), (1, 50, 6, 54, 0), (0, 11, 1312, 0, 0), (2, 50, 5, 0, 0), (1, 50, 4, 53, 0), (0, 11, 301, 0, 0), (1, 50, 3, 52, 0), (0, 11, 301, 0, 0), (1, 50, 2, 51, 0), (0, 11, 301, 0, 0), (2, 50, 1, 0, 10), (2, 50, 0, 0, 10), (0, 6, 0, 0, 0), (1, 0, 3, 43, 0), (1, 43, 6, 49, 0), (0, 11, 8, 0, 0), (1, 43, 5, 48, 0), (0, 11, 32, 0, 0), (1, 43, 4, 47, 0), (0, 11, 32, 0, 0), (1, 43, 3, 46, 0), (0, 11, 32, 0, 0), (1, 43, 2, 45, 0), (0, 11, 32, 0, 0), (1, 43, 1, 44, 0), (0, 11, 32, 0, 0), (2, 43, 0, 0, 0), (0, 3, 0, 0, 0), (1, 0, 2, 33, 0), (1, 33, 3, 11, 0), (2, 33, 7, 0, 0), (2, 33, 6, 0, 0), (2, 33, 5, 0, 0), (2, 33, 4, 0, 0), (2, 33, 2, 0, -1), (2, 33, 1, 0, 0), (1, 33, 0, 34, 0), (1, 34, 8, 42, 0), (0, 14, 64, 0, 0), (1, 34, 7, 41, 0), (0, 11, 64, 0, 0), (1, 34, 6, 40, 0), (0, 11, 64, 0, 0), (1, 34, 5, 39, 0), (0, 11, 64, 0, 0), (1, 34, 4, 38, 0), (0, 11, 16, 0, 0), (1, 34, 3, 37, 0), (0, 11, 16, 0, 0), (1, 34, 2, 36, 0), (0, 11, 16, 0, 0), (1, 34, 1, 35, 0), (0, 11, 16, 0, 0), (2, 34, 0, 0, 0), (0, 5, 0, 0, 0), (0, 4, 0, 0, 0), (1, 0, 1, 32, 0), (0, 15, 3, 0, 0), (1, 0, 0, 1, 0), (2, 1, 6, 0, -1), (2, 1, 5, 0, 0), (1, 1, 4, 31, 0), (2, 31, 4, 0, 0), (2, 31, 3, 0, 1900), (2, 31, 2, 0, -3000), (2, 31, 1, 0, 31), (2, 31, 0, 0, 63), (0, 1, 0, 0, 0), (1, 1, 3, 22, 0), (1, 22, 8, 30, 0), (0, 14, 64, 0, 0), (1, 22, 7, 29, 0), (0, 11, 64, 0, 0), (1, 22, 6, 28, 0), (0, 11, 64, 0, 0), (1, 22, 5, 27, 0), (0, 11, 64, 0, 0), (1, 22, 4, 26, 0), (0, 11, 16, 0, 0), (1, 22, 3, 25, 0), (0, 11, 16, 0, 0), (1, 22, 2, 24, 0), (0, 11, 16, 0, 0), (1, 22, 1, 23, 0), (0, 11, 16, 0, 0), (2, 22, 0, 0, 0), (0, 5, 0, 0, 0), (1, 1, 2, 13, 0), (1, 13, 8, 21, 0), (0, 14, 64, 0, 0), (1, 13, 7, 20, 0), (0, 11, 64, 0, 0), (1, 13, 6, 19, 0), (0, 11, 64, 0, 0), (1, 13, 5, 18, 0), (0, 11, 64, 0, 0), (1, 13, 4, 17, 0), (0, 11, 16, 0, 0), (1, 13, 3, 16, 0), (0, 11, 16, 0, 0), (1, 13, 2, 15, 0), (0, 11, 16, 0, 0), (1, 13, 1, 14, 0), (0, 11, 16, 0, 0), (2, 13, 0, 0, 0), (0, 5, 0, 0, 0), (1, 1, 1, 11, 0), (2, 11, 1, 0, 0), (1, 11, 0, 12, 0), (0, 13, 500, 0, 0), (0, 8, 0, 0, 0), (1, 1, 0, 2, 0), (2, 2, 12, 0, -1), (2, 2, 11, 0, 0), (2, 2, 10, 0, 0), (2, 2, 9, 0, 0), (2, 2, 8, 0, 0), (1, 2, 7, 10, 0), (0, 11, 400, 0, 0), (1, 2, 6, 9, 0), (0, 11, 400, 0, 0), (1, 2, 5, 8, 0), (0, 11, 400, 0, 0), (1, 2, 4, 7, 0), (0, 11, 400, 0, 0), (1, 2, 3, 6, 0), (0, 11, 32, 0, 0), (1, 2, 2, 5, 0), (0, 11, 32, 0, 0), (1, 2, 1, 4, 0), (0, 11, 352, 0, 0), (1, 2, 0, 3, 0), (0, 11, 352, 0, 0), (0, 0, 0, 0, 0), (0, 7, 0, 0, 0), (0, 9, 0, 0, 0)]
def mOps : List aOp := [(2, 13, 1, 0, 1900), (2, 13, 0, 0, -3000), (2, 12, 0, 0, 31), (2, 11, 0, 0, 63), (2, 7, 0, 0, -1), (2, 4, 0, 0, -1), (1, 0, 50, 39, 0), (0, 14, 3, 0, 0), (1, 0, 49, 38, 0), (0, 14, 32, 0, 0), (1, 0, 48, 37, 0), (0, 12, 33, 0, 0), (1, 0, 47, 36, 0), (0, 11, 301, 0, 0), (1, 0, 46, 35, 0), (0, 14, 32, 0, 0), (1, 0, 45, 34, 0), (0, 11, 32, 0, 0), (1, 0, 44, 33, 0), (0, 11, 32, 0, 0), (1, 0, 43, 32, 0), (0, 11, 352, 0, 0), (1, 0, 42, 31, 0), (0, 14, 32, 0, 0), (1, 0, 40, 30, 0), (0, 11, 8, 0, 0), (1, 0, 39, 29, 0), (0, 11, 17, 0, 0), (1, 0, 38, 28, 0), (0, 11, 17, 0, 0), (1, 0, 37, 27, 0), (0, 11, 17, 0, 0), (1, 0, 36, 26, 0), (0, 11, 64, 0, 0), (1, 0, 35, 25, 0), (0, 11, 64, 0, 0), (1, 0, 34, 24, 0), (0, 11, 64, 0, 0), (1, 0, 33, 23, 0), (0, 11, 17, 0, 0), (1, 0, 22, 22, 0), (0, 11, 128, 0, 0), (1, 0, 21, 21, 0), (0, 11, 128, 0, 0), (1, 0, 20, 20, 0), (0, 11, 128, 0, 0), (1, 0, 19, 19, 0), (0, 11, 512, 0, 0), (1, 0, 18, 18, 0), (0, 11, 512, 0, 0), (1, 0, 17, 17, 0), (0, 11, 512, 0, 0), (1, 0, 16, 16, 0), (0, 11, 128, 0, 0), (1, 0, 15, 15, 0), (0, 11, 8, 0, 0), (1, 0, 14, 14, 0), (0, 11, 4, 0, 0), (1, 0, 13, 13, 0), (0, 11, 8, 0, 0), (1, 0, 12, 12, 0), (0, 11, 4, 0, 0), (1, 0, 11, 11, 0), (0, 11, 4, 0, 0), (1, 0, 10, 10, 0), (0, 11, 384, 0, 0), (1, 0, 9, 9, 0), (0, 11, 6400, 0, 0), (1, 0, 8, 8, 0), (0, 11, 4, 0, 0), (1, 0, 7, 7, 0), (0, 11, 4, 0, 0), (1, 0, 6, 6, 0), (0, 11, 4, 0, 0), (1, 0, 5, 5, 0), (0, 11, 4, 0, 0), (1, 0, 4, 4, 0), (0, 11, 4, 0, 0), (1, 0, 3, 3, 0), (0, 11, 4, 0, 0), (1, 0, 2, 2, 0), (0, 11, 4, 0, 0), (1, 0, 1, 1, 0), (0, 13, 2000, 0, 0), (0, 10, 0, 0, 0)]
