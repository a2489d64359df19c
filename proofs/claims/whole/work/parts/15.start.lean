def aE0 : APD := ((0, [], fun _ => (0, 0, fun _ => none)), (fun _ _ => 0, fun _ _ => 0))
/-- x as it is made; m as it is made -/
def x0 (n0 : Nat) : APD := fI_X10_init n0 0 (aNO aE0 9)
def m0 (n1 : Nat) : APD := fI_X11_init n1 0 (aNO aE0 10)
/-- both behind the law's first rows -/
def x0P (n0 : Nat) : APD := (((x0 n0).1.1 + 40, (x0 n0).1.2.1, (x0 n0).1.2.2), (x0 n0).2)
section S1
variable {p : Program} {l : Launch} {e : Env} {s : State} {m : MethodId} {below : List Frame} {meth : Method} {c : Code} {H : Heap} {locs : List Loc} {cl sl : Nat} {Q : State → Prop} {b L pc base : Nat} {xs : Nat → Int32} {dC : Nat → ClassId} {dI : Nat → Nat → Nat} {cy : Nat → ClassId} {ex : AEx} {ls : Array Slot} {st : List Value} {P : APD}
theorem S_new {ci idx N : Nat} {C : String} {T : u_T} {ty : Nat → FieldType} (C0 : lw_At p s m meth c b L xs) (hK : va_K (dC, dI) vwCl (aTys cy) s) (kc : aCl ci C T N ty) (h11 : ci < 11) (hdf : ∀ j, j < N → defaultValue (ty j) = if aRef ci j = 0 then .int 0 else if aRef ci j = 1 then .null else .long 0) (w1 : Cond.classLink RL idx C ∈ aT) (w2 : Cond.instantiable C N ∈ aT) (w3 : Cond.initialized C ∈ aT) (hroom : cl + 1 ≤ 607197 ∧ sl + N ≤ 7280657) (h1 : H.size = base + P.1.1) (h2 : va_P (dC, dI) vwCl (aW base cy P.1 P.2) H) (hd : decode code pc = .ok (.new idx, 3)) (kk : ∀ H1 : Heap, H1.size = base + (aNO P ci).1.1 → va_P (dC, dI) vwCl (aW base cy (aNO P ci).1 (aNO P ci).2) H1 → (∀ z, z < H.size → H1[z]? = H[z]?) → W p l e room_1 s m #[Value.ref b] below meth c H1 locs (cl + 1) (sl + N) Q (F0 m (pc + 3) ls (.ref (base + P.1.1) :: st))) : W p l e room_1 s m #[Value.ref b] below meth c H locs cl sl Q (F0 m pc ls st) := by
  obtain ⟨hx, hb, hr, hml, hown, hts, hX, hbl, hlocks, hgv⟩ := C0
  have hts2 : ∀ w ∈ aT, w.before #[Value.ref b] s = true := fun w hw => hts w (List.mem_filter.mp hw).1
  have hKn := hK.1 ci _ kc.1
  refine W.newcK hx hb hown (hts2 _ w1) (hts2 _ w2) (hts2 _ w3) rfl hd hroom.1 hroom.2 hKn.2.1 h1 fun H1 kC hkC e1 z1 o1 => ?_
  refine kk H1 z1 (aP_new h1 h2 (fun q hq => o1 q (by omega)) ?_) (fun z hz => o1 z (by omega))
  rw [aPic_obj h11]
  refine ⟨_, kc.1, (u_born ty hts2 kc.2.1 hKn hkC e1 kc.2.2.1).to (fun j hj => ?_)⟩
  rw [hdf j hj]
  have hN : j < aNF ci := by rw [aNF_eq kc.1]; exact hj
  have hg := aFs_get (S := (ci, 0, fun _ => none)) (D := aZr P.2 P.1.1) (o := P.1.1) hN
  show _ = vp_V _ j
  simp only [vp_V, List.getD_eq_getElem?_getD, hg, Option.getD_some]
  simp only [aFv, aZr]
  split
  · simp
  · split <;> simp [va_rf]
theorem S_init {y : MethodName} {cc2 : ByteArray} {nL2 d2 idx mc2 ms2 o : Nat} {E2 : APD} (C0 : lw_At p s m meth c b L xs) (hK : va_K (dC, dI) vwCl (aTys cy) s) (hE : aEX ex s.heap.size s) (hbs : s.heap.size ≤ base) (M : AMk l y cc2 nL2 none d2 mc2 ms2 (base, dC, dI, cy, ex, P.1) [.ref (base + o)] P.2 none E2) (hn1 : y.name = "<init>") (hl : Cond.methodLink RL idx y ∈ aT) (y2 : Cond.instanceMethod y ∈ aT) (y4 : Cond.initialized y.cls ∈ aT) (y5 : Cond.code y cc2 nL2 none ∈ aT) (hy : y.cls ≠ "java/lang/invoke/MethodHandle" ∧ y.cls ≠ "java/lang/invoke/VarHandle" ∧ (parseMethodDescriptor y.desc).map (fun d => d.parameters.length) = some 0) (hlen : ls.size = 4) (hdd : d2 ≤ 11 ∧ nL2 ≤ 21) (hst : (st.map fun v => v.category).sum ≤ 8) (hroom : cl + mc2 ≤ 607197 ∧ sl + ms2 ≤ 7280657) (h1 : H.size = base + P.1.1) (h2 : va_P (dC, dI) vwCl (aW base cy P.1 P.2) H) (h3 : va_D (aA base P.1) (aW base cy P.1 P.2)) (h4 : va_S (fun q => s.heap.size ≤ q) s.heap H locs) (hd : decode code pc = .ok (.invokespecial idx, 3)) (kk : ∀ (H1 : Heap) (locs1 : List Loc), H1.size = base + E2.1.1 → va_P (dC, dI) vwCl (aW base cy E2.1 E2.2) H1 → (∀ z, z < H.size → ¬ aA base P.1 z → H1[z]? = H[z]?) → va_D (aA base P.1) (aW base cy E2.1 E2.2) → va_S (fun q => s.heap.size ≤ q) s.heap H1 locs1 → W p l e room_1 s m #[Value.ref b] below meth c H1 locs1 (cl + mc2) (sl + ms2) Q (F0 m (pc + 3) ls st)) : W p l e room_1 s m #[Value.ref b] below meth c H locs cl sl Q (F0 m pc ls (.ref (base + o) :: st)) := by
  obtain ⟨hx, hb, hr, hml, hown, hts, hX, hbl, hlocks, hgv⟩ := C0
  have hts2 : ∀ w ∈ aT, w.before #[Value.ref b] s = true := fun w hw => hts w (List.mem_filter.mp hw).1
  have hgood : GoodIn aT (Cond.code y cc2 nL2 none :: aT) := aT_good _ (by intro q9 hq9; rcases List.mem_cons.mp hq9 with rfl | hq9 <;> assumption)
  have hge : ∀ z, aA base P.1 z → s.heap.size ≤ z := fun z hz => Nat.le_trans hbs (aA_ge z hz)
  refine W_run (va_runI (R := room_1) (As := []) (rest := st) (b := base + o) ⟨hx, hb, hml, hown, hts2⟩ M (cwI 0 hts2 hgood rfl rfl rfl (hts2 _ y4) (hts2 _ hl) (hts2 _ y2) hn1 hy ⟨by show d2 + 1 ≤ 13; have := hdd.1; omega, by show 8 + (nL2 + 11) + 40 * d2 ≤ 488; have := hdd.1; have := hdd.2; omega⟩) ⟨aBlind, fun U2 hU hW => ⟨rfl, by rw [hU]; exact h1, by rw [hU]; exact h2, h3, va_K.moved hW.alike hK, aEX_at hE hbs rfl h4 hU hW⟩⟩ rfl rfl hlen rfl (lv_room hst) hd hroom) (fun v st₀ t H1 Lc e0 hL e1 hq => ?_)
  obtain ⟨hv, hsz2, hP2, hD2, hF⟩ := hq
  have hv : v = none := Outcome.returned.inj hv
  subst hv
  rw [va_F, e0] at hF
  refine kk H1 (locs ++ Lc) (by rw [e1]; exact hsz2) (by rw [e1]; exact hP2) (fun z g1 g2 => by rw [e1]; exact hF.2 z g1 g2) hD2 ⟨by rw [e1]; have := hF.1; have := h4.1; omega, fun z g1 g2 => ?_, fun z hz => ?_⟩
  · rw [e1, hF.2 z (by have := h4.1; omega) (fun hA => g2 (hge z hA))]
    exact h4.2.1 z g1 g2
  · rcases List.mem_append.mp hz with h | h
    · exact h4.2.2 z h
    · exact hge _ (hL z h)
end S1
theorem m0_L (n1 : Nat) : (m0 n1).1.2.1 = List.range 40 := by
  unfold m0
  rfl
theorem m0_N (n1 : Nat) : (m0 n1).1.1 = 40 := by
  unfold m0
  rfl
theorem x0_N (n0 : Nat) : (x0 n0).1.1 = 58 := by
  unfold x0
  first | rfl | (rw [fI_X10_init_N]; rfl)
