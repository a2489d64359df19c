theorem w_974 : Cond.methodLink RX10 (274) yX8_copyFrom ∈ aT := aT_m (tm_5_0 mq_14) gw_methodLink
theorem w_975 : Cond.instanceMethod yX8_copyFrom ∈ aT := aT_m (tm_5_0 mq_15) gw_instanceMethod
theorem w_976 : Cond.selects RX8 yX8_copyFrom yX8_copyFrom ∈ aT := aT_m (tm_5_1 mq_0) gw_selects
theorem w_977 : Cond.code yX8_copyFrom cX8_copyFrom 2 none ∈ aT := aT_m (tm_5_1 mq_1) gw_code
theorem yc_X10_274 : aYV RX10 274 yX8_copyFrom cX8_copyFrom 2 none 1 := ⟨w_974, w_975, w_976, w_2, w_977, by decide +kernel, by decide +kernel, by decide +kernel⟩
section C2
variable {g : AGl} {b : AMc} {cc : ByteArray} {own nm : String} {nL : Nat} {ret : Option FieldType} {d mc ms cl sl pc : Nat} {lv : List (Option Value)} {st : List Value} {P E : APD} {r : Option Value}
theorem C_iflt_t {x : Int32} {off : Int} {tgt : Nat} (hC : ACc g b cc own nL ret d mc ms nm) (hd : decode cc pc = .ok (.ifCond .lt off, 3)) (ht : (pc : Int) + off = (tgt : Int)) (hx9 : x < 0) (kk : ATc g b mc ms P cl sl tgt lv st r E) : ATc g b mc ms P cl sl pc lv (.int x :: st) r E := by
  obtain ⟨n0, dC, dI, cy, ex, w0⟩ := g
  obtain ⟨p, l, e, R, s, m, args, below, meth, c⟩ := b
  obtain ⟨hx, hb, hml, hown, hts, hr, hlk, hR, hK, hE, hz, hnm⟩ := hC
  intro H ls locs h1 h2 h3 h4 h5
  exact lv_if_lt hx hb hd ht (fun _ => kk H ls locs h1 h2 h3 h4 h5) (fun h => absurd hx9 h)
theorem C_iflt_n {x : Int32} {off : Int} {tgt : Nat} (hC : ACc g b cc own nL ret d mc ms nm) (hd : decode cc pc = .ok (.ifCond .lt off, 3)) (ht : (pc : Int) + off = (tgt : Int)) (hx9 : ¬ x < 0) (kk : ATc g b mc ms P cl sl (pc + 3) lv st r E) : ATc g b mc ms P cl sl pc lv (.int x :: st) r E := by
  obtain ⟨n0, dC, dI, cy, ex, w0⟩ := g
  obtain ⟨p, l, e, R, s, m, args, below, meth, c⟩ := b
  obtain ⟨hx, hb, hml, hown, hts, hr, hlk, hR, hK, hE, hz, hnm⟩ := hC
  intro H ls locs h1 h2 h3 h4 h5
  exact lv_if_lt hx hb hd ht (fun h => absurd h hx9) (fun _ => kk H ls locs h1 h2 h3 h4 h5)
theorem C_icmplt_t {x y : Int32} {off : Int} {tgt : Nat} (hC : ACc g b cc own nL ret d mc ms nm) (hd : decode cc pc = .ok (.if_icmp .lt off, 3)) (ht : (pc : Int) + off = (tgt : Int)) (hx9 : x < y) (kk : ATc g b mc ms P cl sl tgt lv st r E) : ATc g b mc ms P cl sl pc lv (.int y :: .int x :: st) r E := by
  obtain ⟨n0, dC, dI, cy, ex, w0⟩ := g
  obtain ⟨p, l, e, R, s, m, args, below, meth, c⟩ := b
  obtain ⟨hx, hb, hml, hown, hts, hr, hlk, hR, hK, hE, hz, hnm⟩ := hC
  intro H ls locs h1 h2 h3 h4 h5
  exact lv_icmp_lt hx hb hd ht (fun _ => kk H ls locs h1 h2 h3 h4 h5) (fun h => absurd hx9 h)
theorem C_icmplt_n {x y : Int32} {off : Int} {tgt : Nat} (hC : ACc g b cc own nL ret d mc ms nm) (hd : decode cc pc = .ok (.if_icmp .lt off, 3)) (ht : (pc : Int) + off = (tgt : Int)) (hx9 : ¬ x < y) (kk : ATc g b mc ms P cl sl (pc + 3) lv st r E) : ATc g b mc ms P cl sl pc lv (.int y :: .int x :: st) r E := by
  obtain ⟨n0, dC, dI, cy, ex, w0⟩ := g
  obtain ⟨p, l, e, R, s, m, args, below, meth, c⟩ := b
  obtain ⟨hx, hb, hml, hown, hts, hr, hlk, hR, hK, hE, hz, hnm⟩ := hC
  intro H ls locs h1 h2 h3 h4 h5
  exact lv_icmp_lt hx hb hd ht (fun h => absurd h hx9) (fun _ => kk H ls locs h1 h2 h3 h4 h5)
theorem C_ifnonnull {x : Nat} {off : Int} {tgt : Nat} (hC : ACc g b cc own nL ret d mc ms nm) (hd : decode cc pc = .ok (.ifnonnull off, 3)) (ht : (pc : Int) + off = (tgt : Int)) (kk : ATc g b mc ms P cl sl tgt lv st r E) : ATc g b mc ms P cl sl pc lv (.ref x :: st) r E := by
  obtain ⟨n0, dC, dI, cy, ex, w0⟩ := g
  obtain ⟨p, l, e, R, s, m, args, below, meth, c⟩ := b
  obtain ⟨hx, hb, hml, hown, hts, hr, hlk, hR, hK, hE, hz, hnm⟩ := hC
  intro H ls locs h1 h2 h3 h4 h5
  exact lv_ifnonnull hx hb hd ht (kk H ls locs h1 h2 h3 h4 h5)
theorem C_ifnonnullN {off : Int} (hC : ACc g b cc own nL ret d mc ms nm) (hd : decode cc pc = .ok (.ifnonnull off, 3)) (kk : ATc g b mc ms P cl sl (pc + 3) lv st r E) : ATc g b mc ms P cl sl pc lv (.null :: st) r E := by
  obtain ⟨n0, dC, dI, cy, ex, w0⟩ := g
  obtain ⟨p, l, e, R, s, m, args, below, meth, c⟩ := b
  obtain ⟨hx, hb, hml, hown, hts, hr, hlk, hR, hK, hE, hz, hnm⟩ := hC
  intro H ls locs h1 h2 h3 h4 h5
  exact lv_ifnonnullN hx hb hd (kk H ls locs h1 h2 h3 h4 h5)
theorem C_aload_nN {k : Fin 4} (hC : ACc g b cc own nL ret d mc ms nm) (hd : decode cc pc = .ok (.aload_n k, 1)) (hl : lv[(k : Nat)]? = some (some .null)) (kk : ATc g b mc ms P cl sl (pc + 1) lv (.null :: st) r E) : ATc g b mc ms P cl sl pc lv st r E := by
  obtain ⟨n0, dC, dI, cy, ex, w0⟩ := g
  obtain ⟨p, l, e, R, s, m, args, below, meth, c⟩ := b
  obtain ⟨hx, hb, hml, hown, hts, hr, hlk, hR, hK, hE, hz, hnm⟩ := hC
  intro H ls locs h1 h2 h3 h4 h5
  exact lv_aload_nN hx hb hd rfl (h5.2.2 _ _ hl) (kk H ls locs h1 h2 h3 h4 h5)
theorem C_astore_nN {k : Fin 4} {lv2 : List (Option Value)} (hC : ACc g b cc own nL ret d mc ms nm) (hd : decode cc pc = .ok (.astore_n k, 1)) (hi : (k : Nat) < lv.length) (ho : aOk lv (k : Nat) = true) (hl : lv.set (k : Nat) (some .null) = lv2) (kk : ATc g b mc ms P cl sl (pc + 1) lv2 st r E) : ATc g b mc ms P cl sl pc lv (.null :: st) r E := by
  obtain ⟨n0, dC, dI, cy, ex, w0⟩ := g
  obtain ⟨p, l, e, R, s, m, args, below, meth, c⟩ := b
  obtain ⟨hx, hb, hml, hown, hts, hr, hlk, hR, hK, hE, hz, hnm⟩ := hC
  intro H ls locs h1 h2 h3 h4 h5
  refine lv_astore_nN hx hb hd rfl (aLv_has h5) hi rfl (fun ls2 h6 => ?_)
  subst hl
  exact kk H ls2 locs h1 h2 h3 h4 (aLv_1 hi ho h6)
theorem C_alenq {o n : Nat} {rf : Nat → Option Nat} (hC : ACc g b cc own nL ret d mc ms nm) (hO : o ∈ P.1.2.1 ∧ P.1.2.2 o = (15, n, rf)) (hd : decode cc pc = .ok (.arraylength, 1)) (kk : ATc g b mc ms P cl sl (pc + 1) lv (.int (Int32.ofNat n) :: st) r E) : ATc g b mc ms P cl sl pc lv (.ref (g.1 + o) :: st) r E := by
  obtain ⟨n0, dC, dI, cy, ex, w0⟩ := g
  obtain ⟨p, l, e, R, s, m, args, below, meth, c⟩ := b
  obtain ⟨hx, hb, hml, hown, hts, hr, hlk, hR, hK, hE, hz, hnm⟩ := hC
  intro H ls locs h1 h2 h3 h4 h5
  obtain ⟨hoL, hoS⟩ := hO
  obtain ⟨j, hj⟩ := aW_get (n0 := n0) (cy := cy) (w := P.1) (D := P.2) hoL
  rw [hoS] at hj
  have hj : (aW n0 cy P.1 P.2)[j]? = some (n0 + o, .inl (cy 4, n, .inr (.inr (.inr (.inr rf))))) := hj
  exact va_alen hx hb hK h2 j 4 hj rfl rfl hd (kk H ls locs h1 h2 h3 h4 h5)
theorem C_aald {o n : Nat} {rf : Nat → Option Nat} {i : Int32} {v : Value} (hC : ACc g b cc own nL ret d mc ms nm) (hO : o ∈ P.1.2.1 ∧ P.1.2.2 o = (15, n, rf)) (hin : ¬ (i < 0 ∨ n ≤ i.toNatClampNeg)) (hv : va_rf (rf i.toNatClampNeg) = v) (hd : decode cc pc = .ok (.aaload, 1)) (kk : ATc g b mc ms P cl sl (pc + 1) lv (v :: st) r E) : ATc g b mc ms P cl sl pc lv (.int i :: .ref (g.1 + o) :: st) r E := by
  obtain ⟨n0, dC, dI, cy, ex, w0⟩ := g
  obtain ⟨p, l, e, R, s, m, args, below, meth, c⟩ := b
  obtain ⟨hx, hb, hml, hown, hts, hr, hlk, hR, hK, hE, hz, hnm⟩ := hC
  intro H ls locs h1 h2 h3 h4 h5
  obtain ⟨hoL, hoS⟩ := hO
  obtain ⟨j, hj⟩ := aW_get (n0 := n0) (cy := cy) (w := P.1) (D := P.2) hoL
  rw [hoS] at hj
  have hj : (aW n0 cy P.1 P.2)[j]? = some (n0 + o, .inl (cy 4, n, .inr (.inr (.inr (.inr rf))))) := hj
  subst hv
  exact va_aldq hx hb hK h2 j 4 hj rfl hin hd (kk H ls locs h1 h2 h3 h4 h5)
theorem C_aast {o n ov : Nat} {rf : Nat → Option Nat} {i : Int32} (hC : ACc g b cc own nL ret d mc ms nm) (hO : o ∈ P.1.2.1 ∧ P.1.2.2 o = (15, n, rf)) (hV : aHas P ov 7) (hin : ¬ (i < 0 ∨ n ≤ i.toNatClampNeg)) (hd : decode cc pc = .ok (.aastore, 1)) (kk : ∀ P2, P2 = aPR P o i.toNatClampNeg (g.1 + ov) → ATc g b mc ms P2 cl sl (pc + 1) lv st r E) : ATc g b mc ms P cl sl pc lv (.ref (g.1 + ov) :: .int i :: .ref (g.1 + o) :: st) r E := by
  obtain ⟨n0, dC, dI, cy, ex, w0⟩ := g
  obtain ⟨p, l, e, R, s, m, args, below, meth, c⟩ := b
  obtain ⟨hx, hb, hml, hown, hts, hr, hlk, hR, hK, hE, hz, hnm⟩ := hC
  intro H ls locs h1 h2 h3 h4 h5
  obtain ⟨hoL, hoS⟩ := hO
  obtain ⟨j, hj⟩ := aW_get (n0 := n0) (cy := cy) (w := P.1) (D := P.2) hoL
  rw [hoS] at hj
  have hj : (aW n0 cy P.1 P.2)[j]? = some (n0 + o, .inl (cy 4, n, .inr (.inr (.inr (.inr rf))))) := hj
  obtain ⟨hvL, hvS, hvN⟩ := hV
  obtain ⟨j2, hj2⟩ := aW_get (n0 := n0) (cy := cy) (w := P.1) (D := P.2) hvL
  rw [aPic_obj (by rw [hvS]; decide), hvS] at hj2
  have hlt : i.toNatClampNeg < n := Nat.not_le.mp fun q => hin (Or.inr q)
  have hi0 : ¬ i < 0 := fun q => hin (Or.inl q)
  obtain ⟨r', hr', cellV, g1, g2, g3, -⟩ := h2 j2 _ hj2
  have hcls := (hK.1 7 _ rfl).2
  obtain ⟨kA, comp, k1, k2, k3, -⟩ := (hK.2 4 _ rfl).2
  have hcomp : comp = dC 7 := Option.some.inj (k3.symm.trans hcls.1)
  subst hcomp
  obtain ⟨kC, hkC, -⟩ := hcls.2
  refine W.aast hx hb (h2 j _ hj) (fun q h => by cases h) (fun h => by cases h) k1 k2 rfl hkC ⟨hi0, by show _ < (arrV _ _ _).slots.size; rw [arrV_size]; exact hlt⟩ g1 (fun q h => by rw [g3] at h; cases h) (by rw [g2]; exact hkC) (by rw [g2]; exact va_assign hcls) rfl rfl hd fun H1 e9 z oq => ?_
  have q9 := h2.set (e := .inl (cy 4, n, .inr (.inr (.inr (.inr (va_up rf i.toNatClampNeg (some (n0 + ov)))))))) h3 hj (by
    show H1[n0 + o]? = some (vp_cell _ _)
    rw [e9, vp_cell_q, vp_cell_q, arrV_store]
    congr 2
    funext q
    by_cases hq : q = i.toNatClampNeg
    · subst hq
      simp [updV, va_up, va_rf]
    · simp [updV, va_up, hq]) oq
  rw [aW_set2 (w := P.1) (D := P.2) (w' := (aPR P o i.toNatClampNeg (n0 + ov)).1) (D' := (aPR P o i.toNatClampNeg (n0 + ov)).2) rfl h3 hj (by show aPic cy (if o = o then _ else _) P.2 o = _; rw [if_pos rfl, hoS]; rfl) (fun i9 hi9 => by show aPic cy (if i9 = o then _ else _) P.2 i9 = _; rw [if_neg hi9])] at q9
  exact kk _ rfl H1 ls _ (z.trans h1) q9 (aD_L (w := P.1) (D := P.2) rfl h3) (h4.put z oq (h3.2 j _ hj)) h5
theorem C_zret {x : Int32} (hC : ACc g b cc own nL (some .boolean) d mc ms nm) (hP : P = E) (hc : cl ≤ mc ∧ sl ≤ ms) (hr0 : r = some (.int x)) (h01 : x = 0 ∨ x = 1) (hd : decode cc pc = .ok (.ireturn, 1)) : ATc g b mc ms P cl sl pc lv [.int x] r E := by
  obtain ⟨n0, dC, dI, cy, ex, w0⟩ := g
  obtain ⟨p, l, e, R, s, m, args, below, meth, c⟩ := b
  obtain ⟨hx, hb, hml, hown, hts, hr, hlk, hR, hK, hE, hz, hnm⟩ := hC
  intro H ls locs h1 h2 h3 h4 h5
  subst hP
  subst hr0
  refine W.widen (k := mc) (n := ms) hc.1 hc.2 ?_
  exact W.zret hx hb hr (aZ_nar h01).1 (fun t ht hW => ⟨rfl, by rw [ht]; exact h1, by rw [ht]; exact h2, h3, h4.F ht⟩) h4.2.2 hd hlk
/-- a call that makes nothing, from a walk that makes cells -/
theorem C_callM {y : MethodName} {cc2 : ByteArray} {nL2 d2 n idx o N : Nat} {As stk : List Value} {T : u_T} {D2 : ADD} {f : Option (Unit × ADD)} {ci : Nat} (hC : ACc g b cc own nL ret d mc ms nm) (hM : ∀ l, AM aVv l y cc2 nL2 none d2 (g.1, g.2.1, g.2.2.1, g.2.2.2.1, g.2.2.2.2.1, P.1) (.ref (g.1 + o) :: As) P.2 f) (hf : f = some ((), D2)) (hO : aHas P o ci) (hci : vwCl[ci]? = some (y.cls, T, N)) (h11 : ci < 11) (hY : aYV own idx y cc2 nL2 none n) (hn : As.length = n) (hlen : lv.length = nL) (hdd : d2 + 1 ≤ d ∧ nL2 ≤ 21) (hst : (st.map fun v => v.category).sum ≤ 8) (hcap : cl ≤ mc ∧ sl ≤ ms) (hs : stk = As.reverse ++ .ref (g.1 + o) :: st) (hd : decode cc pc = .ok (.invokevirtual idx, 3)) (kk : ATc g b mc ms (P.1, D2) cl sl (pc + 3) lv st r E) : ATc g b mc ms P cl sl pc lv stk r E := by
  obtain ⟨n0, dC, dI, cy, ex, w0⟩ := g
  obtain ⟨p, l, e, R, s, m, args, below, meth, c⟩ := b
  obtain ⟨hx, hb, hml, hown, hts, hr, hlk, hR, hK, hE, hz, hnm⟩ := hC
  intro H ls locs h1 h2 h3 h4 h5
  have M := hM l () D2 hf
  subst hs
  subst hR
  intro T9 hT X
  obtain ⟨hoL, hoS, hoN⟩ := hO
  obtain ⟨j, hj⟩ := aW_get (n0 := n0) (cy := cy) (w := P.1) (D := P.2) hoL
  subst hoS
  rw [aPic_obj h11] at hj
  obtain ⟨y1, y2, y3, y4, y5, y6, y7, y8⟩ := hY
  have hD9 : va_D (aA n0 P.1) (aW n0 cy P.1 P.2) := by
    refine ⟨h3.1, fun k q hk => ?_⟩
    have hk2 := hk
    simp only [aW, List.getElem?_map] at hk2
    cases hx9 : P.1.2.1[k]? with
    | none => rw [hx9] at hk2; cases hk2
    | some a9 =>
      rw [hx9] at hk2
      exact Or.inl ⟨a9, List.mem_of_getElem? hx9, by rw [← Option.some.inj hk2]⟩
  obtain ⟨v, st₀, t, T', L, e0, X', hL, e1, e2, hq, go⟩ := va_runV (R := ARm d mc ms) (As := As) (rest := st) (b := n0 + o) (C := y.cls) (g := F0 m pc ls (As.reverse ++ .ref (n0 + o) :: st)) ⟨hx, hb, hml, hown, hts⟩ M (cwV n hts (aT_good _ (by intro q9 hq9; simp only [wsV, List.mem_append, List.mem_cons, List.not_mem_nil, or_false] at hq9; rcases hq9 with (rfl | rfl | rfl | rfl) | rfl | hq9 <;> assumption)) rfl rfl rfl ⟨rfl, y6, y7, y8⟩ ⟨hdd.1, by show 8 + (nL2 + 11) + 40 * d2 ≤ 40 * d; have := hdd.1; have := hdd.2; omega⟩) ⟨aBlind, va_recv hK h2 hci hj, fun U2 hU hW => ⟨rfl, by rw [hU]; exact h1, by rw [hU]; exact h2, hD9, va_K.moved hW.alike hK, aEX_warm hE hz h4 hU hW⟩⟩ rfl hn (h5.1.trans hlen) rfl (lv_room hst) hd hcap T9 hT X
  have hv : v = none := Outcome.returned.inj hq.1
  subst hv
  obtain ⟨-, hsz2, hP2, hF⟩ := hq
  have hsub : ∀ q, aA n0 P.1 q → aA n0 w0 q := by
    intro q hq9
    rcases hq9 with ⟨k9, hk9, rfl⟩ | hq9
    · obtain ⟨j9, hj9⟩ := aW_get (n0 := n0) (cy := cy) (w := P.1) (D := P.2) hk9
      exact h3.2 j9 _ hj9
    · exact Or.inr (by have := h4.1; omega)
  have hS2 : va_S (aA n0 w0) s.heap T'.heap (locs ++ L) := by
    refine ⟨?_, fun q g1 g2 => ?_, fun q hq => ?_⟩
    · rw [e1]; have := hF.1; rw [e0] at this; have := h4.1; omega
    · have h9 := hF.2 q (by rw [e0]; have := h4.1; omega) (fun h => g2 (hsub q h))
      rw [e1, h9, e0]
      exact h4.2.1 q g1 g2
    · rcases List.mem_append.mp hq with h | h
      · exact h4.2.2 q h
      · exact hsub _ (hL q h)
  obtain ⟨t2, a1, b1⟩ := kk T'.heap ls (locs ++ L) (by rw [e1]; exact hsz2) (by rw [e1]; exact hP2) (aD_any h3) hS2 h5 T' rfl X'
  exact ⟨t2, go t2 a1, b1⟩
end C2
def fImg (n0 : Nat) (im : Nat → Option Nat) (w : AWS) (a1 : Int32) (D : ADD) : Option (Int32 × APD) :=
  if a1 < 0 then some (0, (w, D)) else if a1 < 3 then
    (match im a1.toNatClampNeg with
    | some q => aBind (fX8_copyFrom q 1 D) (fun _ D1 => some (1, (w, D1)))
    | none => aLet (aPR (fI_X8_init n0 w.1 (aNO (w, D) 7)) 32 a1.toNatClampNeg (n0 + w.1)) (fun P3 => aBind (fX8_copyFrom w.1 1 P3.2) (fun _ D1 => some (1, (P3.1, D1)))))
  else some (0, (w, D))
def fAgn (im : Nat → Option Nat) (a1 : Int32) (D : ADD) : Option (Int32 × ADD) :=
  if a1 < 0 then some (0, D) else if a1 < 3 then
    (match im a1.toNatClampNeg with
    | some q => aBind (fX8_copyFrom 1 q D) (fun _ D1 => some (1, D1))
    | none => some (0, D))
  else some (0, D)
theorem aRow3 {a1 : Int32} (h0 : ¬ a1 < 0) (h3 : a1 < 3) : ¬ (a1 < 0 ∨ 3 ≤ a1.toNatClampNeg) := by
  rintro (h | h)
  · exact h0 h
  · have e0 : (0 : Int) ≤ a1.toInt := by
      have := Int32.not_lt.mp h0
      simpa using Int32.le_iff_toInt_le.mp this
    have e3 : a1.toInt < 3 := by simpa using Int32.lt_iff_toInt_lt.mp h3
    have : a1.toNatClampNeg = a1.toInt.toNat := rfl
    omega
set_option maxHeartbeats 4000000 in
set_option maxRecDepth 100000 in
theorem mkX10_again (l : Launch) (g : AGl) (im : Nat → Option Nat) (hL : aLX g) (hS1 : aLS g 1) (hI : aAt g 32 (15, 3, fun j => (im j).map (g.1 + ·))) (hB : ∀ j q, j < 3 → im j = some q → aLS g q) (hlt : ∀ q ∈ g.2.2.2.2.2.2.1, q < g.2.2.2.2.2.1) (a1 : Int32) (D : ADD) (x : Int32) (D9 : ADD) (hk : fAgn im a1 D = some (x, D9)) : AMk l yX10_again cX10_again 3 (some .boolean) 3 0 0 g [.ref (g.1 + 0), .int a1] D (some (.int x)) (g.2.2.2.2.2, D9) := by
  refine AMk_of (lv0 := [some (.ref (g.1 + 0)), some (.int a1), none]) (own := RX10) (nm := "again") (by decide +kernel) rfl rfl (Nat.le_of_ble_eq_true rfl) rfl (fun b hC => ?_)
  unfold fAgn at hk
  have hh0 : aHas (g.2.2.2.2.2, D) 0 9 := ⟨(lX_0 hL).1, by rw [show ((g.2.2.2.2.2, D) : APD).1.2.2 0 = _ from (lX_0 hL).2], hlt _ (lX_0 hL).1⟩
  have hri : ((g.2.2.2.2.2, D) : APD).1.2.2 0 |>.2.2 1 |> (· = some (g.1 + 32)) := by show (g.2.2.2.2.2.2.2 0).2.2 1 = _; rw [(lX_0 hL).2]; rfl
  have hri : (((g.2.2.2.2.2, D) : APD).1.2.2 0).2.2 1 = some (g.1 + 32) := hri
  have hrn : (((g.2.2.2.2.2, D) : APD).1.2.2 0).2.2 0 = some (g.1 + 1) := by show (g.2.2.2.2.2.2.2 0).2.2 0 = _; rw [(lX_0 hL).2]; rfl
  refine C_iload_n hC dX10_again_0 rfl ?_
  by_cases h0 : a1 < 0
  · rw [if_pos h0] at hk
    cases hk
    refine C_iflt_t (tgt := 13) hC dX10_again_1 (by decide) h0 ?_
    refine C_iconst (v := 0) hC dX10_again_13 (by decide) ?_
    exact C_zret hC rfl ⟨Nat.zero_le _, Nat.zero_le _⟩ rfl (Or.inl rfl) dX10_again_14
  rw [if_neg h0] at hk
  refine C_iflt_n (tgt := 13) hC dX10_again_1 (by decide) h0 ?_
  refine C_iload_n hC dX10_again_4 rfl ?_
  refine C_aload_n hC dX10_again_5 rfl ?_
  refine C_getr (kf := 1) hC kX10 hh0 (by decide) (by decide) rfl hri w_306 dX10_again_6 ?_
  refine C_alenq hC hI dX10_again_9 ?_
  by_cases h3 : a1 < 3
  case neg =>
    rw [if_neg h3] at hk
    cases hk
    refine C_icmplt_n (tgt := 15) hC dX10_again_10 (by decide) h3 ?_
    refine C_iconst (v := 0) hC dX10_again_13 (by decide) ?_
    exact C_zret hC rfl ⟨Nat.zero_le _, Nat.zero_le _⟩ rfl (Or.inl rfl) dX10_again_14
  rw [if_pos h3] at hk
  have hin := aRow3 h0 h3
  refine C_icmplt_t (tgt := 15) hC dX10_again_10 (by decide) h3 ?_
  refine C_aload_n hC dX10_again_15 rfl ?_
  refine C_getr (kf := 1) hC kX10 hh0 (by decide) (by decide) rfl hri w_306 dX10_again_16 ?_
  refine C_iload_n hC dX10_again_19 rfl ?_
  cases hq : im a1.toNatClampNeg with
  | none =>
    rw [hq] at hk
    cases hk
    refine C_aald (v := .null) hC hI hin (by rw [hq]; rfl) dX10_again_20 ?_
    refine C_astore_nN (lv2 := [some (.ref (g.1 + 0)), some (.int a1), some .null]) hC dX10_again_21 (Nat.le_of_ble_eq_true rfl) rfl rfl ?_
    refine C_aload_nN hC dX10_again_22 rfl ?_
    refine C_ifnonnullN hC dX10_again_23 ?_
    refine C_iconst (v := 0) hC dX10_again_26 (by decide) ?_
    exact C_zret hC rfl ⟨Nat.le_refl 0, Nat.le_refl 0⟩ rfl (Or.inl rfl) dX10_again_27
  | some q =>
    rw [hq] at hk
    have hlq := hB _ q (by have := hin; omega) hq
    refine C_aald (v := .ref (g.1 + q)) hC hI hin (by rw [hq]; rfl) dX10_again_20 ?_
    refine C_astore_n (lv2 := [some (.ref (g.1 + 0)), some (.int a1), some (.ref (g.1 + q))]) hC dX10_again_21 (Nat.le_of_ble_eq_true rfl) rfl rfl ?_
    refine C_aload_n hC dX10_again_22 rfl ?_
    refine C_ifnonnull (tgt := 28) hC dX10_again_23 (by decide) ?_
    refine C_aload_n hC dX10_again_28 rfl ?_
    refine C_getr (kf := 0) hC kX10 hh0 (by decide) (by decide) rfl hrn w_305 dX10_again_29 ?_
    refine C_aload_n hC dX10_again_32 rfl ?_
    cases hf : fX8_copyFrom 1 q D with
    | none => simp only [hf, aBind] at hk; cases hk
    | some z =>
      obtain ⟨u9, D8⟩ := z
      simp only [hf, aBind] at hk
      cases hk
      have hh1 : aHas (g.2.2.2.2.2, D) 1 7 := ⟨hS1.1.1, by rw [show ((g.2.2.2.2.2, D) : APD).1.2.2 1 = _ from hS1.1.2], hlt _ hS1.1.1⟩
      refine C_callM (n := 1) (ci := 7) (As := [.ref (g.1 + q)]) (st := []) hC (fun l => mX8_copyFrom l g 1 q hS1 hlq D) hf hh1 rfl (by decide) yc_X10_274 rfl rfl ⟨by decide, by decide⟩ (Nat.le_of_ble_eq_true rfl) ⟨Nat.le_refl 0, Nat.le_refl 0⟩ rfl dX10_again_33 ?_
      refine C_iconst (v := 1) hC dX10_again_36 (by decide) ?_
      exact C_zret hC rfl ⟨Nat.le_refl 0, Nat.le_refl 0⟩ rfl (Or.inr rfl) dX10_again_37
set_option maxHeartbeats 4000000 in
set_option maxRecDepth 100000 in
theorem mkX10_image (l : Launch) (g : AGl) (im : Nat → Option Nat) (hL : aLX g) (hS1 : aLS g 1) (hI : aAt g 32 (15, 3, fun j => (im j).map (g.1 + ·))) (hB : ∀ j q, j < 3 → im j = some q → aLS g q) (hlt : ∀ q ∈ g.2.2.2.2.2.2.1, q < g.2.2.2.2.2.1) (a1 : Int32) (D : ADD)
    (hN : ∀ P3, P3 = aPR (fI_X8_init g.1 g.2.2.2.2.2.1 (aNO (g.2.2.2.2.2, D) 7)) 32 a1.toNatClampNeg (g.1 + g.2.2.2.2.2.1) → aLS (g.1, g.2.1, g.2.2.1, g.2.2.2.1, g.2.2.2.2.1, P3.1) g.2.2.2.2.2.1 ∧ aLS (g.1, g.2.1, g.2.2.1, g.2.2.2.1, g.2.2.2.2.1, P3.1) 1)
    (hN2 : ∀ P2, P2 = fI_X8_init g.1 g.2.2.2.2.2.1 (aNO (g.2.2.2.2.2, D) 7) → (32 ∈ P2.1.2.1 ∧ P2.1.2.2 32 = (15, 3, fun j => (im j).map (g.1 + ·))) ∧ (P2.1.2.2 0).2.2 1 = some (g.1 + 32) ∧ (P2.1.2.2 0).2.2 0 = some (g.1 + 1))
    (x : Int32) (E : APD) (hk : fImg g.1 im g.2.2.2.2.2 a1 D = some (x, E)) : AMk l yX10_image cX10_image 3 (some .boolean) 3 31 3553 g [.ref (g.1 + 0), .int a1] D (some (.int x)) E := by
  refine AMk_of (lv0 := [some (.ref (g.1 + 0)), some (.int a1), none]) (own := RX10) (nm := "image") (by decide +kernel) rfl rfl (Nat.le_of_ble_eq_true rfl) rfl (fun b hC => ?_)
  unfold fImg at hk
  have hh0 : aHas (g.2.2.2.2.2, D) 0 9 := ⟨(lX_0 hL).1, by rw [show ((g.2.2.2.2.2, D) : APD).1.2.2 0 = _ from (lX_0 hL).2], hlt _ (lX_0 hL).1⟩
  have hri : (((g.2.2.2.2.2, D) : APD).1.2.2 0).2.2 1 = some (g.1 + 32) := by show (g.2.2.2.2.2.2.2 0).2.2 1 = _; rw [(lX_0 hL).2]; rfl
  have hrn : (((g.2.2.2.2.2, D) : APD).1.2.2 0).2.2 0 = some (g.1 + 1) := by show (g.2.2.2.2.2.2.2 0).2.2 0 = _; rw [(lX_0 hL).2]; rfl
  refine C_iload_n hC dX10_image_0 rfl ?_
  by_cases h0 : a1 < 0
  · rw [if_pos h0] at hk
    cases hk
    refine C_iflt_t (tgt := 13) hC dX10_image_1 (by decide) h0 ?_
    refine C_iconst (v := 0) hC dX10_image_13 (by decide) ?_
    exact C_zret hC rfl ⟨Nat.zero_le _, Nat.zero_le _⟩ rfl (Or.inl rfl) dX10_image_14
  rw [if_neg h0] at hk
  refine C_iflt_n (tgt := 13) hC dX10_image_1 (by decide) h0 ?_
  refine C_iload_n hC dX10_image_4 rfl ?_
  refine C_aload_n hC dX10_image_5 rfl ?_
  refine C_getr (kf := 1) hC kX10 hh0 (by decide) (by decide) rfl hri w_306 dX10_image_6 ?_
  refine C_alenq hC hI dX10_image_9 ?_
  by_cases h3 : a1 < 3
  case neg =>
    rw [if_neg h3] at hk
    cases hk
    refine C_icmplt_n (tgt := 15) hC dX10_image_10 (by decide) h3 ?_
    refine C_iconst (v := 0) hC dX10_image_13 (by decide) ?_
    exact C_zret hC rfl ⟨Nat.zero_le _, Nat.zero_le _⟩ rfl (Or.inl rfl) dX10_image_14
  rw [if_pos h3] at hk
  have hin := aRow3 h0 h3
  refine C_icmplt_t (tgt := 15) hC dX10_image_10 (by decide) h3 ?_
  refine C_aload_n hC dX10_image_15 rfl ?_
  refine C_getr (kf := 1) hC kX10 hh0 (by decide) (by decide) rfl hri w_306 dX10_image_16 ?_
  refine C_iload_n hC dX10_image_19 rfl ?_
  cases hq : im a1.toNatClampNeg with
  | some q =>
    rw [hq] at hk
    have hlq := hB _ q (by have := hin; omega) hq
    refine C_aald (v := .ref (g.1 + q)) hC hI hin (by rw [hq]; rfl) dX10_image_20 ?_
    refine C_astore_n (lv2 := [some (.ref (g.1 + 0)), some (.int a1), some (.ref (g.1 + q))]) hC dX10_image_21 (Nat.le_of_ble_eq_true rfl) rfl rfl ?_
    refine C_aload_n hC dX10_image_22 rfl ?_
    refine C_ifnonnull (tgt := 41) hC dX10_image_23 (by decide) ?_
    refine C_aload_n hC dX10_image_41 rfl ?_
    refine C_aload_n hC dX10_image_42 rfl ?_
    refine C_getr (kf := 0) hC kX10 hh0 (by decide) (by decide) rfl hrn w_305 dX10_image_43 ?_
    cases hf : fX8_copyFrom q 1 D with
    | none => simp only [hf, aBind] at hk; cases hk
    | some z =>
      obtain ⟨u9, D8⟩ := z
      simp only [hf, aBind] at hk
      cases hk
      have hhq : aHas (g.2.2.2.2.2, D) q 7 := ⟨hlq.1.1, by rw [show ((g.2.2.2.2.2, D) : APD).1.2.2 q = _ from hlq.1.2], hlt _ hlq.1.1⟩
      refine C_callM (n := 1) (D2 := D8) (ci := 7) (As := [.ref (g.1 + 1)]) (st := []) hC (fun l => mX8_copyFrom l g q 1 hlq hS1 D) hf hhq rfl (by decide) yc_X10_274 rfl rfl ⟨by decide, by decide⟩ (Nat.le_of_ble_eq_true rfl) ⟨Nat.zero_le _, Nat.zero_le _⟩ rfl dX10_image_46 ?_
      refine C_iconst (v := 1) hC dX10_image_49 (by decide) ?_
      exact C_zret hC rfl ⟨Nat.zero_le _, Nat.zero_le _⟩ rfl (Or.inr rfl) dX10_image_50
  | none =>
    rw [hq] at hk
    refine C_aald (v := .null) hC hI hin (by rw [hq]; rfl) dX10_image_20 ?_
    refine C_astore_nN (lv2 := [some (.ref (g.1 + 0)), some (.int a1), some .null]) hC dX10_image_21 (Nat.le_of_ble_eq_true rfl) rfl rfl ?_
    refine C_aload_nN hC dX10_image_22 rfl ?_
    refine C_ifnonnullN hC dX10_image_23 ?_
    refine C_new hC kX8 (by decide) dfX8 w_29 w_30 w_2 (by decide) dX10_image_26 (fun P1 e1 => ?_)
    refine C_dup hC dX10_image_29 rfl ?_
    have hh1 : aHas P1 g.2.2.2.2.2.1 7 := by rw [e1]; exact aHas_new (S := (7, 0, fun _ => none))
    have hN1 : P1.1.1 = g.2.2.2.2.2.1 + 1 := by rw [e1]; rfl
    have hh01 : aHas P1 0 9 := by rw [e1]; exact aHas_NC hh0
    refine C_init (n := 0) (As := []) (st := [.ref (g.1 + g.2.2.2.2.2.1)]) (d2 := 2) (mc2 := 30) (ms2 := 3546) (E2 := fI_X8_init g.1 g.2.2.2.2.2.1 P1) hC (fun l => mk_X8_init l (g.1, g.2.1, g.2.2.1, g.2.2.2.1, g.2.2.2.2.1, P1.1) g.2.2.2.2.2.1 P1.2 hh1 (by rw [hN1])) rfl (Or.inl ⟨by decide, rfl⟩) w_32 w_2 w_33 (by decide +kernel) rfl rfl ⟨by decide, by decide⟩ (Nat.le_of_ble_eq_true rfl) (by decide) rfl dX10_image_30 (fun P2 e2 => ?_)
    have hh2 : aHas P2 g.2.2.2.2.2.1 7 := by rw [e2]; exact fI_X8_init_has hh1
    have hh02 : aHas P2 0 9 := by rw [e2]; exact fI_X8_init_has hh01
    obtain ⟨n32, n1, n0⟩ := hN2 P2 (by rw [e2, e1])
    refine C_astore_n (lv2 := [some (.ref (g.1 + 0)), some (.int a1), some (.ref (g.1 + g.2.2.2.2.2.1))]) hC dX10_image_33 (Nat.le_of_ble_eq_true rfl) rfl rfl ?_
    refine C_aload_n hC dX10_image_34 rfl ?_
    refine C_getr (kf := 1) hC kX10 hh02 (by decide) (by decide) rfl n1 w_306 dX10_image_35 ?_
    refine C_iload_n hC dX10_image_38 rfl ?_
    refine C_aload_n hC dX10_image_39 rfl ?_
    refine C_aast (ov := g.2.2.2.2.2.1) hC n32 hh2 hin dX10_image_40 (fun P3 e3 => ?_)
    have hh3 : aHas P3 g.2.2.2.2.2.1 7 := by rw [e3]; exact aHas_PR hh2
    have hh03 : aHas P3 0 9 := by rw [e3]; exact aHas_PR hh02
    have n03 : (P3.1.2.2 0).2.2 0 = some (g.1 + 1) := by rw [e3]; exact aRI_PR (Or.inl (by decide)) n0
    obtain ⟨l1, l2⟩ := hN P3 (by rw [e3, e2, e1])
    refine C_aload_n hC dX10_image_41 rfl ?_
    refine C_aload_n hC dX10_image_42 rfl ?_
    refine C_getr (kf := 0) hC kX10 hh03 (by decide) (by decide) rfl n03 w_305 dX10_image_43 ?_
    have e9 : P3 = aPR (fI_X8_init g.1 g.2.2.2.2.2.1 (aNO (g.2.2.2.2.2, D) 7)) 32 a1.toNatClampNeg (g.1 + g.2.2.2.2.2.1) := by rw [e3, e2, e1]
    have hk : aLet (aPR (fI_X8_init g.1 g.2.2.2.2.2.1 (aNO (g.2.2.2.2.2, D) 7)) 32 a1.toNatClampNeg (g.1 + g.2.2.2.2.2.1)) (fun P3 => aBind (fX8_copyFrom g.2.2.2.2.2.1 1 P3.2) (fun _ D1 => some ((1 : Int32), (P3.1, D1)))) = some (x, E) := hk
    rw [← e9] at hk
    have hk : aBind (fX8_copyFrom g.2.2.2.2.2.1 1 P3.2) (fun _ D1 => some ((1 : Int32), (P3.1, D1))) = some (x, E) := hk
    cases hf : fX8_copyFrom g.2.2.2.2.2.1 1 P3.2 with
    | none => rw [hf] at hk; cases hk
    | some z =>
      obtain ⟨u9, D8⟩ := z
      rw [hf] at hk
      cases hk
      refine C_callM (n := 1) (D2 := D8) (ci := 7) (As := [.ref (g.1 + 1)]) (st := []) hC (fun l => mX8_copyFrom l (g.1, g.2.1, g.2.2.1, g.2.2.2.1, g.2.2.2.2.1, P3.1) g.2.2.2.2.2.1 1 l1 l2 P3.2) hf hh3 rfl (by decide) yc_X10_274 rfl rfl ⟨by decide, by decide⟩ (Nat.le_of_ble_eq_true rfl) ⟨by decide, by decide⟩ rfl dX10_image_46 ?_
      refine C_iconst (v := 1) hC dX10_image_49 (by decide) ?_
      exact C_zret hC rfl ⟨by decide, by decide⟩ rfl (Or.inr rfl) dX10_image_50
