/-! words: by their letters, and packed -/
def wiF (B : Nat → Int32) (s e : Nat) : List Int32 → Nat → Nat → Bool → Int32
  | [], i, a, al => if al = true ∧ a = e then nI i else -1
  | c :: cs, i, a, al => if c = 32 then (if al = true ∧ a = e then nI i else wiF B s e cs (i + 1) s true) else wiF B s e cs i (a + 1) (al && decide (a < e ∧ B a = c))
def mtF (B : Nat → Int32) (e : Nat) : List Int32 → Nat → Bool
  | [], _ => true
  | c :: cs, a => decide (a < e ∧ B a = c) && mtF B e cs (a + 1)
/-- the token is that word -/
abbrev wM (B : Nat → Int32) (s e : Nat) (w : List Int32) : Prop := mtF B e w s = true ∧ s + w.length = e
def wcF (B : Nat → Int32) (s e : Nat) : List (List Int32) → Nat → Int32
  | [], _ => -1
  | w :: ws, i => if mtF B e w s = true ∧ s + w.length = e then nI i else wcF B s e ws (i + 1)
def joW : List (List Int32) → List Int32
  | [] => []
  | [w] => w
  | w :: ws => w ++ 32 :: joW ws
theorem wiF_last {B : Nat → Int32} {s e i : Nat} : ∀ (w : List Int32) (a : Nat) (al : Bool), (∀ c, c ∈ w → c ≠ 32) → wiF B s e w i a al = if al = true ∧ mtF B e w a = true ∧ a + w.length = e then nI i else -1
  | [], a, al, _ => by
    unfold wiF mtF
    simp
  | c :: w, a, al, h => by
    unfold wiF mtF
    rw [if_neg (h c List.mem_cons_self), wiF_last w (a + 1) _ (fun x hx => h x (List.mem_cons_of_mem _ hx))]
    simp only [Bool.and_eq_true, List.length_cons, and_assoc, show a + 1 + w.length = a + (w.length + 1) by omega]
theorem wiF_word {B : Nat → Int32} {s e i : Nat} {r : List Int32} : ∀ (w : List Int32) (a : Nat) (al : Bool), (∀ c, c ∈ w → c ≠ 32) → wiF B s e (w ++ 32 :: r) i a al = if al = true ∧ mtF B e w a = true ∧ a + w.length = e then nI i else wiF B s e r (i + 1) s true
  | [], a, al, _ => by
    show (if (32 : Int32) = 32 then (if al = true ∧ a = e then nI i else wiF B s e r (i + 1) s true) else _) = _
    rw [if_pos rfl]
    unfold mtF
    simp
  | c :: w, a, al, h => by
    show (if c = 32 then _ else wiF B s e (w ++ 32 :: r) i (a + 1) (al && decide (a < e ∧ B a = c))) = _
    rw [if_neg (h c List.mem_cons_self), wiF_word w (a + 1) _ (fun x hx => h x (List.mem_cons_of_mem _ hx))]
    show _ = if al = true ∧ (decide (a < e ∧ B a = c) && mtF B e w (a + 1)) = true ∧ a + (w.length + 1) = e then _ else _
    simp only [Bool.and_eq_true, and_assoc, show a + 1 + w.length = a + (w.length + 1) by omega]
theorem wiF_all {B : Nat → Int32} {s e : Nat} : ∀ (ws : List (List Int32)) (i : Nat), ws ≠ [] → (∀ w, w ∈ ws → ∀ c, c ∈ w → c ≠ 32) → wiF B s e (joW ws) i s true = wcF B s e ws i
  | [], _, h, _ => absurd rfl h
  | [w], i, _, h => by
    show wiF B s e w i s true = if mtF B e w s = true ∧ s + w.length = e then nI i else -1
    rw [wiF_last w s true (h w List.mem_cons_self)]
    simp
  | w :: v :: ws, i, _, h => by
    show wiF B s e (w ++ 32 :: joW (v :: ws)) i s true = if mtF B e w s = true ∧ s + w.length = e then nI i else wcF B s e (v :: ws) (i + 1)
    rw [wiF_word w s true (h w List.mem_cons_self), wiF_all (v :: ws) (i + 1) (by simp) (fun x hx => h x (List.mem_cons_of_mem _ hx))]
    simp
def chs (si : Nat) : List Int32 := (List.range (aTl si)).map (fun j => aTc si j &&& 255)
/-- the words of the eight texts -/
def wds (si : Nat) : List (List Int32) := ([[[105, 102]], [[110, 111, 116]], [[109, 97, 110, 121], [110, 101, 97, 114], [109, 101, 97, 110], [99, 104, 97, 110, 99, 101], [116, 114, 105, 101, 100], [112, 108, 97, 99, 101], [116, 111, 119, 110, 115], [109, 97, 114, 107, 115]], [[115, 116, 117, 102, 102], [99, 104, 105, 112, 115], [108, 101, 97, 100], [116, 111, 119, 110], [109, 97, 114, 107], [111, 119, 110, 101, 114], [97, 103, 101]], [[97, 110, 100]], [[115, 117, 114, 101], [108, 105, 107, 101, 108, 121], [111, 112, 101, 110], [97, 103, 97, 105, 110, 115, 116]], [[109, 111, 114, 101], [108, 101, 115, 115], [115, 116, 111, 112]], [[116, 111]]] : List (List (List Int32))).getD si []
theorem chs_wds : ∀ si, si < 8 → chs si = joW (wds si) := by decide +kernel
theorem wds_ok : ∀ si, si < 8 → wds si ≠ [] ∧ ∀ w, w ∈ wds si → ∀ c, c ∈ w → c ≠ 32 := by decide +kernel
section WDs
variable {D E : ADD} {B : Nat → Int32} {n s e : Nat} {k : Int32}
/-- the class's token -/
def TkX (B : Nat → Int32) (n : Nat) (D : ADD) (s e : Nat) (k : Int32) : Prop := TpX D B n ∧ (D.1 33 6 = nI s ∧ D.1 33 7 = nI e ∧ D.1 33 5 = k) ∧ Tok B s e k ∧ s ≤ e ∧ e ≤ n
/-- the reference's -/
def TkM (B : Nat → Int32) (n : Nat) (E : ADD) (s e : Nat) (k : Int32) : Prop := TpM E B n ∧ (E.1 0 25 = nI s ∧ E.1 0 23 = nI e ∧ E.1 0 26 = srt k) ∧ Ctn B s e k E ∧ Tok B s e k ∧ s ≤ e ∧ e ≤ n
theorem chs_len (si : Nat) : (chs si).length = aTl si := by simp [chs]
theorem chs_drop {si i : Nat} (h : i < aTl si) : (chs si).drop i = (aTc si i &&& 255) :: (chs si).drop (i + 1) := by
  rw [List.drop_eq_getElem_cons (by rw [chs_len]; exact h)]
  congr 1
  simp [chs]
theorem eX_wordIn {si : Nat} (h8 : si < 8) (t : TB B n) (h : TkX B n D s e k) : fX5_wordIn si D = some (if k = 1 then wcF B s e (wds si) 0 else -1, D) := by
  have H : Wp (fX5_wordIn si D) (fun x D1 => D1 = D ∧ x = if k = 1 then wcF B s e (wds si) 0 else -1) := by
    obtain ⟨h1, ⟨h2, h3, h4⟩, h5, h6, h7⟩ := h
    have t1 := t.1
    unfold fX5_wordIn
    rw [h4]
    refine Wp.ite (fun hk => Wp.lets (Wp.lets (Wp.lets ?_))) (fun hk => Wp.ret ⟨rfl, (if_neg hk).symm⟩)
    rw [if_pos hk]
    have hl := tl_ok si h8
    have el : (nI (aTl si)).toInt = (aTl si : Int) := ti_nI (by omega)
    have eR : wiF B s e (chs si) 0 s true = wcF B s e (wds si) 0 := by
      rw [chs_wds si h8]
      exact wiF_all _ 0 (wds_ok si h8).1 (wds_ok si h8).2
    generalize hR : wcF B s e (wds si) 0 = R at eR ⊢
    refine Wp.fix4 (fun m x2 x3 x4 x5 D' => D' = D ∧ ∃ (i ix a : Nat) (al : Bool), (x5 = nI i ∧ x2 = nI ix ∧ x3 = nI a ∧ x4 = if al = true then 1 else 0) ∧ (a ≤ s + i ∧ i ≤ aTl si + 1) ∧ ((i ≤ aTl si ∧ wiF B s e ((chs si).drop i) ix a al = R) ∨ (i = aTl si + 1 ∧ R = -1)) ∧ 100 < m + i) ?_ ?_ aFuel 1000000 _ _ _ _ _ (Nat.le_refl _) ⟨rfl, 0, 0, s, true, ⟨rfl, rfl, h2, rfl⟩, by omega, Or.inl ⟨by omega, eR⟩, by omega⟩
    rotate_left
    · intro x2 x3 x4 x5 D' hI
      obtain ⟨-, i, ix, a, al, -, i2, -, i4⟩ := hI
      omega
    intro m g hg x2 x3 x4 x5 D' hI
    obtain ⟨rfl, i, ix, a, al, ⟨rfl, rfl, rfl, e4⟩, i2, i3, i4⟩ := hI
    have vi : (nI i).toInt = (i : Int) := ti_nI (by omega)
    have va : (nI a).toInt = (a : Int) := ti_nI (by omega)
    have vcA : (nI a).toNatClampNeg = a := nI_clamp (by omega)
    have ve : (nI e).toInt = (e : Int) := ti_nI (by omega)
    unfold lX5_wordIn_23
    refine Wp.bindE (eJ_len h8) (Wp.ilt (fun q => Wp.ret ⟨rfl, ?_⟩) (fun q => Wp.bindE (eJ_len h8) ?_))
    · rcases i3 with i3 | i3
      · omega
      · exact i3.2.symm
    have i3 : i ≤ aTl si ∧ wiF B s e ((chs si).drop i) ix a al = R := i3.resolve_right (fun k => by omega)
    have go : ∀ (ix' a' : Nat) (al' : Bool) (y : Int32), (y = if al' = true then 1 else 0) → a' ≤ s + (i + 1) → ((i + 1 ≤ aTl si ∧ wiF B s e ((chs si).drop (i + 1)) ix' a' al' = R) ∨ (i + 1 = aTl si + 1 ∧ R = -1)) → Wp (g (nI ix') (nI a') y (nI i + 1) D') (fun x D1 => D1 = D' ∧ x = R) := fun ix' a' al' y hy ha hr => hg _ _ _ _ _ ⟨rfl, i + 1, ix', a', al', ⟨(nI_succ i).symm, rfl, rfl, hy⟩, by omega, hr, by omega⟩
    refine Wp.lets ?_
    -- the end of a word
    refine Wp.letQ (fun Q j => (i = aTl si ∨ (i < aTl si ∧ (aTc si i &&& 255) = 32)) → Wp (j D') Q) (fun hw => ?_) (fun j K => ?_)
    · have fin : wiF B s e ((chs si).drop i) ix a al = if al = true ∧ a = e then nI ix else (if i = aTl si then -1 else wiF B s e ((chs si).drop (i + 1)) (ix + 1) s true) := by
        rcases hw with hw | ⟨hw, hc⟩
        · rw [List.drop_eq_nil_of_le (by rw [chs_len]; omega), if_pos hw]
          rfl
        · have ni : ¬ i = aTl si := by omega
          rw [chs_drop hw, hc, if_neg ni]
          rfl
      rw [fin] at i3
      have nx : ¬ (al = true ∧ a = e) → Wp (aLet (nI ix + 1) (fun x12 => aLet (D'.1 33 6) (fun x13 => aLet (nI i + 1) (fun x11 => g x12 x13 (1 : Int32) x11 D')))) (fun x D1 => D1 = D' ∧ x = R) := fun hn => by
        have i3 := i3.2
        rw [if_neg hn] at i3
        refine Wp.lets (Wp.lets (Wp.lets ?_))
        rw [h2, ← nI_succ ix]
        refine go (ix + 1) s true 1 rfl (by omega) ?_
        by_cases hi : i = aTl si
        · rw [if_pos hi] at i3
          exact Or.inr ⟨by omega, i3.symm⟩
        · rw [if_neg hi] at i3
          exact Or.inl ⟨by omega, i3⟩
      refine Wp.lets (Wp.ite (fun h0 => nx (fun k => ?_)) (fun h0 => Wp.ite (fun hq => Wp.ret ⟨rfl, ?_⟩) (fun hq => nx (fun k => hq ?_))))
      · rw [e4, if_pos k.1] at h0
        exact absurd h0 (by decide)
      · have al1 : al = true := by
          false_or_by_contra
          rename_i hn
          rw [e4, if_neg hn] at h0
          exact h0 rfl
        rw [h3, nI_eq (by omega) (by omega)] at hq
        have i3 := i3.2
        rw [if_pos ⟨al1, hq⟩] at i3
        exact i3
      · rw [h3, k.2]
    refine Wp.ite (fun hq => K (Or.inl ?_)) (fun hq => ?_)
    · rw [nI_eq (by omega) (by omega)] at hq
      exact hq
    have il : i < aTl si := by
      have : i ≠ aTl si := fun e => hq (by rw [e])
      omega
    have cc : fJ0_charAt_5068e si (nI i) D' = some (aTc si i &&& 255, D') := by
      rw [eJ_charAt h8 (by omega) (by omega), nI_clamp (by omega)]
    refine Wp.bindE cc (Wp.ite (fun hc => K (Or.inr ⟨il, hc⟩)) (fun hc => ?_))
    have st : wiF B s e ((chs si).drop i) ix a al = wiF B s e ((chs si).drop (i + 1)) ix (a + 1) (al && decide (a < e ∧ B a = (aTc si i &&& 255))) := by
      rw [chs_drop il]
      show (if (aTc si i &&& 255) = 32 then _ else _) = _
      rw [if_neg hc]
    rw [st] at i3
    have nx : ∀ (b : Bool) (y : Int32), b = (al && decide (a < e ∧ B a = (aTc si i &&& 255))) → (y = if b = true then 1 else 0) → Wp (aLet (nI a + 1) (fun x16 => aLet (nI i + 1) (fun x11 => g (nI ix) x16 y x11 D'))) (fun x D1 => D1 = D' ∧ x = R) := fun b y hb hy => by
      refine Wp.lets (Wp.lets ?_)
      rw [← nI_succ a]
      exact go ix (a + 1) b y hy (by omega) (Or.inl ⟨by omega, by rw [hb]; exact i3.2⟩)
    refine Wp.lets (Wp.lets (Wp.ite (fun h0 => nx false 0 ?_ rfl) (fun h0 => ?_)))
    · have : al = false := by
        cases al with
        | false => rfl
        | true => rw [e4] at h0; exact absurd h0 (by decide)
      rw [this]
      rfl
    have al1 : al = true := by
      cases al with
      | true => rfl
      | false => rw [e4] at h0; exact absurd rfl h0
    rw [h3]
    refine Wp.ile (fun hq => nx false 0 ?_ rfl) (fun hq => Wp.bindE (eX_byteAt t h1 (by omega)) (Wp.bindE cc ?_))
    · rw [al1]
      simp only [Bool.true_and]
      exact (decide_eq_false (fun k => by omega)).symm
    · rw [vcA]
      refine Wp.ite (fun hb => nx true 1 ?_ rfl) (fun hb => nx false 0 ?_ rfl)
      · rw [al1]
        simp only [Bool.true_and]
        exact (decide_eq_true ⟨by omega, hb⟩).symm
      · rw [al1]
        simp only [Bool.true_and]
        exact (decide_eq_false (fun k => hb k.2)).symm
  obtain ⟨x, D1, e, rfl, rfl⟩ := H
  exact e
/-! packed -/
def pN (f : Nat → Nat) : Nat → Nat
  | 0 => 0
  | m + 1 => pN f m * 256 + f m
theorem pN_inj {f g : Nat → Nat} : ∀ m k, (∀ i, i < m → 0 < f i ∧ f i < 256) → (∀ i, i < k → 0 < g i ∧ g i < 256) → pN f m = pN g k → m = k ∧ ∀ i, i < m → f i = g i
  | 0, 0, _, _, _ => ⟨rfl, fun i hi => by omega⟩
  | 0, k + 1, _, hg, h => by
    have := hg k (by omega)
    have h : 0 = pN g k * 256 + g k := h
    omega
  | m + 1, 0, hf, _, h => by
    have := hf m (by omega)
    have h : pN f m * 256 + f m = 0 := h
    omega
  | m + 1, k + 1, hf, hg, h => by
    have a := hf m (by omega)
    have b := hg k (by omega)
    have h : pN f m * 256 + f m = pN g k * 256 + g k := h
    obtain ⟨c, d⟩ := pN_inj m k (fun i hi => hf i (by omega)) (fun i hi => hg i (by omega)) (by omega)
    subst c
    refine ⟨rfl, fun i hi => ?_⟩
    by_cases e : i = m
    · subst e
      omega
    · exact d i (by omega)
theorem pN_lt {f : Nat → Nat} : ∀ m, (∀ i, i < m → f i < 256) → pN f m < 256 ^ m
  | 0, _ => by show 0 < 1; omega
  | m + 1, h => by
    have a := pN_lt m (fun i hi => h i (by omega))
    have b := h m (by omega)
    show pN f m * 256 + f m < 256 ^ (m + 1)
    rw [Nat.pow_succ]
    omega
theorem pkL_N : ∀ m, m ≤ 8 → (∀ i, i < m → 0 ≤ (B (s + i)).toInt ∧ (B (s + i)).toInt < 256) → (pkL B s m).toBitVec.toNat = pN (fun i => (B (s + i)).toNatClampNeg) m
  | 0, _, _ => rfl
  | m + 1, hm, h => by
    have ih := pkL_N m (by omega) (fun i hi => h i (by omega))
    have hb := h m (by omega)
    have hlt := pN_lt (f := fun i => (B (s + i)).toNatClampNeg) m (fun i hi => by
      have q := h i (by omega)
      have := cl_i q.1
      show (B (s + i)).toNatClampNeg < 256
      omega)
    have e8 : ((8 : Int32).toInt64 &&& 63).toBitVec.smod 64 = 8#64 := by decide
    have eb : ((B (s + m)).toInt64).toBitVec.toNat = (B (s + m)).toNatClampNeg := by
      have q := cl_i hb.1
      have : ((B (s + m)).toInt64).toInt = (B (s + m)).toInt := Int32.toInt_toInt64 _
      have q2 : ((B (s + m)).toInt64).toBitVec.toInt = ((B (s + m)).toNatClampNeg : Int) := by
        show ((B (s + m)).toInt64).toInt = _
        omega
      rw [BitVec.toInt_eq_toNat_cond] at q2
      have l := ((B (s + m)).toInt64).toBitVec.isLt
      split at q2 <;> omega
    have p8 : (256 : Nat) ^ m * 256 ≤ 2 ^ 64 := by
      have : (256 : Nat) ^ (m + 1) ≤ 256 ^ 8 := Nat.pow_le_pow_right (by decide) hm
      rw [Nat.pow_succ] at this
      exact Nat.le_trans this (by decide)
    show ((pkL B s m <<< ((8 : Int32).toInt64 &&& 63)) ||| (B (s + m)).toInt64).toBitVec.toNat = pN _ m * 256 + (B (s + m)).toNatClampNeg
    rw [Int64.toBitVec_or, Int64.toBitVec_shiftLeft, BitVec.toNat_or, eb, e8]
    show ((pkL B s m).toBitVec <<< (8#64)).toNat ||| _ = _
    rw [BitVec.shiftLeft_eq', BitVec.toNat_shiftLeft, ih]
    show (pN _ m <<< 8 % 2 ^ 64) ||| _ = _
    have e2 : pN (fun i => (B (s + i)).toNatClampNeg) m <<< 8 = pN (fun i => (B (s + i)).toNatClampNeg) m * 256 := by rw [Nat.shiftLeft_eq]
    have l2 : pN (fun i => (B (s + i)).toNatClampNeg) m <<< 8 < 2 ^ 64 := by rw [e2]; omega
    have q := cl_i hb.1
    rw [Nat.mod_eq_of_lt l2, ← Nat.shiftLeft_add_eq_or_of_lt (by show (B (s + m)).toNatClampNeg < 2 ^ 8; omega), e2]
end WDs
