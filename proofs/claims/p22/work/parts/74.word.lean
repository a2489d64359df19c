section
/-! words: by their letters, and packed -/
def wiF (B : Nat → Int32) (s e : Nat) : List Int32 → Nat → Nat → Bool → Int32
  | [], i, a, al => if al = true ∧ a = e then nI i else -1
  | c :: cs, i, a, al => if c = 32 then (if al = true ∧ a = e then nI i else wiF B s e cs (i + 1) s true) else wiF B s e cs i (a + 1) (al && decide (a < e ∧ B a = c))
def mtF (B : Nat → Int32) (e : Nat) : List Int32 → Nat → Bool
  | [], _ => true
  | c :: cs, a => decide (a < e ∧ B a = c) && mtF B e cs (a + 1)
/-- the token is that word -/
abbrev wM (B : Nat → Int32) (s e : Nat) (w : List Int32) : Prop := mtF B e w s = true ∧ s + w.length = e
def wcF (B : Nat → Int32) (s e : Nat) : List (List Int32) → Nat → Int32
  | [], _ => -1
  | w :: ws, i => if mtF B e w s = true ∧ s + w.length = e then nI i else wcF B s e ws (i + 1)
def joW : List (List Int32) → List Int32
  | [] => []
  | [w] => w
  | w :: ws => w ++ 32 :: joW ws
theorem wiF_last {B : Nat → Int32} {s e i : Nat} : ∀ (w : List Int32) (a : Nat) (al : Bool), (∀ c, c ∈ w → c ≠ 32) → wiF B s e w i a al = if al = true ∧ mtF B e w a = true ∧ a + w.length = e then nI i else -1
  | [], a, al, _ => by
    unfold wiF mtF
    simp
  | c :: w, a, al, h => by
    unfold wiF mtF
    rw [if_neg (h c List.mem_cons_self), wiF_last w (a + 1) _ (fun x hx => h x (List.mem_cons_of_mem _ hx))]
    simp only [Bool.and_eq_true, List.length_cons, and_assoc, show a + 1 + w.length = a + (w.length + 1) by omega]
theorem wiF_word {B : Nat → Int32} {s e i : Nat} {r : List Int32} : ∀ (w : List Int32) (a : Nat) (al : Bool), (∀ c, c ∈ w → c ≠ 32) → wiF B s e (w ++ 32 :: r) i a al = if al = true ∧ mtF B e w a = true ∧ a + w.length = e then nI i else wiF B s e r (i + 1) s true
  | [], a, al, _ => by
    show (if (32 : Int32) = 32 then (if al = true ∧ a = e then nI i else wiF B s e r (i + 1) s true) else _) = _
    rw [if_pos rfl]
    unfold mtF
    simp
  | c :: w, a, al, h => by
    show (if c = 32 then _ else wiF B s e (w ++ 32 :: r) i (a + 1) (al && decide (a < e ∧ B a = c))) = _
    rw [if_neg (h c List.mem_cons_self), wiF_word w (a + 1) _ (fun x hx => h x (List.mem_cons_of_mem _ hx))]
    show _ = if al = true ∧ (decide (a < e ∧ B a = c) && mtF B e w (a + 1)) = true ∧ a + (w.length + 1) = e then _ else _
    simp only [Bool.and_eq_true, and_assoc, show a + 1 + w.length = a + (w.length + 1) by omega]
theorem wiF_all {B : Nat → Int32} {s e : Nat} : ∀ (ws : List (List Int32)) (i : Nat), ws ≠ [] → (∀ w, w ∈ ws → ∀ c, c ∈ w → c ≠ 32) → wiF B s e (joW ws) i s true = wcF B s e ws i
  | [], _, h, _ => absurd rfl h
  | [w], i, _, h => by
    show wiF B s e w i s true = if mtF B e w s = true ∧ s + w.length = e then nI i else -1
    rw [wiF_last w s true (h w List.mem_cons_self)]
    simp
  | w :: v :: ws, i, _, h => by
    show wiF B s e (w ++ 32 :: joW (v :: ws)) i s true = if mtF B e w s = true ∧ s + w.length = e then nI i else wcF B s e (v :: ws) (i + 1)
    rw [wiF_word w s true (h w List.mem_cons_self), wiF_all (v :: ws) (i + 1) (by simp) (fun x hx => h x (List.mem_cons_of_mem _ hx))]
    simp
def chs (si : Nat) : List Int32 := (List.range (aTl si)).map (fun j => aTc si j &&& 255)
/-- the words of the eight texts -/
def wds (si : Nat) : List (List Int32) := ([[[105, 102]], [[110, 111, 116]], [[109, 97, 110, 121], [110, 101, 97, 114], [109, 101, 97, 110], [99, 104, 97, 110, 99, 101], [116, 114, 105, 101, 100], [112, 108, 97, 99, 101], [116, 111, 119, 110, 115], [109, 97, 114, 107, 115]], [[115, 116, 117, 102, 102], [99, 104, 105, 112, 115], [108, 101, 97, 100], [116, 111, 119, 110], [109, 97, 114, 107], [111, 119, 110, 101, 114], [97, 103, 101]], [[97, 110, 100]], [[115, 117, 114, 101], [108, 105, 107, 101, 108, 121], [111, 112, 101, 110], [97, 103, 97, 105, 110, 115, 116]], [[109, 111, 114, 101], [108, 101, 115, 115], [115, 116, 111, 112]], [[116, 111]]] : List (List (List Int32))).getD si []
theorem chs_wds : ∀ si, si < 8 → chs si = joW (wds si) := by decide +kernel
theorem wds_ok : ∀ si, si < 8 → wds si ≠ [] ∧ ∀ w, w ∈ wds si → ∀ c, c ∈ w → c ≠ 32 := by decide +kernel
section WDs
variable {D E : ADD} {B : Nat → Int32} {n s e : Nat} {k : Int32}
/-- the class's token -/
def TkX (B : Nat → Int32) (n : Nat) (D : ADD) (s e : Nat) (k : Int32) : Prop := TpX D B n ∧ (D.1 33 6 = nI s ∧ D.1 33 7 = nI e ∧ D.1 33 5 = k) ∧ Tok B s e k ∧ s ≤ e ∧ e ≤ n
/-- the reference's -/
def TkM (B : Nat → Int32) (n : Nat) (E : ADD) (s e : Nat) (k : Int32) : Prop := TpM E B n ∧ (E.1 0 25 = nI s ∧ E.1 0 23 = nI e ∧ E.1 0 26 = srt k) ∧ Ctn B s e k E ∧ Tok B s e k ∧ s ≤ e ∧ e ≤ n
theorem chs_len (si : Nat) : (chs si).length = aTl si := by simp [chs]
theorem chs_drop {si i : Nat} (h : i < aTl si) : (chs si).drop i = (aTc si i &&& 255) :: (chs si).drop (i + 1) := by
  rw [List.drop_eq_getElem_cons (by rw [chs_len]; exact h)]
  congr 1
  simp [chs]
theorem eX_wordIn {si : Nat} (h8 : si < 8) (t : TB B n) (h : TkX B n D s e k) : fX5_wordIn si D = some (if k = 1 then wcF B s e (wds si) 0 else -1, D) := by
  have H : Wp (fX5_wordIn si D) (fun x D1 => D1 = D ∧ x = if k = 1 then wcF B s e (wds si) 0 else -1) := by
    obtain ⟨h1, ⟨h2, h3, h4⟩, h5, h6, h7⟩ := h
    have t1 := t.1
    unfold fX5_wordIn
    rw [h4]
    refine Wp.ite (fun hk => Wp.lets (Wp.lets (Wp.lets ?_))) (fun hk => Wp.ret ⟨rfl, (if_neg hk).symm⟩)
    rw [if_pos hk]
    have hl := tl_ok si h8
    have el : (nI (aTl si)).toInt = (aTl si : Int) := ti_nI (by omega)
    have eR : wiF B s e (chs si) 0 s true = wcF B s e (wds si) 0 := by
      rw [chs_wds si h8]
      exact wiF_all _ 0 (wds_ok si h8).1 (wds_ok si h8).2
    generalize hR : wcF B s e (wds si) 0 = R at eR ⊢
    refine Wp.fix4 (fun m x2 x3 x4 x5 D' => D' = D ∧ ∃ (i ix a : Nat) (al : Bool), (x5 = nI i ∧ x2 = nI ix ∧ x3 = nI a ∧ x4 = if al = true then 1 else 0) ∧ (a ≤ s + i ∧ i ≤ aTl si + 1) ∧ ((i ≤ aTl si ∧ wiF B s e ((chs si).drop i) ix a al = R) ∨ (i = aTl si + 1 ∧ R = -1)) ∧ 100 < m + i) ?_ ?_ aFuel 1000000 _ _ _ _ _ (Nat.le_refl _) ⟨rfl, 0, 0, s, true, ⟨rfl, rfl, h2, rfl⟩, by omega, Or.inl ⟨by omega, eR⟩, by omega⟩
    rotate_left
    · intro x2 x3 x4 x5 D' hI
      obtain ⟨-, i, ix, a, al, -, i2, -, i4⟩ := hI
      omega
    intro m g hg x2 x3 x4 x5 D' hI
    obtain ⟨rfl, i, ix, a, al, ⟨rfl, rfl, rfl, e4⟩, i2, i3, i4⟩ := hI
    have vi : (nI i).toInt = (i : Int) := ti_nI (by omega)
    have va : (nI a).toInt = (a : Int) := ti_nI (by omega)
    have vcA : (nI a).toNatClampNeg = a := nI_clamp (by omega)
    have ve : (nI e).toInt = (e : Int) := ti_nI (by omega)
    unfold lX5_wordIn_23
    refine Wp.bindE (eJ_len h8) (Wp.ilt (fun q => Wp.ret ⟨rfl, ?_⟩) (fun q => Wp.bindE (eJ_len h8) ?_))
    · rcases i3 with i3 | i3
      · omega
      · exact i3.2.symm
    have i3 : i ≤ aTl si ∧ wiF B s e ((chs si).drop i) ix a al = R := i3.resolve_right (fun k => by omega)
    have go : ∀ (ix' a' : Nat) (al' : Bool) (y : Int32), (y = if al' = true then 1 else 0) → a' ≤ s + (i + 1) → ((i + 1 ≤ aTl si ∧ wiF B s e ((chs si).drop (i + 1)) ix' a' al' = R) ∨ (i + 1 = aTl si + 1 ∧ R = -1)) → Wp (g (nI ix') (nI a') y (nI i + 1) D') (fun x D1 => D1 = D' ∧ x = R) := fun ix' a' al' y hy ha hr => hg _ _ _ _ _ ⟨rfl, i + 1, ix', a', al', ⟨(nI_succ i).symm, rfl, rfl, hy⟩, by omega, hr, by omega⟩
    refine Wp.lets ?_
    -- the end of a word
    refine Wp.letQ (fun Q j => (i = aTl si ∨ (i < aTl si ∧ (aTc si i &&& 255) = 32)) → Wp (j D') Q) (fun hw => ?_) (fun j K => ?_)
    · have fin : wiF B s e ((chs si).drop i) ix a al = if al = true ∧ a = e then nI ix else (if i = aTl si then -1 else wiF B s e ((chs si).drop (i + 1)) (ix + 1) s true) := by
        rcases hw with hw | ⟨hw, hc⟩
        · rw [List.drop_eq_nil_of_le (by rw [chs_len]; omega), if_pos hw]
          rfl
        · have ni : ¬ i = aTl si := by omega
          rw [chs_drop hw, hc, if_neg ni]
          rfl
      rw [fin] at i3
      have nx : ¬ (al = true ∧ a = e) → Wp (aLet (nI ix + 1) (fun x12 => aLet (D'.1 33 6) (fun x13 => aLet (nI i + 1) (fun x11 => g x12 x13 (1 : Int32) x11 D')))) (fun x D1 => D1 = D' ∧ x = R) := fun hn => by
        have i3 := i3.2
        rw [if_neg hn] at i3
        refine Wp.lets (Wp.lets (Wp.lets ?_))
        rw [h2, ← nI_succ ix]
        refine go (ix + 1) s true 1 rfl (by omega) ?_
        by_cases hi : i = aTl si
        · rw [if_pos hi] at i3
          exact Or.inr ⟨by omega, i3.symm⟩
        · rw [if_neg hi] at i3
          exact Or.inl ⟨by omega, i3⟩
      refine Wp.lets (Wp.ite (fun h0 => nx (fun k => ?_)) (fun h0 => Wp.ite (fun hq => Wp.ret ⟨rfl, ?_⟩) (fun hq => nx (fun k => hq ?_))))
      · rw [e4, if_pos k.1] at h0
        exact absurd h0 (by decide)
      · have al1 : al = true := by
          false_or_by_contra
          rename_i hn
          rw [e4, if_neg hn] at h0
          exact h0 rfl
        rw [h3, nI_eq (by omega) (by omega)] at hq
        have i3 := i3.2
        rw [if_pos ⟨al1, hq⟩] at i3
        exact i3
      · rw [h3, k.2]
    refine Wp.ite (fun hq => K (Or.inl ?_)) (fun hq => ?_)
    · rw [nI_eq (by omega) (by omega)] at hq
      exact hq
    have il : i < aTl si := by
      have : i ≠ aTl si := fun e => hq (by rw [e])
      omega
    have cc : fJ0_charAt_5068e si (nI i) D' = some (aTc si i &&& 255, D') := by
      rw [eJ_charAt h8 (by omega) (by omega), nI_clamp (by omega)]
    refine Wp.bindE cc (Wp.ite (fun hc => K (Or.inr ⟨il, hc⟩)) (fun hc => ?_))
    have st : wiF B s e ((chs si).drop i) ix a al = wiF B s e ((chs si).drop (i + 1)) ix (a + 1) (al && decide (a < e ∧ B a = (aTc si i &&& 255))) := by
      rw [chs_drop il]
      show (if (aTc si i &&& 255) = 32 then _ else _) = _
      rw [if_neg hc]
    rw [st] at i3
    have nx : ∀ (b : Bool) (y : Int32), b = (al && decide (a < e ∧ B a = (aTc si i &&& 255))) → (y = if b = true then 1 else 0) → Wp (aLet (nI a + 1) (fun x16 => aLet (nI i + 1) (fun x11 => g (nI ix) x16 y x11 D'))) (fun x D1 => D1 = D' ∧ x = R) := fun b y hb hy => by
      refine Wp.lets (Wp.lets ?_)
      rw [← nI_succ a]
      exact go ix (a + 1) b y hy (by omega) (Or.inl ⟨by omega, by rw [hb]; exact i3.2⟩)
    refine Wp.lets (Wp.lets (Wp.ite (fun h0 => nx false 0 ?_ rfl) (fun h0 => ?_)))
    · have : al = false := by
        cases al with
        | false => rfl
        | true => rw [e4] at h0; exact absurd h0 (by decide)
      rw [this]
      rfl
    have al1 : al = true := by
      cases al with
      | true => rfl
      | false => rw [e4] at h0; exact absurd rfl h0
    rw [h3]
    refine Wp.ile (fun hq => nx false 0 ?_ rfl) (fun hq => Wp.bindE (eX_byteAt t h1 (by omega)) (Wp.bindE cc ?_))
    · rw [al1]
      simp only [Bool.true_and]
      exact (decide_eq_false (fun k => by omega)).symm
    · rw [vcA]
      refine Wp.ite (fun hb => nx true 1 ?_ rfl) (fun hb => nx false 0 ?_ rfl)
      · rw [al1]
        simp only [Bool.true_and]
        exact (decide_eq_true ⟨by omega, hb⟩).symm
      · rw [al1]
        simp only [Bool.true_and]
        exact (decide_eq_false (fun k => hb k.2)).symm
  obtain ⟨x, D1, e, rfl, rfl⟩ := H
  exact e
/-! packed -/
def pN (f : Nat → Nat) : Nat → Nat
  | 0 => 0
  | m + 1 => pN f m * 256 + f m
theorem pN_inj {f g : Nat → Nat} : ∀ m k, (∀ i, i < m → 0 < f i ∧ f i < 256) → (∀ i, i < k → 0 < g i ∧ g i < 256) → pN f m = pN g k → m = k ∧ ∀ i, i < m → f i = g i
  | 0, 0, _, _, _ => ⟨rfl, fun i hi => by omega⟩
  | 0, k + 1, _, hg, h => by
    have := hg k (by omega)
    have h : 0 = pN g k * 256 + g k := h
    omega
  | m + 1, 0, hf, _, h => by
    have := hf m (by omega)
    have h : pN f m * 256 + f m = 0 := h
    omega
  | m + 1, k + 1, hf, hg, h => by
    have a := hf m (by omega)
    have b := hg k (by omega)
    have h : pN f m * 256 + f m = pN g k * 256 + g k := h
    obtain ⟨c, d⟩ := pN_inj m k (fun i hi => hf i (by omega)) (fun i hi => hg i (by omega)) (by omega)
    subst c
    refine ⟨rfl, fun i hi => ?_⟩
    by_cases e : i = m
    · subst e
      omega
    · exact d i (by omega)
theorem pN_lt {f : Nat → Nat} : ∀ m, (∀ i, i < m → f i < 256) → pN f m < 256 ^ m
  | 0, _ => by show 0 < 1; omega
  | m + 1, h => by
    have a := pN_lt m (fun i hi => h i (by omega))
    have b := h m (by omega)
    show pN f m * 256 + f m < 256 ^ (m + 1)
    rw [Nat.pow_succ]
    omega
theorem pkL_N : ∀ m, m ≤ 8 → (∀ i, i < m → 0 ≤ (B (s + i)).toInt ∧ (B (s + i)).toInt < 256) → (pkL B s m).toBitVec.toNat = pN (fun i => (B (s + i)).toNatClampNeg) m
  | 0, _, _ => rfl
  | m + 1, hm, h => by
    have ih := pkL_N m (by omega) (fun i hi => h i (by omega))
    have hb := h m (by omega)
    have hlt := pN_lt (f := fun i => (B (s + i)).toNatClampNeg) m (fun i hi => by
      have q := h i (by omega)
      have := cl_i q.1
      show (B (s + i)).toNatClampNeg < 256
      omega)
    have e8 : ((8 : Int32).toInt64 &&& 63).toBitVec.smod 64 = 8#64 := by decide
    have eb : ((B (s + m)).toInt64).toBitVec.toNat = (B (s + m)).toNatClampNeg := by
      have q := cl_i hb.1
      have : ((B (s + m)).toInt64).toInt = (B (s + m)).toInt := Int32.toInt_toInt64 _
      have q2 : ((B (s + m)).toInt64).toBitVec.toInt = ((B (s + m)).toNatClampNeg : Int) := by
        show ((B (s + m)).toInt64).toInt = _
        omega
      rw [BitVec.toInt_eq_toNat_cond] at q2
      have l := ((B (s + m)).toInt64).toBitVec.isLt
      split at q2 <;> omega
    have p8 : (256 : Nat) ^ m * 256 ≤ 2 ^ 64 := by
      have : (256 : Nat) ^ (m + 1) ≤ 256 ^ 8 := Nat.pow_le_pow_right (by decide) hm
      rw [Nat.pow_succ] at this
      exact Nat.le_trans this (by decide)
    show ((pkL B s m <<< ((8 : Int32).toInt64 &&& 63)) ||| (B (s + m)).toInt64).toBitVec.toNat = pN _ m * 256 + (B (s + m)).toNatClampNeg
    rw [Int64.toBitVec_or, Int64.toBitVec_shiftLeft, BitVec.toNat_or, eb, e8]
    show ((pkL B s m).toBitVec <<< (8#64)).toNat ||| _ = _
    rw [BitVec.shiftLeft_eq', BitVec.toNat_shiftLeft, ih]
    show (pN _ m <<< 8 % 2 ^ 64) ||| _ = _
    have e2 : pN (fun i => (B (s + i)).toNatClampNeg) m <<< 8 = pN (fun i => (B (s + i)).toNatClampNeg) m * 256 := by rw [Nat.shiftLeft_eq]
    have l2 : pN (fun i => (B (s + i)).toNatClampNeg) m <<< 8 < 2 ^ 64 := by rw [e2]; omega
    have q := cl_i hb.1
    rw [Nat.mod_eq_of_lt l2, ← Nat.shiftLeft_add_eq_or_of_lt (by show (B (s + m)).toNatClampNeg < 2 ^ 8; omega), e2]
end WDs
end
section
/-! words, signs and numbers of both readers -/
section RWs
variable {D E : ADD} {B : Nat → Int32} {n s e : Nat} {k : Int32}
theorem mtF_at : ∀ (w : List Int32) (a : Nat), mtF B e w a = true ↔ ∀ i, i < w.length → a + i < e ∧ B (a + i) = w.getD i 0
  | [], a => by
    unfold mtF
    exact ⟨fun _ i hi => absurd hi (Nat.not_lt_zero _), fun _ => rfl⟩
  | c :: w, a => by
    unfold mtF
    rw [Bool.and_eq_true, decide_eq_true_eq, mtF_at w (a + 1)]
    constructor
    · rintro ⟨h1, h2⟩ i hi
      match i with
      | 0 => exact h1
      | i + 1 =>
        have := h2 i (by simpa using hi)
        rw [show a + (i + 1) = a + 1 + i by omega]
        exact this
    · intro h
      refine ⟨h 0 (by simp), fun i hi => ?_⟩
      have := h (i + 1) (by simpa using hi)
      rw [show a + (i + 1) = a + 1 + i by omega] at this
      exact this
theorem wM_iff {w : List Int32} : wM B s e w ↔ s + w.length = e ∧ ∀ i, i < w.length → B (s + i) = w.getD i 0 := by
  unfold wM
  rw [mtF_at]
  exact ⟨fun h => ⟨h.2, fun i hi => (h.1 i hi).2⟩, fun h => ⟨fun i hi => ⟨by have := h.1; omega, h.2 i hi⟩, h.1⟩⟩
/-- a packed word -/
abbrev wOK (C : Int64) (w : List Int32) : Prop := (0 < w.length ∧ w.length ≤ 8) ∧ (∀ i, i < w.length → 0 < (w.getD i 0).toInt ∧ (w.getD i 0).toInt < 256) ∧ C.toBitVec.toNat = pN (fun i => (w.getD i 0).toNatClampNeg) w.length
theorem bv_eq (x C : Int64) : x = C ↔ x.toBitVec.toNat = C.toBitVec.toNat := ⟨fun h => by rw [h], fun h => Int64.toBitVec_inj.mp (BitVec.eq_of_toNat_eq h)⟩
theorem pN_0 {f : Nat → Nat} {m : Nat} (h : 0 < m) (hf : ∀ i, i < m → 0 < f i) : pN f m ≠ 0 := by
  match m, h with
  | m + 1, _ =>
    have := hf m (by omega)
    show pN f m * 256 + f m ≠ 0
    omega
theorem pN_cg {f g : Nat → Nat} : ∀ m, (∀ i, i < m → f i = g i) → pN f m = pN g m
  | 0, _ => rfl
  | m + 1, h => by
    show pN f m * 256 + f m = pN g m * 256 + g m
    rw [pN_cg m (fun i hi => h i (by omega)), h m (by omega)]
theorem pkw_8 {C : Int64} {w : List Int32} (hC : wOK C w) (hl : RunTo ltr B s e) (h8 : e - s ≤ 8) : pkL B s (e - s) = C ↔ wM B s e w := by
  obtain ⟨⟨c1, c2⟩, c3, c4⟩ := hC
  have hse := hl.1
  have hB : ∀ i, i < e - s → 97 ≤ (B (s + i)).toInt ∧ (B (s + i)).toInt ≤ 122 := fun i hi => hl.2.1 (s + i) (by omega) (by omega)
  have hg : ∀ i, i < w.length → 0 < (w.getD i 0).toNatClampNeg ∧ (w.getD i 0).toNatClampNeg < 256 := fun i hi => by
    have q := c3 i hi
    have := cl_i (x := w.getD i 0) (by omega)
    omega
  have hf : ∀ i, i < e - s → 0 < (B (s + i)).toNatClampNeg ∧ (B (s + i)).toNatClampNeg < 256 := fun i hi => by
    have q := hB i hi
    have := cl_i (x := B (s + i)) (by omega)
    omega
  rw [wM_iff, bv_eq, pkL_N (e - s) h8 (fun i hi => by have := hB i hi; omega), c4]
  constructor
  · intro h
    obtain ⟨p1, p2⟩ := pN_inj (f := fun i => (B (s + i)).toNatClampNeg) (g := fun i => (w.getD i 0).toNatClampNeg) _ _ hf hg h
    refine ⟨by omega, fun i hi => ?_⟩
    have q : (B (s + i)).toNatClampNeg = (w.getD i 0).toNatClampNeg := p2 i (by omega)
    have q1 := cl_i (x := B (s + i)) (by have := hB i (by omega); omega)
    have q2 := cl_i (x := w.getD i 0) (by have := c3 i hi; omega)
    exact ti_eq (by omega)
  · rintro ⟨p1, p2⟩
    rw [show e - s = w.length by omega]
    exact pN_cg _ (fun i hi => by show (B (s + i)).toNatClampNeg = _; rw [p2 i hi])
theorem pkw_9 {C : Int64} {w : List Int32} (hC : wOK C w) (h8 : ¬ e - s ≤ 8) : 0 = C ↔ wM B s e w := by
  obtain ⟨⟨c1, c2⟩, c3, c4⟩ := hC
  rw [wM_iff]
  constructor
  · intro h
    have z : (0 : Int64).toBitVec.toNat = 0 := rfl
    rw [← h, z] at c4
    exact absurd c4.symm (pN_0 c1 (fun i hi => by
      have q := c3 i hi
      have := cl_i (x := w.getD i 0) (by omega)
      omega))
  · rintro ⟨p1, -⟩
    omega
theorem pkw_eq {C : Int64} {w : List Int32} (hC : wOK C w) (hl : RunTo ltr B s e) : (if e - s ≤ 8 then pkL B s (e - s) else 0) = C ↔ wM B s e w := by
  by_cases h8 : e - s ≤ 8
  · rw [if_pos h8]
    exact pkw_8 hC hl h8
  · rw [if_neg h8]
    exact pkw_9 hC h8
theorem srt_w : srt k = 2 ↔ k = 1 := by
  unfold srt
  by_cases h0 : k = 0
  · rw [if_pos h0, h0]; decide
  · by_cases h1 : k = 1
    · rw [if_neg h0, if_pos h1]; exact ⟨fun _ => h1, fun _ => rfl⟩
    · rw [if_neg h0, if_neg h1]
      refine ⟨fun h => ?_, fun h => absurd h h1⟩
      split at h
      · exact absurd h (by decide)
      · split at h <;> exact absurd h (by decide)
theorem srt_n : srt k = 3 ↔ k = 2 := by
  unfold srt
  by_cases h0 : k = 0
  · rw [if_pos h0, h0]; decide
  · by_cases h1 : k = 1
    · rw [if_neg h0, if_pos h1, h1]; decide
    · by_cases h2 : k = 2
      · rw [if_neg h0, if_neg h1, if_pos h2]; exact ⟨fun _ => h2, fun _ => rfl⟩
      · rw [if_neg h0, if_neg h1, if_neg h2]
        refine ⟨fun h => ?_, fun h => absurd h h2⟩
        split at h <;> exact absurd h (by decide)
theorem srt_s : srt k = 4 ↔ k = 3 := by
  unfold srt
  by_cases h0 : k = 0
  · rw [if_pos h0, h0]; decide
  · by_cases h1 : k = 1
    · rw [if_neg h0, if_pos h1, h1]; decide
    · by_cases h2 : k = 2
      · rw [if_neg h0, if_neg h1, if_pos h2, h2]; decide
      · by_cases h3 : k = 3
        · rw [if_neg h0, if_neg h1, if_neg h2, if_pos h3]; exact ⟨fun _ => h3, fun _ => rfl⟩
        · rw [if_neg h0, if_neg h1, if_neg h2, if_neg h3]
          exact ⟨fun h => absurd h (by decide), fun h => absurd h h3⟩
theorem srt_e : srt k = 0 ↔ k = 0 := by
  unfold srt
  by_cases h0 : k = 0
  · rw [if_pos h0]; exact ⟨fun _ => h0, fun _ => rfl⟩
  · rw [if_neg h0]
    refine ⟨fun h => ?_, fun h => absurd h h0⟩
    split at h
    · exact absurd h (by decide)
    · split at h
      · exact absurd h (by decide)
      · split at h <;> exact absurd h (by decide)
theorem Tok.l (h : Tok B s e 1) : RunTo ltr B s e := by
  rcases h with h | h | h | h
  · exact h.2.1
  · have := h.2.2
    split at this <;> exact absurd this (by decide)
  · exact absurd h.2.2 (by decide)
  · have := h.2.2
    split at this <;> exact absurd this (by decide)
theorem eM_isWord {C : Int64} {w : List Int32} (hC : wOK C w) (t : TB B n) (h : TkM B n E s e k) : fX11_isWord C E = some (if k = 1 ∧ wM B s e w then 1 else 0, E) := by
  refine eq_Bo ?_
  obtain ⟨h1, ⟨h2, h3, h4⟩, ⟨h5, -, -⟩, h6, h7, h8⟩ := h
  unfold fX11_isWord
  rw [h4]
  have no : ¬ (k = 1 ∧ wM B s e w) → Wp (aZ 0 (some ((0 : Int32), E))) (fun x D1 => D1 = E ∧ Bo x (k = 1 ∧ wM B s e w)) := fun q => Wp.z (Or.inl rfl) (Wp.ret ⟨rfl, Or.inr ⟨rfl, q⟩⟩)
  refine Wp.lets (Wp.lets (Wp.ite (fun q => ?_) (fun q => no (fun z => q (srt_w.mpr z.1)))))
  have k1 := srt_w.mp q
  have e28 := h5 k1
  subst k1
  have eq := pkw_eq hC h6.l
  rw [← e28] at eq
  exact Wp.ite (fun z => Wp.z (Or.inr rfl) (Wp.ret ⟨rfl, Or.inl ⟨rfl, rfl, eq.mp ((lg_cmp_eq _ _).mp z)⟩⟩)) (fun z => no (fun y => z ((lg_cmp_eq _ _).mpr (eq.mpr y.2))))
theorem eM_isSign {c : Int32} (h : TkM B n E s e k) : fX11_isSign c E = some (if k = 3 ∧ B s = c then 1 else 0, E) := by
  refine eq_Bo ?_
  obtain ⟨h1, ⟨h2, h3, h4⟩, ⟨-, -, h5⟩, h6, h7, h8⟩ := h
  unfold fX11_isSign
  rw [h4]
  have no : ¬ (k = 3 ∧ B s = c) → Wp (aZ 0 (some ((0 : Int32), E))) (fun x D1 => D1 = E ∧ Bo x (k = 3 ∧ B s = c)) := fun q => Wp.z (Or.inl rfl) (Wp.ret ⟨rfl, Or.inr ⟨rfl, q⟩⟩)
  refine Wp.lets (Wp.lets (Wp.ite (fun q => ?_) (fun q => no (fun z => q (srt_s.mpr z.1)))))
  have k3 := srt_s.mp q
  rw [h5 k3]
  exact Wp.ite (fun z => Wp.z (Or.inr rfl) (Wp.ret ⟨rfl, Or.inl ⟨rfl, k3, z⟩⟩)) (fun z => no (fun y => z y.2))
theorem TkX.by (t : TB B n) (h : TkX B n D s e k) : fX9_byteAt (D.1 33 6) D = some (B s, D) := by
  obtain ⟨h1, ⟨h2, h3, h4⟩, h6, h7, h8⟩ := h
  have t1 := t.1
  have v : (nI s).toInt = (s : Int) := nI_toInt (by omega)
  rw [h2, eX_byteAt t h1 (by omega), nI_clamp (by omega)]
theorem eX_isSign {c : Int32} (t : TB B n) (h : TkX B n D s e k) : fX5_isSign c D = some (if k = 3 ∧ B s = c then 1 else 0, D) := by
  refine eq_Bo ?_
  unfold fX5_isSign
  rw [h.by t, h.2.1.2.2]
  have no : ¬ (k = 3 ∧ B s = c) → Wp (aZ 0 (some ((0 : Int32), D))) (fun x D1 => D1 = D ∧ Bo x (k = 3 ∧ B s = c)) := fun q => Wp.z (Or.inl rfl) (Wp.ret ⟨rfl, Or.inr ⟨rfl, q⟩⟩)
  exact Wp.lets (Wp.lets (Wp.ite (fun q => Wp.bindE rfl (Wp.ite (fun z => Wp.z (Or.inr rfl) (Wp.ret ⟨rfl, Or.inl ⟨rfl, q, z⟩⟩)) (fun z => no (fun y => z y.2)))) (fun q => no (fun z => q z.1))))
theorem eX_number (t : TB B n) (h : TkX B n D s e k) : fX5_number D = some (nmF B s (e - s), D) := by
  have H : Wp (fX5_number D) (fun x D1 => D1 = D ∧ x = nmF B s (e - s)) := by
    obtain ⟨h1, ⟨h2, h3, h4⟩, h6, h7, h8⟩ := h
    have t1 := t.1
    unfold fX5_number
    refine Wp.lets (Wp.lets (Wp.lets (Wp.go2 (fun j y D' => D' = D ∧ s ≤ j ∧ y = nmF B s (j - s)) e (by omega) (fun g j y D' hj hI K => ?_) (k0 := s) h2 h7 ⟨rfl, Nat.le_refl _, by rw [Nat.sub_self]; rfl⟩)))
    obtain ⟨rfl, hs, rfl⟩ := hI
    unfold lX5_number_7
    have vj : (nI j).toInt = (j : Int) := nI_toInt (by omega)
    have ve : (nI e).toInt = (e : Int) := nI_toInt (by omega)
    rw [h3]
    refine Wp.ile (fun q => Wp.ret ⟨rfl, by rw [show j = e by omega]⟩) (fun q => Wp.bindE (eX_byteAt t h1 (by omega)) ?_)
    rw [nI_clamp (by omega)]
    refine Wp.lets (Wp.lets (K (by omega) _ _ ⟨rfl, by omega, ?_⟩))
    rw [show j + 1 - s = (j - s) + 1 by omega]
    show _ = 10 * nmF B s (j - s) + B (s + (j - s)) - 48
    rw [show s + (j - s) = j by omega, Int32.mul_comm]
  obtain ⟨x, D1, e, rfl, rfl⟩ := H
  exact e
theorem wcF_y {w : List Int32} {ws : List (List Int32)} {i : Nat} (h : wM B s e w) : wcF B s e (w :: ws) i = nI i := if_pos h
theorem wcF_n {w : List Int32} {ws : List (List Int32)} {i : Nat} (h : ¬ wM B s e w) : wcF B s e (w :: ws) i = wcF B s e ws (i + 1) := if_neg h
theorem wk_test0_0 : wOK 495875090022 [115, 116, 117, 102, 102] := by decide +kernel
theorem wk_test0_1 : wOK 426953502835 [99, 104, 105, 112, 115] := by decide +kernel
theorem wk_test0_2 : wOK 1818583396 [108, 101, 97, 100] := by decide +kernel
theorem wk_test0_3 : wOK 1953462126 [116, 111, 119, 110] := by decide +kernel
theorem wk_test0_4 : wOK 1835102827 [109, 97, 114, 107] := by decide +kernel
theorem wk_test0_5 : wOK 478745093490 [111, 119, 110, 101, 114] := by decide +kernel
theorem wk_test0_6 : wOK 6383461 [97, 103, 101] := by decide +kernel
theorem eM_test0 (t : TB B n) (h : TkM B n E s e k) : fX11_testWord 0 E = some (if k = 1 then wcF B s e (wds 3) 0 else -1, E) := by
  have H : Wp (fX11_testWord 0 E) (fun x D1 => D1 = E ∧ x = if k = 1 then wcF B s e [[115, 116, 117, 102, 102], [99, 104, 105, 112, 115], [108, 101, 97, 100], [116, 111, 119, 110], [109, 97, 114, 107], [111, 119, 110, 101, 114], [97, 103, 101]] 0 else -1) := by
    unfold fX11_testWord
    refine Wp.pos rfl ?_
    refine Wp.bindE (eM_isWord wk_test0_0 t h) (Wp.lets ?_)
    by_cases c0 : k = 1 ∧ wM B s e [115, 116, 117, 102, 102]
    · rw [if_pos c0]
      refine Wp.neg (by decide) (Wp.ret ⟨rfl, ?_⟩)
      rw [if_pos c0.1, wcF_y c0.2]
      rfl
    rw [if_neg c0]
    refine Wp.pos rfl ?_
    refine Wp.bindE (eM_isWord wk_test0_1 t h) ?_
    by_cases c1 : k = 1 ∧ wM B s e [99, 104, 105, 112, 115]
    · rw [if_pos c1]
      refine Wp.neg (by decide) (Wp.ret ⟨rfl, ?_⟩)
      rw [if_pos c1.1, wcF_n (fun q => c0 ⟨c1.1, q⟩), wcF_y c1.2]
      rfl
    rw [if_neg c1]
    refine Wp.pos rfl ?_
    refine Wp.bindE (eM_isWord wk_test0_2 t h) ?_
    by_cases c2 : k = 1 ∧ wM B s e [108, 101, 97, 100]
    · rw [if_pos c2]
      refine Wp.neg (by decide) (Wp.ret ⟨rfl, ?_⟩)
      rw [if_pos c2.1, wcF_n (fun q => c0 ⟨c2.1, q⟩), wcF_n (fun q => c1 ⟨c2.1, q⟩), wcF_y c2.2]
      rfl
    rw [if_neg c2]
    refine Wp.pos rfl ?_
    refine Wp.bindE (eM_isWord wk_test0_3 t h) ?_
    by_cases c3 : k = 1 ∧ wM B s e [116, 111, 119, 110]
    · rw [if_pos c3]
      refine Wp.neg (by decide) (Wp.ret ⟨rfl, ?_⟩)
      rw [if_pos c3.1, wcF_n (fun q => c0 ⟨c3.1, q⟩), wcF_n (fun q => c1 ⟨c3.1, q⟩), wcF_n (fun q => c2 ⟨c3.1, q⟩), wcF_y c3.2]
      rfl
    rw [if_neg c3]
    refine Wp.pos rfl ?_
    refine Wp.bindE (eM_isWord wk_test0_4 t h) ?_
    by_cases c4 : k = 1 ∧ wM B s e [109, 97, 114, 107]
    · rw [if_pos c4]
      refine Wp.neg (by decide) (Wp.ret ⟨rfl, ?_⟩)
      rw [if_pos c4.1, wcF_n (fun q => c0 ⟨c4.1, q⟩), wcF_n (fun q => c1 ⟨c4.1, q⟩), wcF_n (fun q => c2 ⟨c4.1, q⟩), wcF_n (fun q => c3 ⟨c4.1, q⟩), wcF_y c4.2]
      rfl
    rw [if_neg c4]
    refine Wp.pos rfl ?_
    refine Wp.bindE (eM_isWord wk_test0_5 t h) ?_
    by_cases c5 : k = 1 ∧ wM B s e [111, 119, 110, 101, 114]
    · rw [if_pos c5]
      refine Wp.neg (by decide) (Wp.ret ⟨rfl, ?_⟩)
      rw [if_pos c5.1, wcF_n (fun q => c0 ⟨c5.1, q⟩), wcF_n (fun q => c1 ⟨c5.1, q⟩), wcF_n (fun q => c2 ⟨c5.1, q⟩), wcF_n (fun q => c3 ⟨c5.1, q⟩), wcF_n (fun q => c4 ⟨c5.1, q⟩), wcF_y c5.2]
      rfl
    rw [if_neg c5]
    refine Wp.pos rfl ?_
    refine Wp.bindE (eM_isWord wk_test0_6 t h) ?_
    by_cases c6 : k = 1 ∧ wM B s e [97, 103, 101]
    · rw [if_pos c6]
      refine Wp.neg (by decide) (Wp.ret ⟨rfl, ?_⟩)
      rw [if_pos c6.1, wcF_n (fun q => c0 ⟨c6.1, q⟩), wcF_n (fun q => c1 ⟨c6.1, q⟩), wcF_n (fun q => c2 ⟨c6.1, q⟩), wcF_n (fun q => c3 ⟨c6.1, q⟩), wcF_n (fun q => c4 ⟨c6.1, q⟩), wcF_n (fun q => c5 ⟨c6.1, q⟩), wcF_y c6.2]
      rfl
    rw [if_neg c6]
    refine Wp.pos rfl ?_
    refine Wp.ret ⟨rfl, ?_⟩
    by_cases hk : k = 1
    · rw [if_pos hk, wcF_n (fun q => c0 ⟨hk, q⟩), wcF_n (fun q => c1 ⟨hk, q⟩), wcF_n (fun q => c2 ⟨hk, q⟩), wcF_n (fun q => c3 ⟨hk, q⟩), wcF_n (fun q => c4 ⟨hk, q⟩), wcF_n (fun q => c5 ⟨hk, q⟩), wcF_n (fun q => c6 ⟨hk, q⟩)]
      rfl
    · rw [if_neg hk]
  obtain ⟨x, D1, e, rfl, rfl⟩ := H
  exact e
theorem wk_test1_0 : wOK 1835101817 [109, 97, 110, 121] := by decide +kernel
theorem wk_test1_1 : wOK 1852137842 [110, 101, 97, 114] := by decide +kernel
theorem wk_test1_2 : wOK 1835360622 [109, 101, 97, 110] := by decide +kernel
theorem wk_test1_3 : wOK 109299962372965 [99, 104, 97, 110, 99, 101] := by decide +kernel
theorem wk_test1_4 : wOK 500135716196 [116, 114, 105, 101, 100] := by decide +kernel
theorem wk_test1_5 : wOK 482854658917 [112, 108, 97, 99, 101] := by decide +kernel
theorem wk_test1_6 : wOK 500086304371 [116, 111, 119, 110, 115] := by decide +kernel
theorem wk_test1_7 : wOK 469786323827 [109, 97, 114, 107, 115] := by decide +kernel
theorem eM_test1 (t : TB B n) (h : TkM B n E s e k) : fX11_testWord 1 E = some (if k = 1 then wcF B s e (wds 2) 0 else -1, E) := by
  have H : Wp (fX11_testWord 1 E) (fun x D1 => D1 = E ∧ x = if k = 1 then wcF B s e [[109, 97, 110, 121], [110, 101, 97, 114], [109, 101, 97, 110], [99, 104, 97, 110, 99, 101], [116, 114, 105, 101, 100], [112, 108, 97, 99, 101], [116, 111, 119, 110, 115], [109, 97, 114, 107, 115]] 0 else -1) := by
    unfold fX11_testWord
    refine Wp.neg (by decide) ?_
    refine Wp.bindE (eM_isWord wk_test1_0 t h) (Wp.lets ?_)
    by_cases c0 : k = 1 ∧ wM B s e [109, 97, 110, 121]
    · rw [if_pos c0]
      refine Wp.neg (by decide) (Wp.ret ⟨rfl, ?_⟩)
      rw [if_pos c0.1, wcF_y c0.2]
      rfl
    rw [if_neg c0]
    refine Wp.pos rfl ?_
    refine Wp.bindE (eM_isWord wk_test1_1 t h) ?_
    by_cases c1 : k = 1 ∧ wM B s e [110, 101, 97, 114]
    · rw [if_pos c1]
      refine Wp.neg (by decide) (Wp.ret ⟨rfl, ?_⟩)
      rw [if_pos c1.1, wcF_n (fun q => c0 ⟨c1.1, q⟩), wcF_y c1.2]
      rfl
    rw [if_neg c1]
    refine Wp.pos rfl ?_
    refine Wp.bindE (eM_isWord wk_test1_2 t h) ?_
    by_cases c2 : k = 1 ∧ wM B s e [109, 101, 97, 110]
    · rw [if_pos c2]
      refine Wp.neg (by decide) (Wp.ret ⟨rfl, ?_⟩)
      rw [if_pos c2.1, wcF_n (fun q => c0 ⟨c2.1, q⟩), wcF_n (fun q => c1 ⟨c2.1, q⟩), wcF_y c2.2]
      rfl
    rw [if_neg c2]
    refine Wp.pos rfl ?_
    refine Wp.bindE (eM_isWord wk_test1_3 t h) ?_
    by_cases c3 : k = 1 ∧ wM B s e [99, 104, 97, 110, 99, 101]
    · rw [if_pos c3]
      refine Wp.neg (by decide) (Wp.ret ⟨rfl, ?_⟩)
      rw [if_pos c3.1, wcF_n (fun q => c0 ⟨c3.1, q⟩), wcF_n (fun q => c1 ⟨c3.1, q⟩), wcF_n (fun q => c2 ⟨c3.1, q⟩), wcF_y c3.2]
      rfl
    rw [if_neg c3]
    refine Wp.pos rfl ?_
    refine Wp.bindE (eM_isWord wk_test1_4 t h) ?_
    by_cases c4 : k = 1 ∧ wM B s e [116, 114, 105, 101, 100]
    · rw [if_pos c4]
      refine Wp.neg (by decide) (Wp.ret ⟨rfl, ?_⟩)
      rw [if_pos c4.1, wcF_n (fun q => c0 ⟨c4.1, q⟩), wcF_n (fun q => c1 ⟨c4.1, q⟩), wcF_n (fun q => c2 ⟨c4.1, q⟩), wcF_n (fun q => c3 ⟨c4.1, q⟩), wcF_y c4.2]
      rfl
    rw [if_neg c4]
    refine Wp.pos rfl ?_
    refine Wp.bindE (eM_isWord wk_test1_5 t h) ?_
    by_cases c5 : k = 1 ∧ wM B s e [112, 108, 97, 99, 101]
    · rw [if_pos c5]
      refine Wp.neg (by decide) (Wp.ret ⟨rfl, ?_⟩)
      rw [if_pos c5.1, wcF_n (fun q => c0 ⟨c5.1, q⟩), wcF_n (fun q => c1 ⟨c5.1, q⟩), wcF_n (fun q => c2 ⟨c5.1, q⟩), wcF_n (fun q => c3 ⟨c5.1, q⟩), wcF_n (fun q => c4 ⟨c5.1, q⟩), wcF_y c5.2]
      rfl
    rw [if_neg c5]
    refine Wp.pos rfl ?_
    refine Wp.bindE (eM_isWord wk_test1_6 t h) ?_
    by_cases c6 : k = 1 ∧ wM B s e [116, 111, 119, 110, 115]
    · rw [if_pos c6]
      refine Wp.neg (by decide) (Wp.ret ⟨rfl, ?_⟩)
      rw [if_pos c6.1, wcF_n (fun q => c0 ⟨c6.1, q⟩), wcF_n (fun q => c1 ⟨c6.1, q⟩), wcF_n (fun q => c2 ⟨c6.1, q⟩), wcF_n (fun q => c3 ⟨c6.1, q⟩), wcF_n (fun q => c4 ⟨c6.1, q⟩), wcF_n (fun q => c5 ⟨c6.1, q⟩), wcF_y c6.2]
      rfl
    rw [if_neg c6]
    refine Wp.pos rfl ?_
    refine Wp.bindE (eM_isWord wk_test1_7 t h) ?_
    by_cases c7 : k = 1 ∧ wM B s e [109, 97, 114, 107, 115]
    · rw [if_pos c7]
      refine Wp.neg (by decide) (Wp.ret ⟨rfl, ?_⟩)
      rw [if_pos c7.1, wcF_n (fun q => c0 ⟨c7.1, q⟩), wcF_n (fun q => c1 ⟨c7.1, q⟩), wcF_n (fun q => c2 ⟨c7.1, q⟩), wcF_n (fun q => c3 ⟨c7.1, q⟩), wcF_n (fun q => c4 ⟨c7.1, q⟩), wcF_n (fun q => c5 ⟨c7.1, q⟩), wcF_n (fun q => c6 ⟨c7.1, q⟩), wcF_y c7.2]
      rfl
    rw [if_neg c7]
    refine Wp.pos rfl ?_
    refine Wp.ret ⟨rfl, ?_⟩
    by_cases hk : k = 1
    · rw [if_pos hk, wcF_n (fun q => c0 ⟨hk, q⟩), wcF_n (fun q => c1 ⟨hk, q⟩), wcF_n (fun q => c2 ⟨hk, q⟩), wcF_n (fun q => c3 ⟨hk, q⟩), wcF_n (fun q => c4 ⟨hk, q⟩), wcF_n (fun q => c5 ⟨hk, q⟩), wcF_n (fun q => c6 ⟨hk, q⟩), wcF_n (fun q => c7 ⟨hk, q⟩)]
      rfl
    · rw [if_neg hk]
  obtain ⟨x, D1, e, rfl, rfl⟩ := H
  exact e
theorem wk_act0_0 : wOK 1836020325 [109, 111, 114, 101] := by decide +kernel
theorem wk_act0_1 : wOK 1818588019 [108, 101, 115, 115] := by decide +kernel
theorem wk_act0_2 : wOK 1937010544 [115, 116, 111, 112] := by decide +kernel
theorem eM_act0 (t : TB B n) (h : TkM B n E s e k) : fX11_actWord 0 E = some (if k = 1 then wcF B s e (wds 6) 0 else -1, E) := by
  have H : Wp (fX11_actWord 0 E) (fun x D1 => D1 = E ∧ x = if k = 1 then wcF B s e [[109, 111, 114, 101], [108, 101, 115, 115], [115, 116, 111, 112]] 0 else -1) := by
    unfold fX11_actWord
    refine Wp.pos rfl ?_
    refine Wp.bindE (eM_isWord wk_act0_0 t h) (Wp.lets ?_)
    by_cases c0 : k = 1 ∧ wM B s e [109, 111, 114, 101]
    · rw [if_pos c0]
      refine Wp.neg (by decide) (Wp.ret ⟨rfl, ?_⟩)
      rw [if_pos c0.1, wcF_y c0.2]
      rfl
    rw [if_neg c0]
    refine Wp.pos rfl ?_
    refine Wp.bindE (eM_isWord wk_act0_1 t h) ?_
    by_cases c1 : k = 1 ∧ wM B s e [108, 101, 115, 115]
    · rw [if_pos c1]
      refine Wp.neg (by decide) (Wp.ret ⟨rfl, ?_⟩)
      rw [if_pos c1.1, wcF_n (fun q => c0 ⟨c1.1, q⟩), wcF_y c1.2]
      rfl
    rw [if_neg c1]
    refine Wp.pos rfl ?_
    refine Wp.bindE (eM_isWord wk_act0_2 t h) ?_
    by_cases c2 : k = 1 ∧ wM B s e [115, 116, 111, 112]
    · rw [if_pos c2]
      refine Wp.neg (by decide) (Wp.ret ⟨rfl, ?_⟩)
      rw [if_pos c2.1, wcF_n (fun q => c0 ⟨c2.1, q⟩), wcF_n (fun q => c1 ⟨c2.1, q⟩), wcF_y c2.2]
      rfl
    rw [if_neg c2]
    refine Wp.pos rfl ?_
    refine Wp.ret ⟨rfl, ?_⟩
    by_cases hk : k = 1
    · rw [if_pos hk, wcF_n (fun q => c0 ⟨hk, q⟩), wcF_n (fun q => c1 ⟨hk, q⟩), wcF_n (fun q => c2 ⟨hk, q⟩)]
      rfl
    · rw [if_neg hk]
  obtain ⟨x, D1, e, rfl, rfl⟩ := H
  exact e
theorem wk_act1_0 : wOK 1937076837 [115, 117, 114, 101] := by decide +kernel
theorem wk_act1_1 : wOK 119200029174905 [108, 105, 107, 101, 108, 121] := by decide +kernel
theorem wk_act1_2 : wOK 1869636974 [111, 112, 101, 110] := by decide +kernel
theorem wk_act1_3 : wOK 27416740819268468 [97, 103, 97, 105, 110, 115, 116] := by decide +kernel
theorem eM_act1 (t : TB B n) (h : TkM B n E s e k) : fX11_actWord 1 E = some (if k = 1 then wcF B s e (wds 5) 0 else -1, E) := by
  have H : Wp (fX11_actWord 1 E) (fun x D1 => D1 = E ∧ x = if k = 1 then wcF B s e [[115, 117, 114, 101], [108, 105, 107, 101, 108, 121], [111, 112, 101, 110], [97, 103, 97, 105, 110, 115, 116]] 0 else -1) := by
    unfold fX11_actWord
    refine Wp.neg (by decide) ?_
    refine Wp.bindE (eM_isWord wk_act1_0 t h) (Wp.lets ?_)
    by_cases c0 : k = 1 ∧ wM B s e [115, 117, 114, 101]
    · rw [if_pos c0]
      refine Wp.neg (by decide) (Wp.ret ⟨rfl, ?_⟩)
      rw [if_pos c0.1, wcF_y c0.2]
      rfl
    rw [if_neg c0]
    refine Wp.pos rfl ?_
    refine Wp.bindE (eM_isWord wk_act1_1 t h) ?_
    by_cases c1 : k = 1 ∧ wM B s e [108, 105, 107, 101, 108, 121]
    · rw [if_pos c1]
      refine Wp.neg (by decide) (Wp.ret ⟨rfl, ?_⟩)
      rw [if_pos c1.1, wcF_n (fun q => c0 ⟨c1.1, q⟩), wcF_y c1.2]
      rfl
    rw [if_neg c1]
    refine Wp.pos rfl ?_
    refine Wp.bindE (eM_isWord wk_act1_2 t h) ?_
    by_cases c2 : k = 1 ∧ wM B s e [111, 112, 101, 110]
    · rw [if_pos c2]
      refine Wp.neg (by decide) (Wp.ret ⟨rfl, ?_⟩)
      rw [if_pos c2.1, wcF_n (fun q => c0 ⟨c2.1, q⟩), wcF_n (fun q => c1 ⟨c2.1, q⟩), wcF_y c2.2]
      rfl
    rw [if_neg c2]
    refine Wp.pos rfl ?_
    refine Wp.bindE (eM_isWord wk_act1_3 t h) ?_
    by_cases c3 : k = 1 ∧ wM B s e [97, 103, 97, 105, 110, 115, 116]
    · rw [if_pos c3]
      refine Wp.neg (by decide) (Wp.ret ⟨rfl, ?_⟩)
      rw [if_pos c3.1, wcF_n (fun q => c0 ⟨c3.1, q⟩), wcF_n (fun q => c1 ⟨c3.1, q⟩), wcF_n (fun q => c2 ⟨c3.1, q⟩), wcF_y c3.2]
      rfl
    rw [if_neg c3]
    refine Wp.pos rfl ?_
    refine Wp.ret ⟨rfl, ?_⟩
    by_cases hk : k = 1
    · rw [if_pos hk, wcF_n (fun q => c0 ⟨hk, q⟩), wcF_n (fun q => c1 ⟨hk, q⟩), wcF_n (fun q => c2 ⟨hk, q⟩), wcF_n (fun q => c3 ⟨hk, q⟩)]
      rfl
    · rw [if_neg hk]
  obtain ⟨x, D1, e, rfl, rfl⟩ := H
  exact e
theorem wk_if : wOK 26982 [105, 102] := by decide +kernel
theorem one_if : wcF B s e (wds 0) 0 = 0 ↔ wM B s e [105, 102] := by
  show (if wM B s e [105, 102] then nI 0 else -1) = 0 ↔ _
  by_cases h : wM B s e [105, 102]
  · rw [if_pos h]; exact ⟨fun _ => h, fun _ => rfl⟩
  · rw [if_neg h]; exact ⟨fun q => absurd q (by decide), fun q => absurd q h⟩
theorem wk_not : wOK 7237492 [110, 111, 116] := by decide +kernel
theorem one_not : wcF B s e (wds 1) 0 = 0 ↔ wM B s e [110, 111, 116] := by
  show (if wM B s e [110, 111, 116] then nI 0 else -1) = 0 ↔ _
  by_cases h : wM B s e [110, 111, 116]
  · rw [if_pos h]; exact ⟨fun _ => h, fun _ => rfl⟩
  · rw [if_neg h]; exact ⟨fun q => absurd q (by decide), fun q => absurd q h⟩
theorem wk_and : wOK 6385252 [97, 110, 100] := by decide +kernel
theorem one_and : wcF B s e (wds 4) 0 = 0 ↔ wM B s e [97, 110, 100] := by
  show (if wM B s e [97, 110, 100] then nI 0 else -1) = 0 ↔ _
  by_cases h : wM B s e [97, 110, 100]
  · rw [if_pos h]; exact ⟨fun _ => h, fun _ => rfl⟩
  · rw [if_neg h]; exact ⟨fun q => absurd q (by decide), fun q => absurd q h⟩
theorem wk_to : wOK 29807 [116, 111] := by decide +kernel
theorem one_to : wcF B s e (wds 7) 0 = 0 ↔ wM B s e [116, 111] := by
  show (if wM B s e [116, 111] then nI 0 else -1) = 0 ↔ _
  by_cases h : wM B s e [116, 111]
  · rw [if_pos h]; exact ⟨fun _ => h, fun _ => rfl⟩
  · rw [if_neg h]; exact ⟨fun q => absurd q (by decide), fun q => absurd q h⟩
end RWs
end
section
/-! both readers, side by side -/
theorem Wp.flip {α β : Type} {f : Option (α × ADD)} {g : Option (β × ADD)} {R : α → ADD → β → ADD → Prop} (h : Wp g (fun y E => Wp f (fun x D => R x D y E))) : Wp f (fun x D => Wp g (fun y E => R x D y E)) := by
  obtain ⟨y, E, e1, x, D, e2, r⟩ := h
  exact ⟨x, D, e2, y, E, e1, r⟩
theorem Wp.two {α β γ δ : Type} {f : Option (α × ADD)} {g : Option (β × ADD)} {F : α → ADD → Option (γ × ADD)} {G : β → ADD → Option (δ × ADD)} {S : α → ADD → β → ADD → Prop} {R : γ → ADD → δ → ADD → Prop} (h : Wp f (fun x D => Wp g (fun y E => S x D y E))) (k : ∀ x D y E, S x D y E → Wp (F x D) (fun x2 D2 => Wp (G y E) (fun y2 E2 => R x2 D2 y2 E2))) : Wp (aBind f F) (fun x D => Wp (aBind g G) (fun y E => R x D y E)) := by
  obtain ⟨x, D, e1, y, E, e2, r⟩ := h
  rw [e1, e2]
  exact k x D y E r
theorem Wp.rr {α β γ : Type} {f : Option (α × ADD)} {g : Option (β × ADD)} {G : β → ADD → Option (γ × ADD)} {R : α → ADD → γ → ADD → Prop} {y : β} {E : ADD} (h : g = some (y, E)) (k : Wp f (fun x D => Wp (G y E) (fun y2 E2 => R x D y2 E2))) : Wp f (fun x D => Wp (aBind g G) (fun y2 E2 => R x D y2 E2)) := by
  rw [h]
  exact k
/-- a test of a line, by its place -/
def TsR (p : Int32) (D E : ADD) (x : Nat) : Prop := ((0 ≤ (D.1 39 x).toInt ∧ (D.1 39 x).toInt < 8) ∧ (p = 0 → (D.1 39 x).toInt < 7)) ∧ (D.1 42 x = 0 ∨ D.1 42 x = 1) ∧ (E.1 24 x).toInt = (D.1 39 x).toInt + 8 * (D.1 42 x).toInt ∧ E.1 25 x = D.1 40 x ∧ E.1 26 x = D.1 41 x
def LnT (p : Int32) (D E : ADD) (l m : Nat) : Prop := (D.1 38 l = nI m ∧ E.1 23 l = nI m ∧ m ≤ 4) ∧ ∀ t, t < m → TsR p D E (4 * l + t)
def LnD (p : Int32) (D E : ADD) (l : Nat) : Prop := E.1 27 l = D.1 35 l ∧ (0 ≤ (D.1 35 l).toInt ∧ (D.1 35 l).toInt < 4) ∧ (p = 0 → (D.1 35 l).toInt < 3 ∧ ((D.1 35 l).toInt < 2 → (E.1 28 l = D.1 36 l ∧ E.1 29 l = D.1 37 l) ∧ (0 ≤ (D.1 36 l).toInt ∧ (D.1 36 l).toInt ≤ 9999) ∧ (0 ≤ (D.1 37 l).toInt ∧ (D.1 37 l).toInt ≤ 9999) ∧ (D.1 33 1 = 0 → (D.1 36 l).toInt ≤ (D.1 37 l).toInt)))
/-- what neither reader touches -/
def Frm (D0 E0 D E : ADD) : Prop := (∀ c, (c < 33 ∨ 43 ≤ c) → D.1 c = D0.1 c) ∧ (∀ c, ((1 ≤ c ∧ c ≤ 22) ∨ 30 ≤ c) → E.1 c = E0.1 c) ∧ (D0.1 33 1 ≠ 0 → D.1 33 1 ≠ 0)
/-- the faults so far -/
def Flt (D E : ADD) : Prop := D.1 33 1 = E.1 0 30 ∧ 0 ≤ (E.1 0 30).toInt ∧ (D.1 33 1 ≠ 0 → D.1 33 2 = E.1 0 31) ∧ (D.1 33 1 = 0 → D.1 33 2 = -1)
def PS (B : Nat → Int32) (n : Nat) (p : Int32) (D0 E0 : ADD) (L : Nat) (D E : ADD) (s e : Nat) (k : Int32) : Prop := TkX B n D s e k ∧ TkM B n E s e k ∧ Flt D E ∧ (D.1 33 4 = p ∧ E.1 0 32 = nI L) ∧ Frm D0 E0 D E ∧ ∀ l, l < L → l < 16 → (∃ m, LnT p D E l m) ∧ LnD p D E l
/-- refused -/
def PF (D0 E0 D E : ADD) : Prop := (D.1 33 1 = 1 ∧ D.1 33 2 = E.1 0 29) ∧ Frm D0 E0 D E
/-- the tests of the line that is read -/
def CT (p : Int32) (L : Nat) (D E : ADD) (m : Nat) : Prop := L < 16 → LnT p D E L (min m 4)
section SIs
variable {D0 E0 D D1 E E1 : ADD} {B : Nat → Int32} {n L s e : Nat} {k p : Int32}
theorem LnT.fr {l m : Nat} (h : LnT p D E l m) (f : ∀ c, c ≠ 33 → D1.1 c = D.1 c) (g : ∀ c, c ≠ 0 → E1.1 c = E.1 c) : LnT p D1 E1 l m := by
  obtain ⟨⟨a, b, c⟩, d⟩ := h
  refine ⟨⟨by rw [f 38 (by decide)]; exact a, by rw [g 23 (by decide)]; exact b, c⟩, fun t ht => ?_⟩
  have := d t ht
  unfold TsR
  rw [f 39 (by decide), f 40 (by decide), f 41 (by decide), f 42 (by decide), g 24 (by decide), g 25 (by decide), g 26 (by decide)]
  exact this
theorem LnD.fr {l : Nat} (h : LnD p D E l) (f : ∀ c, c ≠ 33 → D1.1 c = D.1 c) (g : ∀ c, c ≠ 0 → E1.1 c = E.1 c) (e1 : D1.1 33 1 = 0 → D.1 33 1 = 0) : LnD p D1 E1 l := by
  obtain ⟨a, b, c⟩ := h
  unfold LnD
  rw [f 35 (by decide), f 36 (by decide), f 37 (by decide), g 27 (by decide), g 28 (by decide), g 29 (by decide)]
  refine ⟨a, b, fun hp => ⟨(c hp).1, fun h2 => ?_⟩⟩
  obtain ⟨c1, c2, c3, c4⟩ := (c hp).2 h2
  exact ⟨c1, c2, c3, fun q => c4 (e1 q)⟩
theorem CT.fr {m : Nat} (h : CT p L D E m) (f : ∀ c, c ≠ 33 → D1.1 c = D.1 c) (g : ∀ c, c ≠ 0 → E1.1 c = E.1 c) : CT p L D1 E1 m := fun hl => (h hl).fr f g
theorem Frm.fr (h : Frm D0 E0 D E) (f : ∀ c, c ≠ 33 → D1.1 c = D.1 c) (g : ∀ c, c ≠ 0 → E1.1 c = E.1 c) (z : D.1 33 1 ≠ 0 → D1.1 33 1 ≠ 0) : Frm D0 E0 D1 E1 :=
  ⟨fun c hc => by rw [f c (by omega), h.1 c hc], fun c hc => by rw [g c (by omega), h.2.1 c hc], fun q => z (h.2.2 q)⟩
theorem Tok.ne (h : Tok B s e k) (hk : k ≠ 0) : s < e := by
  rcases h with ⟨a, b, c⟩ | ⟨a, b, c⟩ | ⟨a, b, c⟩ | ⟨a, b, c⟩
  · have := b.1
    by_cases q : s = e
    · subst q
      exact absurd a b.2.2
    · omega
  · have := b.1
    by_cases q : s = e
    · subst q
      exact absurd a b.2.2
    · omega
  · exact absurd c hk
  · omega
/-- both go on to the next token -/
theorem sim_next (t : TB B n) (h : PS B n p D0 E0 L D E s e k) : Wp (fX5_advance D) (fun _ D1 => Wp (fX11_next E) (fun _ E1 => ∃ s1 e1 k1, PS B n p D0 E0 L D1 E1 s1 e1 k1 ∧ e ≤ s1 ∧ FR D D1 ∧ FN E E1)) := by
  obtain ⟨h1, h2, h3, h4, h5, h6⟩ := h
  have en : e ≤ n := h1.2.2.2.2
  refine (bX_advance t h1.1 h1.2.1.2.1 en).mono (fun _ D1 a => (bM_next t h2.1 h2.2.1.2.1 en).mono (fun _ E1 b => ?_))
  obtain ⟨s1, e1, k1, a1, a2, a3, a4⟩ := a
  obtain ⟨s2, e2, k2, b1, b2, b3, b4, b5⟩ := b
  have es := a1.uniq b1
  subst es
  obtain ⟨ee, ek⟩ := a2.uniq b2
  subst ee
  subst ek
  have sn := t.run nb_blk a1 en
  have le := a2.le t sn
  have f1 : D1.1 33 1 = D.1 33 1 := a4.2.1 1 (by decide) (by decide) (by decide)
  have f2 : D1.1 33 2 = D.1 33 2 := a4.2.1 2 (by decide) (by decide) (by decide)
  have g30 : E1.1 0 30 = E.1 0 30 := b5.2 30 (by decide) (by decide) (by decide) (by decide)
  have g31 : E1.1 0 31 = E.1 0 31 := b5.2 31 (by decide) (by decide) (by decide) (by decide)
  refine ⟨s1, e1, k1, ⟨⟨a4.tp h1.1, a3, a2, le⟩, ⟨b5.tp h2.1, b3, b4, b2, le⟩, ?_, ⟨by rw [a4.2.1 4 (by decide) (by decide) (by decide)]; exact h4.1, by rw [b5.2 32 (by decide) (by decide) (by decide) (by decide)]; exact h4.2⟩, h5.fr a4.1 b5.1 (fun q => by rw [f1]; exact q), fun l hl h16 => ?_⟩, a1.1, a4, b5⟩
  · unfold Flt
    rw [f1, f2, g30, g31]
    exact h3
  · obtain ⟨⟨m, q1⟩, q2⟩ := h6 l hl h16
    exact ⟨⟨m, q1.fr a4.1 b5.1⟩, q2.fr a4.1 b5.1 (fun q => by rw [← f1]; exact q)⟩
/-- both refuse -/
theorem sim_no (h : PS B n p D0 E0 L D E s e k) : Wp (aBind (fX5_refuse D) (fun x D1 => aZ x (some (x, D1)))) (fun x D1 => Wp (aBind (fX11_wrong E) (fun y E1 => aZ y (some (y, E1)))) (fun y E1 => x = 0 ∧ y = 0 ∧ PF D0 E0 D1 E1)) := by
  obtain ⟨h1, h2, h3, h4, h5, h6⟩ := h
  have e1 : fX5_refuse D = some (0, aSI (aSI D 33 1 1) 33 2 (D.1 33 6)) := rfl
  refine Wp.bindE e1 (Wp.z (Or.inl rfl) (Wp.ret (Wp.bindE tM_wrong (Wp.z (Or.inl rfl) (Wp.ret ⟨rfl, rfl, ⟨?_, ?_⟩, ?_⟩)))))
  · rw [si_s, if_neg (by decide), si_s, if_pos rfl]
  · rw [si_s, if_pos rfl, si_s, if_pos rfl, h1.2.1.1, h2.2.1.1]
  · exact h5.fr (fun c hc => by rw [si_o hc, si_o hc]) (fun c hc => si_o hc) (fun _ => by rw [si_s, if_neg (by decide), si_s, if_pos rfl]; decide)
/-- both remark another fault -/
theorem sim_mark {c : Int32} (hc : 0 < c.toInt) (h : PS B n p D0 E0 L D E s e k) : Wp (fX5_remark c (D.1 33 6) D) (fun _ D1 => Wp (fX11_later c (E.1 0 25) E) (fun _ E1 => PS B n p D0 E0 L D1 E1 s e k ∧ (∀ c, c ≠ 33 → D1.1 c = D.1 c) ∧ (∀ c, c ≠ 0 → E1.1 c = E.1 c) ∧ D1.1 33 1 ≠ 0)) := by
  obtain ⟨h1, h2, h3, h4, h5, h6⟩ := id h
  unfold fX5_remark fX11_later
  obtain ⟨f1, f2, f3, f4⟩ := h3
  have cn : c ≠ 0 := fun e => by rw [e, ti_0] at hc; omega
  refine Wp.lets (Wp.ite (fun q => Wp.lets (Wp.lets (Wp.ret (Wp.lets (Wp.pos (by rw [← f1]; exact q) (Wp.lets (Wp.lets (Wp.ret ?_)))))))) (fun q => Wp.ret (Wp.lets (Wp.neg (fun z => q (by rw [f1]; exact z)) (Wp.ret ⟨h, fun _ _ => rfl, fun _ _ => rfl, q⟩)))))
  have gX : ∀ i, i ≠ 1 → i ≠ 2 → (aSI (aSI D 33 1 c) 33 2 (D.1 33 6)).1 33 i = D.1 33 i := fun i a b => by rw [si_s, if_neg b, si_s, if_neg a]
  have gM : ∀ i, i ≠ 30 → i ≠ 31 → (aSI (aSI E 0 30 c) 0 31 (E.1 0 25)).1 0 i = E.1 0 i := fun i a b => by rw [si_s, if_neg b, si_s, if_neg a]
  have oX : ∀ i, i ≠ 33 → (aSI (aSI D 33 1 c) 33 2 (D.1 33 6)).1 i = D.1 i := fun i a => by rw [si_o a, si_o a]
  have oM : ∀ i, i ≠ 0 → (aSI (aSI E 0 30 c) 0 31 (E.1 0 25)).1 i = E.1 i := fun i a => by rw [si_o a, si_o a]
  have x1 : (aSI (aSI D 33 1 c) 33 2 (D.1 33 6)).1 33 1 = c := by rw [si_s, if_neg (by decide), si_s, if_pos rfl]
  have x2 : (aSI (aSI D 33 1 c) 33 2 (D.1 33 6)).1 33 2 = D.1 33 6 := by rw [si_s, if_pos rfl]
  have m0 : (aSI (aSI E 0 30 c) 0 31 (E.1 0 25)).1 0 30 = c := by rw [si_s, if_neg (by decide), si_s, if_pos rfl]
  have m1 : (aSI (aSI E 0 30 c) 0 31 (E.1 0 25)).1 0 31 = E.1 0 25 := by rw [si_s, if_pos rfl]
  have el : (aSI (aSI E 0 30 c) 0 31 (E.1 0 25)).2 = E.2 := rfl
  generalize aSI (aSI D 33 1 c) 33 2 (D.1 33 6) = D1 at gX oX x1 x2 ⊢
  generalize aSI (aSI E 0 30 c) 0 31 (E.1 0 25) = E1 at gM oM m0 m1 el ⊢
  refine ⟨⟨?_, ?_, ?_, ⟨by rw [gX 4 (by decide) (by decide)]; exact h4.1, by rw [gM 32 (by decide) (by decide)]; exact h4.2⟩, h5.fr oX oM (fun _ => by rw [x1]; exact cn), fun l hl h16 => ?_⟩, oX, oM, by rw [x1]; exact cn⟩
  · unfold TkX TpX
    rw [oX 11 (by decide), oX 12 (by decide), gX 6 (by decide) (by decide), gX 7 (by decide) (by decide), gX 5 (by decide) (by decide)]
    exact h1
  · unfold TkM TpM Ctn
    rw [oM 1 (by decide), gM 24 (by decide) (by decide), gM 25 (by decide) (by decide), gM 23 (by decide) (by decide), gM 26 (by decide) (by decide), gM 27 (by decide) (by decide), el]
    exact h2
  · unfold Flt
    rw [x1, x2, m0, m1]
    exact ⟨rfl, by omega, fun _ => by rw [h1.2.1.1, h2.2.1.1], fun q => absurd q cn⟩
  · obtain ⟨⟨m, q1⟩, q2⟩ := h6 l hl h16
    exact ⟨⟨m, q1.fr oX oM⟩, q2.fr oX oM (fun q => absurd (by rw [← x1]; exact q) cn)⟩
end SIs
end
section
/-! a test of both readers -/
def cT3 (a1 x2 x3 : Int32) (D7 : ADD) : Option (Int32 × ADD) := aBind (fX9_byteAt (D7.1 33 6) D7) (fun x5 D8 => aBind (fX5_advance D8) (fun _ D9 => (if (D9.1 33 5) = (2 : Int32) then aBind (fX5_number D9) (fun x6 D10 => aBind (fX6_addTest 34 a1 x2 x3 x5 x6 D10) (fun _ D11 => aBind (fX5_advance D11) (fun _ D12 => some ((1 : Int32), D12)))) else aBind (fX5_refuse D9) (fun x7 D13 => aZ x7 (some (x7, D13))))))
def cT2 (a1 x2 x3 : Int32) (D4 : ADD) : Option (Int32 × ADD) := (if x3 = (-1 : Int32) then aBind (fX5_refuse D4) (fun x11 D17 => aZ x11 (some (x11, D17))) else aBind (fX5_advance D4) (fun _ D5 => aBind (fX5_isSign (60 : Int32) D5) (fun x4 D6 => (if x4 = 0 then aBind (fX5_isSign (62 : Int32) D6) (fun x8 D14 => (if x8 = 0 then aBind (fX5_isSign (61 : Int32) D14) (fun x9 D15 => (if x9 = 0 then aBind (fX5_refuse D15) (fun x10 D16 => aZ x10 (some (x10, D16))) else cT3 a1 x2 x3 D15)) else cT3 a1 x2 x3 D14)) else cT3 a1 x2 x3 D6))))
def cT1 (a1 x2 : Int32) (D3 : ADD) : Option (Int32 × ADD) := (if (D3.1 33 4) = 0 then aBind (fX5_wordIn 3 D3) (fun x3 D4 => cT2 a1 x2 x3 D4) else aBind (fX5_wordIn 2 D3) (fun x3 D4 => cT2 a1 x2 x3 D4))
theorem cT_eq {a1 : Int32} {D : ADD} : fX5_readTest a1 D = aBind (fX5_wordIn 1 D) (fun x1 D1 => if x1 = 0 then aBind (fX5_advance D1) (fun _ D => cT1 a1 1 D) else cT1 a1 0 D1) := rfl
def mT4 (a2 a3 x1 x2 x3 x5 : Int32) (D10 : ADD) : Option (Int32 × ADD) := (if (4 : Int32) ≤ a3 then some ((1 : Int32), D10) else (if (16 : Int32) ≤ a2 then some ((1 : Int32), D10) else aLet (((4 : Int32) * a2) + a3) (fun x6 => aLet (fun (x7 : Int32) (D12 : ADD) => aIn x6 64 (aLet (aSI D12 24 x6.toNatClampNeg x7) (fun D13 => aIn x6 64 (aLet (aSI D13 25 x6.toNatClampNeg x3) (fun D14 => aIn x6 64 (aLet (aSI D14 26 x6.toNatClampNeg x5) (fun D15 => aIn a2 17 (aLet (aSI D15 23 a2.toNatClampNeg (a3 + (1 : Int32))) (fun D16 => some ((1 : Int32), D16)))))))))) (fun (j160 : Int32 → ADD → Option (Int32 × ADD)) => (if x1 = 0 then j160 x2 D10 else j160 (x2 + (8 : Int32)) D10)))))
def mT3 (a2 a3 x1 x2 x3 : Int32) (D8 : ADD) : Option (Int32 × ADD) := aBind (fX11_next D8) (fun _ D9 => (if (D9.1 0 26) = (3 : Int32) then aBind (fX11_next D9) (fun _ D10 => mT4 a2 a3 x1 x2 x3 (D9.1 0 27) D10) else aBind (fX11_wrong D9) (fun x8 D17 => aZ x8 (some (x8, D17)))))
def mT2 (a2 a3 x1 x2 : Int32) (D4 : ADD) : Option (Int32 × ADD) := (if x2 = (-1 : Int32) then aBind (fX11_wrong D4) (fun x9 D18 => aZ x9 (some (x9, D18))) else aBind (fX11_next D4) (fun _ D5 => (if (D5.1 0 26) = (4 : Int32) then (if D5.1 0 27 = (60 : Int32) then mT3 a2 a3 x1 x2 (D5.1 0 27) D5 else (if D5.1 0 27 = (62 : Int32) then mT3 a2 a3 x1 x2 (D5.1 0 27) D5 else (if D5.1 0 27 = (61 : Int32) then mT3 a2 a3 x1 x2 (D5.1 0 27) D5 else aBind (fX11_wrong D5) (fun x4 D7 => aZ x4 (some (x4, D7)))))) else aBind (fX11_wrong D5) (fun x4 D7 => aZ x4 (some (x4, D7))))))
def mT0 (a1 a2 a3 : Int32) (D1 : ADD) : Option (Int32 × ADD) := aBind (fX11_isWord (7237492 : Int64) D1) (fun x1 D2 => (if x1 = 0 then aBind (fX11_testWord a1 D2) (fun x2 D4 => mT2 a2 a3 x1 x2 D4) else aBind (fX11_next D2) (fun _ D19 => aBind (fX11_testWord a1 D19) (fun x2 D4 => mT2 a2 a3 x1 x2 D4))))
theorem mT_eq {a1 a2 a3 : Int32} {D : ADD} : fX11_test a1 a2 a3 D = (if a3 = (4 : Int32) then aBind (fX11_later (3 : Int32) (D.1 0 25) D) (fun _ D20 => mT0 a1 a2 a3 D20) else mT0 a1 a2 a3 D) := rfl
section STs
variable {D0 E0 D D1 E E1 : ADD} {B : Nat → Int32} {n L s e m : Nat} {k p : Int32}
theorem Wp.rpos {α β : Type} {f : Option (α × ADD)} {c : Prop} [Decidable c] {g h : Option (β × ADD)} {R : α → ADD → β → ADD → Prop} (hc : c) (q : Wp f (fun x D => Wp g (fun y E => R x D y E))) : Wp f (fun x D => Wp (if c then g else h) (fun y E => R x D y E)) := by
  rw [if_pos hc]
  exact q
theorem Wp.rneg {α β : Type} {f : Option (α × ADD)} {c : Prop} [Decidable c] {g h : Option (β × ADD)} {R : α → ADD → β → ADD → Prop} (hc : ¬ c) (q : Wp f (fun x D => Wp h (fun y E => R x D y E))) : Wp f (fun x D => Wp (if c then g else h) (fun y E => R x D y E)) := by
  rw [if_neg hc]
  exact q
theorem wcF_rng : ∀ (ws : List (List Int32)) (i : Nat), wcF B s e ws i = -1 ∨ ∃ j, j < ws.length ∧ wcF B s e ws i = nI (i + j)
  | [], i => Or.inl rfl
  | w :: ws, i => by
    by_cases h : wM B s e w
    · exact Or.inr ⟨0, by simp, wcF_y h⟩
    · rw [wcF_n h]
      rcases wcF_rng ws (i + 1) with q | ⟨j, q1, q2⟩
      · exact Or.inl q
      · exact Or.inr ⟨j + 1, by simp; omega, by rw [q2]; congr 1; omega⟩
/-- the class's new test -/
def AdT (L m : Nat) (nt key sg bd : Int32) (D D1 : ADD) : Prop := (∀ c, (c < 38 ∨ 42 < c) → D1.1 c = D.1 c) ∧ D1.2 = D.2 ∧ if L < 16 ∧ m < 4 then (∀ j, D1.1 38 j = if j = L then nI (m + 1) else D.1 38 j) ∧ (∀ j, D1.1 39 j = if j = 4 * L + m then key else D.1 39 j) ∧ (∀ j, D1.1 40 j = if j = 4 * L + m then sg else D.1 40 j) ∧ (∀ j, D1.1 41 j = if j = 4 * L + m then bd else D.1 41 j) ∧ (∀ j, D1.1 42 j = if j = 4 * L + m then nt else D.1 42 j) else ∀ c, D1.1 c = D.1 c
theorem bX_addTest {nt key sg bd : Int32} (hL : L ≤ 500) (hm : L < 16 → D.1 38 L = nI (min m 4)) : Wp (fX6_addTest 34 (nI L) nt key sg bd D) (fun _ D1 => AdT L m nt key sg bd D D1) := by
  unfold fX6_addTest
  have vL : (nI L).toInt = (L : Int) := nI_toInt (by omega)
  have cL : (nI L).toNatClampNeg = L := nI_clamp (by omega)
  refine Wp.bindE (eX_hasLine _ _) (Wp.lets ?_)
  rw [vL]
  by_cases h : 0 ≤ (L : Int) ∧ (L : Int) < 16
  · rw [if_pos h]
    have l16 : L < 16 := by omega
    have iL : vp_in (nI L) 16 := i_in (by omega) (by omega)
    have hm := hm l16
    refine Wp.neg (by decide) (Wp.idx iL ?_)
    show Wp (if D.1 38 (nI L).toNatClampNeg < 4 then _ else _) _
    rw [cL, hm]
    have e4 : (4 : Int32).toInt = 4 := by decide
    have vm : (nI (min m 4)).toInt = ((min m 4 : Nat) : Int) := nI_toInt (by omega)
    refine Wp.ilt (fun q => ?_) (fun q => Wp.ret ⟨fun _ _ => rfl, rfl, by rw [if_neg (by omega)]; exact fun _ => rfl⟩)
    have m4 : min m 4 = m := by omega
    have m5 : m < 4 := by omega
    rw [m4] at vm hm
    rw [m4]
    refine Wp.idx iL (Wp.leti (fun x2 ex => ?_))
    have e1 : (nI L * 4).toInt = (L : Int) * 4 := ti_mul vL e4 (by omega) (by omega)
    have e2 : x2.toInt = ((4 * L + m : Nat) : Int) := by
      rw [ex]
      have := ti_add e1 vm (by omega) (by omega)
      omega
    have ix : vp_in x2 64 := i_in (by omega) (by omega)
    have cx : x2.toNatClampNeg = 4 * L + m := cl_of e2
    rw [cx]
    refine Wp.idx ix (Wp.lets (Wp.idx ix (Wp.lets (Wp.idx ix (Wp.lets (Wp.idx ix (Wp.lets (Wp.idx iL (Wp.idx iL (Wp.leti (fun D7 e7 => Wp.ret ?_)))))))))))
    have z : nI m + 1 = nI (m + 1) := (nI_succ m).symm
    refine ⟨fun c hc => ?_, by rw [e7]; rfl, ?_⟩
    · rw [e7, si_o (by omega), si_o (by omega), si_o (by omega), si_o (by omega), si_o (by omega)]
    · rw [if_pos ⟨l16, m5⟩]
      refine ⟨fun j => ?_, fun j => ?_, fun j => ?_, fun j => ?_, fun j => ?_⟩
      · rw [e7, si_s, si_o (by decide), si_o (by decide), si_o (by decide), si_o (by decide), hm, z]
      · rw [e7, si_o (by decide), si_o (by decide), si_o (by decide), si_s, si_o (by decide)]
      · rw [e7, si_o (by decide), si_o (by decide), si_s, si_o (by decide), si_o (by decide)]
      · rw [e7, si_o (by decide), si_s, si_o (by decide), si_o (by decide), si_o (by decide)]
      · rw [e7, si_o (by decide), si_o (by decide), si_o (by decide), si_o (by decide), si_s]
  · rw [if_neg h]
    exact Wp.pos rfl (Wp.ret ⟨fun _ _ => rfl, rfl, by rw [if_neg (by omega)]; exact fun _ => rfl⟩)
theorem AdT.ps {nt key sg bd : Int32} (a : AdT L m nt key sg bd D D1) (h : PS B n p D0 E0 L D E s e k) : PS B n p D0 E0 L D1 E s e k := by
  obtain ⟨h1, h2, h3, h4, h5, h6⟩ := h
  obtain ⟨a1, a2, a3⟩ := a
  have r33 : D1.1 33 = D.1 33 := a1 33 (by omega)
  refine ⟨?_, h2, ?_, ⟨by rw [r33]; exact h4.1, h4.2⟩, ⟨fun c hc => by rw [a1 c (by omega)]; exact h5.1 c hc, h5.2.1, by rw [r33]; exact h5.2.2⟩, fun l hl h16 => ?_⟩
  · unfold TkX TpX
    rw [r33, a1 11 (by omega), a1 12 (by omega)]
    exact h1
  · unfold Flt
    rw [r33]
    exact h3
  · obtain ⟨⟨m', ⟨q1, q2, q3⟩, q4⟩, q5⟩ := h6 l hl h16
    refine ⟨⟨m', ⟨?_, q2, q3⟩, fun t ht => ?_⟩, ?_⟩
    · rw [← q1]
      split at a3
      · rw [a3.1 l, if_neg (by omega)]
      · rw [a3 38]
    · have := q4 t ht
      unfold TsR at this ⊢
      split at a3
      · rw [a3.2.1, a3.2.2.1, a3.2.2.2.1, a3.2.2.2.2, if_neg (by omega), if_neg (by omega), if_neg (by omega), if_neg (by omega)]
        exact this
      · rw [a3 39, a3 40, a3 41, a3 42]
        exact this
    · unfold LnD
      rw [a1 35 (by omega), a1 36 (by omega), a1 37 (by omega), r33]
      exact q5
/-- the reference's new test -/
theorem bM_store {x1 x2 x3 x5 : Int32} (hm : m ≤ 500) : Wp (mT4 (nI (min L 16)) (nI m) x1 x2 x3 x5 E) (fun y E1 => y = 1 ∧ (∀ c, (c < 23 ∨ 26 < c) → E1.1 c = E.1 c) ∧ E1.2 = E.2 ∧ if L < 16 ∧ m < 4 then (∀ j, E1.1 23 j = if j = L then nI (m + 1) else E.1 23 j) ∧ (∀ j, E1.1 24 j = if j = 4 * L + m then (if x1 = 0 then x2 else x2 + 8) else E.1 24 j) ∧ (∀ j, E1.1 25 j = if j = 4 * L + m then x3 else E.1 25 j) ∧ (∀ j, E1.1 26 j = if j = 4 * L + m then x5 else E.1 26 j) else ∀ c, E1.1 c = E.1 c) := by
  unfold mT4
  have e4 : (4 : Int32).toInt = 4 := by decide
  have e16 : (16 : Int32).toInt = 16 := by decide
  have vm : (nI m).toInt = (m : Int) := nI_toInt (by omega)
  have vL : (nI (min L 16)).toInt = ((min L 16 : Nat) : Int) := nI_toInt (by omega)
  refine Wp.ile (fun q => Wp.ret ⟨rfl, fun _ _ => rfl, rfl, by rw [if_neg (by omega)]; exact fun _ => rfl⟩) (fun q => Wp.ile (fun q2 => Wp.ret ⟨rfl, fun _ _ => rfl, rfl, by rw [if_neg (by omega)]; exact fun _ => rfl⟩) (fun q2 => ?_))
  have l16 : L < 16 := by omega
  have m4 : m < 4 := by omega
  have lL : min L 16 = L := by omega
  rw [lL] at vL ⊢
  refine Wp.leti (fun x6 ex => ?_)
  have e1 : ((4 : Int32) * nI L).toInt = 4 * (L : Int) := ti_mul e4 vL (by omega) (by omega)
  have e2 : x6.toInt = ((4 * L + m : Nat) : Int) := by
    rw [ex]
    have := ti_add e1 vm (by omega) (by omega)
    omega
  have ix : vp_in x6 64 := i_in (by omega) (by omega)
  have cx : x6.toNatClampNeg = 4 * L + m := cl_of e2
  have iL : vp_in (nI L) 17 := i_in (by omega) (by omega)
  have cL : (nI L).toNatClampNeg = L := nI_clamp (by omega)
  have z : nI m + 1 = nI (m + 1) := (nI_succ m).symm
  rw [cx, cL, z]
  refine Wp.letK (fun j => ∀ x7, (x7 = if x1 = 0 then x2 else x2 + 8) → Wp (j x7 E) _) (fun x7 hx => ?_) (fun j K => Wp.ite (fun q => K _ (if_pos q).symm) (fun q => K _ (if_neg q).symm))
  refine Wp.idx ix (Wp.lets (Wp.idx ix (Wp.lets (Wp.idx ix (Wp.lets (Wp.idx iL (Wp.leti (fun D7 e7 => Wp.ret ?_))))))))
  refine ⟨rfl, fun c hc => ?_, by rw [e7]; rfl, ?_⟩
  · rw [e7, si_o (by omega), si_o (by omega), si_o (by omega), si_o (by omega)]
  · rw [if_pos ⟨l16, m4⟩, ← hx]
    refine ⟨fun j => ?_, fun j => ?_, fun j => ?_, fun j => ?_⟩
    · rw [e7, si_s, si_o (by decide), si_o (by decide), si_o (by decide)]
    · rw [e7, si_o (by decide), si_o (by decide), si_o (by decide), si_s]
    · rw [e7, si_o (by decide), si_o (by decide), si_s, si_o (by decide)]
    · rw [e7, si_o (by decide), si_s, si_o (by decide), si_o (by decide)]
end STs
end
section
/-! a test of both readers: the whole of it -/
section STt
variable {D0 E0 D D1 E E1 : ADD} {B : Nat → Int32} {n L s e m : Nat} {k p : Int32}
theorem Wp.mono2 {α β : Type} {f : Option (α × ADD)} {g : Option (β × ADD)} {S R : α → ADD → β → ADD → Prop} (h : Wp f (fun x D => Wp g (fun y E => S x D y E))) (q : ∀ x D y E, S x D y E → R x D y E) : Wp f (fun x D => Wp g (fun y E => R x D y E)) := h.mono (fun x D k => k.mono (fun y E r => q x D y E r))
/-- the reference's store of a test leaves the lines ahead alone -/
def StM (L m : Nat) (E E1 : ADD) : Prop := (∀ c, (c < 23 ∨ 26 < c) → E1.1 c = E.1 c) ∧ E1.2 = E.2 ∧ (∀ j, j ≠ L → E1.1 23 j = E.1 23 j) ∧ ∀ c j, 24 ≤ c → c ≤ 26 → j ≠ 4 * L + m → E1.1 c j = E.1 c j
theorem StM.ps (a : StM L m E E1) (hm : m < 4) (h : PS B n p D0 E0 L D E s e k) : PS B n p D0 E0 L D E1 s e k := by
  obtain ⟨h1, h2, h3, h4, h5, h6⟩ := h
  obtain ⟨a1, a2, a3, a4⟩ := a
  have r0 : E1.1 0 = E.1 0 := a1 0 (by omega)
  refine ⟨h1, ?_, ?_, ⟨h4.1, by rw [r0]; exact h4.2⟩, ⟨h5.1, fun c hc => by rw [a1 c (by omega)]; exact h5.2.1 c hc, h5.2.2⟩, fun l hl h16 => ?_⟩
  · unfold TkM TpM Ctn
    rw [r0, a1 1 (by omega), a2]
    exact h2
  · unfold Flt
    rw [r0]
    exact h3
  · obtain ⟨⟨m', ⟨q1, q2, q3⟩, q4⟩, q5⟩ := h6 l hl h16
    refine ⟨⟨m', ⟨q1, by rw [a3 l (by omega)]; exact q2, q3⟩, fun t ht => ?_⟩, ?_⟩
    · have := q4 t ht
      unfold TsR at this ⊢
      rw [a4 24 _ (by omega) (by omega) (by omega), a4 25 _ (by omega) (by omega) (by omega), a4 26 _ (by omega) (by omega) (by omega)]
      exact this
    · unfold LnD
      rw [a1 27 (by omega), a1 28 (by omega), a1 29 (by omega)]
      exact q5
theorem sim_t3 (t : TB B n) (h : PS B n p D0 E0 L D E s e k) (hk : k = 3) (hm : CT p L D E m) (hL : L ≤ 500) (hm5 : m ≤ 500) {nt : Int32} (hn : nt = 0 ∨ nt = 1) {kk : Nat} (hkk : kk < 8) (hk7 : p = 0 → kk < 7) : Wp (cT3 (nI L) nt (nI kk) D) (fun x D1 => Wp (mT3 (nI (min L 16)) (nI m) nt (nI kk) (E.1 0 27) E) (fun y E1 => (x = 0 ∧ y = 0 ∧ PF D0 E0 D1 E1) ∨ (x = 1 ∧ y = 1 ∧ ∃ s1 e1 k1, PS B n p D0 E0 L D1 E1 s1 e1 k1 ∧ CT p L D1 E1 (m + 1) ∧ s < s1))) := by
  unfold cT3 mT3
  have v27 : E.1 0 27 = B s := h.2.1.2.2.1.2.2 hk
  have se : s < e := h.1.2.2.1.ne (by rw [hk]; decide)
  rw [v27]
  refine Wp.bindE (h.1.by t) (Wp.two (sim_next t h) (fun _ D2 _ E2 q => ?_))
  obtain ⟨s2, e2, k2, h2, le2, fr, fn⟩ := q
  have m2 : CT p L D2 E2 m := hm.fr fr.1 fn.1
  rw [h2.1.2.1.2.2, h2.2.1.2.1.2.2]
  by_cases hk2 : k2 = 2
  · refine Wp.pos hk2 (Wp.rpos (srt_n.mpr hk2) ?_)
    have val : E2.1 0 27 = nmF B s2 (e2 - s2) := h2.2.1.2.2.1.2.1 hk2
    rw [val]
    refine Wp.bindE (eX_number t h2.1) (Wp.bind (bX_addTest (m := m) hL (fun l => (m2 l).1.1)) (fun _ D3 a3 => ?_))
    have h3 := a3.ps h2
    refine Wp.two (sim_next t h3) (fun _ D4 _ E4 q4 => ?_)
    obtain ⟨s4, e4, k4, h4, le4, fr4, fn4⟩ := q4
    refine Wp.ret ((bM_store hm5).mono (fun y E5 st => ?_))
    obtain ⟨y1, g1, g2, g3⟩ := st
    have lt : s < s4 := by
      have := h2.1.2.2.2.1
      omega
    by_cases hc : L < 16 ∧ m < 4
    · rw [if_pos hc] at g3
      obtain ⟨b1, b2, b3⟩ := a3
      rw [if_pos hc] at b3
      obtain ⟨b38, b39, b40, b41, b42⟩ := b3
      obtain ⟨g23, g24, g25, g26⟩ := g3
      have sm : StM L m E4 E5 := ⟨g1, g2, fun j hj => by rw [g23, if_neg hj], fun c j c1 c2 hj => by
        have : c = 24 ∨ c = 25 ∨ c = 26 := by omega
        rcases this with rfl | rfl | rfl
        · rw [g24, if_neg hj]
        · rw [g25, if_neg hj]
        · rw [g26, if_neg hj]⟩
      refine Or.inr ⟨rfl, y1, s4, e4, k4, sm.ps hc.2 h4, fun _ => ?_, lt⟩
      rw [show min (m + 1) 4 = m + 1 by omega]
      obtain ⟨⟨c1, c2, c3⟩, c4⟩ := m2 hc.1
      refine ⟨⟨by rw [fr4.1 38 (by decide), b38, if_pos rfl], by rw [g23, if_pos rfl], by omega⟩, fun u hu => ?_⟩
      unfold TsR
      rw [fr4.1 39 (by decide), fr4.1 40 (by decide), fr4.1 41 (by decide), fr4.1 42 (by decide), b39, b40, b41, b42, g24, g25, g26, fn4.1 24 (by decide), fn4.1 25 (by decide), fn4.1 26 (by decide)]
      by_cases e : u = m
      · subst e
        rw [if_pos rfl, if_pos rfl, if_pos rfl, if_pos rfl, if_pos rfl, if_pos rfl, if_pos rfl]
        have vk : (nI kk).toInt = (kk : Int) := nI_toInt (by omega)
        refine ⟨⟨by omega, fun z => by have := hk7 z; omega⟩, hn, ?_, rfl, rfl⟩
        rcases hn with hn | hn
        · rw [if_pos hn, hn, vk, ti_0]
          omega
        · rw [if_neg (by rw [hn]; decide), hn, ti_1]
          have := ti_add (y := 8) (q := 8) vk (by decide) (by omega) (by omega)
          omega
      · have := c4 u (by omega)
        rw [if_neg (by omega), if_neg (by omega), if_neg (by omega), if_neg (by omega), if_neg (by omega), if_neg (by omega), if_neg (by omega)]
        exact this
    · rw [if_neg hc] at g3
      have b3 := a3.2.2
      rw [if_neg hc] at b3
      have eE : E5.1 = E4.1 := funext g3
      refine Or.inr ⟨rfl, y1, s4, e4, k4, ?_, fun l16 => ?_, lt⟩
      · have e5 : E5 = E4 := Prod.ext eE g2
        rw [e5]
        exact h4
      · have m4 : ¬ m < 4 := fun q => hc ⟨l16, q⟩
        have q := m2 l16
        rw [show min m 4 = 4 by omega] at q
        rw [show min (m + 1) 4 = 4 by omega]
        exact q.fr (fun c hc => by rw [fr4.1 c hc, b3 c]) (fun c hc => by rw [g3 c, fn4.1 c hc])
  · refine Wp.neg hk2 (Wp.rneg (fun q => hk2 (srt_n.mp q)) ?_)
    exact (sim_no h2).mono2 (fun x D y E r => Or.inl r)
theorem sim_t2 (t : TB B n) (h : PS B n p D0 E0 L D E s e k) (hm : CT p L D E m) (hL : L ≤ 500) (hm5 : m ≤ 500) {nt x3 : Int32} (hn : nt = 0 ∨ nt = 1) (hx : x3 = -1 ∨ ∃ kk : Nat, kk < 8 ∧ (p = 0 → kk < 7) ∧ x3 = nI kk) : Wp (cT2 (nI L) nt x3 D) (fun x D1 => Wp (mT2 (nI (min L 16)) (nI m) nt x3 E) (fun y E1 => (x = 0 ∧ y = 0 ∧ PF D0 E0 D1 E1) ∨ (x = 1 ∧ y = 1 ∧ ∃ s1 e1 k1, PS B n p D0 E0 L D1 E1 s1 e1 k1 ∧ CT p L D1 E1 (m + 1) ∧ s < s1))) := by
  unfold cT2 mT2
  by_cases h3 : x3 = -1
  · exact Wp.pos h3 (Wp.rpos h3 ((sim_no h).mono2 (fun x D y E r => Or.inl r)))
  obtain ⟨kk, hkk, hk7, ex⟩ := hx.resolve_left h3
  refine Wp.neg h3 (Wp.rneg h3 (Wp.two (sim_next t h) (fun _ D2 _ E2 q => ?_)))
  obtain ⟨s2, e2, k2, h2, le2, fr, fn⟩ := q
  have m2 : CT p L D2 E2 m := hm.fr fr.1 fn.1
  have s12 : s ≤ s2 := by
    have := h.1.2.2.2.1
    omega
  have yes : k2 = 3 → Wp (cT3 (nI L) nt x3 D2) (fun x D1 => Wp (mT3 (nI (min L 16)) (nI m) nt x3 (E2.1 0 27) E2) (fun y E1 => (x = 0 ∧ y = 0 ∧ PF D0 E0 D1 E1) ∨ (x = 1 ∧ y = 1 ∧ ∃ s1 e1 k1, PS B n p D0 E0 L D1 E1 s1 e1 k1 ∧ CT p L D1 E1 (m + 1) ∧ s < s1))) := fun hk => by
    rw [ex]
    refine (sim_t3 t h2 hk m2 hL hm5 hn hkk hk7).mono2 (fun x D y E r => ?_)
    rcases r with r | ⟨r1, r2, s1, e1, k1, r3, r4, r5⟩
    · exact Or.inl r
    · exact Or.inr ⟨r1, r2, s1, e1, k1, r3, r4, by omega⟩
  have no := (sim_no h2).mono2 (R := fun x D1 y E1 => (x = 0 ∧ y = 0 ∧ PF D0 E0 D1 E1) ∨ (x = 1 ∧ y = 1 ∧ ∃ s1 e1 k1, PS B n p D0 E0 L D1 E1 s1 e1 k1 ∧ CT p L D1 E1 (m + 1) ∧ s < s1)) (fun x D y E r => Or.inl r)
  refine Wp.bindE (eX_isSign t h2.1) ?_
  rw [h2.2.1.2.1.2.2]
  by_cases hk : k2 = 3
  · have v27 : E2.1 0 27 = B s2 := h2.2.1.2.2.1.2.2 hk
    refine Wp.rpos (srt_s.mpr hk) ?_
    by_cases c60 : B s2 = 60
    · rw [if_pos (show k2 = 3 ∧ B s2 = 60 from ⟨hk, c60⟩)]
      exact Wp.neg (by decide) (Wp.rpos (by rw [v27]; exact c60) (yes hk))
    · rw [if_neg (show ¬ (k2 = 3 ∧ B s2 = 60) from fun q => c60 q.2)]
      refine Wp.pos rfl (Wp.rneg (fun q => c60 (by rw [← v27]; exact q)) (Wp.bindE (eX_isSign t h2.1) ?_))
      by_cases c62 : B s2 = 62
      · rw [if_pos (show k2 = 3 ∧ B s2 = 62 from ⟨hk, c62⟩)]
        exact Wp.neg (by decide) (Wp.rpos (by rw [v27]; exact c62) (yes hk))
      · rw [if_neg (show ¬ (k2 = 3 ∧ B s2 = 62) from fun q => c62 q.2)]
        refine Wp.pos rfl (Wp.rneg (fun q => c62 (by rw [← v27]; exact q)) (Wp.bindE (eX_isSign t h2.1) ?_))
        by_cases c61 : B s2 = 61
        · rw [if_pos (show k2 = 3 ∧ B s2 = 61 from ⟨hk, c61⟩)]
          exact Wp.neg (by decide) (Wp.rpos (by rw [v27]; exact c61) (yes hk))
        · rw [if_neg (show ¬ (k2 = 3 ∧ B s2 = 61) from fun q => c61 q.2)]
          exact Wp.pos rfl (Wp.rneg (fun q => c61 (by rw [← v27]; exact q)) no)
  · refine Wp.rneg (fun q => hk (srt_s.mp q)) ?_
    rw [if_neg (show ¬ (k2 = 3 ∧ B s2 = 60) from fun q => hk q.1)]
    refine Wp.pos rfl (Wp.bindE (eX_isSign t h2.1) ?_)
    rw [if_neg (show ¬ (k2 = 3 ∧ B s2 = 62) from fun q => hk q.1)]
    refine Wp.pos rfl (Wp.bindE (eX_isSign t h2.1) ?_)
    rw [if_neg (show ¬ (k2 = 3 ∧ B s2 = 61) from fun q => hk q.1)]
    exact Wp.pos rfl no
theorem sim_t1 (t : TB B n) (hp : p = 0 ∨ p = 1) (h : PS B n p D0 E0 L D E s e k) (hm : CT p L D E m) (hL : L ≤ 500) (hm5 : m ≤ 500) {nt : Int32} (hn : nt = 0 ∨ nt = 1) : Wp (cT1 (nI L) nt D) (fun x D1 => Wp (aBind (fX11_testWord p E) (fun x2 D4 => mT2 (nI (min L 16)) (nI m) nt x2 D4)) (fun y E1 => (x = 0 ∧ y = 0 ∧ PF D0 E0 D1 E1) ∨ (x = 1 ∧ y = 1 ∧ ∃ s1 e1 k1, PS B n p D0 E0 L D1 E1 s1 e1 k1 ∧ CT p L D1 E1 (m + 1) ∧ s < s1))) := by
  unfold cT1
  rw [h.2.2.2.1.1]
  have rng : ∀ si q, (wds si).length ≤ q → q ≤ 8 → (p = 0 → q ≤ 7) → ((if k = 1 then wcF B s e (wds si) 0 else -1) = -1 ∨ ∃ kk : Nat, kk < 8 ∧ (p = 0 → kk < 7) ∧ (if k = 1 then wcF B s e (wds si) 0 else -1) = nI kk) := fun si q hl hq h0 => by
    by_cases hk : k = 1
    · rw [if_pos hk]
      rcases wcF_rng (B := B) (s := s) (e := e) (wds si) 0 with q1 | ⟨j, q1, q2⟩
      · exact Or.inl q1
      · exact Or.inr ⟨j, by omega, fun z => by have := h0 z; omega, by rw [q2, Nat.zero_add]⟩
    · rw [if_neg hk]
      exact Or.inl rfl
  rcases hp with rfl | rfl
  · exact Wp.pos rfl (Wp.bindE (eX_wordIn (by decide) t h.1) (Wp.rr (eM_test0 t h.2.1) (sim_t2 t h hm hL hm5 hn (rng 3 7 (by decide) (by decide) (fun _ => by decide)))))
  · exact Wp.neg (by decide) (Wp.bindE (eX_wordIn (by decide) t h.1) (Wp.rr (eM_test1 t h.2.1) (sim_t2 t h hm hL hm5 hn (rng 2 8 (by decide) (by decide) (fun z => absurd z (by decide))))))
theorem sim_test (t : TB B n) (hp : p = 0 ∨ p = 1) (h : PS B n p D0 E0 L D E s e k) (hm : CT p L D E m) (hL : L ≤ 500) (hm5 : m ≤ 500) : Wp (fX5_readTest (nI L) D) (fun x D1 => Wp (mT0 p (nI (min L 16)) (nI m) E) (fun y E1 => (x = 0 ∧ y = 0 ∧ PF D0 E0 D1 E1) ∨ (x = 1 ∧ y = 1 ∧ ∃ s1 e1 k1, PS B n p D0 E0 L D1 E1 s1 e1 k1 ∧ CT p L D1 E1 (m + 1) ∧ s < s1))) := by
  rw [cT_eq]
  unfold mT0
  refine Wp.bindE (eX_wordIn (by decide) t h.1) (Wp.rr (eM_isWord wk_not t h.2.1) ?_)
  by_cases hn : k = 1 ∧ wM B s e [110, 111, 116]
  · rw [if_pos hn]
    refine Wp.pos (by rw [if_pos hn.1]; exact one_not.mpr hn.2) (Wp.rneg (by decide) (Wp.two (sim_next t h) (fun _ D2 _ E2 q => ?_)))
    obtain ⟨s2, e2, k2, h2, le2, fr, fn⟩ := q
    refine (sim_t1 t hp h2 (hm.fr fr.1 fn.1) hL hm5 (Or.inr rfl)).mono2 (fun x D y E r => ?_)
    rcases r with r | ⟨r1, r2, s1, e1, k1, r3, r4, r5⟩
    · exact Or.inl r
    · refine Or.inr ⟨r1, r2, s1, e1, k1, r3, r4, ?_⟩
      have := h.1.2.2.2.1
      omega
  · rw [if_neg hn]
    refine Wp.neg (fun q => hn ?_) (Wp.rpos rfl (sim_t1 t hp h hm hL hm5 (Or.inl rfl)))
    by_cases hk : k = 1
    · rw [if_pos hk] at q
      exact ⟨hk, one_not.mp q⟩
    · rw [if_neg hk] at q
      exact absurd q (by decide)
end STt
end
section
/-! the tests of a line, its amounts, its end: both readers -/
theorem aBind_as {α β γ : Type} {f : Option (α × ADD)} {F : α → ADD → Option (β × ADD)} {G : β → ADD → Option (γ × ADD)} : aBind (aBind f F) G = aBind f (fun x D => aBind (F x D) G) := by
  cases f with
  | none => rfl
  | some q => rfl
section SLs
variable {D0 E0 D D1 E E1 : ADD} {B : Nat → Int32} {n L s e m : Nat} {k p : Int32} {T : Int32 → ADD → Option (Int32 × ADD) → Prop}
theorem Wp.twoT {α β γ δ : Type} {f : Option (α × ADD)} {g : Option (β × ADD)} {F : α → ADD → Option (γ × ADD)} {G : β → ADD → Option (δ × ADD)} {S : α → ADD → β → ADD → Prop} {T : γ → ADD → Option (δ × ADD) → Prop} (h : Wp f (fun x D => Wp g (fun y E => S x D y E))) (k : ∀ x D y E, S x D y E → Wp (F x D) (fun x2 D2 => T x2 D2 (G y E))) : Wp (aBind f F) (fun x D => T x D (aBind g G)) := by
  obtain ⟨x, D, e1, y, E, e2, r⟩ := h
  rw [e1, e2]
  exact k x D y E r
theorem Wp.rrT {α β γ : Type} {f : Option (α × ADD)} {g : Option (β × ADD)} {G : β → ADD → Option (γ × ADD)} {T : α → ADD → Option (γ × ADD) → Prop} {y : β} {E : ADD} (h : g = some (y, E)) (k : Wp f (fun x D => T x D (G y E))) : Wp f (fun x D => T x D (aBind g G)) := by
  rw [h]
  exact k
theorem sim_need {c : Int32} (t : TB B n) (h : PS B n p D0 E0 L D E s e k) : Wp (fX5_pass c D) (fun x D1 => Wp (fX11_need c E) (fun y E1 => (x = 0 ∧ y = 0 ∧ PF D0 E0 D1 E1) ∨ (x = 1 ∧ y = 1 ∧ ∃ s1 e1 k1, PS B n p D0 E0 L D1 E1 s1 e1 k1 ∧ s < s1 ∧ FR D D1 ∧ FN E E1))) := by
  unfold fX5_pass fX11_need
  refine Wp.bindE (eX_isSign t h.1) (Wp.rr (eM_isSign h.2.1) ?_)
  by_cases hc : k = 3 ∧ B s = c
  · rw [if_pos hc]
    refine Wp.neg (by decide) (Wp.rneg (by decide) (Wp.two (sim_next t h) (fun _ D2 _ E2 q => Wp.ret (Wp.ret ?_))))
    obtain ⟨s2, e2, k2, h2, le2, fr, fn⟩ := q
    have := h.1.2.2.1.ne (by rw [hc.1]; decide)
    exact Or.inr ⟨rfl, rfl, s2, e2, k2, h2, by omega, fr, fn⟩
  · rw [if_neg hc]
    exact Wp.pos rfl (Wp.rpos rfl ((sim_no h).mono2 (fun x D y E r => Or.inl r)))
theorem sim_tests (t : TB B n) (hp : p = 0 ∨ p = 1) (hL : L ≤ 500) {j49 j94 : ADD → Option (Int32 × ADD)} {zc : Int32 → ADD → Option (Int32 × ADD)} {zr : Int32 → Int32 → ADD → Option (Int32 × ADD)} {s0 : Nat}
    (K : ∀ D' E' s' e' k', PS B n p D0 E0 L D' E' s' e' k' → (∃ m', CT p L D' E' m') → s0 < s' → Wp (j49 D') (fun x D1 => T x D1 (j94 E'))) (N : ∀ D' E', PF D0 E0 D' E' → T 0 D' (some (0, E'))) :
    ∀ (nf m mr : Nat) (D E : ADD) (s e : Nat) (k : Int32), 502 ≤ nf + m → 502 ≤ mr + m → PS B n p D0 E0 L D E s e k → k ≠ 0 → CT p L D E m → m ≤ s → s0 ≤ s → Wp (aFix nf (lX5_readTests_2 (nI L) j49) zc (nI m) D) (fun x D1 => T x D1 (aFix mr (lX11_oneLine_59 p (nI (min L 16)) j94) zr 1 (nI m) E)) := by
  intro nf
  induction nf with
  | zero =>
    intro m mr D E s e k h1 h2 h hk hm hs
    have := h.1.2.2.2
    have := t.1
    omega
  | succ nf ih =>
    intro m mr D E s e k h1 h2 h hk hm hs hs0
    have se := h.1.2.2.1.ne hk
    have en := h.1.2.2.2.2
    have t1 := t.1
    match mr, h2 with
    | 0, h2 => omega
    | mr + 1, h2 =>
      show Wp (lX5_readTests_2 (nI L) j49 (aFix nf (lX5_readTests_2 (nI L) j49) zc) (nI m) D) (fun x D1 => T x D1 (lX11_oneLine_59 p (nI (min L 16)) j94 (aFix mr (lX11_oneLine_59 p (nI (min L 16)) j94) zr) 1 (nI m) E))
      unfold lX5_readTests_2 lX11_oneLine_59
      rw [if_neg (show ¬ ((1 : Int32) = 0) by decide)]
      refine Wp.twoT (sim_next t h) (fun _ D4 _ E4 q => ?_)
      obtain ⟨s4, e4, k4, h4, le4, fr, fn⟩ := q
      have m4 : CT p L D4 E4 m := hm.fr fr.1 fn.1
      -- a test and what comes behind it
      have tail : ∀ D5 E5, PS B n p D0 E0 L D5 E5 s4 e4 k4 → CT p L D5 E5 m → Wp (aBind (fX5_readTest (nI L) D5) (fun x3 D6 => if x3 = 0 then some ((0 : Int32), D6) else aLet (nI m + 1) (fun x4 => aBind (fX5_wordIn 4 D6) (fun x5 D7 => if x5 = 0 then (if x4 < (500 : Int32) then aFix nf (lX5_readTests_2 (nI L) j49) zc x4 D7 else j49 D7) else j49 D7)))) (fun x D1 => T x D1 (aBind (mT0 p (nI (min L 16)) (nI m) E5) (fun x10 D18 => if x10 = 0 then some ((0 : Int32), D18) else aBind (fX11_isWord (6385252 : Int64) D18) (fun x11 D19 => aLet (nI m + 1) (fun x12 => aFix mr (lX11_oneLine_59 p (nI (min L 16)) j94) zr x11 x12 D19))))) := by
        intro D5 E5 h5 m5
        refine Wp.twoT (sim_test t hp h5 m5 hL (by omega)) (fun x6 D6 y6 E6 q6 => ?_)
        rcases q6 with ⟨rfl, rfl, pf⟩ | ⟨rfl, rfl, s6, e6, k6, h6, c6, lt6⟩
        · refine Wp.pos rfl ?_
          rw [if_pos rfl]
          exact Wp.ret (N _ _ pf)
        · refine Wp.neg (by decide) ?_
          rw [if_neg (show ¬ ((1 : Int32) = 0) by decide)]
          refine (Wp.lets (Wp.bindE (eX_wordIn (by decide) t h6.1) (Wp.rrT (eM_isWord wk_and t h6.2.1) ?_)))
          have sm : nI m + 1 = nI (m + 1) := (nI_succ m).symm
          by_cases ha : k6 = 1 ∧ wM B s6 e6 [97, 110, 100]
          · rw [if_pos ha]
            have s6n := h6.1.2.2.1.ne (by rw [ha.1]; decide)
            have e6n := h6.1.2.2.2.2
            have v5 : (500 : Int32).toInt = 500 := by decide
            have vm : (nI (m + 1)).toInt = ((m + 1 : Nat) : Int) := nI_toInt (by omega)
            refine Wp.pos (by rw [if_pos ha.1]; exact one_and.mpr ha.2) ?_
            rw [sm]
            refine Wp.ilt (fun _ => ?_) (fun q => absurd q (by omega))
            exact ih (m + 1) mr D6 E6 s6 e6 k6 (by omega) (by omega) h6 (by rw [ha.1]; decide) c6 (by omega) (by omega)
          · rw [if_neg ha]
            refine Wp.neg (fun q => ha ?_) ?_
            · by_cases hk6 : k6 = 1
              · rw [if_pos hk6] at q
                exact ⟨hk6, one_and.mp q⟩
              · rw [if_neg hk6] at q
                exact absurd q (by decide)
            · have z : ∀ w, aFix mr (lX11_oneLine_59 p (nI (min L 16)) j94) zr 0 w E6 = j94 E6 := fun w => by
                match mr, h2 with
                | 0, h2 => omega
                | mr + 1, _ =>
                  show lX11_oneLine_59 p (nI (min L 16)) j94 _ 0 w E6 = _
                  unfold lX11_oneLine_59
                  rw [if_pos rfl]
              show Wp (j49 D6) (fun x D1 => T x D1 (aFix mr (lX11_oneLine_59 p (nI (min L 16)) j94) zr 0 (nI m + 1) E6))
              rw [z]
              exact K D6 E6 s6 e6 k6 h6 ⟨m + 1, c6⟩ (by omega)
      rw [mT_eq]
      have q4 : (nI m = (4 : Int32)) ↔ m = 4 := by
        have : nI m = nI 4 ↔ m = 4 := nI_eq (by omega) (by omega)
        exact this
      by_cases hm4 : m = 4
      · rw [if_pos (q4.mpr hm4), aBind_as]
        refine Wp.lets (Wp.pos (q4.mpr hm4) (Wp.twoT (sim_mark (by decide) h4) (fun _ D5 _ E5 q5 => ?_)))
        exact tail D5 E5 q5.1 (m4.fr q5.2.1 q5.2.2.1)
      · rw [if_neg (fun q => hm4 (q4.mp q))]
        exact Wp.lets (Wp.neg (fun q => hm4 (q4.mp q)) (tail D4 E4 h4 m4))
/-! writes at the line that is read -/
theorem PS.wx {c : Nat} {v : Int32} (h : PS B n p D0 E0 L D E s e k) (hc : 35 ≤ c ∧ c ≤ 37) : PS B n p D0 E0 L (aSI D c L v) E s e k := by
  obtain ⟨h1, h2, h3, h4, h5, h6⟩ := h
  have o : ∀ d, d ≠ c → (aSI D c L v).1 d = D.1 d := fun d hd => si_o hd
  have r : ∀ j, j ≠ L → (aSI D c L v).1 c j = D.1 c j := fun j hj => by rw [si_s, if_neg hj]
  generalize aSI D c L v = D1 at o r ⊢
  refine ⟨?_, h2, ?_, ⟨by rw [o 33 (by omega)]; exact h4.1, h4.2⟩, ⟨fun d hd => by rw [o d (by omega)]; exact h5.1 d hd, h5.2.1, by rw [o 33 (by omega)]; exact h5.2.2⟩, fun l hl h16 => ?_⟩
  · unfold TkX TpX
    rw [o 33 (by omega), o 11 (by omega), o 12 (by omega)]
    exact h1
  · unfold Flt
    rw [o 33 (by omega)]
    exact h3
  · obtain ⟨⟨m', ⟨q1, q2, q3⟩, q4⟩, q5⟩ := h6 l hl h16
    refine ⟨⟨m', ⟨by rw [o 38 (by omega)]; exact q1, q2, q3⟩, fun t ht => ?_⟩, ?_⟩
    · have := q4 t ht
      unfold TsR at this ⊢
      rw [o 39 (by omega), o 40 (by omega), o 41 (by omega), o 42 (by omega)]
      exact this
    · have g : ∀ d, D1.1 d l = D.1 d l := fun d => by
        by_cases e : d = c
        · rw [e, r l (by omega)]
        · rw [o d e]
      unfold LnD
      rw [g 35, g 36, g 37, o 33 (by omega)]
      exact q5
theorem PS.wm {c : Nat} {v : Int32} (h : PS B n p D0 E0 L D E s e k) (hc : 27 ≤ c ∧ c ≤ 29) : PS B n p D0 E0 L D (aSI E c (min L 16) v) s e k := by
  obtain ⟨h1, h2, h3, h4, h5, h6⟩ := h
  have o : ∀ d, d ≠ c → (aSI E c (min L 16) v).1 d = E.1 d := fun d hd => si_o hd
  have r : ∀ j, j ≠ min L 16 → (aSI E c (min L 16) v).1 c j = E.1 c j := fun j hj => by rw [si_s, if_neg hj]
  have l2 : (aSI E c (min L 16) v).2 = E.2 := rfl
  generalize aSI E c (min L 16) v = E1 at o r l2 ⊢
  refine ⟨h1, ?_, ?_, ⟨h4.1, by rw [o 0 (by omega)]; exact h4.2⟩, ⟨h5.1, fun d hd => by rw [o d (by omega)]; exact h5.2.1 d hd, h5.2.2⟩, fun l hl h16 => ?_⟩
  · unfold TkM TpM Ctn
    rw [o 0 (by omega), o 1 (by omega), l2]
    exact h2
  · unfold Flt
    rw [o 0 (by omega)]
    exact h3
  · obtain ⟨⟨m', ⟨q1, q2, q3⟩, q4⟩, q5⟩ := h6 l hl h16
    refine ⟨⟨m', ⟨q1, by rw [o 23 (by omega)]; exact q2, q3⟩, fun t ht => ?_⟩, ?_⟩
    · have := q4 t ht
      unfold TsR at this ⊢
      rw [o 24 (by omega), o 25 (by omega), o 26 (by omega)]
      exact this
    · have g : ∀ d, E1.1 d l = E.1 d l := fun d => by
        by_cases e : d = c
        · rw [e, r l (by omega)]
        · rw [o d e]
      unfold LnD
      rw [g 27, g 28, g 29]
      exact q5
/-- the class's deed -/
def SdX (L : Nat) (a b c : Int32) (D D1 : ADD) : Prop := (∀ d, (d < 35 ∨ 37 < d) → D1.1 d = D.1 d) ∧ D1.2 = D.2 ∧ (L < 16 → D1.1 35 L = a ∧ D1.1 36 L = b ∧ D1.1 37 L = c)
theorem bX_setDeed {a b c : Int32} (hL : L ≤ 500) (h : PS B n p D0 E0 L D E s e k) : Wp (fX6_setDeed 34 (nI L) a b c D) (fun _ D1 => SdX L a b c D D1 ∧ PS B n p D0 E0 L D1 E s e k) := by
  unfold fX6_setDeed
  have vL : (nI L).toInt = (L : Int) := nI_toInt (by omega)
  have cL : (nI L).toNatClampNeg = L := nI_clamp (by omega)
  refine Wp.bindE (eX_hasLine _ _) ?_
  rw [vL, cL]
  by_cases hl : 0 ≤ (L : Int) ∧ (L : Int) < 16
  · rw [if_pos hl]
    have iL : vp_in (nI L) 16 := i_in (by omega) (by omega)
    refine Wp.neg (by decide) (Wp.idx iL (Wp.lets (Wp.idx iL (Wp.lets (Wp.idx iL (Wp.lets (Wp.ret ⟨⟨fun d hd => ?_, rfl, fun _ => ⟨?_, ?_, ?_⟩⟩, ?_⟩)))))))
    · rw [si_o (by omega), si_o (by omega), si_o (by omega)]
    · rw [si_o (by decide), si_o (by decide), si_s, if_pos rfl]
    · rw [si_o (by decide), si_s, if_pos rfl]
    · rw [si_s, if_pos rfl]
    · exact ((h.wx (c := 35) (by decide)).wx (c := 36) (by decide)).wx (c := 37) (by decide)
  · rw [if_neg hl]
    exact Wp.pos rfl (Wp.ret ⟨⟨fun _ _ => rfl, rfl, fun q => by omega⟩, h⟩)
theorem CT.wx {m : Nat} (h : CT p L D E m) (f : ∀ d, 38 ≤ d → D1.1 d = D.1 d) (g : ∀ d, 23 ≤ d → d ≤ 26 → E1.1 d = E.1 d) : CT p L D1 E1 m := fun hl => by
  obtain ⟨⟨a, b, c⟩, d⟩ := h hl
  refine ⟨⟨by rw [f 38 (by omega)]; exact a, by rw [g 23 (by omega) (by omega)]; exact b, c⟩, fun t ht => ?_⟩
  have := d t ht
  unfold TsR at this ⊢
  rw [f 39 (by omega), f 40 (by omega), f 41 (by omega), f 42 (by omega), g 24 (by omega) (by omega), g 25 (by omega) (by omega), g 26 (by omega) (by omega)]
  exact this
theorem nm_rng (t : TB B n) (hT : Tok B s e 2) (he : e ≤ n) : 0 ≤ (nmF B s (e - s)).toInt ∧ (nmF B s (e - s)).toInt ≤ 9999 := by
  have hd : RunTo dig B s e ∧ e - s ≤ 4 := by
    rcases hT with h | h | h | h
    · exact absurd h.2.2 (by decide)
    · refine ⟨h.2.1, ?_⟩
      false_or_by_contra
      rename_i q
      have := h.2.2
      rw [if_neg q] at this
      exact absurd this (by decide)
    · exact absurd h.2.2 (by decide)
    · have := h.2.2
      split at this <;> exact absurd this (by decide)
  have step : ∀ m, m ≤ e - s → 0 ≤ (nmF B s m).toInt ∧ (nmF B s m).toInt < 10 ^ m := by
    intro m
    induction m with
    | zero => intro _; show 0 ≤ (0 : Int32).toInt ∧ (0 : Int32).toInt < 1; decide
    | succ m ih =>
      intro hm
      have i := ih (by omega)
      have b := hd.1.2.1 (s + m) (by omega) (by omega)
      have p4 : (10 : Int) ^ m ≤ 1000 := by
        have : m = 0 ∨ m = 1 ∨ m = 2 ∨ m = 3 := by omega
        rcases this with rfl | rfl | rfl | rfl <;> decide
      show 0 ≤ (10 * nmF B s m + B (s + m) - 48).toInt ∧ (10 * nmF B s m + B (s + m) - 48).toInt < 10 ^ (m + 1)
      have a1 := ti_mul (x := 10) (p := 10) (by decide) (rfl : (nmF B s m).toInt = _) (by omega) (by omega)
      have a2 := ti_add a1 (rfl : (B (s + m)).toInt = _) (by omega) (by omega)
      have a3 := ti_sub (y := 48) (q := 48) a2 (by decide) (by omega) (by omega)
      rw [a3, Int.pow_succ]
      omega
  have := step (e - s) (Nat.le_refl _)
  have p4 : (10 : Int) ^ (e - s) ≤ 10000 := by
    have h4 := hd.2
    have : e - s = 0 ∨ e - s = 1 ∨ e - s = 2 ∨ e - s = 3 ∨ e - s = 4 := by omega
    rcases this with q | q | q | q | q <;> rw [q] <;> decide
  omega
end SLs
end
section
/-! amounts, deeds, lines: both readers -/
def AmR (d : Int32) (D E : ADD) (l : Nat) : Prop := D.1 35 l = d ∧ (E.1 28 l = D.1 36 l ∧ E.1 29 l = D.1 37 l) ∧ (0 ≤ (D.1 36 l).toInt ∧ (D.1 36 l).toInt ≤ 9999) ∧ (0 ≤ (D.1 37 l).toInt ∧ (D.1 37 l).toInt ≤ 9999) ∧ (D.1 33 1 = 0 → (D.1 36 l).toInt ≤ (D.1 37 l).toInt)
section SMs
variable {D0 E0 D D1 E E1 : ADD} {B : Nat → Int32} {n L s e m : Nat} {k p : Int32}
/-- what is read of a line beside its tests -/
def AmP (B : Nat → Int32) (n : Nat) (p : Int32) (D0 E0 : ADD) (L : Nat) (d : Int32) (D E : ADD) (s : Nat) (x : Int32) (D1 : ADD) (y : Int32) (E1 : ADD) : Prop := (x = 0 ∧ y = 0 ∧ PF D0 E0 D1 E1) ∨ (x = 1 ∧ y = 1 ∧ ∃ s1 e1 k1, PS B n p D0 E0 L D1 E1 s1 e1 k1 ∧ s < s1 ∧ ((∀ c, 38 ≤ c → D1.1 c = D.1 c) ∧ ∀ c, 23 ≤ c → c ≤ 27 → E1.1 c = E.1 c) ∧ (L < 16 → AmR d D1 E1 L))
theorem sim_amounts (t : TB B n) (hL : L ≤ 500) {d : Int32} (h : PS B n p D0 E0 L D E s e k) : Wp (fX5_readAmounts (nI L) d D) (fun x D1 => Wp (fX11_numbers (nI (min L 16)) E) (fun y E1 => AmP B n p D0 E0 L d D E s x D1 y E1)) := by
  unfold fX5_readAmounts fX11_numbers
  have iL : vp_in (nI (min L 16)) 17 := vp_in_nI (by omega) (by omega)
  have cL : (nI (min L 16)).toNatClampNeg = min L 16 := nI_clamp (by omega)
  rw [cL, h.1.2.1.2.2, h.2.1.2.1.2.2]
  by_cases hk : k = 2
  rotate_left
  · exact Wp.neg hk (Wp.rneg (fun q => hk (srt_n.mp q)) ((sim_no h).mono2 (fun x D y E r => Or.inl r)))
  refine Wp.pos hk (Wp.rpos (srt_n.mpr hk) (Wp.bindE (eX_number t h.1) ?_))
  have v1 : E.1 0 27 = nmF B s (e - s) := h.2.1.2.2.1.2.1 hk
  have r1 := nm_rng t (by rw [← hk]; exact h.1.2.2.1) h.1.2.2.2.2
  have se := h.1.2.2.1.ne (by rw [hk]; decide)
  generalize hx1 : nmF B s (e - s) = x1 at v1 r1 ⊢
  refine Wp.flip (Wp.idx iL (Wp.leti (fun Ea ea => Wp.idx iL (Wp.leti (fun Eb eb => Wp.flip ?_)))))
  have pb : PS B n p D0 E0 L D Eb s e k := by
    rw [eb, ea]
    exact (h.wm (c := 28) (by decide)).wm (c := 29) (by decide)
  have b28 : Eb.1 28 (min L 16) = x1 := by rw [eb, ea, si_o (by decide), si_s, if_pos rfl, v1]
  have b29 : Eb.1 29 (min L 16) = x1 := by rw [eb, si_s, if_pos rfl, ea, si_o (by decide), v1]
  have fb : ∀ c, c ≠ 28 → c ≠ 29 → Eb.1 c = E.1 c := fun c a b => by rw [eb, ea, si_o b, si_o a]
  clear ea eb
  refine Wp.two (sim_next t pb) (fun _ D2 _ E2 q2 => ?_)
  obtain ⟨s2, e2, k2, h2, le2, fr2, fn2⟩ := q2
  -- the end: the class sets its line, the reference answers
  have fin : ∀ D5 E5 s5 e5 k5 x3, PS B n p D0 E0 L D5 E5 s5 e5 k5 → s < s5 → (∀ c, c ≠ 33 → D5.1 c = D.1 c) → (∀ c, 23 ≤ c → c ≤ 27 → E5.1 c = E.1 c) → (L < 16 → E5.1 28 L = x1 ∧ E5.1 29 L = x3) → (0 ≤ x3.toInt ∧ x3.toInt ≤ 9999) → (D5.1 33 1 = 0 → x1.toInt ≤ x3.toInt) → Wp (aBind (fX6_setDeed 34 (nI L) d x1 x3 D5) (fun _ D6 => some ((1 : Int32), D6))) (fun x D1 => Wp (some ((1 : Int32), E5)) (fun y E1 => AmP B n p D0 E0 L d D E s x D1 y E1)) := by
    intro D5 E5 s5 e5 k5 x3 h5 lt5 f5 g5 a5 rx le
    refine Wp.bind (bX_setDeed hL h5) (fun _ D6 q6 => Wp.ret (Wp.ret (Or.inr ⟨rfl, rfl, s5, e5, k5, q6.2, lt5, ⟨fun c hc => ?_, g5⟩, fun l16 => ?_⟩)))
    · rw [q6.1.1 c (by omega), f5 c (by omega)]
    · obtain ⟨w1, w2, w3⟩ := q6.1.2.2 l16
      unfold AmR
      rw [w1, w2, w3, q6.1.1 33 (by omega)]
      exact ⟨rfl, a5 l16, r1, rx, le⟩
  have l16e : L < 16 → min L 16 = L := fun q => by omega
  refine Wp.bindE (eX_wordIn (by decide) t h2.1) (Wp.rr (eM_isWord wk_to t h2.2.1) ?_)
  by_cases hto : k2 = 1 ∧ wM B s2 e2 [116, 111]
  · rw [if_pos hto]
    refine Wp.lets (Wp.pos (by rw [if_pos hto.1]; exact one_to.mpr hto.2) (Wp.flip (Wp.lets (Wp.neg (by decide) (Wp.flip (Wp.two (sim_next t h2) (fun _ D6 _ E6 q6 => ?_)))))))
    obtain ⟨s6, e6, k6, h6, le6, fr6, fn6⟩ := q6
    rw [h6.1.2.1.2.2, h6.2.1.2.1.2.2]
    by_cases hk6 : k6 = 2
    rotate_left
    · exact Wp.neg hk6 (Wp.rneg (fun q => hk6 (srt_n.mp q)) ((sim_no h6).mono2 (fun x D y E r => Or.inl r)))
    refine Wp.pos hk6 (Wp.rpos (srt_n.mpr hk6) (Wp.bindE (eX_number t h6.1) ?_))
    have v6 : E6.1 0 27 = nmF B s6 (e6 - s6) := h6.2.1.2.2.1.2.1 hk6
    have r6 := nm_rng t (by rw [← hk6]; exact h6.1.2.2.1) h6.1.2.2.2.2
    generalize hx6 : nmF B s6 (e6 - s6) = x6 at v6 r6 ⊢
    have s26 : s < s6 := by
      have := h2.1.2.2.2.1
      omega
    have e28 : E6.1 28 (min L 16) = x1 := by rw [fn6.1 28 (by decide), fn2.1 28 (by decide)]; exact b28
    -- behind the second number
    have go : ∀ D8 E8, PS B n p D0 E0 L D8 E8 s6 e6 k6 → (∀ c, c ≠ 33 → D8.1 c = D6.1 c) → (∀ c, c ≠ 0 → E8.1 c = E6.1 c) → (D8.1 33 1 = 0 → x1.toInt ≤ x6.toInt) → Wp (aBind (fX5_advance D8) (fun _ D9 => aBind (fX6_setDeed 34 (nI L) d x1 x6 D9) (fun _ D5 => some ((1 : Int32), D5)))) (fun x D1 => Wp (aIn (nI (min L 16)) 17 (aLet (aSI E8 29 (min L 16) (E8.1 0 27)) (fun D8 => aBind (fX11_next D8) (fun _ D9 => some ((1 : Int32), D9))))) (fun y E1 => AmP B n p D0 E0 L d D E s x D1 y E1)) := by
      intro D8 E8 h8 f8 g8 le
      have v8 : E8.1 0 27 = x6 := by rw [← hx6]; exact h8.2.1.2.2.1.2.1 hk6
      refine Wp.flip (Wp.idx iL (Wp.leti (fun Ec ec => Wp.flip ?_)))
      have pc : PS B n p D0 E0 L D8 Ec s6 e6 k6 := by rw [ec]; exact h8.wm (c := 29) (by decide)
      have c29 : Ec.1 29 (min L 16) = x6 := by rw [ec, si_s, if_pos rfl, v8]
      have fc : ∀ c, c ≠ 29 → Ec.1 c = E8.1 c := fun c a => by rw [ec, si_o a]
      clear ec
      refine Wp.two (sim_next t pc) (fun _ D9 _ E9 q9 => ?_)
      obtain ⟨s9, e9, k9, h9, le9, fr9, fn9⟩ := q9
      refine fin D9 E9 s9 e9 k9 x6 h9 ?_ (fun c hc => by rw [fr9.1 c hc, f8 c hc, fr6.1 c hc, fr2.1 c hc]) (fun c c1 c2 => by rw [fn9.1 c (by omega), fc c (by omega), g8 c (by omega), fn6.1 c (by omega), fn2.1 c (by omega), fb c (by omega) (by omega)]) (fun q => ?_) r6 (fun q => le (by rw [← fr9.2.1 1 (by decide) (by decide) (by decide)]; exact q))
      · have := h8.1.2.2.2.1
        omega
      · have z := l16e q
        rw [z] at c29 e28
        exact ⟨by rw [fn9.1 28 (by decide), fc 28 (by decide), g8 28 (by decide)]; exact e28, by rw [fn9.1 29 (by decide)]; exact c29⟩
    rw [e28, v6]
    refine Wp.flip (Wp.idx iL (Wp.lets (Wp.flip (Wp.lets (Wp.ile (fun q => ?_) (fun q => ?_))))))
    · have z : x1 ≤ x6 := Int32.le_iff_toInt_le.mpr q
      rw [if_pos z]
      exact go D6 E6 h6 (fun _ _ => rfl) (fun _ _ => rfl) (fun _ => q)
    · have z : ¬ x1 ≤ x6 := fun y => by have := Int32.le_iff_toInt_le.mp y; omega
      rw [if_neg z]
      refine Wp.two (sim_mark (by decide) h6) (fun _ D8 _ E8 q8 => ?_)
      exact go D8 E8 q8.1 q8.2.1 q8.2.2.1 (fun y => absurd y q8.2.2.2)
  · rw [if_neg hto]
    refine Wp.lets (Wp.neg (fun q => hto ?_) (Wp.flip (Wp.lets (Wp.pos rfl (Wp.flip ?_)))))
    · by_cases hk2 : k2 = 1
      · rw [if_pos hk2] at q
        exact ⟨hk2, one_to.mp q⟩
      · rw [if_neg hk2] at q
        exact absurd q (by decide)
    · refine fin D2 E2 s2 e2 k2 x1 h2 (by omega) (fun c hc => fr2.1 c hc) (fun c c1 c2 => by rw [fn2.1 c (by omega), fb c (by omega) (by omega)]) (fun q => ?_) r1 (fun _ => Int.le_refl _)
      have z := l16e q
      rw [z] at b28 b29
      exact ⟨by rw [fn2.1 28 (by decide)]; exact b28, by rw [fn2.1 29 (by decide)]; exact b29⟩
end SMs
end
