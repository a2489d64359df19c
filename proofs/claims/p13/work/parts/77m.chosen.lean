/-! who is chosen, in the reference and in the class -/
theorem and1 (x : Int32) : x &&& 1 = 0 ∨ x &&& 1 = 1 := by
  have a : (x &&& 1).toBitVec = x.toBitVec &&& 1#32 := rfl
  have h : (x &&& 1).toBitVec.toNat < 2 := by
    rw [a, BitVec.toNat_and]
    exact Nat.lt_of_le_of_lt Nat.and_le_right (by decide)
  have : (x &&& 1).toBitVec.toNat = 0 ∨ (x &&& 1).toBitVec.toNat = 1 := by omega
  rcases this with q | q
  · exact Or.inl (Int32.toBitVec_inj.mp (BitVec.eq_of_toNat_eq q))
  · exact Or.inr (Int32.toBitVec_inj.mp (BitVec.eq_of_toNat_eq q))
theorem bt_63 : ∀ n, n < 6 → bt 63 n = true := by decide +kernel
theorem bt_31 : ∀ n, n < 5 → bt 31 n = true := by decide +kernel
theorem msk {x m : Int32} {n : Nat} (hn : n < 32) (hm : bt m n = true) : (((x &&& m) >>> (nI n &&& 31)) &&& 1) = 1 ↔ ¬ ((x >>> (nI n &&& 31)) &&& 1) = 0 := by
  have a : ((((x &&& m) >>> (nI n &&& 31)) &&& 1) = 0) ↔ ((x >>> (nI n &&& 31)) &&& 1) = 0 := by
    rw [bit_t hn, bit_t hn, b_and, hm, Bool.and_true]
  rw [← a]
  constructor
  · intro h k
    rw [h] at k
    exact absurd k (by decide)
  · intro h
    exact (and1 _).resolve_left h
section CHs
variable {D E E1 : ADD}
theorem bM_isChosen {k : Nat} (hk : k < 32) (c : RCh (xc D) (slM E 0)) (hE : ∀ c, 11 ≤ c → c ≤ 14 → E1.1 c = E.1 c) (hf : FcR D E1 k) (h4 : 0 ≤ (knX D (nI k) 4).toInt ∧ (knX D (nI k) 4).toInt ≤ 5) (h1 : 0 ≤ (knX D (nI k) 1).toInt ∧ (knX D (nI k) 1).toInt ≤ 4) : Wp (fX11_isChosen (nI k) E1) (fun x D1 => D1 = E1 ∧ Bo x (chX D (nI k))) := by
  obtain ⟨c0, c1, c2, c3, c4⟩ := c
  rw [sm0 (by decide) (by decide)] at c0 c1 c2 c3 c4
  have c0 : D.1 31 0 = E.1 11 0 &&& 63 := c0
  have c1 : D.1 31 1 = E.1 12 0 &&& 31 := c1
  have c2 : D.1 31 2 = E.1 13 0 := c2
  have c3 : D.1 31 3 = E.1 13 1 := c3
  have c4 : D.1 31 4 = E.1 14 0 := c4
  have vk : (nI k).toInt = (k : Int) := nI_toInt (by omega)
  have ck : (nI k).toNatClampNeg = k := nI_clamp (by omega)
  have hk2 : 0 ≤ (nI k).toInt ∧ (nI k).toInt < 32 := by omega
  have ef : ∀ (f : Int32) (n : Nat), f = nI n → n < 11 → fX11_f (nI k) f E1 = some (knX D (nI k) (nI n), E1) := fun f n e hn => by
    have vn : (nI n).toInt = (n : Int) := nI_toInt (by omega)
    rw [e, eM_f hk2 (by omega), ck, nI_clamp (by omega), hf n hn]
  have v4 : knX D (nI k) 4 = nI (knX D (nI k) 4).toNatClampNeg := nI_val h4.1
  have v1 : knX D (nI k) 1 = nI (knX D (nI k) 1).toNatClampNeg := nI_val h1.1
  have e4 := cl_i h4.1
  have e1 := cl_i h1.1
  have b4 : ((D.1 31 0 >>> (knX D (nI k) 4 &&& 31)) &&& 1) = 1 ↔ ¬ ((E.1 11 0 >>> (knX D (nI k) 4 &&& 31)) &&& 1) = 0 := by
    rw [c0, v4]
    exact msk (by omega) (bt_63 _ (by omega))
  have b1 : ((D.1 31 1 >>> (knX D (nI k) 1 &&& 31)) &&& 1) = 1 ↔ ¬ ((E.1 12 0 >>> (knX D (nI k) 1 &&& 31)) &&& 1) = 0 := by
    rw [c1, v1]
    exact msk (by omega) (bt_31 _ (by omega))
  have z1 : (1 : Int32).toNatClampNeg = 1 := by decide
  unfold fX11_isChosen
  refine Wp.bindE (ef 5 5 rfl (by decide)) (Wp.idd (by decide) ?_)
  rw [z1, cl_0, hE 13 (by decide) (by decide)]
  -- layer and mark
  refine Wp.letQ (fun Q j => ∀ x2 : Int32, Bo x2 (knX D (nI k) 5 ≤ D.1 31 3 ∧ D.1 31 2 ≤ knX D (nI k) 6) → Wp (j x2 E1) Q) (fun x2 h2 => ?_) (fun j K => ?_)
  · refine Wp.idd (by decide) ?_
    rw [hE 14 (by decide) (by decide)]
    refine Wp.letQ (fun Q j => ∀ x3 : Int32, Bo x3 (D.1 31 4 = 0 ∨ (D.1 31 4 = 1 ↔ 0 < knX D (nI k) 7)) → Wp (j x3 E1) Q) (fun x3 h3 => ?_) (fun j K => ?_)
    · refine Wp.bindE (ef 9 9 rfl (by decide)) (Wp.lets (Wp.lets ?_))
      have no : ¬ chX D (nI k) → Wp (aZ 0 (some ((0 : Int32), E1))) (fun x D1 => D1 = E1 ∧ Bo x (chX D (nI k))) := fun q => Wp.z (Or.inl rfl) (Wp.ret ⟨rfl, Or.inr ⟨rfl, q⟩⟩)
      refine Wp.ite (fun h9 => Wp.idd (by decide) (Wp.bindE (ef 4 4 rfl (by decide)) ?_)) (fun h9 => no (fun q => h9 q.1))
      rw [hE 11 (by decide) (by decide)]
      refine Wp.ite (fun q4 => no (fun q => b4.mp q.2.1 q4)) (fun q4 => Wp.idd (by decide) (Wp.bindE (ef 1 1 rfl (by decide)) ?_))
      rw [hE 12 (by decide) (by decide)]
      refine Wp.ite (fun q1 => no (fun q => b1.mp q.2.2.1 q1)) (fun q1 => Wp.ite (fun q2 => no (fun q => ?_)) (fun q2 => Wp.ite (fun q3 => no (fun q => ?_)) (fun q3 => Wp.z (Or.inr rfl) (Wp.ret ⟨rfl, Or.inl ⟨rfl, h9, b4.mpr q4, b1.mpr q1, ?_⟩⟩))))
      · rw [h2.t ⟨q.2.2.2.1, q.2.2.2.2.1⟩] at q2
        exact absurd q2 (by decide)
      · rw [h3.t q.2.2.2.2.2] at q3
        exact absurd q3 (by decide)
      · rcases h2 with ⟨-, y2⟩ | ⟨y2, -⟩
        · rcases h3 with ⟨-, y3⟩ | ⟨y3, -⟩
          · exact ⟨y2.1, y2.2, y3⟩
          · exact absurd y3 q3
        · exact absurd y2 q2
    · rw [← c4]
      have yes : (D.1 31 4 = 0 ∨ (D.1 31 4 = 1 ↔ 0 < knX D (nI k) 7)) → Wp (j 1 E1) _ := fun q => K 1 (Or.inl ⟨rfl, q⟩)
      refine Wp.lets (Wp.ite (fun q0 => yes (Or.inl q0)) (fun q0 => Wp.idd (by decide) ?_))
      refine Wp.letQ (fun Q j => ∀ x8 : Int32, Bo x8 (D.1 31 4 = 1) → Wp (j x8 E1) Q) (fun x8 h8 => ?_) (fun j K8 => Wp.ite (fun q => K8 1 (Or.inl ⟨rfl, q⟩)) (fun q => K8 0 (Or.inr ⟨rfl, q⟩)))
      refine Wp.bindE (ef 7 7 rfl (by decide)) ?_
      refine Wp.letQ (fun Q j => ∀ x10 : Int32, Bo x10 (0 < knX D (nI k) 7) → Wp (j x10 E1) Q) (fun x10 h10 => ?_) (fun j K10 => Wp.ite (fun q => K10 0 (Or.inr ⟨rfl, Int32.not_lt.mpr q⟩)) (fun q => K10 1 (Or.inl ⟨rfl, Int32.not_le.mp q⟩)))
      refine Wp.ite (fun q => yes (Or.inr ?_)) (fun q => K 0 (Or.inr ⟨rfl, fun y => ?_⟩))
      · rcases h8 with ⟨a, y8⟩ | ⟨a, y8⟩ <;> rcases h10 with ⟨b, y10⟩ | ⟨b, y10⟩
        · exact ⟨fun _ => y10, fun _ => y8⟩
        · rw [a, b] at q
          exact absurd q (by decide)
        · rw [a, b] at q
          exact absurd q (by decide)
        · exact ⟨fun z => absurd z y8, fun z => absurd z y10⟩
      · have y := y.resolve_left q0
        rcases h8 with ⟨a, y8⟩ | ⟨a, y8⟩ <;> rcases h10 with ⟨b, y10⟩ | ⟨b, y10⟩
        · exact q (by rw [a, b])
        · exact y10 (y.mp y8)
        · exact y8 (y.mpr y10)
        · exact q (by rw [a, b])
  · rw [← c3]
    refine Wp.lets (Wp.ite (fun q => K 0 (Or.inr ⟨rfl, fun y => Int32.not_le.mpr q y.1⟩)) (fun q => Wp.bindE (ef 6 6 rfl (by decide)) (Wp.idd (by decide) ?_)))
    rw [hE 13 (by decide) (by decide), ← c2]
    exact Wp.ite (fun q2 => K 0 (Or.inr ⟨rfl, fun y => Int32.not_le.mpr q2 y.2⟩)) (fun q2 => K 1 (Or.inl ⟨rfl, Int32.not_lt.mp q, Int32.not_lt.mp q2⟩))
end CHs
