section
/-! a State made anew -/
def opStepB (n0 z : Nat) (P : APD) (o : aOp) : APD := if o.1 = 0 then aNC P (o.2.1, o.2.2.1, fun _ => none) else if o.1 = 1 then aPR P (z + o.2.1) o.2.2.1 (n0 + (z + o.2.2.2.1)) else aPI P (z + o.2.1) o.2.2.1 o.2.2.2.2
def opB (n0 z : Nat) (P : APD) : List aOp → APD
  | [] => P
  | o :: r => opStepB n0 z (opB n0 z P r) o
theorem opB_spec (n0 z : Nat) (P : APD) (hz : P.1.1 = z) : ∀ ops : List aOp, (ops.all fun o => o.1 == 0 || decide (o.2.1 < 31)) = true → (opB n0 z P ops).1.1 = z + opCnt ops ∧ (opB n0 z P ops).1.2.1 = P.1.2.1 ++ (List.range (opCnt ops)).map (z + ·) ∧
    (∀ q, q < z → (opB n0 z P ops).1.2.2 q = P.1.2.2 q) ∧ (∀ i, i < opCnt ops → (opB n0 z P ops).1.2.2 (z + i) = ((opSh ops i).1, (opSh ops i).2, fun f => (opRef ops i f).map (fun v => n0 + (z + v)))) ∧
    (∀ q f, q < z → (opB n0 z P ops).2.1 q f = P.2.1 q f) ∧ (∀ q f, q < z → (opB n0 z P ops).2.2 q f = P.2.2 q f) ∧ (∀ i f, i < opCnt ops → (opB n0 z P ops).2.1 (z + i) f = opInt ops i f)
  | [], _ => ⟨by show P.1.1 = _; rw [hz]; rfl, by simp [opB, opCnt], fun _ _ => rfl, fun i hi => absurd hi (Nat.not_lt_zero i), fun _ _ _ => rfl, fun _ _ _ => rfl, fun i _ hi => absurd hi (Nat.not_lt_zero i)⟩
  | o :: r, hall => by
    have hr : (r.all fun o => o.1 == 0 || decide (o.2.1 < 31)) = true := by
      simp only [List.all_cons, Bool.and_eq_true] at hall
      exact hall.2
    obtain ⟨h1, h2, h3, h4, h5, h6, h7⟩ := opB_spec n0 z P hz r hr
    by_cases t0 : o.1 = 0
    · have e : opB n0 z P (o :: r) = aNC (opB n0 z P r) (o.2.1, o.2.2.1, fun _ => none) := by rw [opB, opStepB, if_pos t0]
      have ec : opCnt (o :: r) = opCnt r + 1 := by rw [opCnt, if_pos t0]
      rw [e, ec]
      refine ⟨by show (opB n0 z P r).1.1 + 1 = _; omega, ?_, fun q hq => ?_, fun i hi => ?_, fun q f hq => ?_, fun q f hq => ?_, fun i f hi => ?_⟩
      · show (opB n0 z P r).1.2.1 ++ [(opB n0 z P r).1.1] = _
        rw [h1, h2, List.range_succ, List.map_append, List.append_assoc]
        rfl
      · show (if q = (opB n0 z P r).1.1 then _ else _) = _
        rw [if_neg (by omega)]
        exact h3 q hq
      · show (if z + i = (opB n0 z P r).1.1 then _ else _) = _
        rw [opSh, if_pos t0]
        by_cases hi2 : i = opCnt r
        · rw [if_pos (by omega), if_pos hi2]
          congr 2
          funext f
          rw [opRef, if_pos t0, if_pos hi2]
          rfl
        · rw [if_neg (by omega), if_neg hi2, h4 i (by omega)]
          congr 2
          funext f
          rw [opRef, if_pos t0, if_neg hi2]
      · show (if q = (opB n0 z P r).1.1 then (0 : Int32) else _) = _
        rw [if_neg (by omega)]
        exact h5 q f hq
      · show (if q = (opB n0 z P r).1.1 then (0 : Int64) else _) = _
        rw [if_neg (by omega)]
        exact h6 q f hq
      · show (if z + i = (opB n0 z P r).1.1 then (0 : Int32) else _) = _
        rw [opInt, if_pos t0]
        by_cases hi2 : i = opCnt r
        · rw [if_pos (by omega), if_pos hi2]
        · rw [if_neg (by omega), if_neg hi2]
          exact h7 i f (by omega)
    · have ec : opCnt (o :: r) = opCnt r := by rw [opCnt, if_neg t0]
      by_cases t1 : o.1 = 1
      · have e : opB n0 z P (o :: r) = aPR (opB n0 z P r) (z + o.2.1) o.2.2.1 (n0 + (z + o.2.2.2.1)) := by rw [opB, opStepB, if_neg t0, if_pos t1]
        rw [e, ec]
        refine ⟨h1, h2, fun q hq => ?_, fun i hi => ?_, h5, h6, fun i f hi => ?_⟩
        · show (if q = z + o.2.1 then _ else _) = _
          rw [if_neg (by omega)]
          exact h3 q hq
        · show (if z + i = z + o.2.1 then _ else _) = _
          rw [opSh, if_neg t0]
          by_cases hi2 : i = o.2.1
          · rw [if_pos (by omega), h4 i hi]
            congr 2
            funext f
            rw [opRef, if_neg t0, if_pos t1]
            by_cases hf : f = o.2.2.1
            · rw [if_pos hf, if_pos ⟨hi2, hf⟩]
              rfl
            · rw [if_neg hf, if_neg (fun q => hf q.2)]
          · rw [if_neg (by omega), h4 i hi]
            congr 2
            funext f
            rw [opRef, if_neg t0, if_pos t1, if_neg (fun q => hi2 q.1)]
        · rw [opInt, if_neg t0, if_pos t1]
          exact h7 i f hi
      · have e : opB n0 z P (o :: r) = aPI (opB n0 z P r) (z + o.2.1) o.2.2.1 o.2.2.2.2 := by rw [opB, opStepB, if_neg t0, if_neg t1]
        rw [e, ec]
        refine ⟨h1, h2, h3, fun i hi => ?_, fun q f hq => ?_, h6, fun i f hi => ?_⟩
        · rw [opSh, if_neg t0]
          show (opB n0 z P r).1.2.2 (z + i) = _
          rw [h4 i hi]
          congr 2
          funext f
          rw [opRef, if_neg t0, if_neg t1]
        · show (if q = z + o.2.1 ∧ f = o.2.2.1 then _ else _) = _
          rw [if_neg (by omega)]
          exact h5 q f hq
        · show (if z + i = z + o.2.1 ∧ f = o.2.2.1 then _ else _) = _
          rw [opInt, if_neg t0, if_neg t1]
          by_cases hi2 : i = o.2.1 ∧ f = o.2.2.1
          · rw [if_pos ⟨by omega, hi2.2⟩, if_pos hi2]
          · rw [if_neg (fun q => hi2 ⟨by omega, q.2⟩), if_neg hi2]
            exact h7 i f hi
theorem opB_NA {n0 z kind n : Nat} {P : APD} {r : List aOp} : aNA (opB n0 z P r) kind n = opB n0 z P ((0, kind, n, 0, 0) :: r) := rfl
theorem opB_NO {n0 z ci : Nat} {P : APD} {r : List aOp} : aNO (opB n0 z P r) ci = opB n0 z P ((0, ci, 0, 0, 0) :: r) := rfl
theorem opB_PR {n0 z k f v : Nat} {P : APD} {r : List aOp} : aPR (opB n0 z P r) (z + k) f (n0 + (z + v)) = opB n0 z P ((1, k, f, v, 0) :: r) := rfl
theorem opB_PR0 {n0 z f v : Nat} {P : APD} {r : List aOp} : aPR (opB n0 z P r) z f (n0 + (z + v)) = opB n0 z P ((1, 0, f, v, 0) :: r) := rfl
theorem opB_PI {n0 z k f : Nat} {x : Int32} {P : APD} {r : List aOp} : aPI (opB n0 z P r) (z + k) f x = opB n0 z P ((2, k, f, 0, x) :: r) := rfl
theorem opB_PI0 {n0 z f : Nat} {x : Int32} {P : APD} {r : List aOp} : aPI (opB n0 z P r) z f x = opB n0 z P ((2, 0, f, 0, x) :: r) := rfl
def sOps : List aOp := [(2, 0, 6, 0, -1), (2, 0, 5, 0, 0), (1, 0, 4, 30, 0), (2, 30, 4, 0, 0), (2, 30, 3, 0, 1900), (2, 30, 2, 0, -3000), (2, 30, 1, 0, 31), (2, 30, 0, 0, 63), (0, 1, 0, 0, 0), (1, 0, 3, 21, 0), (1, 21, 8, 29, 0), (0, 14, 64, 0, 0), (1, 21, 7, 28, 0), (0, 11, 64, 0, 0), (1, 21, 6, 27, 0), (0, 11, 64, 0, 0), (1, 21, 5, 26, 0), (0, 11, 64, 0, 0), (1, 21, 4, 25, 0), (0, 11, 16, 0, 0), (1, 21, 3, 24, 0), (0, 11, 16, 0, 0), (1, 21, 2, 23, 0), (0, 11, 16, 0, 0), (1, 21, 1, 22, 0), (0, 11, 16, 0, 0), (2, 21, 0, 0, 0), (0, 5, 0, 0, 0), (1, 0, 2, 12, 0), (1, 12, 8, 20, 0), (0, 14, 64, 0, 0), (1, 12, 7, 19, 0), (0, 11, 64, 0, 0), (1, 12, 6, 18, 0), (0, 11, 64, 0, 0), (1, 12, 5, 17, 0), (0, 11, 64, 0, 0), (1, 12, 4, 16, 0), (0, 11, 16, 0, 0), (1, 12, 3, 15, 0), (0, 11, 16, 0, 0), (1, 12, 2, 14, 0), (0, 11, 16, 0, 0), (1, 12, 1, 13, 0), (0, 11, 16, 0, 0), (2, 12, 0, 0, 0), (0, 5, 0, 0, 0), (1, 0, 1, 10, 0), (2, 10, 1, 0, 0), (1, 10, 0, 11, 0), (0, 13, 500, 0, 0), (0, 8, 0, 0, 0), (1, 0, 0, 1, 0), (2, 1, 12, 0, -1), (2, 1, 11, 0, 0), (2, 1, 10, 0, 0), (2, 1, 9, 0, 0), (2, 1, 8, 0, 0), (1, 1, 7, 9, 0), (0, 11, 400, 0, 0), (1, 1, 6, 8, 0), (0, 11, 400, 0, 0), (1, 1, 5, 7, 0), (0, 11, 400, 0, 0), (1, 1, 4, 6, 0), (0, 11, 400, 0, 0), (1, 1, 3, 5, 0), (0, 11, 32, 0, 0), (1, 1, 2, 4, 0), (0, 11, 32, 0, 0), (1, 1, 1, 3, 0), (0, 11, 352, 0, 0), (1, 1, 0, 2, 0), (0, 11, 352, 0, 0), (0, 0, 0, 0, 0), (0, 7, 0, 0, 0)]
set_option maxRecDepth 100000 in
set_option maxHeartbeats 4000000 in
theorem sOps_run (n0 z : Nat) (P : APD) : fI_X8_init n0 z (aNO P 7) = opB n0 z P sOps := by
  have e : fI_X8_init n0 z (aNO (opB n0 z P []) 7) = opB n0 z P sOps := by
    unfold fI_X8_init fI_X0_init fI_X9_init fI_X6_init fI_X1_init
    simp only [Nat.add_assoc, Nat.reduceAdd]
    simp only [opB_NA, opB_NO, opB_PR, opB_PR0, opB_PI, opB_PI0]
    simp only [sOps]
  exact e
theorem sOps_all : (sOps.all fun o => o.1 == 0 || decide (o.2.1 < 31)) = true := by decide +kernel
theorem sOps_cnt : opCnt sOps = 31 := by decide +kernel
/-- a State's cells -/
def sTab (n0 o : Nat) : List (Nat × ASh) := [(0, (7, 0, rS n0 o)), (1, (0, 0, rB n0 (o + 1))), (2, (11, 352, fun _ => none)), (3, (11, 352, fun _ => none)), (4, (11, 32, fun _ => none)), (5, (11, 32, fun _ => none)), (6, (11, 400, fun _ => none)), (7, (11, 400, fun _ => none)), (8, (11, 400, fun _ => none)), (9, (11, 400, fun _ => none)), (10, (8, 0, rT n0 (o + 10))), (11, (13, 500, fun _ => none)), (12, (5, 0, rR n0 (o + 12))), (13, (11, 16, fun _ => none)), (14, (11, 16, fun _ => none)), (15, (11, 16, fun _ => none)), (16, (11, 16, fun _ => none)), (17, (11, 64, fun _ => none)), (18, (11, 64, fun _ => none)), (19, (11, 64, fun _ => none)), (20, (14, 64, fun _ => none)), (21, (5, 0, rR n0 (o + 21))), (22, (11, 16, fun _ => none)), (23, (11, 16, fun _ => none)), (24, (11, 16, fun _ => none)), (25, (11, 16, fun _ => none)), (26, (11, 64, fun _ => none)), (27, (11, 64, fun _ => none)), (28, (11, 64, fun _ => none)), (29, (14, 64, fun _ => none)), (30, (1, 0, fun _ => none))]
theorem opRef_big {q f m : Nat} : ∀ ops : List aOp, (ops.all fun o => !(o.1 == 1) || decide (o.2.2.1 < m)) = true → m ≤ f → opRef ops q f = none
  | [], _, _ => rfl
  | o :: r, h, hm => by
    simp only [List.all_cons, Bool.and_eq_true] at h
    have ih := opRef_big (q := q) r h.2 hm
    rw [opRef]
    split
    · split
      · rfl
      · exact ih
    · split
      · rename_i t1
        rw [if_neg (fun q => ?_)]
        · exact ih
        · have h1 := h.1
          simp only [t1] at h1
          simp at h1
          omega
      · exact ih
theorem sOps_big : (sOps.all fun o => !(o.1 == 1) || decide (o.2.2.1 < 9)) = true := by decide +kernel

theorem sRef_0 (n0 z : Nat) : (fun f => (opRef sOps 0 f).map (fun v => n0 + (z + v))) = rS n0 z := by
  funext f
  match f with
  | 0 => rfl
  | 1 => rfl
  | 2 => rfl
  | 3 => rfl
  | 4 => rfl
  | 5 => rfl
  | 6 => rfl
  | 7 => rfl
  | 8 => rfl
  | f + 9 => rw [opRef_big sOps sOps_big (by omega)]; rfl
theorem sRef_1 (n0 z : Nat) : (fun f => (opRef sOps 1 f).map (fun v => n0 + (z + v))) = rB n0 (z + 1) := by
  funext f
  match f with
  | 0 => rfl
  | 1 => rfl
  | 2 => rfl
  | 3 => rfl
  | 4 => rfl
  | 5 => rfl
  | 6 => rfl
  | 7 => rfl
  | 8 => rfl
  | f + 9 => rw [opRef_big sOps sOps_big (by omega)]; rfl
theorem sRef_2 (n0 z : Nat) : (fun f => (opRef sOps 2 f).map (fun v => n0 + (z + v))) = fun _ => none := by
  funext f
  match f with
  | 0 => rfl
  | 1 => rfl
  | 2 => rfl
  | 3 => rfl
  | 4 => rfl
  | 5 => rfl
  | 6 => rfl
  | 7 => rfl
  | 8 => rfl
  | f + 9 => rw [opRef_big sOps sOps_big (by omega)]; rfl
theorem sRef_3 (n0 z : Nat) : (fun f => (opRef sOps 3 f).map (fun v => n0 + (z + v))) = fun _ => none := by
  funext f
  match f with
  | 0 => rfl
  | 1 => rfl
  | 2 => rfl
  | 3 => rfl
  | 4 => rfl
  | 5 => rfl
  | 6 => rfl
  | 7 => rfl
  | 8 => rfl
  | f + 9 => rw [opRef_big sOps sOps_big (by omega)]; rfl
theorem sRef_4 (n0 z : Nat) : (fun f => (opRef sOps 4 f).map (fun v => n0 + (z + v))) = fun _ => none := by
  funext f
  match f with
  | 0 => rfl
  | 1 => rfl
  | 2 => rfl
  | 3 => rfl
  | 4 => rfl
  | 5 => rfl
  | 6 => rfl
  | 7 => rfl
  | 8 => rfl
  | f + 9 => rw [opRef_big sOps sOps_big (by omega)]; rfl
theorem sRef_5 (n0 z : Nat) : (fun f => (opRef sOps 5 f).map (fun v => n0 + (z + v))) = fun _ => none := by
  funext f
  match f with
  | 0 => rfl
  | 1 => rfl
  | 2 => rfl
  | 3 => rfl
  | 4 => rfl
  | 5 => rfl
  | 6 => rfl
  | 7 => rfl
  | 8 => rfl
  | f + 9 => rw [opRef_big sOps sOps_big (by omega)]; rfl
theorem sRef_6 (n0 z : Nat) : (fun f => (opRef sOps 6 f).map (fun v => n0 + (z + v))) = fun _ => none := by
  funext f
  match f with
  | 0 => rfl
  | 1 => rfl
  | 2 => rfl
  | 3 => rfl
  | 4 => rfl
  | 5 => rfl
  | 6 => rfl
  | 7 => rfl
  | 8 => rfl
  | f + 9 => rw [opRef_big sOps sOps_big (by omega)]; rfl
theorem sRef_7 (n0 z : Nat) : (fun f => (opRef sOps 7 f).map (fun v => n0 + (z + v))) = fun _ => none := by
  funext f
  match f with
  | 0 => rfl
  | 1 => rfl
  | 2 => rfl
  | 3 => rfl
  | 4 => rfl
  | 5 => rfl
  | 6 => rfl
  | 7 => rfl
  | 8 => rfl
  | f + 9 => rw [opRef_big sOps sOps_big (by omega)]; rfl
theorem sRef_8 (n0 z : Nat) : (fun f => (opRef sOps 8 f).map (fun v => n0 + (z + v))) = fun _ => none := by
  funext f
  match f with
  | 0 => rfl
  | 1 => rfl
  | 2 => rfl
  | 3 => rfl
  | 4 => rfl
  | 5 => rfl
  | 6 => rfl
  | 7 => rfl
  | 8 => rfl
  | f + 9 => rw [opRef_big sOps sOps_big (by omega)]; rfl
theorem sRef_9 (n0 z : Nat) : (fun f => (opRef sOps 9 f).map (fun v => n0 + (z + v))) = fun _ => none := by
  funext f
  match f with
  | 0 => rfl
  | 1 => rfl
  | 2 => rfl
  | 3 => rfl
  | 4 => rfl
  | 5 => rfl
  | 6 => rfl
  | 7 => rfl
  | 8 => rfl
  | f + 9 => rw [opRef_big sOps sOps_big (by omega)]; rfl
theorem sRef_10 (n0 z : Nat) : (fun f => (opRef sOps 10 f).map (fun v => n0 + (z + v))) = rT n0 (z + 10) := by
  funext f
  match f with
  | 0 => rfl
  | 1 => rfl
  | 2 => rfl
  | 3 => rfl
  | 4 => rfl
  | 5 => rfl
  | 6 => rfl
  | 7 => rfl
  | 8 => rfl
  | f + 9 => rw [opRef_big sOps sOps_big (by omega)]; rfl
theorem sRef_11 (n0 z : Nat) : (fun f => (opRef sOps 11 f).map (fun v => n0 + (z + v))) = fun _ => none := by
  funext f
  match f with
  | 0 => rfl
  | 1 => rfl
  | 2 => rfl
  | 3 => rfl
  | 4 => rfl
  | 5 => rfl
  | 6 => rfl
  | 7 => rfl
  | 8 => rfl
  | f + 9 => rw [opRef_big sOps sOps_big (by omega)]; rfl
theorem sRef_12 (n0 z : Nat) : (fun f => (opRef sOps 12 f).map (fun v => n0 + (z + v))) = rR n0 (z + 12) := by
  funext f
  match f with
  | 0 => rfl
  | 1 => rfl
  | 2 => rfl
  | 3 => rfl
  | 4 => rfl
  | 5 => rfl
  | 6 => rfl
  | 7 => rfl
  | 8 => rfl
  | f + 9 => rw [opRef_big sOps sOps_big (by omega)]; rfl
theorem sRef_13 (n0 z : Nat) : (fun f => (opRef sOps 13 f).map (fun v => n0 + (z + v))) = fun _ => none := by
  funext f
  match f with
  | 0 => rfl
  | 1 => rfl
  | 2 => rfl
  | 3 => rfl
  | 4 => rfl
  | 5 => rfl
  | 6 => rfl
  | 7 => rfl
  | 8 => rfl
  | f + 9 => rw [opRef_big sOps sOps_big (by omega)]; rfl
theorem sRef_14 (n0 z : Nat) : (fun f => (opRef sOps 14 f).map (fun v => n0 + (z + v))) = fun _ => none := by
  funext f
  match f with
  | 0 => rfl
  | 1 => rfl
  | 2 => rfl
  | 3 => rfl
  | 4 => rfl
  | 5 => rfl
  | 6 => rfl
  | 7 => rfl
  | 8 => rfl
  | f + 9 => rw [opRef_big sOps sOps_big (by omega)]; rfl
theorem sRef_15 (n0 z : Nat) : (fun f => (opRef sOps 15 f).map (fun v => n0 + (z + v))) = fun _ => none := by
  funext f
  match f with
  | 0 => rfl
  | 1 => rfl
  | 2 => rfl
  | 3 => rfl
  | 4 => rfl
  | 5 => rfl
  | 6 => rfl
  | 7 => rfl
  | 8 => rfl
  | f + 9 => rw [opRef_big sOps sOps_big (by omega)]; rfl
theorem sRef_16 (n0 z : Nat) : (fun f => (opRef sOps 16 f).map (fun v => n0 + (z + v))) = fun _ => none := by
  funext f
  match f with
  | 0 => rfl
  | 1 => rfl
  | 2 => rfl
  | 3 => rfl
  | 4 => rfl
  | 5 => rfl
  | 6 => rfl
  | 7 => rfl
  | 8 => rfl
  | f + 9 => rw [opRef_big sOps sOps_big (by omega)]; rfl
theorem sRef_17 (n0 z : Nat) : (fun f => (opRef sOps 17 f).map (fun v => n0 + (z + v))) = fun _ => none := by
  funext f
  match f with
  | 0 => rfl
  | 1 => rfl
  | 2 => rfl
  | 3 => rfl
  | 4 => rfl
  | 5 => rfl
  | 6 => rfl
  | 7 => rfl
  | 8 => rfl
  | f + 9 => rw [opRef_big sOps sOps_big (by omega)]; rfl
theorem sRef_18 (n0 z : Nat) : (fun f => (opRef sOps 18 f).map (fun v => n0 + (z + v))) = fun _ => none := by
  funext f
  match f with
  | 0 => rfl
  | 1 => rfl
  | 2 => rfl
  | 3 => rfl
  | 4 => rfl
  | 5 => rfl
  | 6 => rfl
  | 7 => rfl
  | 8 => rfl
  | f + 9 => rw [opRef_big sOps sOps_big (by omega)]; rfl
theorem sRef_19 (n0 z : Nat) : (fun f => (opRef sOps 19 f).map (fun v => n0 + (z + v))) = fun _ => none := by
  funext f
  match f with
  | 0 => rfl
  | 1 => rfl
  | 2 => rfl
  | 3 => rfl
  | 4 => rfl
  | 5 => rfl
  | 6 => rfl
  | 7 => rfl
  | 8 => rfl
  | f + 9 => rw [opRef_big sOps sOps_big (by omega)]; rfl
theorem sRef_20 (n0 z : Nat) : (fun f => (opRef sOps 20 f).map (fun v => n0 + (z + v))) = fun _ => none := by
  funext f
  match f with
  | 0 => rfl
  | 1 => rfl
  | 2 => rfl
  | 3 => rfl
  | 4 => rfl
  | 5 => rfl
  | 6 => rfl
  | 7 => rfl
  | 8 => rfl
  | f + 9 => rw [opRef_big sOps sOps_big (by omega)]; rfl
theorem sRef_21 (n0 z : Nat) : (fun f => (opRef sOps 21 f).map (fun v => n0 + (z + v))) = rR n0 (z + 21) := by
  funext f
  match f with
  | 0 => rfl
  | 1 => rfl
  | 2 => rfl
  | 3 => rfl
  | 4 => rfl
  | 5 => rfl
  | 6 => rfl
  | 7 => rfl
  | 8 => rfl
  | f + 9 => rw [opRef_big sOps sOps_big (by omega)]; rfl
theorem sRef_22 (n0 z : Nat) : (fun f => (opRef sOps 22 f).map (fun v => n0 + (z + v))) = fun _ => none := by
  funext f
  match f with
  | 0 => rfl
  | 1 => rfl
  | 2 => rfl
  | 3 => rfl
  | 4 => rfl
  | 5 => rfl
  | 6 => rfl
  | 7 => rfl
  | 8 => rfl
  | f + 9 => rw [opRef_big sOps sOps_big (by omega)]; rfl
theorem sRef_23 (n0 z : Nat) : (fun f => (opRef sOps 23 f).map (fun v => n0 + (z + v))) = fun _ => none := by
  funext f
  match f with
  | 0 => rfl
  | 1 => rfl
  | 2 => rfl
  | 3 => rfl
  | 4 => rfl
  | 5 => rfl
  | 6 => rfl
  | 7 => rfl
  | 8 => rfl
  | f + 9 => rw [opRef_big sOps sOps_big (by omega)]; rfl
theorem sRef_24 (n0 z : Nat) : (fun f => (opRef sOps 24 f).map (fun v => n0 + (z + v))) = fun _ => none := by
  funext f
  match f with
  | 0 => rfl
  | 1 => rfl
  | 2 => rfl
  | 3 => rfl
  | 4 => rfl
  | 5 => rfl
  | 6 => rfl
  | 7 => rfl
  | 8 => rfl
  | f + 9 => rw [opRef_big sOps sOps_big (by omega)]; rfl
theorem sRef_25 (n0 z : Nat) : (fun f => (opRef sOps 25 f).map (fun v => n0 + (z + v))) = fun _ => none := by
  funext f
  match f with
  | 0 => rfl
  | 1 => rfl
  | 2 => rfl
  | 3 => rfl
  | 4 => rfl
  | 5 => rfl
  | 6 => rfl
  | 7 => rfl
  | 8 => rfl
  | f + 9 => rw [opRef_big sOps sOps_big (by omega)]; rfl
theorem sRef_26 (n0 z : Nat) : (fun f => (opRef sOps 26 f).map (fun v => n0 + (z + v))) = fun _ => none := by
  funext f
  match f with
  | 0 => rfl
  | 1 => rfl
  | 2 => rfl
  | 3 => rfl
  | 4 => rfl
  | 5 => rfl
  | 6 => rfl
  | 7 => rfl
  | 8 => rfl
  | f + 9 => rw [opRef_big sOps sOps_big (by omega)]; rfl
theorem sRef_27 (n0 z : Nat) : (fun f => (opRef sOps 27 f).map (fun v => n0 + (z + v))) = fun _ => none := by
  funext f
  match f with
  | 0 => rfl
  | 1 => rfl
  | 2 => rfl
  | 3 => rfl
  | 4 => rfl
  | 5 => rfl
  | 6 => rfl
  | 7 => rfl
  | 8 => rfl
  | f + 9 => rw [opRef_big sOps sOps_big (by omega)]; rfl
theorem sRef_28 (n0 z : Nat) : (fun f => (opRef sOps 28 f).map (fun v => n0 + (z + v))) = fun _ => none := by
  funext f
  match f with
  | 0 => rfl
  | 1 => rfl
  | 2 => rfl
  | 3 => rfl
  | 4 => rfl
  | 5 => rfl
  | 6 => rfl
  | 7 => rfl
  | 8 => rfl
  | f + 9 => rw [opRef_big sOps sOps_big (by omega)]; rfl
theorem sRef_29 (n0 z : Nat) : (fun f => (opRef sOps 29 f).map (fun v => n0 + (z + v))) = fun _ => none := by
  funext f
  match f with
  | 0 => rfl
  | 1 => rfl
  | 2 => rfl
  | 3 => rfl
  | 4 => rfl
  | 5 => rfl
  | 6 => rfl
  | 7 => rfl
  | 8 => rfl
  | f + 9 => rw [opRef_big sOps sOps_big (by omega)]; rfl
theorem sRef_30 (n0 z : Nat) : (fun f => (opRef sOps 30 f).map (fun v => n0 + (z + v))) = fun _ => none := by
  funext f
  match f with
  | 0 => rfl
  | 1 => rfl
  | 2 => rfl
  | 3 => rfl
  | 4 => rfl
  | 5 => rfl
  | 6 => rfl
  | 7 => rfl
  | 8 => rfl
  | f + 9 => rw [opRef_big sOps sOps_big (by omega)]; rfl
theorem sSh : ∀ i, i < 31 → opSh sOps i = ([(7, 0), (0, 0), (11, 352), (11, 352), (11, 32), (11, 32), (11, 400), (11, 400), (11, 400), (11, 400), (8, 0), (13, 500), (5, 0), (11, 16), (11, 16), (11, 16), (11, 16), (11, 64), (11, 64), (11, 64), (14, 64), (5, 0), (11, 16), (11, 16), (11, 16), (11, 16), (11, 64), (11, 64), (11, 64), (14, 64), (1, 0)] : List (Nat × Nat)).getD i (0, 0) := by decide +kernel
theorem sTab_new {n0 z : Nat} {P : APD} (hz : P.1.1 = z) : ∀ q ∈ sTab n0 z, (opB n0 z P sOps).1.2.2 (z + q.1) = q.2 := by
  obtain ⟨-, -, -, h4, -⟩ := opB_spec n0 z P hz sOps sOps_all
  rw [sOps_cnt] at h4
  intro q hq
  rcases List.mem_cons.mp hq with rfl | hq
  · rw [h4 0 (by decide), sRef_0, sSh 0 (by decide)]
    rfl
  rcases List.mem_cons.mp hq with rfl | hq
  · rw [h4 1 (by decide), sRef_1, sSh 1 (by decide)]
    rfl
  rcases List.mem_cons.mp hq with rfl | hq
  · rw [h4 2 (by decide), sRef_2, sSh 2 (by decide)]
    rfl
  rcases List.mem_cons.mp hq with rfl | hq
  · rw [h4 3 (by decide), sRef_3, sSh 3 (by decide)]
    rfl
  rcases List.mem_cons.mp hq with rfl | hq
  · rw [h4 4 (by decide), sRef_4, sSh 4 (by decide)]
    rfl
  rcases List.mem_cons.mp hq with rfl | hq
  · rw [h4 5 (by decide), sRef_5, sSh 5 (by decide)]
    rfl
  rcases List.mem_cons.mp hq with rfl | hq
  · rw [h4 6 (by decide), sRef_6, sSh 6 (by decide)]
    rfl
  rcases List.mem_cons.mp hq with rfl | hq
  · rw [h4 7 (by decide), sRef_7, sSh 7 (by decide)]
    rfl
  rcases List.mem_cons.mp hq with rfl | hq
  · rw [h4 8 (by decide), sRef_8, sSh 8 (by decide)]
    rfl
  rcases List.mem_cons.mp hq with rfl | hq
  · rw [h4 9 (by decide), sRef_9, sSh 9 (by decide)]
    rfl
  rcases List.mem_cons.mp hq with rfl | hq
  · rw [h4 10 (by decide), sRef_10, sSh 10 (by decide)]
    rfl
  rcases List.mem_cons.mp hq with rfl | hq
  · rw [h4 11 (by decide), sRef_11, sSh 11 (by decide)]
    rfl
  rcases List.mem_cons.mp hq with rfl | hq
  · rw [h4 12 (by decide), sRef_12, sSh 12 (by decide)]
    rfl
  rcases List.mem_cons.mp hq with rfl | hq
  · rw [h4 13 (by decide), sRef_13, sSh 13 (by decide)]
    rfl
  rcases List.mem_cons.mp hq with rfl | hq
  · rw [h4 14 (by decide), sRef_14, sSh 14 (by decide)]
    rfl
  rcases List.mem_cons.mp hq with rfl | hq
  · rw [h4 15 (by decide), sRef_15, sSh 15 (by decide)]
    rfl
  rcases List.mem_cons.mp hq with rfl | hq
  · rw [h4 16 (by decide), sRef_16, sSh 16 (by decide)]
    rfl
  rcases List.mem_cons.mp hq with rfl | hq
  · rw [h4 17 (by decide), sRef_17, sSh 17 (by decide)]
    rfl
  rcases List.mem_cons.mp hq with rfl | hq
  · rw [h4 18 (by decide), sRef_18, sSh 18 (by decide)]
    rfl
  rcases List.mem_cons.mp hq with rfl | hq
  · rw [h4 19 (by decide), sRef_19, sSh 19 (by decide)]
    rfl
  rcases List.mem_cons.mp hq with rfl | hq
  · rw [h4 20 (by decide), sRef_20, sSh 20 (by decide)]
    rfl
  rcases List.mem_cons.mp hq with rfl | hq
  · rw [h4 21 (by decide), sRef_21, sSh 21 (by decide)]
    rfl
  rcases List.mem_cons.mp hq with rfl | hq
  · rw [h4 22 (by decide), sRef_22, sSh 22 (by decide)]
    rfl
  rcases List.mem_cons.mp hq with rfl | hq
  · rw [h4 23 (by decide), sRef_23, sSh 23 (by decide)]
    rfl
  rcases List.mem_cons.mp hq with rfl | hq
  · rw [h4 24 (by decide), sRef_24, sSh 24 (by decide)]
    rfl
  rcases List.mem_cons.mp hq with rfl | hq
  · rw [h4 25 (by decide), sRef_25, sSh 25 (by decide)]
    rfl
  rcases List.mem_cons.mp hq with rfl | hq
  · rw [h4 26 (by decide), sRef_26, sSh 26 (by decide)]
    rfl
  rcases List.mem_cons.mp hq with rfl | hq
  · rw [h4 27 (by decide), sRef_27, sSh 27 (by decide)]
    rfl
  rcases List.mem_cons.mp hq with rfl | hq
  · rw [h4 28 (by decide), sRef_28, sSh 28 (by decide)]
    rfl
  rcases List.mem_cons.mp hq with rfl | hq
  · rw [h4 29 (by decide), sRef_29, sSh 29 (by decide)]
    rfl
  rcases List.mem_cons.mp hq with rfl | hq
  · rw [h4 30 (by decide), sRef_30, sSh 30 (by decide)]
    rfl
  cases hq
theorem aLS_tab {g : AGl} {o : Nat} : aLS g o ↔ ∀ q ∈ sTab g.1 o, aAt g (o + q.1) q.2 := by
  simp only [sTab, List.forall_mem_cons, List.not_mem_nil, false_implies, implies_true, and_true, aLS, aLB, aLT, aLR, aLC, Nat.add_assoc, Nat.reduceAdd, Nat.add_zero, and_assoc]
theorem aLSw_tab {n0 o : Nat} {w : AWS} : aLSw n0 w o ↔ ∀ q ∈ sTab n0 o, o + q.1 ∈ w.2.1 ∧ w.2.2 (o + q.1) = q.2 := by
  unfold aLSw
  constructor
  · intro h
    have h2 := aLS_tab.mp (h (fun _ => 0) (fun _ _ => 0) (fun _ => 0) (0, 0, fun _ => 0, fun _ => 0))
    exact h2
  · intro h dC dI cy ex
    exact aLS_tab.mpr h
theorem sTab_lt {n0 o : Nat} : ∀ q ∈ sTab n0 o, q.1 < 31 := by
  intro q hq
  simp only [sTab, List.mem_cons, List.not_mem_nil, or_false] at hq
  rcases hq with rfl | rfl | rfl | rfl | rfl | rfl | rfl | rfl | rfl | rfl | rfl | rfl | rfl | rfl | rfl | rfl | rfl | rfl | rfl | rfl | rfl | rfl | rfl | rfl | rfl | rfl | rfl | rfl | rfl | rfl | rfl <;> simp
theorem xTab_lt {n0 : Nat} : ∀ q ∈ xTab n0, q.1 < 58 ∧ q.1 ≠ 32 := by
  intro q hq
  simp only [xTab, List.mem_cons, List.not_mem_nil, or_false] at hq
  rcases hq with rfl | rfl | rfl | rfl | rfl | rfl | rfl | rfl | rfl | rfl | rfl | rfl | rfl | rfl | rfl | rfl | rfl | rfl | rfl | rfl | rfl | rfl | rfl | rfl | rfl | rfl | rfl | rfl | rfl | rfl | rfl | rfl | rfl | rfl | rfl | rfl | rfl | rfl | rfl | rfl | rfl | rfl | rfl | rfl | rfl | rfl | rfl | rfl | rfl | rfl | rfl | rfl | rfl | rfl | rfl | rfl | rfl <;> simp
/-- the cells of x: its own, the State of now, the images -/
def Lay (n0 : Nat) (P : APD) : Prop := LLay P ∧ aLXw n0 P.1 ∧ aLSw n0 P.1 1 ∧ ∃ im, imOK n0 P.1 im ∧ (∀ j z, j < 3 → im j = some z → 98 ≤ z ∧ z + 31 ≤ P.1.1) ∧ ∀ i j z y, i < 3 → j < 3 → i ≠ j → im i = some z → im j = some y → z + 31 ≤ y ∨ y + 31 ≤ z
theorem im_uniq {n0 : Nat} {w : AWS} {im im2 : Nat → Option Nat} (h : imOK n0 w im) (h2 : imOK n0 w im2) : im = im2 := by
  have e : ((15, 3, fun j => (im j).map (n0 + ·)) : ASh) = (15, 3, fun j => (im2 j).map (n0 + ·)) := h.1.2.symm.trans h2.1.2
  have e2 : (fun j => (im j).map (n0 + ·)) = (fun j => (im2 j).map (n0 + ·)) := congrArg (fun q : ASh => q.2.2) e
  funext j
  have e3 : (im j).map (n0 + ·) = (im2 j).map (n0 + ·) := congrFun e2 j
  cases h1 : im j with
  | none =>
    rw [h1] at e3
    cases h2 : im2 j with
    | none => rfl
    | some b => rw [h2] at e3; cases e3
  | some a =>
    rw [h1] at e3
    cases h2 : im2 j with
    | none => rw [h2] at e3; cases e3
    | some b =>
      rw [h2] at e3
      have e4 : n0 + a = n0 + b := Option.some.inj e3
      rw [show a = b by omega]
/-- the cells behind a new image -/
theorem Lay.img {n0 k : Nat} {P : APD} {im : Nat → Option Nat} (hL : Lay n0 P) (him : imOK n0 P.1 im) :
    (∀ D, Lay n0 ((aPR (opB n0 P.1.1 P sOps) 32 k (n0 + P.1.1)).1, D)) ∧ imOK n0 (aPR (opB n0 P.1.1 P sOps) 32 k (n0 + P.1.1)).1 (fun j => if j = k then some P.1.1 else im j) ∧ aLSw n0 (aPR (opB n0 P.1.1 P sOps) 32 k (n0 + P.1.1)).1 P.1.1 ∧ aLSw n0 (aPR (opB n0 P.1.1 P sOps) 32 k (n0 + P.1.1)).1 1 ∧
    (32 ∈ (opB n0 P.1.1 P sOps).1.2.1 ∧ (opB n0 P.1.1 P sOps).1.2.2 32 = (15, 3, fun j => (im j).map (n0 + ·))) ∧ ((opB n0 P.1.1 P sOps).1.2.2 0).2.2 1 = some (n0 + 32) ∧ ((opB n0 P.1.1 P sOps).1.2.2 0).2.2 0 = some (n0 + 1) ∧ (opB n0 P.1.1 P sOps).1.1 = P.1.1 + 31 := by
  obtain ⟨hLL, hX, hS1, im2, him2, hz, hdis⟩ := hL
  have eim := im_uniq him2 him
  subst eim
  obtain ⟨h1, h2, h3, h4, -⟩ := opB_spec n0 P.1.1 P rfl sOps sOps_all
  rw [sOps_cnt] at h1 h2 h4
  have hnew := sTab_new (n0 := n0) (P := P) rfl
  generalize opB n0 P.1.1 P sOps = E at *
  obtain ⟨l98, lcell⟩ := hLL
  have old : ∀ q, q ∈ P.1.2.1 → q ∈ (aPR E 32 k (n0 + P.1.1)).1.2.1 := by
    intro q hq
    show q ∈ E.1.2.1
    rw [h2]
    exact List.mem_append_left _ hq
  have osh : ∀ q, q ∈ P.1.2.1 → q ≠ 32 → (aPR E 32 k (n0 + P.1.1)).1.2.2 q = P.1.2.2 q := by
    intro q hq hne
    show (if q = 32 then _ else _) = _
    rw [if_neg hne]
    exact h3 q (lcell q hq).2
  have nsh : ∀ i, i < 31 → P.1.1 + i ∈ (aPR E 32 k (n0 + P.1.1)).1.2.1 := by
    intro i hi
    show P.1.1 + i ∈ E.1.2.1
    rw [h2]
    exact List.mem_append_right _ (List.mem_map.mpr ⟨i, List.mem_range.mpr hi, rfl⟩)
  have sh32 : E.1.2.2 32 = P.1.2.2 32 := h3 32 (by omega)
  have e32 : (aPR E 32 k (n0 + P.1.1)).1.2.2 32 = (15, 3, fun j => ((fun j => if j = k then some P.1.1 else im2 j) j).map (n0 + ·)) := by
    have e0 : (aPR E 32 k (n0 + P.1.1)).1.2.2 32 = ((E.1.2.2 32).1, (E.1.2.2 32).2.1, fun j => if j = k then some (n0 + P.1.1) else (E.1.2.2 32).2.2 j) := by simp [aPR]
    rw [e0, sh32, him.1.2]
    congr 2
    funext j
    by_cases hj : j = k
    · simp only [if_pos hj]
      rfl
    · simp only [if_neg hj]
  have keepS : ∀ o, (∀ i, i < 31 → o + i ≠ 32) → aLSw n0 P.1 o → aLSw n0 (aPR E 32 k (n0 + P.1.1)).1 o := by
    intro o ho h
    refine aLSw_tab.mpr (fun q hq => ?_)
    obtain ⟨m1, m2⟩ := aLSw_tab.mp h q hq
    exact ⟨old _ m1, (osh _ m1 (ho _ (sTab_lt q hq))).trans m2⟩
  have newS : aLSw n0 (aPR E 32 k (n0 + P.1.1)).1 P.1.1 := by
    refine aLSw_tab.mpr (fun q hq => ⟨nsh _ (sTab_lt q hq), ?_⟩)
    show (if P.1.1 + q.1 = 32 then _ else _) = _
    rw [if_neg (by omega)]
    exact hnew q hq
  have S1 := keepS 1 (fun i hi => by omega) hS1
  have im9 : imOK n0 (aPR E 32 k (n0 + P.1.1)).1 (fun j => if j = k then some P.1.1 else im2 j) := by
    refine ⟨⟨old 32 him.1.1, e32⟩, fun j z hj hzj => ?_⟩
    by_cases hjk : j = k
    · simp only [if_pos hjk] at hzj
      cases hzj
      exact newS
    · simp only [if_neg hjk] at hzj
      have := hz j z hj hzj
      exact keepS z (fun i hi => by omega) (him.2 j z hj hzj)
  have r0 := (hX 0 _ (List.mem_of_getElem? (i := 0) rfl)).2
  refine ⟨fun D => ⟨⟨?_, fun q hq => ?_⟩, fun q S hq => ?_, S1, _, im9, fun j z hj hzj => ?_, fun i j z y hi hj hij hi2 hj2 => ?_⟩, im9, newS, S1, ⟨?_, by rw [sh32]; exact him.1.2⟩, ?_, ?_, h1⟩
  · show 98 ≤ E.1.1
    omega
  · have hq : q ∈ E.1.2.1 := hq
    show _ ∧ q < E.1.1
    rw [h2] at hq
    rcases List.mem_append.mp hq with hq | hq
    · have := lcell q hq
      omega
    · obtain ⟨i, hi, rfl⟩ := List.mem_map.mp hq
      have := List.mem_range.mp hi
      omega
  · obtain ⟨m1, m2⟩ := hX q S hq
    exact ⟨old q m1, (osh q m1 (xTab_lt _ hq).2).trans m2⟩
  · show _ ∧ z + 31 ≤ E.1.1
    by_cases hjk : j = k
    · simp only [if_pos hjk] at hzj
      cases hzj
      omega
    · simp only [if_neg hjk] at hzj
      have := hz j z hj hzj
      omega
  · by_cases hik : i = k
    · simp only [if_pos hik] at hi2
      cases hi2
      rw [if_neg (by omega)] at hj2
      have := hz j y hj hj2
      omega
    · simp only [if_neg hik] at hi2
      have := hz i z hi hi2
      by_cases hjk : j = k
      · simp only [if_pos hjk] at hj2
        cases hj2
        omega
      · simp only [if_neg hjk] at hj2
        exact hdis i j z y hi hj hij hi2 hj2
  · rw [h2]
    exact List.mem_append_left _ him.1.1
  · rw [h3 0 (by omega), r0]
    rfl
  · rw [h3 0 (by omega), r0]
    rfl
theorem tX8_copyFrom {o p : Nat} {D : ADD} : Wp (fX8_copyFrom o p D) (fun _ _ => True) := by
  unfold fX8_copyFrom fX0_copyFrom fX9_copyFrom fX6_copyFrom fX1_copyFrom
  exact ⟨_, _, rfl, trivial⟩
theorem Lay.lays {n0 : Nat} {P : APD} (h : Lay n0 P) : LLay P ∧ aLXw n0 P.1 ∧ aLSw n0 P.1 1 ∧ ∃ im, imOK n0 P.1 im := ⟨h.1, h.2.1, h.2.2.1, h.2.2.2.choose, h.2.2.2.choose_spec.1⟩
end
section
/-! the class's small functions, exactly -/
def knX (D : ADD) (a b : Int32) : Int32 := if (0 ≤ a.toInt ∧ a.toInt < (D.1 2 9).toInt ∧ a.toInt < 32) ∧ 0 ≤ b.toInt ∧ b.toInt < 11 then D.1 4 (11 * a.toNatClampNeg + b.toNatClampNeg) else -100000
theorem eX_known (a b : Int32) (D : ADD) : fX0_known a b D = some (knX D a b, D) := by
  have h : Wp (fX0_known a b D) (fun x D1 => D1 = D ∧ x = knX D a b) := by
    unfold fX0_known knX
    have e32 : (32 : Int32).toInt = 32 := by decide
    have e11 : (11 : Int32).toInt = 11 := by decide
    refine Wp.lets (Wp.ilt (fun h => Wp.ret ⟨rfl, ?_⟩) (fun h => Wp.ile (fun h2 => Wp.ret ⟨rfl, ?_⟩) (fun h2 => Wp.ile (fun h3 => Wp.ret ⟨rfl, ?_⟩) (fun h3 => Wp.ilt (fun h4 => Wp.ret ⟨rfl, ?_⟩) (fun h4 => Wp.ilt (fun h5 => ?_) (fun h5 => Wp.ret ⟨rfl, ?_⟩))))))
    · rw [ti_0] at h; rw [if_neg (by omega)]
    · rw [if_neg (by omega)]
    · rw [if_neg (by omega)]
    · rw [ti_0] at h4; rw [if_neg (by omega)]
    · rw [ti_0] at h h4
      have e1 : (a * 11).toInt = a.toInt * 11 := ti_mul rfl e11 (by omega) (by omega)
      have e2 : (a * 11 + b).toInt = a.toInt * 11 + b.toInt := ti_add e1 rfl (by omega) (by omega)
      have c1 := cl_i h
      have c2 := cl_i h4
      refine Wp.idx (i_in (by omega) (by omega)) (Wp.ret ⟨rfl, ?_⟩)
      rw [if_pos (by omega), cl_of (x := a * 11 + b) (n := 11 * a.toNatClampNeg + b.toNatClampNeg) (by omega)]
    · rw [if_neg (by omega)]
  obtain ⟨x, D1, e, rfl, q⟩ := h
  rw [e, q]
def timesF (lo hi mk u : Int32) : Int32 := if mk ≤ 0 then (if 1 ≤ (if u ≤ 0 then 0 else lo / u) then (if lo - (if u ≤ 0 then 0 else lo / u) * u ≤ ((if u ≤ 0 then 0 else lo / u) + 1) * u - hi ∨ lo - (if u ≤ 0 then 0 else lo / u) * u = 0 then (if u ≤ 0 then 0 else lo / u) else (if u ≤ 0 then 0 else lo / u) + 1) else 1) else mk
theorem ne0_of {u : Int32} (h : ¬ u ≤ 0) : u ≠ 0 := fun e => h (by rw [e]; decide)
theorem eX_times (lo hi mk u : Int32) (D : ADD) : fX2_times lo hi mk u D = some (timesF lo hi mk u, D) := by
  unfold fX2_times timesF
  by_cases h : mk ≤ 0
  · rw [if_pos h, if_pos h]
    have K : ∀ b : Int32, (if (1 : Int32) ≤ b then aLet (lo - (b * u)) (fun x2 => aLet (((b + (1 : Int32)) * u) - hi) (fun x3 => aLet (fun (x4 : Int32) (D2 : ADD) => some (x4, D2)) (fun (j66 : Int32 → ADD → Option (Int32 × ADD)) => aLet (fun (D3 : ADD) => j66 b D3) (fun (j57 : ADD → Option (Int32 × ADD)) => (if x2 ≤ x3 then j57 D else (if x2 = 0 then j57 D else j66 (b + (1 : Int32)) D)))))) else some ((1 : Int32), D)) = some ((if 1 ≤ b then (if lo - b * u ≤ (b + 1) * u - hi ∨ lo - b * u = 0 then b else b + 1) else 1), D) := by
      intro b
      simp only [aLet]
      by_cases h1 : 1 ≤ b
      · rw [if_pos h1, if_pos h1]
        by_cases h2 : lo - b * u ≤ (b + 1) * u - hi
        · rw [if_pos h2, if_pos (Or.inl h2)]
        · rw [if_neg h2]
          by_cases h3 : lo - b * u = 0
          · rw [if_pos h3, if_pos (Or.inr h3)]
          · rw [if_neg h3, if_neg (fun q => q.elim h2 h3)]
      · rw [if_neg h1, if_neg h1]
    by_cases hu : u ≤ 0
    · rw [if_pos hu]
      exact (if_pos hu).trans (K 0)
    · rw [if_neg hu]
      refine (if_neg hu).trans ?_
      unfold aNZ
      rw [if_neg (ne0_of hu)]
      exact K (lo / u)
  · rw [if_neg h, if_neg h]
def offF (lo hi mk u : Int32) : Int32 := aMin u (if lo ≤ timesF lo hi mk u * u then aMax 0 (timesF lo hi mk u * u - hi) else lo - timesF lo hi mk u * u)
theorem eX_off (lo hi mk u : Int32) (D : ADD) : fX2_off lo hi mk u D = some (offF lo hi mk u, D) := by
  unfold fX2_off offF
  rw [eX_times]
  simp only [aBind, aLet]
  split <;> rfl
def shortF (hi mk u : Int32) : Int32 := aMax 0 ((if mk ≤ 0 then aMax 1 (if u ≤ 0 then 0 else (2 * hi + u) / (2 * u)) else mk) * u - hi)
theorem eX_shortage (hi mk u : Int32) (D : ADD) (hu : u.toInt ≤ 100000) : fX2_shortage hi mk u D = some (shortF hi mk u, D) := by
  unfold fX2_shortage shortF
  simp only [aLet]
  by_cases h : u ≤ 0
  · rw [if_pos h, if_pos h]
    split <;> rfl
  · rw [if_neg h, if_neg h]
    have h' : 0 < u.toInt := by
      have : ¬ u.toInt ≤ (0 : Int32).toInt := fun g => h (Int32.le_iff_toInt_le.mpr g)
      rw [ti_0] at this
      omega
    have e : ((2 : Int32) * u).toInt = 2 * u.toInt := ti_mul (by decide) rfl (by omega) (by omega)
    have ne : (2 : Int32) * u ≠ 0 := fun q => by rw [q, ti_0] at e; omega
    unfold aNZ
    rw [if_neg ne]
    split <;> rfl
def luckyF (w u : Int32) : Int32 := aMin u (2 * (u / 8) + 1 + w)
theorem eX_lucky (w u : Int32) (D : ADD) : fX2_luckyPlaces w u D = some (luckyF w u, D) := by
  unfold fX2_luckyPlaces aNZ
  rw [if_neg (by decide)]
  rfl
def newF (b t : Int32) : Int32 := aMax 1 (b + b * aMax (-500) (aMin 1000 t) / 1000)
theorem eX_whenNew (b t : Int32) (D : ADD) : fX2_whenNew b t D = some (newF b t, D) := by
  unfold fX2_whenNew aNZ
  simp only [aLet]
  rw [if_neg (by decide)]
  rfl
/-- is i a place of the pile -/
abbrev hasX (D : ADD) (i : Int32) : Prop := 0 ≤ i.toInt ∧ i.toInt < (D.1 43 0).toInt ∧ i.toInt < 32
theorem eX_has (i : Int32) (D : ADD) : fX4_has i D = some (if hasX D i then 1 else 0, D) := by
  refine eq_Bo ?_
  unfold fX4_has
  have e32 : (32 : Int32).toInt = 32 := by decide
  refine Wp.lets (Wp.lets (Wp.ilt (fun h => ?_) (fun h => Wp.ile (fun h2 => ?_) (fun h2 => Wp.ile (fun h3 => ?_) (fun h3 => ?_))))) <;> rw [ti_0] at h <;>
    first | exact Wp.z (Or.inl rfl) (Wp.ret ⟨rfl, Or.inr ⟨rfl, by omega⟩⟩) | exact Wp.z (Or.inr rfl) (Wp.ret ⟨rfl, Or.inl ⟨rfl, by omega⟩⟩)
theorem hasX_in {D : ADD} {i : Int32} (h : hasX D i) : vp_in i 32 := i_in h.1 h.2.2
def numX (D : ADD) (i : Int32) : Int32 := if hasX D i then D.1 46 i.toNatClampNeg else -1
def mrkX (D : ADD) (i : Int32) : Int32 := if hasX D i then D.1 47 i.toNatClampNeg else 0
def twnX (D : ADD) (i : Int32) : Int32 := if hasX D i then D.1 48 i.toNatClampNeg else 0
def offX (D : ADD) (i u : Int32) : Int32 := if hasX D i then offF (D.1 44 i.toNatClampNeg) (D.1 45 i.toNatClampNeg) (D.1 47 i.toNatClampNeg) u else 0
def ofiX (D : ADD) (i p u : Int32) : Int32 := if hasX D i then offF p p (D.1 47 i.toNatClampNeg) u else 0
def timX (D : ADD) (i u : Int32) : Int32 := if hasX D i then timesF (D.1 44 i.toNatClampNeg) (D.1 45 i.toNatClampNeg) (D.1 47 i.toNatClampNeg) u else 0
def shoX (D : ADD) (i u : Int32) : Int32 := if hasX D i then shortF (D.1 45 i.toNatClampNeg) (D.1 47 i.toNatClampNeg) u else 0
def lucX (D : ADD) (i u : Int32) : Int32 := if hasX D i then luckyF (D.1 45 i.toNatClampNeg - D.1 44 i.toNatClampNeg) u else 0
theorem aIn_ok {α : Type} {i : Int32} {n : Nat} {K : Option α} (h : vp_in i n) : aIn i n K = K := by
  unfold aIn
  rw [if_neg h]
theorem b01 : ¬ ((1 : Int32) = 0) := by decide
theorem eX_numberOf (i : Int32) (D : ADD) : fX4_numberOf i D = some (numX D i, D) := by
  unfold fX4_numberOf numX
  rw [eX_has]
  by_cases h : hasX D i
  · simp only [aBind, aLet, if_pos h, if_neg b01, aIn_ok (hasX_in h)]
  · simp only [aBind, aLet, if_neg h, if_true]
theorem eX_markOf (i : Int32) (D : ADD) : fX4_markOf i D = some (mrkX D i, D) := by
  unfold fX4_markOf mrkX
  rw [eX_has]
  by_cases h : hasX D i
  · simp only [aBind, aLet, if_pos h, if_neg b01, aIn_ok (hasX_in h)]
  · simp only [aBind, aLet, if_neg h, if_true]
theorem eX_townOf (i : Int32) (D : ADD) : fX4_townOf i D = some (twnX D i, D) := by
  unfold fX4_townOf twnX
  rw [eX_has]
  by_cases h : hasX D i
  · simp only [aBind, aLet, if_pos h, if_neg b01, aIn_ok (hasX_in h)]
  · simp only [aBind, aLet, if_neg h, if_true]
theorem eX_offOf (i u : Int32) (D : ADD) : fX4_offOf i u D = some (offX D i u, D) := by
  unfold fX4_offOf offX
  rw [eX_has]
  by_cases h : hasX D i
  · simp only [aBind, aLet, if_pos h, if_neg b01, aIn_ok (hasX_in h), eX_off]
  · simp only [aBind, aLet, if_neg h, if_true]
theorem eX_offIf (i p u : Int32) (D : ADD) : fX4_offIf i p u D = some (ofiX D i p u, D) := by
  unfold fX4_offIf ofiX
  rw [eX_has]
  by_cases h : hasX D i
  · simp only [aBind, aLet, if_pos h, if_neg b01, aIn_ok (hasX_in h), eX_off]
  · simp only [aBind, aLet, if_neg h, if_true]
theorem eX_timesOf (i u : Int32) (D : ADD) : fX4_timesOf i u D = some (timX D i u, D) := by
  unfold fX4_timesOf timX
  rw [eX_has]
  by_cases h : hasX D i
  · simp only [aBind, aLet, if_pos h, if_neg b01, aIn_ok (hasX_in h), eX_times]
  · simp only [aBind, aLet, if_neg h, if_true]
theorem eX_shortOf (i u : Int32) (D : ADD) (hu : u.toInt ≤ 100000) : fX4_shortOf i u D = some (shoX D i u, D) := by
  unfold fX4_shortOf shoX
  rw [eX_has]
  by_cases h : hasX D i
  · simp only [aBind, aLet, if_pos h, if_neg b01, aIn_ok (hasX_in h), eX_shortage _ _ _ _ hu]
  · simp only [aBind, aLet, if_neg h, if_true]
theorem eX_luckyOf (i u : Int32) (D : ADD) : fX4_luckyOf i u D = some (lucX D i u, D) := by
  unfold fX4_luckyOf lucX
  rw [eX_has]
  by_cases h : hasX D i
  · simp only [aBind, aLet, if_pos h, if_neg b01, aIn_ok (hasX_in h), eX_lucky]
  · simp only [aBind, aLet, if_neg h, if_true]
theorem eX_isNear (i u : Int32) (D : ADD) : fX4_isNear i u D = some (if (8 * offX D i u) ≤ u then 1 else 0, D) := by
  unfold fX4_isNear
  rw [eX_offOf]
  simp only [aBind, aLet, aZ]
  by_cases h : u < 8 * offX D i u
  · rw [if_pos h, if_neg (Int32.not_le.mpr h)]; rfl
  · rw [if_neg h, if_pos (Int32.not_lt.mp h)]; rfl
/-! sums over the pile -/
def sI (f : Nat → Int32) (acc : Int32) (i : Nat) : Nat → Int32
  | 0 => acc
  | n + 1 => sI f (acc + f i) (i + 1) n
theorem sI_congr {f g : Nat → Int32} : ∀ (n i : Nat) (acc : Int32), (∀ j, i ≤ j → j < i + n → f j = g j) → sI f acc i n = sI g acc i n
  | 0, i, acc, h => rfl
  | n + 1, i, acc, h => by
    show sI f (acc + f i) (i + 1) n = sI g (acc + g i) (i + 1) n
    rw [h i (by omega) (by omega)]
    exact sI_congr n (i + 1) _ (fun j h1 h2 => h j (by omega) (by omega))
theorem sI_at {f : Nat → Int32} {acc : Int32} {k n : Nat} (h : k < n) : sI f acc k (n - k) = sI f (acc + f k) (k + 1) (n - (k + 1)) := by
  rw [show n - k = (n - (k + 1)) + 1 by omega]
  rfl
/-- how many -/
abbrev mnX (D : ADD) : Nat := (D.1 43 0).toNatClampNeg
theorem eX_sum (D : ADD) (hm : (D.1 43 0).toInt ≤ 1000) {F : (Int32 → Int32 → ADD → Option (Int32 × ADD)) → Int32 → Int32 → ADD → Option (Int32 × ADD)} {z : Int32 → Int32 → ADD → Option (Int32 × ADD)} {f : Nat → Int32} {Q : Int32 → ADD → Prop}
    (hF : ∀ (g : Int32 → Int32 → ADD → Option (Int32 × ADD)) (acc x : Int32), 0 ≤ x.toInt → x.toInt < (D.1 43 0).toInt → (Wp (g (acc + f x.toNatClampNeg) (x + 1) D) Q) → Wp (F g acc x D) Q)
    (hE : ∀ (g : Int32 → Int32 → ADD → Option (Int32 × ADD)) (x : Int32), (D.1 43 0).toInt ≤ x.toInt → Wp (F g (sI f 0 0 (mnX D)) x D) Q) : Wp (aFix aFuel F z 0 0 D) Q := by
  refine Wp.fix2 (fun n acc x D' => (0 ≤ x.toInt ∧ x.toInt ≤ (mnX D : Int) ∧ (mnX D : Int) - x.toInt < (n : Int)) ∧ D' = D ∧ sI f acc x.toNatClampNeg (mnX D - x.toNatClampNeg) = sI f 0 0 (mnX D)) ?_ ?_ aFuel 1000000 _ _ _ (Nat.le_refl _) ⟨⟨by decide, by rw [ti_0]; omega, ?_⟩, rfl, by rw [cl_0]; rfl⟩
  · intro n g hg acc x D' hI
    obtain ⟨⟨h0, h1, h2⟩, h3, h4⟩ := hI
    subst h3
    have e := cl_i h0
    by_cases hx : x.toInt < (D'.1 43 0).toInt
    · have em : (mnX D' : Int) = (D'.1 43 0).toInt := cl_i (x := D'.1 43 0) (by omega)
      obtain ⟨c1, c2⟩ := cl_add1 (x := x) (by omega) (by omega)
      refine hF g acc x h0 hx (hg _ _ _ ⟨⟨by omega, by omega, by omega⟩, rfl, ?_⟩)
      rw [c1, ← h4, sI_at (k := x.toNatClampNeg) (by omega)]
    · have hk : (mnX D' : Int) ≤ max (D'.1 43 0).toInt 0 := by rw [ti_cl]; exact Int.le_refl _
      have hacc : acc = sI f 0 0 (mnX D') := by
        rw [← h4, show mnX D' - x.toNatClampNeg = 0 by omega]
        rfl
      rw [hacc]
      exact hE g x (by omega)
  · intro acc x D' hI
    obtain ⟨⟨h0, h1, h2⟩, -⟩ := hI
    omega
  · rw [ti_0, ti_cl]
    omega
end
section
/-! the class: gathering a pile, no answer is none -/
abbrev Pu {ρ : Type} (f : Option (ρ × ADD)) (D : ADD) : Prop := Wp f (fun _ D1 => D1 = D)
theorem eX_hasLine (a : Int32) (D : ADD) : fX6_hasLine a D = some (if 0 ≤ a.toInt ∧ a.toInt < 16 then 1 else 0, D) := by
  refine eq_Bo ?_
  unfold fX6_hasLine
  have e16 : (16 : Int32).toInt = 16 := by decide
  refine Wp.lets (Wp.lets (Wp.ilt (fun h => ?_) (fun h => Wp.ile (fun h2 => ?_) (fun h2 => ?_)))) <;> rw [ti_0] at h <;>
    first | exact Wp.z (Or.inl rfl) (Wp.ret ⟨rfl, Or.inr ⟨rfl, by omega⟩⟩) | exact Wp.z (Or.inr rfl) (Wp.ret ⟨rfl, Or.inl ⟨rfl, by omega⟩⟩)
/-- a test of the rules at o against the row v, at place a -/
def pasF (o v : Nat) (D : ADD) (a : Nat) : Prop := 0 ≤ (D.1 (o + 5) a).toInt ∧ (D.1 (o + 5) a).toInt < 8 ∧ (if D.1 (o + 6) a = 60 then D.1 v (D.1 (o + 5) a).toNatClampNeg < D.1 (o + 7) a else if D.1 (o + 6) a = 62 then D.1 (o + 7) a < D.1 v (D.1 (o + 5) a).toNatClampNeg else D.1 v (D.1 (o + 5) a).toNatClampNeg = D.1 (o + 7) a)
theorem tX6_passes {o v : Nat} {a : Int32} {D : ADD} (h0 : 0 ≤ a.toInt) (h1 : a.toInt < 64) : Wp (fX6_passes o v a D) (fun x D1 => D1 = D ∧ Bo x (pasF o v D a.toNatClampNeg)) := by
  unfold fX6_passes pasF
  have ia : vp_in a 64 := i_in h0 h1
  have e8 : (Int32.ofNat 8).toInt = 8 := by decide
  refine Wp.idx ia (Wp.lets (Wp.lets (Wp.ilt (fun h => ?_) (fun h => Wp.ilt (fun h2 => Wp.idx ia ?_) (fun h2 => ?_)))))
  · rw [ti_0] at h
    exact Wp.ret ⟨rfl, Or.inr ⟨rfl, fun q => by omega⟩⟩
  · rw [ti_0] at h
    have ix : vp_in (D.1 (o + 5) a.toNatClampNeg) 8 := i_in h (by omega)
    refine Wp.ite (fun k => Wp.idx ix (Wp.idx ia (Wp.lets ?_))) (fun k => Wp.ite (fun k2 => Wp.idx ix (Wp.idx ia (Wp.lets ?_))) (fun k2 => Wp.idx ix (Wp.idx ia (Wp.lets ?_))))
    · refine Wp.ite (fun q => Wp.z (Or.inl rfl) (Wp.ret ⟨rfl, Or.inr ⟨rfl, fun p => ?_⟩⟩)) (fun q => Wp.z (Or.inr rfl) (Wp.ret ⟨rfl, Or.inl ⟨rfl, h, by omega, ?_⟩⟩))
      · have p := p.2.2
        rw [if_pos k] at p
        exact absurd p (Int32.not_lt.mpr q)
      · rw [if_pos k]
        exact Int32.not_le.mp q
    · refine Wp.ite (fun q => Wp.z (Or.inl rfl) (Wp.ret ⟨rfl, Or.inr ⟨rfl, fun p => ?_⟩⟩)) (fun q => Wp.z (Or.inr rfl) (Wp.ret ⟨rfl, Or.inl ⟨rfl, h, by omega, ?_⟩⟩))
      · have p := p.2.2
        rw [if_neg k, if_pos k2] at p
        exact absurd p (Int32.not_lt.mpr q)
      · rw [if_neg k, if_pos k2]
        exact Int32.not_le.mp q
    · refine Wp.ite (fun q => Wp.z (Or.inr rfl) (Wp.ret ⟨rfl, Or.inl ⟨rfl, h, by omega, ?_⟩⟩)) (fun q => Wp.z (Or.inl rfl) (Wp.ret ⟨rfl, Or.inr ⟨rfl, fun p => ?_⟩⟩))
      · rw [if_neg k, if_neg k2]
        exact q
      · have p := p.2.2
        rw [if_neg k, if_neg k2] at p
        exact q p
  · exact Wp.ret ⟨rfl, Or.inr ⟨rfl, fun q => by omega⟩⟩
/-- a line holds: each of its tests is as its 'not' asks -/
def hldF (o v : Nat) (D : ADD) (l : Nat) : Prop := l < 16 ∧ ∀ i : Nat, (i : Int) < (D.1 (o + 4) l).toInt → i < 4 → (pasF o v D (4 * l + i) ↔ aBz (D.1 (o + 8) (4 * l + i)) = 0)
theorem bz01 (x : Int32) : aBz x = 0 ∨ aBz x = 1 := by
  obtain ⟨j, hj, ej⟩ := pk_andE x (m := 1) 1 (by decide)
  have e : aBz x = x &&& 1 := rfl
  rw [e, ej]
  have hj : j < 2 := hj
  rcases (show j = 0 ∨ j = 1 by omega) with rfl | rfl
  · exact Or.inl rfl
  · exact Or.inr rfl
theorem tX6_holds {o v : Nat} {a : Int32} {D : ADD} : Wp (fX6_holds o v a D) (fun x D1 => D1 = D ∧ Bo x (0 ≤ a.toInt ∧ hldF o v D a.toNatClampNeg)) := by
  unfold fX6_holds
  refine Wp.bindE (eX_hasLine a D) ?_
  by_cases h : 0 ≤ a.toInt ∧ a.toInt < 16
  · rw [if_pos h]
    have ea := cl_i h.1
    refine Wp.neg (by decide) (Wp.lets (Wp.lets ?_))
    have ia : vp_in a 16 := i_in h.1 h.2
    refine Wp.fix1 (fun n x D' => (0 ≤ x.toInt ∧ x.toInt ≤ 4 ∧ 4 - x.toInt < (n : Int)) ∧ D' = D ∧ ∀ i : Nat, (i : Int) < x.toInt → (pasF o v D (4 * a.toNatClampNeg + i) ↔ aBz (D.1 (o + 8) (4 * a.toNatClampNeg + i)) = 0)) ?_ ?_ aFuel 1000000 _ _ (Nat.le_refl _) ⟨⟨by decide, by decide, by decide⟩, rfl, fun i hi => by rw [ti_0] at hi; omega⟩
    · intro n g hg x D' hI
      obtain ⟨⟨i0, i1, i2⟩, i3, i4⟩ := hI
      subst i3
      unfold lX6_holds_11
      have e4 : (4 : Int32).toInt = 4 := by decide
      have ex := cl_i i0
      refine Wp.idx ia (Wp.ile (fun k => Wp.ret ⟨rfl, Or.inl ⟨rfl, h.1, by omega, fun i hi _ => i4 i (by omega)⟩⟩) (fun k => Wp.ile (fun k2 => Wp.ret ⟨rfl, Or.inl ⟨rfl, h.1, by omega, fun i _ hi => i4 i (by omega)⟩⟩) (fun k2 => ?_)))
      have e1 : (a * 4).toInt = a.toInt * 4 := ti_mul rfl e4 (by omega) (by omega)
      have e2 : (a * 4 + x).toInt = a.toInt * 4 + x.toInt := ti_add e1 rfl (by omega) (by omega)
      have w : (a * 4 + x).toNatClampNeg = 4 * a.toNatClampNeg + x.toNatClampNeg := cl_of (by omega)
      refine Wp.bind (tX6_passes (by omega) (by omega)) (fun y D1 q => ?_)
      obtain ⟨rfl, q⟩ := q
      rw [w] at q
      refine Wp.idx (i_in (by omega) (by omega)) ?_
      rw [w]
      refine Wp.ite (fun hy => Wp.ret ⟨rfl, Or.inr ⟨rfl, fun p => ?_⟩⟩) (fun hy => Wp.lets (hg _ _ ⟨?_, rfl, fun i hi => ?_⟩))
      · have p := p.2.2 x.toNatClampNeg (by omega) (by omega)
        rcases q with ⟨rfl, q⟩ | ⟨rfl, q⟩
        · have := p.mp q
          rw [this] at hy
          exact absurd hy (by decide)
        · exact q (p.mpr hy.symm)
      · have c2 : (x + 1).toInt = x.toInt + 1 := ti_add rfl ti_1 (by omega) (by omega)
        omega
      · have c2 : (x + 1).toInt = x.toInt + 1 := ti_add rfl ti_1 (by omega) (by omega)
        by_cases hi2 : (i : Int) < x.toInt
        · exact i4 i hi2
        · have hix : i = x.toNatClampNeg := by omega
          subst hix
          rcases q with ⟨rfl, q⟩ | ⟨rfl, q⟩
          · refine ⟨fun _ => ?_, fun _ => q⟩
            rcases bz01 (D1.1 (o + 8) (4 * a.toNatClampNeg + x.toNatClampNeg)) with b | b
            · exact b
            · exact absurd b.symm hy
          · exact ⟨fun p => absurd p q, fun p => absurd p.symm hy⟩
    · intro x D' hI
      obtain ⟨⟨i0, i1, i2⟩, -⟩ := hI
      omega
  · rw [if_neg h]
    refine Wp.pos rfl (Wp.ret ⟨rfl, Or.inr ⟨rfl, fun q => h ⟨q.1, ?_⟩⟩⟩)
    have := q.2.1
    have := cl_i q.1
    omega
def lnF (D : ADD) (c : Nat) (d a : Int32) : Int32 := if 0 ≤ a.toInt ∧ a.toInt < 16 then D.1 c a.toNatClampNeg else d
theorem eX_deedOf (o : Nat) (a : Int32) (D : ADD) : fX6_deedOf o a D = some (lnF D (o + 1) (-1) a, D) := by
  unfold fX6_deedOf lnF
  rw [eX_hasLine]
  by_cases h : 0 ≤ a.toInt ∧ a.toInt < 16
  · simp only [aBind, aLet, if_pos h, if_neg b01, aIn_ok (i_in (n := 16) h.1 h.2)]
  · simp only [aBind, aLet, if_neg h, if_true]
theorem eX_leastOf (o : Nat) (a : Int32) (D : ADD) : fX6_leastOf o a D = some (lnF D (o + 2) 0 a, D) := by
  unfold fX6_leastOf lnF
  rw [eX_hasLine]
  by_cases h : 0 ≤ a.toInt ∧ a.toInt < 16
  · simp only [aBind, aLet, if_pos h, if_neg b01, aIn_ok (i_in (n := 16) h.1 h.2)]
  · simp only [aBind, aLet, if_neg h, if_true]
theorem eX_mostOf (o : Nat) (a : Int32) (D : ADD) : fX6_mostOf o a D = some (lnF D (o + 3) 0 a, D) := by
  unfold fX6_mostOf lnF
  rw [eX_hasLine]
  by_cases h : 0 ≤ a.toInt ∧ a.toInt < 16
  · simp only [aBind, aLet, if_pos h, if_neg b01, aIn_ok (i_in (n := 16) h.1 h.2)]
  · simp only [aBind, aLet, if_neg h, if_true]
theorem knX_fr {D D1 : ADD} (h2 : D1.1 2 = D.1 2) (h4 : D1.1 4 = D.1 4) (a b : Int32) : knX D1 a b = knX D a b := by
  unfold knX
  rw [h2, h4]
/-- the traits of a stone -/
def trF (D : ADD) (s : Int32) (i : Nat) : Int32 := if i = 0 then knX D s 1 else if i = 1 then knX D s 2 else if i = 2 then knX D s 3 else if i = 3 then knX D s 4 else if i = 4 then knX D s 7 else if i = 5 then knX D s 8 else if i = 6 then 2000 - knX D s 6 else D.1 49 i
theorem tX4_traits {s : Int32} {D : ADD} : Wp (fX4_listTraits s D) (fun _ D1 => (∀ c, c ≠ 49 → D1.1 c = D.1 c) ∧ D1.2 = D.2 ∧ ∀ i, D1.1 49 i = trF D s i) := by
  unfold fX4_listTraits
  have c1 : (1 : Int32).toNatClampNeg = 1 := by decide
  have c2 : (2 : Int32).toNatClampNeg = 2 := by decide
  have c3 : (3 : Int32).toNatClampNeg = 3 := by decide
  have c4 : (4 : Int32).toNatClampNeg = 4 := by decide
  have c5 : (5 : Int32).toNatClampNeg = 5 := by decide
  have c6 : (6 : Int32).toNatClampNeg = 6 := by decide
  simp only [cl_0, c1, c2, c3, c4, c5, c6]
  refine Wp.bindE (eX_known _ _ _) (Wp.idd (by decide) (Wp.leti (fun D2 e2 => Wp.bindE (eX_known _ _ _) (Wp.idd (by decide) (Wp.leti (fun D4 e4 => Wp.bindE (eX_known _ _ _) (Wp.idd (by decide) (Wp.leti (fun D6 e6 => Wp.bindE (eX_known _ _ _) (Wp.idd (by decide) (Wp.leti (fun D8 e8 => Wp.bindE (eX_known _ _ _) (Wp.idd (by decide) (Wp.leti (fun D10 e10 => Wp.bindE (eX_known _ _ _) (Wp.idd (by decide) (Wp.leti (fun D12 e12 => Wp.bindE (eX_known _ _ _) (Wp.idd (by decide) (Wp.leti (fun D14 e14 => Wp.ret ⟨fun c hc => ?_, ?_, fun i => ?_⟩)))))))))))))))))))))
  · funext z
    rw [e14, e12, e10, e8, e6, e4, e2]
    simp [aSI, hc]
  · rw [e14, e12, e10, e8, e6, e4, e2]
    rfl
  · have k2 : ∀ a b, knX D2 a b = knX D a b := knX_fr (by rw [e2]; rfl) (by rw [e2]; rfl)
    have k4 : ∀ a b, knX D4 a b = knX D a b := knX_fr (by rw [e4, e2]; rfl) (by rw [e4, e2]; rfl)
    have k6 : ∀ a b, knX D6 a b = knX D a b := knX_fr (by rw [e6, e4, e2]; rfl) (by rw [e6, e4, e2]; rfl)
    have k8 : ∀ a b, knX D8 a b = knX D a b := knX_fr (by rw [e8, e6, e4, e2]; rfl) (by rw [e8, e6, e4, e2]; rfl)
    have k10 : ∀ a b, knX D10 a b = knX D a b := knX_fr (by rw [e10, e8, e6, e4, e2]; rfl) (by rw [e10, e8, e6, e4, e2]; rfl)
    have k12 : ∀ a b, knX D12 a b = knX D a b := knX_fr (by rw [e12, e10, e8, e6, e4, e2]; rfl) (by rw [e12, e10, e8, e6, e4, e2]; rfl)
    rw [k2] at e4
    rw [k4] at e6
    rw [k6] at e8
    rw [k8] at e10
    rw [k10] at e12
    rw [k12] at e14
    rw [e14, e12, e10, e8, e6, e4, e2]
    unfold trF
    simp only [aSI, true_and]
    match i with
    | 0 => rfl
    | 1 => rfl
    | 2 => rfl
    | 3 => rfl
    | 4 => rfl
    | 5 => rfl
    | 6 => rfl
    | i + 7 => rfl
end
section
/-! the class: spans, exactly -/
theorem Wp.letQ {ρ α : Type} {Q : ρ → ADD → Prop} {x : α} {G : α → Option (ρ × ADD)} (P : (ρ → ADD → Prop) → α → Prop) (h : P Q x) (k : ∀ j, P Q j → Wp (G j) Q) : Wp (aLet x G) Q := k x h
theorem Wp.tabl4 {ρ : Type} {Q : ρ → ADD → Prop} {x : Int32} {A0 A1 A2 A3 Kd : Option (ρ × ADD)} (h0 : x.toInt = 1 → Wp A0 Q) (h1 : x.toInt = 2 → Wp A1 Q) (h2 : x.toInt = 3 → Wp A2 Q) (h3 : x.toInt = 4 → Wp A3 Q) (d : x.toInt < 1 ∨ 5 ≤ x.toInt → Wp Kd Q) : Wp (aTab x 1 [A0, A1, A2, A3] Kd) Q := by
  refine Wp.tab (fun i K hK hc => ?_) (fun hc => d (by simp at hc; omega))
  match i, hK with
  | 0, hK => cases hK; exact h0 (by omega)
  | 1, hK => cases hK; exact h1 (by omega)
  | 2, hK => cases hK; exact h2 (by omega)
  | 3, hK => cases hK; exact h3 (by omega)
  | i + 4, hK => cases hK
def pasG (D : ADD) (o : Nat) (row : Nat → Int32) (a : Nat) : Prop := 0 ≤ (D.1 (o + 5) a).toInt ∧ (D.1 (o + 5) a).toInt < 8 ∧ (if D.1 (o + 6) a = 60 then row (D.1 (o + 5) a).toNatClampNeg < D.1 (o + 7) a else if D.1 (o + 6) a = 62 then D.1 (o + 7) a < row (D.1 (o + 5) a).toNatClampNeg else row (D.1 (o + 5) a).toNatClampNeg = D.1 (o + 7) a)
def hldG (D : ADD) (o : Nat) (row : Nat → Int32) (l : Nat) : Prop := l < 16 ∧ ∀ i : Nat, (i : Int) < (D.1 (o + 4) l).toInt → i < 4 → (pasG D o row (4 * l + i) ↔ aBz (D.1 (o + 8) (4 * l + i)) = 0)
theorem hldF_G {o v : Nat} {D : ADD} {l : Nat} : hldF o v D l ↔ hldG D o (D.1 v) l := Iff.rfl
/-- the rules at o are the same -/
def smR (D D1 : ADD) (o : Nat) : Prop := D1.1 o 0 = D.1 o 0 ∧ ∀ c, o < c → c ≤ o + 8 → D1.1 c = D.1 c
theorem hldG_sm {D D1 : ADD} {o : Nat} {row : Nat → Int32} {l : Nat} (h : smR D D1 o) : hldG D1 o row l ↔ hldG D o row l := by
  unfold hldG pasG
  rw [h.2 (o + 4) (by omega) (by omega), h.2 (o + 5) (by omega) (by omega), h.2 (o + 6) (by omega) (by omega), h.2 (o + 7) (by omega) (by omega), h.2 (o + 8) (by omega) (by omega)]
/-- the wear of a row of traits, line by line -/
noncomputable def wrF (D : ADD) (row : Nat → Int32) (a b : Int32) (l : Nat) : Nat → Int32 × Int32
  | 0 => (a, b)
  | n + 1 => @ite _ (hldG D 13 row l) (Classical.propDecidable _) (if D.1 14 l = 2 then (a, b) else wrF D row (a + (if D.1 14 l = 1 then -D.1 16 l else D.1 15 l)) (b + (if D.1 14 l = 1 then -D.1 15 l else D.1 16 l)) (l + 1) n) (wrF D row a b (l + 1) n)
theorem wrF_sm {D D1 : ADD} {row : Nat → Int32} (h : smR D D1 13) : ∀ (n : Nat) (a b : Int32) (l : Nat), wrF D1 row a b l n = wrF D row a b l n
  | 0, a, b, l => rfl
  | n + 1, a, b, l => by
    have e14 := h.2 14 (by omega) (by omega)
    have e15 := h.2 15 (by omega) (by omega)
    have e16 := h.2 16 (by omega) (by omega)
    unfold wrF
    rw [e14, e15, e16, wrF_sm h n, wrF_sm h n]
    by_cases hh : hldG D 13 row l
    · rw [if_pos hh, if_pos ((hldG_sm h).mpr hh)]
    · rw [if_neg hh, if_neg (fun q => hh ((hldG_sm h).mp q))]
noncomputable def wrX (D : ADD) (s : Int32) : Int32 × Int32 := wrF D (trF D s) 0 0 0 (D.1 13 0).toNatClampNeg
noncomputable def loX (D : ADD) (s : Int32) : Int32 := newF (knX D s 0 - knX D s 3) (wrX D s).1
noncomputable def hiX (D : ADD) (s : Int32) : Int32 := newF (knX D s 0 - knX D s 3) (wrX D s).2
theorem tX4_measure {a : Int32} {D : ADD} (h0 : 0 ≤ a.toInt) (h1 : a.toInt < 32) (hl : (D.1 13 0).toInt ≤ 16) : Wp (fX4_measure a D) (fun _ D1 => (∀ c, c ≠ 44 → c ≠ 45 → c ≠ 49 → D1.1 c = D.1 c) ∧ D1.2 = D.2 ∧ (∀ i, 7 ≤ i → D1.1 49 i = D.1 49 i) ∧ (∀ j, D1.1 44 j = if j = a.toNatClampNeg then loX D (D.1 46 a.toNatClampNeg) else D.1 44 j) ∧ ∀ j, D1.1 45 j = if j = a.toNatClampNeg then hiX D (D.1 46 a.toNatClampNeg) else D.1 45 j) := by
  unfold fX4_measure
  have ia : vp_in a 32 := i_in h0 h1
  refine Wp.idx ia (Wp.leti (fun s hs => Wp.bind tX4_traits (fun _ D1 q => ?_)))
  obtain ⟨q1, q2, q3⟩ := q
  have r13 : smR D D1 13 := ⟨by rw [q1 13 (by decide)], fun c h1 h2 => q1 c (by omega)⟩
  have row : D1.1 49 = trF D s := funext q3
  have tot : wrX D s = wrF D1 (D1.1 49) 0 0 0 (D1.1 13 0).toNatClampNeg := by
    rw [row, wrF_sm r13, r13.1]
    rfl
  rw [← hs]
  refine Wp.letQ (fun Q j => ∀ x y, (x, y) = wrX D s → Wp (j x y D1) Q) (fun x y hxy => ?_) (fun j K => Wp.lets ?_)
  · refine Wp.bindE (eX_known _ _ _) (Wp.bindE (eX_known _ _ _) (Wp.lets (Wp.bindE (eX_whenNew _ _ _) (Wp.idx ia (Wp.leti (fun D6 e6 => Wp.bindE (eX_whenNew _ _ _) (Wp.idx ia (Wp.leti (fun D8 e8 => Wp.ret ?_)))))))))
    have kk : ∀ b, knX D1 s b = knX D s b := fun b => knX_fr (q1 2 (by decide)) (q1 4 (by decide)) s b
    rw [kk, kk] at e6 e8
    have hx : x = (wrX D s).1 := by rw [← hxy]
    have hy : y = (wrX D s).2 := by rw [← hxy]
    rw [hx] at e6
    rw [hy] at e8
    refine ⟨fun c c44 c45 c49 => ?_, ?_, fun i hi => ?_, fun j => ?_, fun j => ?_⟩
    · rw [e8, e6, ← q1 c c49]
      funext z
      simp [aSI, c44, c45]
    · rw [e8, e6]
      exact q2
    · rw [e8, e6]
      show D1.1 49 i = _
      rw [q3, trF]
      rw [if_neg (by omega), if_neg (by omega), if_neg (by omega), if_neg (by omega), if_neg (by omega), if_neg (by omega), if_neg (by omega)]
    · rw [e8, e6, ← q1 44 (by decide)]
      simp [aSI, loX]
    · rw [e8, e6, ← q1 45 (by decide)]
      simp [aSI, hiX]
  · have e13 : (D1.1 13 0).toInt ≤ 16 := by rw [q1 13 (by decide)]; exact hl
    have em : ((D1.1 13 0).toNatClampNeg : Int) = max (D1.1 13 0).toInt 0 := ti_cl
    refine Wp.fix3 (fun n x y w D' => (0 ≤ w.toInt ∧ w.toInt ≤ ((D1.1 13 0).toNatClampNeg : Int) ∧ ((D1.1 13 0).toNatClampNeg : Int) - w.toInt < (n : Int)) ∧ D' = D1 ∧ wrF D1 (D1.1 49) x y w.toNatClampNeg ((D1.1 13 0).toNatClampNeg - w.toNatClampNeg) = wrX D s) ?_ ?_ aFuel 1000000 _ _ _ _ (Nat.le_refl _) ⟨⟨by decide, by rw [ti_0]; omega, by rw [ti_0]; omega⟩, rfl, tot.symm⟩
    · intro n g hg x y w D' hI
      obtain ⟨⟨i0, i1, i2⟩, i3, i4⟩ := hI
      subst i3
      have ew := cl_i i0
      unfold lX4_measure_24
      refine Wp.ile (fun k => K x y ?_) (fun k => ?_)
      · rw [← i4, show (D'.1 13 0).toNatClampNeg - w.toNatClampNeg = 0 by omega]
        rfl
      · obtain ⟨c1, c2⟩ := cl_add1 (x := w) (by omega) (by omega)
        have hs1 : (D'.1 13 0).toNatClampNeg - w.toNatClampNeg = ((D'.1 13 0).toNatClampNeg - (w.toNatClampNeg + 1)) + 1 := by omega
        rw [hs1] at i4
        have ln : ∀ c d, lnF D' c d w = D'.1 c w.toNatClampNeg := fun c d => if_pos ⟨i0, by omega⟩
        refine Wp.bind tX6_holds (fun b D2 q => ?_)
        obtain ⟨rfl, q⟩ := q
        refine Wp.lets ?_
        unfold wrF at i4
        by_cases hh : hldG D2 13 (D2.1 49) w.toNatClampNeg
        · rw [if_pos hh] at i4
          have hb : b = 1 := q.t ⟨i0, hh⟩
          subst hb
          refine Wp.neg (by decide) (Wp.bindE (eX_deedOf _ _ _) ?_)
          rw [ln]
          refine Wp.ite (fun h2 => K x y ?_) (fun h2 => Wp.lets ?_)
          · rw [if_pos h2] at i4
            exact i4
          · rw [if_neg h2] at i4
            by_cases h1 : D2.1 14 w.toNatClampNeg = 1
            · rw [if_pos h1, if_pos h1] at i4
              refine Wp.pos h1 (Wp.bindE (eX_mostOf _ _ _) (Wp.lets (Wp.lets (Wp.pos h1 (Wp.bindE (eX_leastOf _ _ _) (Wp.lets (Wp.lets (hg _ _ _ _ ⟨⟨by omega, by omega, by omega⟩, rfl, ?_⟩))))))))
              rw [ln, ln, c1]
              exact i4
            · rw [if_neg h1, if_neg h1] at i4
              refine Wp.neg h1 (Wp.bindE (eX_leastOf _ _ _) (Wp.lets (Wp.lets (Wp.neg h1 (Wp.bindE (eX_mostOf _ _ _) (Wp.lets (Wp.lets (hg _ _ _ _ ⟨⟨by omega, by omega, by omega⟩, rfl, ?_⟩))))))))
              rw [ln, ln, c1]
              exact i4
        · rw [if_neg hh] at i4
          have hb : b = 0 := q.f (fun p => hh p.2)
          subst hb
          refine Wp.pos rfl (Wp.lets (hg _ _ _ _ ⟨⟨by omega, by omega, by omega⟩, rfl, ?_⟩))
          rw [c1]
          exact i4
    · intro x y w D' hI
      obtain ⟨⟨i0, i1, i2⟩, -⟩ := hI
      omega
/-! who is chosen -/
def chX (D : ADD) (s : Int32) : Prop := knX D s 9 = 1 ∧ ((D.1 31 0 >>> (knX D s 4 &&& 31)) &&& 1) = 1 ∧ ((D.1 31 1 >>> (knX D s 1 &&& 31)) &&& 1) = 1 ∧ knX D s 5 ≤ D.1 31 3 ∧ D.1 31 2 ≤ knX D s 6 ∧ (D.1 31 4 = 0 ∨ (D.1 31 4 = 1 ↔ 0 < knX D s 7))
theorem tX1_takesMark {m : Int32} {D : ADD} : Wp (fX1_takesMark m D) (fun x D1 => D1 = D ∧ Bo x (D.1 31 4 = 0 ∨ (D.1 31 4 = 1 ↔ 0 < m))) := by
  unfold fX1_takesMark
  refine Wp.lets (Wp.lets (Wp.ite (fun h => Wp.z (Or.inr rfl) (Wp.ret ⟨rfl, Or.inl ⟨rfl, Or.inl h⟩⟩)) (fun h => Wp.lets (Wp.ite (fun h1 => Wp.lets (Wp.ite (fun h2 => ?_) (fun h2 => ?_))) (fun h1 => Wp.lets (Wp.ite (fun h2 => ?_) (fun h2 => ?_)))))))
  · refine Wp.neg (by decide) (Wp.z (Or.inl rfl) (Wp.ret ⟨rfl, Or.inr ⟨rfl, fun q => ?_⟩⟩))
    rcases q with q | q
    · exact h q
    · exact absurd (q.mp h1) (Int32.not_lt.mpr h2)
  · refine Wp.pos rfl (Wp.z (Or.inr rfl) (Wp.ret ⟨rfl, Or.inl ⟨rfl, Or.inr ⟨fun _ => Int32.not_le.mp h2, fun _ => h1⟩⟩⟩))
  · refine Wp.pos rfl (Wp.z (Or.inr rfl) (Wp.ret ⟨rfl, Or.inl ⟨rfl, Or.inr ⟨fun q => absurd q h1, fun q => absurd q (Int32.not_lt.mpr h2)⟩⟩⟩))
  · refine Wp.neg (by decide) (Wp.z (Or.inl rfl) (Wp.ret ⟨rfl, Or.inr ⟨rfl, fun q => ?_⟩⟩))
    rcases q with q | q
    · exact h q
    · exact h1 (q.mpr (Int32.not_le.mp h2))
theorem tX1_takes {s : Int32} {D : ADD} : Wp (fX1_takes s D) (fun x D1 => D1 = D ∧ Bo x (chX D s)) := by
  unfold fX1_takes chX
  refine Wp.bindE (eX_known _ _ _) (Wp.lets (Wp.lets (Wp.ite (fun h => Wp.bindE (eX_known _ _ _) (Wp.ite (fun h1 => Wp.bindE (eX_known _ _ _) (Wp.ite (fun h2 => Wp.bindE (eX_known _ _ _) (Wp.ite (fun h3 => ?_) (fun h3 => Wp.bindE (eX_known _ _ _) (Wp.ite (fun h4 => ?_) (fun h4 => Wp.bindE (eX_known _ _ _) (Wp.bind tX1_takesMark (fun y D1 q => ?_))))))) (fun h2 => ?_))) (fun h1 => ?_))) (fun h => ?_))))
  · exact Wp.z (Or.inl rfl) (Wp.ret ⟨rfl, Or.inr ⟨rfl, fun q => absurd q.2.2.2.1 (Int32.not_le.mpr h3)⟩⟩)
  · exact Wp.z (Or.inl rfl) (Wp.ret ⟨rfl, Or.inr ⟨rfl, fun q => absurd q.2.2.2.2.1 (Int32.not_le.mpr h4)⟩⟩)
  · obtain ⟨rfl, q⟩ := q
    rcases q with ⟨rfl, q⟩ | ⟨rfl, q⟩
    · exact Wp.neg (by decide) (Wp.z (Or.inr rfl) (Wp.ret ⟨rfl, Or.inl ⟨rfl, h, h1, h2, Int32.not_lt.mp h3, Int32.not_lt.mp h4, q⟩⟩))
    · exact Wp.pos rfl (Wp.z (Or.inl rfl) (Wp.ret ⟨rfl, Or.inr ⟨rfl, fun p => q p.2.2.2.2.2⟩⟩))
  · exact Wp.z (Or.inl rfl) (Wp.ret ⟨rfl, Or.inr ⟨rfl, fun q => h2 q.2.2.1⟩⟩)
  · exact Wp.z (Or.inl rfl) (Wp.ret ⟨rfl, Or.inr ⟨rfl, fun q => h1 q.2.1⟩⟩)
  · exact Wp.z (Or.inl rfl) (Wp.ret ⟨rfl, Or.inr ⟨rfl, fun q => h q.1⟩⟩)
/-- who is of a pile: by its kind and value -/
def blX (D : ADD) (k v s : Int32) : Prop := if k.toInt = 5 then knX D s 9 = 1 ∧ knX D s 10 = v else chX D s ∧ (if k.toInt = 1 then knX D s 4 = v else if k.toInt = 2 then v ≤ knX D s 5 else if k.toInt = 3 then knX D s 6 < v else if k.toInt = 4 then knX D s 8 = v else True)
theorem tX4_belongs {s k v : Int32} {D : ADD} : Wp (fX4_belongs s k v D) (fun x D1 => D1 = D ∧ Bo x (blX D k v s)) := by
  unfold fX4_belongs blX
  have L5 : (5 : Int32).toInt = 5 := by decide
  refine Wp.ite (fun h => Wp.bindE (eX_known _ _ _) (Wp.lets (Wp.lets (Wp.ite (fun h1 => Wp.bindE (eX_known _ _ _) (Wp.ite (fun h2 => ?_) (fun h2 => ?_))) (fun h1 => ?_))))) (fun h => Wp.bind tX1_takes (fun x D1 q => ?_))
  · rw [if_pos (by rw [h, L5])]
    exact Wp.z (Or.inr rfl) (Wp.ret ⟨rfl, Or.inl ⟨rfl, h1, h2⟩⟩)
  · rw [if_pos (by rw [h, L5])]
    exact Wp.z (Or.inl rfl) (Wp.ret ⟨rfl, Or.inr ⟨rfl, fun q => h2 q.2⟩⟩)
  · rw [if_pos (by rw [h, L5])]
    exact Wp.z (Or.inl rfl) (Wp.ret ⟨rfl, Or.inr ⟨rfl, fun q => h1 q.1⟩⟩)
  · obtain ⟨rfl, q⟩ := q
    have h5 := ti_ne h
    rw [L5] at h5
    rw [if_neg h5]
    rcases q with ⟨rfl, q⟩ | ⟨rfl, q⟩
    · refine Wp.neg (by decide) (Wp.tabl4 (fun hc => ?_) (fun hc => ?_) (fun hc => ?_) (fun hc => ?_) (fun hc => Wp.ret ?_))
      · refine Wp.bindE (eX_known _ _ _) (Wp.lets (Wp.ite (fun p => Wp.z (Or.inr rfl) (Wp.ret ⟨rfl, Or.inl ⟨rfl, q, ?_⟩⟩)) (fun p => Wp.z (Or.inl rfl) (Wp.ret ⟨rfl, Or.inr ⟨rfl, fun r => ?_⟩⟩))))
        · rw [if_pos hc]; exact p
        · have r := r.2
          rw [if_pos hc] at r
          exact p r
      · refine Wp.bindE (eX_known _ _ _) (Wp.lets (Wp.ite (fun p => Wp.z (Or.inl rfl) (Wp.ret ⟨rfl, Or.inr ⟨rfl, fun r => ?_⟩⟩)) (fun p => Wp.z (Or.inr rfl) (Wp.ret ⟨rfl, Or.inl ⟨rfl, q, ?_⟩⟩))))
        · have r := r.2
          rw [if_neg (by omega), if_pos hc] at r
          exact absurd r (Int32.not_le.mpr p)
        · rw [if_neg (by omega), if_pos hc]; exact Int32.not_lt.mp p
      · refine Wp.bindE (eX_known _ _ _) (Wp.lets (Wp.ite (fun p => Wp.z (Or.inl rfl) (Wp.ret ⟨rfl, Or.inr ⟨rfl, fun r => ?_⟩⟩)) (fun p => Wp.z (Or.inr rfl) (Wp.ret ⟨rfl, Or.inl ⟨rfl, q, ?_⟩⟩))))
        · have r := r.2
          rw [if_neg (by omega), if_neg (by omega), if_pos hc] at r
          exact absurd r (Int32.not_lt.mpr p)
        · rw [if_neg (by omega), if_neg (by omega), if_pos hc]; exact Int32.not_le.mp p
      · refine Wp.bindE (eX_known _ _ _) (Wp.lets (Wp.ite (fun p => Wp.z (Or.inr rfl) (Wp.ret ⟨rfl, Or.inl ⟨rfl, q, ?_⟩⟩)) (fun p => Wp.z (Or.inl rfl) (Wp.ret ⟨rfl, Or.inr ⟨rfl, fun r => ?_⟩⟩))))
        · rw [if_neg (by omega), if_neg (by omega), if_neg (by omega), if_pos hc]; exact p
        · have r := r.2
          rw [if_neg (by omega), if_neg (by omega), if_neg (by omega), if_pos hc] at r
          exact p r
      · refine ⟨rfl, Or.inl ⟨rfl, q, ?_⟩⟩
        rw [if_neg (by omega), if_neg (by omega), if_neg (by omega), if_neg (by omega)]
        trivial
    · exact Wp.pos rfl (Wp.ret ⟨rfl, Or.inr ⟨rfl, fun p => q p.1⟩⟩)
end
section
/-! the class: the pile, exactly -/
theorem nI_val {x : Int32} (h : 0 ≤ x.toInt) : x = nI x.toNatClampNeg := by
  apply ti_eq
  have := cl_i h
  have h2 := ti_hi x
  rw [ti_nI (by omega)]
  omega
/-- all but the pile's own cells is the same -/
def FrP (D0 D : ADD) : Prop := (∀ c, (c < 43 ∨ 50 ≤ c) → D.1 c = D0.1 c) ∧ D.2 = D0.2 ∧ ∀ i, 7 ≤ i → D.1 49 i = D0.1 49 i
theorem FrP.refl (D : ADD) : FrP D D := ⟨fun _ _ => rfl, rfl, fun _ _ => rfl⟩
theorem FrP.kn {D0 D : ADD} (h : FrP D0 D) (a b : Int32) : knX D a b = knX D0 a b := knX_fr (h.1 2 (by omega)) (h.1 4 (by omega)) a b
theorem FrP.tr {D0 D : ADD} (h : FrP D0 D) (s : Int32) : trF D s = trF D0 s := by
  funext i
  unfold trF
  simp only [h.kn]
  match i with
  | 0 => rfl
  | 1 => rfl
  | 2 => rfl
  | 3 => rfl
  | 4 => rfl
  | 5 => rfl
  | 6 => rfl
  | i + 7 => exact h.2.2 _ (by omega)
theorem FrP.sm {D0 D : ADD} (h : FrP D0 D) : smR D0 D 13 := ⟨by rw [h.1 13 (by omega)], fun c h1 h2 => h.1 c (by omega)⟩
theorem FrP.wr {D0 D : ADD} (h : FrP D0 D) (s : Int32) : wrX D s = wrX D0 s := by
  unfold wrX
  rw [h.tr, wrF_sm h.sm, h.sm.1]
theorem FrP.lo {D0 D : ADD} (h : FrP D0 D) (s : Int32) : loX D s = loX D0 s := by
  unfold loX
  rw [h.wr, h.kn, h.kn]
theorem FrP.hi {D0 D : ADD} (h : FrP D0 D) (s : Int32) : hiX D s = hiX D0 s := by
  unfold hiX
  rw [h.wr, h.kn, h.kn]
theorem FrP.ch {D0 D : ADD} (h : FrP D0 D) (s : Int32) : chX D s ↔ chX D0 s := by
  unfold chX
  simp only [h.kn, h.1 31 (by omega)]
theorem FrP.bl {D0 D : ADD} (h : FrP D0 D) (k v s : Int32) : blX D k v s ↔ blX D0 k v s := by
  unfold blX
  simp only [h.kn, h.ch]
/-- the pile has the stones of L -/
def PilX (D0 D : ADD) (L : List Nat) : Prop := (D.1 43 0).toInt = (L.length : Int) ∧ L.length ≤ 32 ∧ ∀ i s, L[i]? = some s → D.1 46 i = nI s ∧ D.1 47 i = knX D0 (nI s) 7 ∧ D.1 48 i = knX D0 (nI s) 4 ∧ D.1 44 i = loX D0 (nI s) ∧ D.1 45 i = hiX D0 (nI s)
theorem tX4_lay {s : Nat} {D0 D : ADD} {L : List Nat} (hF : FrP D0 D) (hP : PilX D0 D L) (hl : (D0.1 13 0).toInt ≤ 16) (hL : L.length < 32) : Wp (fX4_lay (nI s) D) (fun _ D1 => FrP D0 D1 ∧ PilX D0 D1 (L ++ [s])) := by
  obtain ⟨p1, p2, p3⟩ := hP
  unfold fX4_lay
  have e32 : (32 : Int32).toInt = 32 := by decide
  have em : (D.1 43 0).toNatClampNeg = L.length := cl_of p1
  have im : vp_in (D.1 43 0) 32 := i_in (by omega) (by omega)
  refine Wp.lets (Wp.lets (Wp.ilt (fun h => absurd h (by rw [ti_0]; omega)) (fun _ => Wp.ilt (fun _ => ?_) (fun h => absurd h (by omega)))))
  rw [em]
  refine Wp.idx im (Wp.leti (fun D2 e2 => Wp.bindE (eX_known _ _ _) (Wp.idx im (Wp.leti (fun D4 e4 => Wp.bindE (eX_known _ _ _) (Wp.idx im (Wp.lets (Wp.leti (fun D7 e7 => ?_)))))))))
  have f2 : FrP D0 D2 := by
    refine ⟨fun c hc => ?_, by rw [e2]; exact hF.2.1, fun i hi => ?_⟩
    · rw [e2, ← hF.1 c hc]; funext z; have : c ≠ 46 := by omega
      simp [aSI, this]
    · rw [e2]; exact hF.2.2 i hi
  have f4 : FrP D0 D4 := by
    refine ⟨fun c hc => ?_, by rw [e4]; exact f2.2.1, fun i hi => ?_⟩
    · rw [e4, ← f2.1 c hc]; funext z; have : c ≠ 47 := by omega
      simp [aSI, this]
    · rw [e4]; exact f2.2.2 i hi
  rw [f2.kn] at e4
  rw [f4.kn] at e7
  have f7 : FrP D0 D7 := by
    refine ⟨fun c hc => ?_, by rw [e7]; exact f4.2.1, fun i hi => ?_⟩
    · rw [e7, ← f4.1 c hc]; funext z; have : c ≠ 48 := by omega
      have h43 : c ≠ 43 := by omega
      simp [aSI, this, h43]
    · rw [e7]; exact f4.2.2 i hi
  have w43 : (D7.1 43 0).toInt = (L.length : Int) + 1 := by
    have e : D7.1 43 0 = D.1 43 0 + 1 := by rw [e7, e4, e2]; rfl
    rw [e, ti_add p1 ti_1 (by omega) (by omega)]
  have w46 : ∀ j, D7.1 46 j = if j = L.length then nI s else D.1 46 j := by intro j; rw [e7, e4, e2]; simp [aSI]
  have w47 : ∀ j, D7.1 47 j = if j = L.length then knX D0 (nI s) 7 else D.1 47 j := by intro j; rw [e7, e4, e2]; simp [aSI]
  have w48 : ∀ j, D7.1 48 j = if j = L.length then knX D0 (nI s) 4 else D.1 48 j := by intro j; rw [e7, e4, e2]; simp [aSI]
  have w44 : D7.1 44 = D.1 44 := by funext j; rw [e7, e4, e2]; simp [aSI]
  have w45 : D7.1 45 = D.1 45 := by funext j; rw [e7, e4, e2]; simp [aSI]
  refine Wp.bind (tX4_measure (by omega) (by omega) (by rw [f7.1 13 (by omega)]; exact hl)) (fun _ D8 q => Wp.ret ?_)
  obtain ⟨q1, q2, q3, q4, q5⟩ := q
  rw [em] at q4 q5
  refine ⟨⟨fun c hc => by rw [q1 c (by omega) (by omega) (by omega), f7.1 c hc], by rw [q2, f7.2.1], fun i hi => by rw [q3 i hi, f7.2.2 i hi]⟩, ?_, by simp; omega, fun i t ht => ?_⟩
  · rw [q1 43 (by decide) (by decide) (by decide), w43]
    simp
  · rw [q1 46 (by decide) (by decide) (by decide), q1 47 (by decide) (by decide) (by decide), q1 48 (by decide) (by decide) (by decide), w46, w47, w48, q4, q5, w46, if_pos rfl, f7.lo, f7.hi, w44, w45]
    by_cases hi : i = L.length
    · subst hi
      rw [List.getElem?_append_right (Nat.le_refl _)] at ht
      simp at ht
      subst ht
      simp
    · have hi2 : i < L.length := by
        have := (List.getElem?_eq_some_iff.mp ht).1
        simp at this
        omega
      rw [List.getElem?_append_left hi2] at ht
      simp only [if_neg hi]
      exact p3 i t ht
noncomputable def gaL (D : ADD) (k v : Int32) (n : Nat) : List Nat := (List.range n).filter (fun s => @decide (blX D k v (nI s)) (Classical.propDecidable _))
theorem gaL_len (D : ADD) (k v : Int32) (n : Nat) : (gaL D k v n).length ≤ n := by
  have := List.length_filter_le (fun s => @decide (blX D k v (nI s)) (Classical.propDecidable _)) (List.range n)
  rw [List.length_range] at this
  exact this
theorem gaL_t {D : ADD} {k v : Int32} {n : Nat} (h : blX D k v (nI n)) : gaL D k v (n + 1) = gaL D k v n ++ [n] := by
  unfold gaL
  rw [List.range_succ, List.filter_append]
  simp [h]
theorem gaL_f {D : ADD} {k v : Int32} {n : Nat} (h : ¬ blX D k v (nI n)) : gaL D k v (n + 1) = gaL D k v n := by
  unfold gaL
  rw [List.range_succ, List.filter_append]
  simp [h]
theorem FrP.go {D0 D : ADD} {x : Int32} (h : FrP D0 D) : FrP D0 (aSI D 43 0 x) := by
  refine ⟨fun c hc => ?_, h.2.1, fun i hi => h.2.2 i hi⟩
  rw [← h.1 c hc]
  funext z
  have : c ≠ 43 := by omega
  simp [aSI, this]
theorem tX4_gather {k v : Int32} {D0 D : ADD} (hF : FrP D0 D) (h9 : 0 ≤ (D0.1 2 9).toInt ∧ (D0.1 2 9).toInt ≤ 32) (hl : (D0.1 13 0).toInt ≤ 16) : Wp (fX4_gather k v D) (fun r D1 => r = D1.1 43 0 ∧ FrP D0 D1 ∧ PilX D0 D1 (gaL D0 k v (D0.1 2 9).toNatClampNeg)) := by
  unfold fX4_gather
  have e9 := cl_i h9.1
  refine Wp.lets (Wp.lets (Wp.lets ?_))
  refine Wp.fix1 (fun n x D' => (0 ≤ x.toInt ∧ x.toInt ≤ (D0.1 2 9).toInt ∧ (D0.1 2 9).toInt - x.toInt < (n : Int)) ∧ FrP D0 D' ∧ PilX D0 D' (gaL D0 k v x.toNatClampNeg)) ?_ ?_ aFuel 1000000 _ _ (Nat.le_refl _) ⟨⟨by decide, by rw [ti_0]; omega, by rw [ti_0]; omega⟩, hF.go, ?_⟩
  · intro n g hg x D' hI
    obtain ⟨⟨i0, i1, i2⟩, i3, i4⟩ := hI
    have ex := cl_i i0
    unfold lX4_gather_8
    rw [i3.1 2 (by omega)]
    refine Wp.ile (fun h => Wp.ret ⟨rfl, i3, ?_⟩) (fun h => Wp.bind tX4_belongs (fun b D1 q => ?_))
    · rw [show (D0.1 2 9).toNatClampNeg = x.toNatClampNeg by omega]
      exact i4
    · obtain ⟨rfl, q⟩ := q
      obtain ⟨c1, c2⟩ := cl_add1 (x := x) (by omega) (by omega)
      have hx : x = nI x.toNatClampNeg := nI_val i0
      refine Wp.lets ?_
      rcases q with ⟨rfl, q⟩ | ⟨rfl, q⟩
      · refine Wp.neg (by decide) ?_
        have q := (i3.bl _ _ _).mp q
        have hlen := gaL_len D0 k v x.toNatClampNeg
        have tl := tX4_lay (s := x.toNatClampNeg) i3 i4 hl (by omega)
        rw [← hx] at tl
        refine Wp.bind tl (fun _ D6 q6 => Wp.lets (hg _ _ ⟨⟨by omega, by omega, by omega⟩, q6.1, ?_⟩))
        rw [hx] at q
        rw [c1, gaL_t q]
        exact q6.2
      · have q := fun p => q ((i3.bl _ _ _).mpr p)
        refine Wp.pos rfl (Wp.lets (hg _ _ ⟨⟨by omega, by omega, by omega⟩, i3, ?_⟩))
        rw [hx] at q
        rw [c1, gaL_f q]
        exact i4
  · intro x D' hI
    obtain ⟨⟨i0, i1, i2⟩, -⟩ := hI
    omega
  · refine ⟨by rfl, by show 0 ≤ 32; decide, fun i s hs => ?_⟩
    have : gaL D0 k v (0 : Int32).toNatClampNeg = [] := rfl
    rw [this] at hs
    cases hs
theorem tX4_takeAlone {s : Int32} {D : ADD} (h9 : 0 ≤ (D.1 2 9).toInt ∧ (D.1 2 9).toInt ≤ 32) (hl : (D.1 13 0).toInt ≤ 16) : Wp (fX4_takeAlone s D) (fun x D1 => FrP D D1 ∧ if 0 ≤ s.toInt ∧ s.toInt < (D.1 2 9).toInt then x = 1 ∧ PilX D D1 [s.toNatClampNeg] else x = 0) := by
  unfold fX4_takeAlone
  have f1 : FrP D (aSI D 43 0 0) := (FrP.refl D).go
  refine Wp.lets (Wp.lets (Wp.ilt (fun h => Wp.ret ⟨f1, ?_⟩) (fun h => ?_)))
  · rw [ti_0] at h
    rw [if_neg (by omega)]
  · rw [ti_0] at h
    refine Wp.ilt (fun h2 => ?_) (fun h2 => Wp.ret ⟨f1, ?_⟩)
    · have h2 : s.toInt < (D.1 2 9).toInt := h2
      have tl := tX4_lay (s := s.toNatClampNeg) (L := []) f1 ⟨by rfl, by decide, fun i s hs => by cases hs⟩ hl (by decide)
      rw [← nI_val h] at tl
      refine Wp.bind tl (fun _ D3 q => Wp.ret ⟨q.1, ?_⟩)
      rw [if_pos ⟨h, h2⟩]
      exact ⟨rfl, q.2⟩
    · have h2 : (D.1 2 9).toInt ≤ s.toInt := h2
      rw [if_neg (by omega)]
end
section
/-! the class: over the pile -/
section TT
variable {ρ σ τ : Type} {Q : ρ → ADD → Prop}
theorem Wp.up1 {D : ADD} (B : Int) (hB : B ≤ 100000) {F : (Int32 → ADD → Option (ρ × ADD)) → Int32 → ADD → Option (ρ × ADD)} {z : Int32 → ADD → Option (ρ × ADD)}
    (hF : ∀ (g : Int32 → ADD → Option (ρ × ADD)) (x : Int32), 0 ≤ x.toInt → (x.toInt < B → Wp (g (x + 1) D) Q) → Wp (F g x D) Q) {x0 : Int32} (h0 : 0 ≤ x0.toInt) (h1 : x0.toInt ≤ 100000) : Wp (aFix aFuel F z x0 D) Q := by
  refine Wp.fix1 (fun n x D' => (0 ≤ x.toInt ∧ x.toInt ≤ 100001 ∧ 100001 - x.toInt < (n : Int)) ∧ D' = D) ?_ ?_ aFuel 1000000 _ _ (Nat.le_refl _) ⟨⟨h0, by omega, by omega⟩, rfl⟩
  · intro n g hg x D' hI
    obtain ⟨⟨i0, i1, i2⟩, i3⟩ := hI
    subst i3
    refine hF g x i0 (fun hx => hg _ _ ⟨?_, rfl⟩)
    have c2 : (x + 1).toInt = x.toInt + 1 := ti_add rfl ti_1 (by omega) (by omega)
    omega
  · intro x D' hI
    obtain ⟨⟨i0, i1, i2⟩, -⟩ := hI
    omega
theorem Wp.up2 {D : ADD} (B : Int) (hB : B ≤ 100000) {F : (σ → Int32 → ADD → Option (ρ × ADD)) → σ → Int32 → ADD → Option (ρ × ADD)} {z : σ → Int32 → ADD → Option (ρ × ADD)}
    (hF : ∀ (g : σ → Int32 → ADD → Option (ρ × ADD)) (a : σ) (x : Int32), 0 ≤ x.toInt → (x.toInt < B → ∀ b, Wp (g b (x + 1) D) Q) → Wp (F g a x D) Q) {a : σ} {x0 : Int32} (h0 : 0 ≤ x0.toInt) (h1 : x0.toInt ≤ 100000) : Wp (aFix aFuel F z a x0 D) Q := by
  refine Wp.fix2 (fun n a x D' => (0 ≤ x.toInt ∧ x.toInt ≤ 100001 ∧ 100001 - x.toInt < (n : Int)) ∧ D' = D) ?_ ?_ aFuel 1000000 _ _ _ (Nat.le_refl _) ⟨⟨h0, by omega, by omega⟩, rfl⟩
  · intro n g hg a x D' hI
    obtain ⟨⟨i0, i1, i2⟩, i3⟩ := hI
    subst i3
    refine hF g a x i0 (fun hx b => hg _ _ _ ⟨?_, rfl⟩)
    have c2 : (x + 1).toInt = x.toInt + 1 := ti_add rfl ti_1 (by omega) (by omega)
    omega
  · intro a x D' hI
    obtain ⟨⟨i0, i1, i2⟩, -⟩ := hI
    omega
theorem Wp.up3 {D : ADD} (B : Int) (hB : B ≤ 100000) {F : (σ → τ → Int32 → ADD → Option (ρ × ADD)) → σ → τ → Int32 → ADD → Option (ρ × ADD)} {z : σ → τ → Int32 → ADD → Option (ρ × ADD)}
    (hF : ∀ (g : σ → τ → Int32 → ADD → Option (ρ × ADD)) (a : σ) (b : τ) (x : Int32), 0 ≤ x.toInt → (x.toInt < B → ∀ c d, Wp (g c d (x + 1) D) Q) → Wp (F g a b x D) Q) {a : σ} {b : τ} {x0 : Int32} (h0 : 0 ≤ x0.toInt) (h1 : x0.toInt ≤ 100000) : Wp (aFix aFuel F z a b x0 D) Q := by
  refine Wp.fix3 (fun n a b x D' => (0 ≤ x.toInt ∧ x.toInt ≤ 100001 ∧ 100001 - x.toInt < (n : Int)) ∧ D' = D) ?_ ?_ aFuel 1000000 _ _ _ _ (Nat.le_refl _) ⟨⟨h0, by omega, by omega⟩, rfl⟩
  · intro n g hg a b x D' hI
    obtain ⟨⟨i0, i1, i2⟩, i3⟩ := hI
    subst i3
    refine hF g a b x i0 (fun hx c d => hg _ _ _ _ ⟨?_, rfl⟩)
    have c2 : (x + 1).toInt = x.toInt + 1 := ti_add rfl ti_1 (by omega) (by omega)
    omega
  · intro a b x D' hI
    obtain ⟨⟨i0, i1, i2⟩, -⟩ := hI
    omega
end TT
section XS
variable {D : ADD} (hm : (D.1 43 0).toInt ≤ 32)
theorem eq_Pu {ρ : Type} {f : Option (ρ × ADD)} {D : ADD} {v : ρ} (h : Wp f (fun x D1 => D1 = D ∧ x = v)) : f = some (v, D) := by
  obtain ⟨x, D1, e, rfl, rfl⟩ := h
  exact e
theorem eX_scoreBy (u : Int32) (hm : (D.1 43 0).toInt ≤ 32) : fX4_scoreBy u D = some (u * D.1 43 0 - 4 * sI (fun i => offX D (nI i) u) 0 0 (mnX D), D) := by
  refine eq_Pu ?_
  unfold fX4_scoreBy
  refine Wp.lets (Wp.lets (eX_sum D (f := fun i => offX D (nI i) u) (by omega) (fun g acc x h0 h1 k => ?_) (fun g x h => ?_)))
  · unfold lX4_scoreBy_4
    refine Wp.neg (fun q => by have := Int32.le_iff_toInt_le.mp q; omega) (Wp.bindE (eX_offOf _ _ _) (Wp.lets (Wp.lets ?_)))
    rw [← nI_val h0] at k
    exact k
  · unfold lX4_scoreBy_4
    exact Wp.pos (Int32.le_iff_toInt_le.mpr h) (Wp.ret ⟨rfl, rfl⟩)
abbrev neaX (D : ADD) (i u : Int32) : Prop := (8 * offX D i u) ≤ u
theorem eX_nearBy (u : Int32) (hm : (D.1 43 0).toInt ≤ 32) : fX4_nearBy u D = some (sI (fun i => if neaX D (nI i) u then 1 else 0) 0 0 (mnX D), D) := by
  refine eq_Pu ?_
  unfold fX4_nearBy
  refine Wp.lets (Wp.lets (eX_sum D (f := fun i => if neaX D (nI i) u then 1 else 0) (by omega) (fun g acc x h0 h1 k => ?_) (fun g x h => ?_)))
  · unfold lX4_nearBy_4
    rw [← nI_val h0] at k
    refine Wp.neg (fun q => by have := Int32.le_iff_toInt_le.mp q; omega) (Wp.bindE (eX_isNear _ _ _) (Wp.lets ?_))
    by_cases hn : neaX D x u
    · rw [if_pos hn] at k ⊢
      exact Wp.neg (by decide) (Wp.lets (Wp.lets k))
    · rw [if_neg hn] at k ⊢
      exact Wp.pos rfl (Wp.lets (Wp.lets k))
  · unfold lX4_nearBy_4
    exact Wp.pos (Int32.le_iff_toInt_le.mpr h) (Wp.ret ⟨rfl, rfl⟩)
theorem eX_marksNear (u : Int32) (hm : (D.1 43 0).toInt ≤ 32) : fX4_marksNear u D = some (sI (fun i => if 0 < mrkX D (nI i) ∧ neaX D (nI i) u then 1 else 0) 0 0 (mnX D), D) := by
  refine eq_Pu ?_
  unfold fX4_marksNear
  refine Wp.lets (Wp.lets (eX_sum D (f := fun i => if 0 < mrkX D (nI i) ∧ neaX D (nI i) u then 1 else 0) (by omega) (fun g acc x h0 h1 k => ?_) (fun g x h => ?_)))
  · unfold lX4_marksNear_4
    rw [← nI_val h0] at k
    refine Wp.neg (fun q => by have := Int32.le_iff_toInt_le.mp q; omega) (Wp.bindE (eX_markOf _ _) (Wp.lets (Wp.lets (Wp.ite (fun h2 => ?_) (fun h2 => Wp.bindE (eX_isNear _ _ _) ?_)))))
    · rw [if_neg (fun q => absurd q.1 (Int32.not_lt.mpr h2))] at k
      exact Wp.lets (Wp.lets k)
    · by_cases hn : neaX D x u
      · rw [if_pos ⟨Int32.not_le.mp h2, hn⟩] at k
        rw [if_pos hn]
        exact Wp.neg (by decide) (Wp.lets (Wp.lets k))
      · rw [if_neg (fun q => hn q.2)] at k
        rw [if_neg hn]
        exact Wp.pos rfl (Wp.lets (Wp.lets k))
  · unfold lX4_marksNear_4
    exact Wp.pos (Int32.le_iff_toInt_le.mpr h) (Wp.ret ⟨rfl, rfl⟩)
theorem eX_shortsBy (u : Int32) (hu : u.toInt ≤ 100000) (hm : (D.1 43 0).toInt ≤ 32) : fX4_shortsBy u D = some (sI (fun i => if u < 100 * shoX D (nI i) u then 1 else 0) 0 0 (mnX D), D) := by
  refine eq_Pu ?_
  unfold fX4_shortsBy
  refine Wp.lets (Wp.lets (eX_sum D (f := fun i => if u < 100 * shoX D (nI i) u then 1 else 0) (by omega) (fun g acc x h0 h1 k => ?_) (fun g x h => ?_)))
  · unfold lX4_shortsBy_4
    rw [← nI_val h0] at k
    refine Wp.neg (fun q => by have := Int32.le_iff_toInt_le.mp q; omega) (Wp.bindE (eX_shortOf _ _ _ hu) (Wp.lets (Wp.ite (fun h2 => ?_) (fun h2 => ?_))))
    · rw [if_neg (Int32.not_lt.mpr h2)] at k
      exact Wp.lets (Wp.lets k)
    · rw [if_pos (Int32.not_le.mp h2)] at k
      exact Wp.lets (Wp.lets k)
  · unfold lX4_shortsBy_4
    exact Wp.pos (Int32.le_iff_toInt_le.mpr h) (Wp.ret ⟨rfl, rfl⟩)
theorem lt_of_nle {a b : Int32} (h : ¬ a ≤ b) : b.toInt < a.toInt := Int32.lt_iff_toInt_lt.mp (Int32.not_le.mp h)
theorem tX4_townsNear {u : Int32} (hm : (D.1 43 0).toInt ≤ 32) : Pu (fX4_townsNear u D) D := by
  unfold fX4_townsNear
  refine Wp.lets (Wp.lets (Wp.up2 (D := D) 32 (by decide) (fun g a x h0 k => ?_) (by decide) (by decide)))
  unfold lX4_townsNear_4
  refine Wp.ite (fun _ => Wp.bind tJ_bits (fun _ D1 q => Wp.ret q)) (fun h => Wp.bindE (eX_isNear _ _ _) (Wp.lets ?_))
  have h := lt_of_nle h
  refine Wp.ite (fun _ => Wp.lets (Wp.lets (k (by omega) _))) (fun _ => Wp.bindE (eX_townOf _ _) (Wp.lets (Wp.lets (k (by omega) _))))
theorem tX4_first {t u : Int32} (hm : (D.1 43 0).toInt ≤ 32) : Pu (fX4_firstWithTimes t u D) D := by
  unfold fX4_firstWithTimes
  refine Wp.lets (Wp.lets (Wp.up1 (D := D) 32 (by decide) (fun g x h0 k => ?_) (by decide) (by decide)))
  unfold lX4_firstWithTimes_2
  refine Wp.ite (fun _ => Wp.ret rfl) (fun h => Wp.bindE (eX_timesOf _ _ _) (Wp.ite (fun _ => Wp.ret rfl) (fun _ => Wp.lets (k ?_))))
  have h := lt_of_nle h
  omega
theorem tX4_doublesBy {u : Int32} (hm : (D.1 43 0).toInt ≤ 32) : Pu (fX4_doublesBy u D) D := by
  unfold fX4_doublesBy
  refine Wp.lets (Wp.lets (Wp.up2 (D := D) 32 (by decide) (fun g a x h0 k => ?_) (by decide) (by decide)))
  unfold lX4_doublesBy_4
  refine Wp.ite (fun _ => Wp.ret rfl) (fun h => Wp.bindE (eX_timesOf _ _ _) (Wp.bind (tX4_first hm) (fun y D1 q => ?_)))
  subst q
  have h := lt_of_nle h
  exact Wp.lets (Wp.ite (fun _ => Wp.lets (Wp.lets (k (by omega) _))) (fun _ => Wp.lets (Wp.lets (k (by omega) _))))
theorem tX4_greatest {u : Int32} (hm : (D.1 43 0).toInt ≤ 32) : Pu (fX4_greatestTimes u D) D := by
  unfold fX4_greatestTimes
  refine Wp.lets (Wp.lets (Wp.up2 (D := D) 32 (by decide) (fun g a x h0 k => ?_) (by decide) (by decide)))
  unfold lX4_greatestTimes_4
  refine Wp.ite (fun _ => Wp.ret rfl) (fun h => Wp.bindE (eX_timesOf _ _ _) (Wp.lets (Wp.lets (k ?_ _))))
  have h := lt_of_nle h
  omega
theorem tX4_lacksBy {u : Int32} (hm : (D.1 43 0).toInt ≤ 32) : Pu (fX4_lacksBy u D) D := by
  unfold fX4_lacksBy
  refine Wp.bind (tX4_greatest hm) (fun y D1 q => ?_)
  subst q
  refine Wp.lets (Wp.lets (Wp.up2 (D := D1) 6 (by decide) (fun g a x h0 k => ?_) (by decide) (by decide)))
  unfold lX4_lacksBy_11
  have e5 : (5 : Int32).toInt = 5 := by decide
  refine Wp.ilt (fun _ => Wp.ret rfl) (fun h => Wp.ite (fun _ => Wp.ret rfl) (fun _ => Wp.bind (tX4_first hm) (fun y D2 q => ?_)))
  subst q
  exact Wp.lets (Wp.ite (fun _ => Wp.lets (Wp.lets (k (by omega) _))) (fun _ => Wp.lets (Wp.lets (k (by omega) _))))
theorem tX4_indexOf {s : Int32} (hm : (D.1 43 0).toInt ≤ 32) : Wp (fX4_indexOf s D) (fun x D1 => D1 = D ∧ (x = -1 ∨ (0 ≤ x.toInt ∧ x.toInt < (D.1 43 0).toInt))) := by
  unfold fX4_indexOf
  refine Wp.lets (Wp.lets (Wp.up1 (D := D) 32 (by decide) (fun g x h0 k => ?_) (by decide) (by decide)))
  unfold lX4_indexOf_2
  refine Wp.ite (fun _ => Wp.ret ⟨rfl, Or.inl rfl⟩) (fun h => Wp.bindE (eX_numberOf _ _) ?_)
  have h := lt_of_nle h
  exact Wp.ite (fun _ => Wp.ret ⟨rfl, Or.inr ⟨h0, h⟩⟩) (fun _ => Wp.lets (k (by omega)))
theorem tX4_firstIn {b : Int64} : Pu (fX4_firstIn b D) D := by
  unfold fX4_firstIn
  refine Wp.lets (Wp.lets (Wp.up1 (D := D) 32 (by decide) (fun g x h0 k => ?_) (by decide) (by decide)))
  unfold lX4_firstIn_2
  have e32 : (32 : Int32).toInt = 32 := by decide
  exact Wp.ile (fun _ => Wp.ret rfl) (fun h => Wp.ite (fun _ => Wp.ret rfl) (fun _ => Wp.lets (k (by omega))))
theorem tX4_areTwins {i j d : Int32} : Pu (fX4_areTwins i j d D) D := by
  unfold fX4_areTwins
  refine Wp.bindE (eX_numberOf _ _) (Wp.bindE (eX_numberOf _ _) (Wp.bindE (eX_known _ _ _) (Wp.bindE (eX_known _ _ _) (Wp.lets (Wp.lets (Wp.ite (fun _ => Wp.bindE (eX_known _ _ _) (Wp.bindE (eX_known _ _ _) (Wp.ite (fun _ => Wp.bindE (eX_known _ _ _) (Wp.bindE (eX_known _ _ _) (Wp.ite (fun _ => Wp.bindE (eX_known _ _ _) (Wp.bindE (eX_known _ _ _) (Wp.ite (fun _ => ?_) (fun _ => ?_)))) (fun _ => ?_)))) (fun _ => ?_)))) (fun _ => ?_))))))) <;>
    first | exact Wp.z (Or.inl rfl) (Wp.ret rfl) | exact Wp.z (Or.inr rfl) (Wp.ret rfl)
theorem tX4_heap {i d : Int32} (hm : (D.1 43 0).toInt ≤ 32) : Pu (fX4_leastOfHeap i d D) D := by
  unfold fX4_leastOfHeap
  refine Wp.lets (Wp.letQ (fun Q j => ∀ x, Wp (j x D) Q) (fun x => ?_) (fun j K => Wp.lets ?_))
  · refine Wp.bind tX4_firstIn (fun y D1 q => ?_)
    subst q
    exact Wp.bindE (eX_numberOf _ _) (Wp.ret rfl)
  · refine Wp.up3 (D := D) 32 (by decide) (fun g a b x h0 k => ?_) (by decide) (by decide)
    unfold lX4_leastOfHeap_11
    refine Wp.ite (fun _ => K _) (fun h => Wp.bind tX4_firstIn (fun y D1 q => ?_))
    subst q
    have h := lt_of_nle h
    refine Wp.ite (fun _ => K _) (fun _ => Wp.lets (Wp.letQ (fun Q j => ∀ x, Wp (j x D1) Q) (fun y => Wp.lets (k (by omega) _ _)) (fun j2 K2 => Wp.lets ?_)))
    refine Wp.up2 (D := D1) 32 (by decide) (fun g a x h0 k => ?_) (by decide) (by decide)
    unfold lX4_leastOfHeap_55
    refine Wp.ite (fun _ => K2 _) (fun h => Wp.bind tX4_areTwins (fun y D2 q => ?_))
    subst q
    have h := lt_of_nle h
    exact Wp.lets (Wp.ite (fun _ => Wp.lets (Wp.lets (k (by omega) _))) (fun _ => Wp.lets (Wp.lets (k (by omega) _))))
theorem tX7_sumOfTwo {u v : Int32} (hm : (D.1 43 0).toInt ≤ 32) : Pu (fX7_sumOfTwo u v D) D := by
  unfold fX7_sumOfTwo
  refine Wp.lets (Wp.lets (Wp.up2 (D := D) 32 (by decide) (fun g a x h0 k => ?_) (by decide) (by decide)))
  unfold lX7_sumOfTwo_6
  refine Wp.ite (fun _ => Wp.ret rfl) (fun h => Wp.bindE (eX_offOf _ _ _) (Wp.bindE (eX_offOf _ _ _) (Wp.lets (Wp.lets (k ?_ _)))))
  have h := lt_of_nle h
  omega
end XS
end
section
/-! the class: the rest of the search, odds -/
section F4
variable {ρ σ τ υ κ : Type} {Q : ρ → ADD → Prop}
theorem Wp.fix4 {F : (σ → τ → υ → κ → ADD → Option (ρ × ADD)) → σ → τ → υ → κ → ADD → Option (ρ × ADD)} {z : σ → τ → υ → κ → ADD → Option (ρ × ADD)} (I : Nat → σ → τ → υ → κ → ADD → Prop) (h : ∀ n g, (∀ x y w v D, I n x y w v D → Wp (g x y w v D) Q) → ∀ x y w v D, I (n + 1) x y w v D → Wp (F g x y w v D) Q) (h0 : ∀ x y w v D, ¬ I 0 x y w v D) : ∀ m n x y w v D, n ≤ m → I n x y w v D → Wp (aFix m F z x y w v D) Q
  | 0, n, x, y, w, v, D, hn, hI => by
    have e : n = 0 := by omega
    rw [e] at hI
    exact absurd hI (h0 x y w v D)
  | m + 1, 0, x, y, w, v, D, hn, hI => absurd hI (h0 x y w v D)
  | m + 1, n + 1, x, y, w, v, D, hn, hI => h n (aFix m F z) (fun x' y' w' v' D' hI' => Wp.fix4 I h h0 m n x' y' w' v' D' (by omega) hI') x y w v D hI
theorem Wp.up4 {D : ADD} (B : Int) (hB : B ≤ 100000) {F : (σ → τ → υ → Int32 → ADD → Option (ρ × ADD)) → σ → τ → υ → Int32 → ADD → Option (ρ × ADD)} {z : σ → τ → υ → Int32 → ADD → Option (ρ × ADD)} (A : Int) (hA : 0 ≤ A)
    (hF : ∀ (g : σ → τ → υ → Int32 → ADD → Option (ρ × ADD)) (a : σ) (b : τ) (c : υ) (x : Int32), A ≤ x.toInt → (x.toInt < B → ∀ a b c, Wp (g a b c (x + 1) D) Q) → Wp (F g a b c x D) Q) {a : σ} {b : τ} {c : υ} {x0 : Int32} (h0 : A ≤ x0.toInt) (h1 : x0.toInt ≤ 100000) : Wp (aFix aFuel F z a b c x0 D) Q := by
  refine Wp.fix4 (fun n a b c x D' => (A ≤ x.toInt ∧ x.toInt ≤ 100001 ∧ 100001 - x.toInt < (n : Int)) ∧ D' = D) ?_ ?_ aFuel 1000000 _ _ _ _ _ (Nat.le_refl _) ⟨⟨h0, by omega, by omega⟩, rfl⟩
  · intro n g hg a b c x D' hI
    obtain ⟨⟨i0, i1, i2⟩, i3⟩ := hI
    subst i3
    refine hF g a b c x i0 (fun hx a b c => hg _ _ _ _ _ ⟨?_, rfl⟩)
    have c2 : (x + 1).toInt = x.toInt + 1 := ti_add rfl ti_1 (by omega) (by omega)
    omega
  · intro a b c x D' hI
    obtain ⟨⟨i0, i1, i2⟩, -⟩ := hI
    omega
end F4
section XQ
variable {D : ADD}
theorem tX7_bestUnit (h : SR D) : Pu (fX7_bestUnit D) D := by
  obtain ⟨h0, h1, h2, h3⟩ := h
  unfold fX7_bestUnit
  have e : (D.1 50 0 + 1).toInt = (D.1 50 0).toInt + 1 := ti_add rfl ti_1 (by omega) (by omega)
  refine Wp.lets (Wp.lets (Wp.lets (Wp.lets (Wp.up2 (D := D) 3000 (by decide) (fun g a x i0 k => ?_) (by omega) (by omega)))))
  unfold lX7_bestUnit_12
  refine Wp.ilt (fun _ => Wp.ret rfl) (fun h => Wp.bind (tX7_compare h0 h1) (fun y D1 q => ?_))
  subst q
  exact Wp.lets (Wp.ite (fun _ => Wp.lets (k (by omega) _)) (fun _ => Wp.lets (k (by omega) _)))
theorem tX7_peakAt {a : Int32} (h : SR D) : Wp (fX7_peakAt a D) (fun _ D1 => (∀ c, c ≠ 50 → c ≠ 53 → D1.1 c = D.1 c) ∧ D1.2 = D.2) := by
  unfold fX7_peakAt
  refine Wp.bind (tX7_listPeaks h) (fun _ D1 q => Wp.lets (Wp.lets ?_))
  have e0 := q.2.1 0 (by decide)
  refine Wp.up1 (D := D1) 301 (by decide) (fun g x i0 k => ?_) (by decide) (by decide)
  unfold lX7_peakAt_6
  have e : (Int32.ofNat 301).toInt = 301 := by decide
  refine Wp.ile (fun _ => Wp.ret ⟨q.1, q.2.2⟩) (fun _ => Wp.ile (fun _ => Wp.ret ⟨q.1, q.2.2⟩) (fun h3 => Wp.idx (i_in i0 (by omega)) (Wp.bind (tX7_betterPeaks (by rw [e0]; exact h.1) (by rw [e0]; exact h.2.1)) (fun y D2 q2 => ?_))))
  subst q2
  exact Wp.ite (fun _ => Wp.idx (i_in i0 (by omega)) (Wp.ret ⟨q.1, q.2.2⟩)) (fun _ => Wp.lets (k (by omega)))
theorem tX7_setAside {i : Int32} (h : SR D) : Wp (fX7_setAside i D) (fun _ D1 => (∀ c, c ≠ 52 → D1.1 c = D.1 c) ∧ D1.2 = D.2) := by
  obtain ⟨h0, h1, h2, h3⟩ := h
  unfold fX7_setAside
  refine Wp.lets (Wp.lets (Wp.lets ?_))
  refine Wp.fix1 (fun n x D' => ((D.1 50 0).toInt ≤ x.toInt ∧ x.toInt ≤ (D.1 50 1).toInt + 1 ∧ (D.1 50 1).toInt + 1 - x.toInt < (n : Int)) ∧ (∀ c, c ≠ 52 → D'.1 c = D.1 c) ∧ D'.2 = D.2) ?_ ?_ aFuel 1000000 _ _ (Nat.le_refl _) ⟨⟨by omega, by omega, by omega⟩, fun _ _ => rfl, rfl⟩
  · intro n g hg x D' hI
    obtain ⟨⟨i0, i1, i2⟩, i3, i4⟩ := hI
    have c2 : (x + 1).toInt = x.toInt + 1 := ti_add rfl ti_1 (by omega) (by omega)
    have c3 : (x - D.1 50 0).toInt = x.toInt - (D.1 50 0).toInt := ti_sub rfl rfl (by omega) (by omega)
    unfold lX7_setAside_5
    rw [i3 50 (by decide)]
    refine Wp.ilt (fun _ => Wp.ret ⟨i3, i4⟩) (fun k => Wp.idx (i_in (by omega) (by omega)) (Wp.bindE (eX_offOf _ _ _) (Wp.idx (i_in (by omega) (by omega)) (Wp.lets (Wp.lets (hg _ _ ⟨⟨by omega, by omega, by omega⟩, fun c u => ?_, i4⟩))))))
    funext z
    simp [aSI, u, i3 c u]
  · intro x D' hI
    obtain ⟨⟨i0, i1, i2⟩, -⟩ := hI
    omega
theorem tX7_bestIf {i p : Int32} (h : SR D) : Pu (fX7_bestIf i p D) D := by
  obtain ⟨h0, h1, h2, h3⟩ := h
  unfold fX7_bestIf
  refine Wp.lets (Wp.lets (Wp.lets (Wp.lets ?_)))
  refine Wp.fix3 (fun n a b x D' => ((D.1 50 0).toInt ≤ x.toInt ∧ x.toInt ≤ (D.1 50 1).toInt + 1 ∧ (D.1 50 1).toInt + 1 - x.toInt < (n : Int)) ∧ D' = D) ?_ ?_ aFuel 1000000 _ _ _ _ (Nat.le_refl _) ⟨⟨by omega, by omega, by omega⟩, rfl⟩
  · intro n g hg a b x D' hI
    obtain ⟨⟨i0, i1, i2⟩, i3⟩ := hI
    subst i3
    have c2 : (x + 1).toInt = x.toInt + 1 := ti_add rfl ti_1 (by omega) (by omega)
    have c3 : (x - D'.1 50 0).toInt = x.toInt - (D'.1 50 0).toInt := ti_sub rfl rfl (by omega) (by omega)
    unfold lX7_bestIf_15
    have go : ∀ a b, x.toInt ≤ (D'.1 50 1).toInt → Wp (g a b (x + 1) D') (fun _ D1 => D1 = D') := fun a b k => hg _ _ _ _ ⟨⟨by omega, by omega, by omega⟩, rfl⟩
    refine Wp.ilt (fun _ => Wp.ret rfl) (fun k => Wp.idx (i_in (by omega) (by omega)) (Wp.bindE (eX_offIf _ _ _ _) (Wp.lets (Wp.lets (Wp.lets (Wp.ite (fun _ => Wp.lets (go _ _ k)) (fun _ => Wp.ite (fun _ => Wp.lets (go _ _ k)) (fun _ => Wp.lets (go _ _ k)))))))))
  · intro a b x D' hI
    obtain ⟨⟨i0, i1, i2⟩, -⟩ := hI
    omega
theorem SR.fr {D D1 : ADD} (h : SR D) (h0 : D1.1 50 0 = D.1 50 0) (h1 : D1.1 50 1 = D.1 50 1) : SR D1 := by
  unfold SR
  rw [h0, h1]
  exact h
theorem tX7_worthOf {i : Int32} (h : SR D) : Wp (fX7_worthOf i D) (fun _ D1 => (∀ c, c ≠ 52 → D1.1 c = D.1 c) ∧ D1.2 = D.2) := by
  unfold fX7_worthOf
  have e32 : (32 : Int32).toInt = 32 := by decide
  refine Wp.lets (Wp.ilt (fun _ => Wp.ret ⟨fun _ _ => rfl, rfl⟩) (fun h0 => Wp.ilt (fun h1 => ?_) (fun _ => Wp.ret ⟨fun _ _ => rfl, rfl⟩)))
  rw [ti_0] at h0
  refine Wp.idx (i_in h0 (by omega)) (Wp.lets (Wp.idx (i_in h0 (by omega)) (Wp.lets (Wp.ite (fun _ => Wp.ret ⟨fun _ _ => rfl, rfl⟩) (fun _ => Wp.bind (tX7_setAside h) (fun _ D2 q => ?_))))))
  have s2 : SR D2 := h.fr (by rw [q.1 50 (by decide)]) (by rw [q.1 50 (by decide)])
  refine Wp.bind (tX7_bestIf s2) (fun _ D3 q3 => ?_)
  subst q3
  refine Wp.bind (tX7_bestIf s2) (fun _ D4 q4 => ?_)
  subst q4
  exact Wp.ret q
theorem tX7_sumOfListed {m a u v : Int32} (ha : 0 ≤ a.toInt) : Pu (fX7_sumOfListed m a u v D) D := by
  unfold fX7_sumOfListed
  have e40 : (40 : Int32).toInt = 40 := by decide
  have e32 : (32 : Int32).toInt = 32 := by decide
  have tu := ti_hi u
  have tv := ti_hi v
  refine Wp.lets (Wp.ilt (fun _ => Wp.ret rfl) (fun h1 => Wp.ilt (fun _ => Wp.ret rfl) (fun h2 => Wp.ilt (fun _ => Wp.ret rfl) (fun h3 => Wp.ile (fun h4 => ?_) (fun _ => Wp.ret rfl)))))
  have eu : (u - a).toInt = u.toInt - a.toInt := ti_sub rfl rfl (by omega) (by omega)
  have ev : (v - a).toInt = v.toInt - a.toInt := ti_sub rfl rfl (by omega) (by omega)
  have eu2 : ((u - a) * 32).toInt = (u.toInt - a.toInt) * 32 := ti_mul eu e32 (by omega) (by omega)
  have ev2 : ((v - a) * 32).toInt = (v.toInt - a.toInt) * 32 := ti_mul ev e32 (by omega) (by omega)
  refine Wp.lets (Wp.lets (Wp.lets (Wp.lets (Wp.up2 (D := D) 32 (by decide) (fun g b x i0 k => ?_) (by decide) (by decide)))))
  unfold lX7_sumOfListed_53
  refine Wp.ite (fun _ => Wp.ret rfl) (fun _ => Wp.ile (fun _ => Wp.ret rfl) (fun h5 => ?_))
  have e1 : ((u - a) * 32 + x).toInt = (u.toInt - a.toInt) * 32 + x.toInt := ti_add eu2 rfl (by omega) (by omega)
  have e2 : ((v - a) * 32 + x).toInt = (v.toInt - a.toInt) * 32 + x.toInt := ti_add ev2 rfl (by omega) (by omega)
  exact Wp.idx (i_in (by omega) (by omega)) (Wp.idx (i_in (by omega) (by omega)) (Wp.lets (Wp.lets (k (by omega) _))))
theorem tX7_listOffs {a b : Int32} (ha : 0 ≤ a.toInt) (hb : b.toInt ≤ 5000) (hab : a.toInt ≤ b.toInt) : Wp (fX7_listOffs a b D) (fun _ D1 => (∀ c, c ≠ 54 → D1.1 c = D.1 c) ∧ D1.2 = D.2) := by
  unfold fX7_listOffs
  have e40 : (40 : Int32).toInt = 40 := by decide
  have e32 : (32 : Int32).toInt = 32 := by decide
  refine Wp.lets (Wp.lets ?_)
  refine Wp.fix1 (fun n x D' => (a.toInt ≤ x.toInt ∧ x.toInt ≤ b.toInt + 1 ∧ b.toInt + 1 - x.toInt < (n : Int)) ∧ (∀ c, c ≠ 54 → D'.1 c = D.1 c) ∧ D'.2 = D.2) ?_ ?_ aFuel 1000000 _ _ (Nat.le_refl _) ⟨⟨by omega, by omega, by omega⟩, fun _ _ => rfl, rfl⟩
  · intro n g hg x D' hI
    obtain ⟨⟨i0, i1, i2⟩, i3, i4⟩ := hI
    have c2 : (x + 1).toInt = x.toInt + 1 := ti_add rfl ti_1 (by omega) (by omega)
    have c3 : (x - a).toInt = x.toInt - a.toInt := ti_sub rfl rfl (by omega) (by omega)
    unfold lX7_listOffs_3
    refine Wp.ilt (fun _ => Wp.ret ⟨i3, i4⟩) (fun k => Wp.ilt (fun _ => Wp.ret ⟨i3, i4⟩) (fun k2 => ?_))
    have c4 : ((x - a) * 32).toInt = (x.toInt - a.toInt) * 32 := ti_mul c3 e32 (by omega) (by omega)
    refine Wp.letQ (fun Q j => ∀ D2 : ADD, (∀ c, c ≠ 54 → D2.1 c = D.1 c) → D2.2 = D.2 → Wp (j D2) Q) (fun D2 f1 f2 => Wp.lets (hg _ _ ⟨⟨by omega, by omega, by omega⟩, f1, f2⟩)) (fun j K => Wp.lets ?_)
    refine Wp.fix1 (fun n y D2 => (0 ≤ y.toInt ∧ y.toInt ≤ 32 ∧ 32 - y.toInt < (n : Int)) ∧ (∀ c, c ≠ 54 → D2.1 c = D.1 c) ∧ D2.2 = D.2) ?_ ?_ aFuel 1000000 _ _ (Nat.le_refl _) ⟨⟨by decide, by decide, by decide⟩, i3, i4⟩
    · intro n g2 hg2 y D2 hI2
      obtain ⟨⟨j0, j1, j2⟩, j3, j4⟩ := hI2
      unfold lX7_listOffs_21
      refine Wp.ite (fun _ => K D2 j3 j4) (fun _ => Wp.ile (fun _ => K D2 j3 j4) (fun k3 => Wp.bindE (eX_offOf _ _ _) ?_))
      have c5 : ((x - a) * 32 + y).toInt = (x.toInt - a.toInt) * 32 + y.toInt := ti_add c4 rfl (by omega) (by omega)
      have c6 : (y + 1).toInt = y.toInt + 1 := ti_add rfl ti_1 (by omega) (by omega)
      refine Wp.idx (i_in (by omega) (by omega)) (Wp.lets (Wp.lets (hg2 _ _ ⟨⟨by omega, by omega, by omega⟩, fun c u => ?_, j4⟩)))
      funext z
      simp [aSI, u, j3 c u]
    · intro y D2 hI2
      obtain ⟨⟨j0, j1, j2⟩, -⟩ := hI2
      omega
  · intro x D' hI
    obtain ⟨⟨i0, i1, i2⟩, -⟩ := hI
    omega
theorem tX7_bestPair {a b : Int32} (ha : 0 ≤ a.toInt) (hb : b.toInt ≤ 5000) (hab : a.toInt ≤ b.toInt) : Wp (fX7_bestPair a b D) (fun _ D1 => (∀ c, c ≠ 54 → D1.1 c = D.1 c) ∧ D1.2 = D.2) := by
  unfold fX7_bestPair
  refine Wp.bind (tX7_listOffs ha hb hab) (fun _ D1 q => Wp.lets (Wp.bind (tX7_sumOfListed ha) (fun y D2 q2 => ?_)))
  subst q2
  have e2 : (a + 2).toInt = a.toInt + 2 := ti_add rfl (by decide) (by omega) (by omega)
  refine Wp.lets (Wp.lets (Wp.lets (Wp.up4 (D := D2) 6000 (by decide) 0 (by decide) (fun g p r s x i0 k => ?_) (by omega) (by omega))))
  unfold lX7_bestPair_35
  refine Wp.ilt (fun _ => Wp.ret q) (fun h => Wp.letQ (fun Q j => ∀ p r s, Wp (j p r s D2) Q) (fun p r s => Wp.lets (k (by omega) _ _ _)) (fun j K => Wp.lets ?_))
  refine Wp.up4 (D := D2) 6000 (by decide) 0 (by decide) (fun g p r s y i0 k2 => ?_) ha (by omega)
  unfold lX7_bestPair_44
  refine Wp.ile (fun _ => K _ _ _) (fun h2 => Wp.bind (tX7_sumOfListed ha) (fun z D3 q3 => ?_))
  subst q3
  exact Wp.lets (Wp.ite (fun _ => Wp.lets (k2 (by omega) _ _ _)) (fun _ => Wp.lets (k2 (by omega) _ _ _)))
theorem tX10_simplest {u v e : Int32} : Pu (fX10_simplestRate u v e D) D := by
  unfold fX10_simplestRate
  have e24 : (24 : Int32).toInt = 24 := by decide
  have e12 : (12 : Int32).toInt = 12 := by decide
  refine Wp.lets (Wp.lets (Wp.up1 (D := D) 25 (by decide) (fun g x i0 k => ?_) (by decide) (by decide)))
  unfold lX10_simplestRate_2
  refine Wp.ilt (fun _ => Wp.ret rfl) (fun h => Wp.lets (Wp.lets (Wp.letQ (fun Q j => Wp (j D) Q) (Wp.lets (k (by omega))) (fun j K => Wp.lets ?_))))
  have c1 : (x - 12).toInt = x.toInt - 12 := ti_sub rfl e12 (by omega) (by omega)
  have m1 : (aMax 1 (x - 12)).toInt = max 1 (x.toInt - 12) := by rw [ti_max, ti_1, c1]
  have m2 : (aMin 12 (x - 1)).toInt ≤ 12 := by rw [ti_min, e12]; omega
  refine Wp.up1 (D := D) 13 (by decide) (fun g y j0 k2 => ?_) (by omega) (by omega)
  unfold lX10_simplestRate_32
  exact Wp.ilt (fun _ => K) (fun h2 => Wp.lets (Wp.ite (fun _ => Wp.lets (k2 (by omega))) (fun _ => Wp.ret rfl)))
theorem i64_ne {a : Int32} (h : a.toInt ≠ 0) : a.toInt64 ≠ 0 := by
  intro e
  have e2 : a.toInt64.toInt = a.toInt := Int32.toInt_toInt64 a
  rw [e] at e2
  exact h (by rw [← e2]; decide)
/-- chances behind one more stone -/
def drF (f : Nat → Int64) (one of : Int32) (j : Nat) : Int64 := if j = 0 then (f 0 * (of - one).toInt64) / of.toInt64 else (f j * (of - one).toInt64 + f (j - 1) * one.toInt64) / of.toInt64
theorem tX3_draw {one of : Int32} (ho : 1 ≤ of.toInt) : Wp (fX3_draw one of D) (fun _ D1 => D1.1 = D.1 ∧ ∀ j, j ≤ 32 → D1.2 56 j = drF (D.2 56) one of j) := by
  unfold fX3_draw
  have ne := i64_ne (a := of) (by omega)
  refine Wp.pos (Int32.le_iff_toInt_le.mpr (by rw [ti_1]; exact ho)) (Wp.lets (Wp.lets ?_))
  refine Wp.fix1 (fun n x D' => (0 ≤ x.toInt ∧ x.toInt ≤ 32 ∧ x.toInt < (n : Int)) ∧ D'.1 = D.1 ∧ ∀ j : Nat, j ≤ 32 → D'.2 56 j = if x.toInt < (j : Int) then drF (D.2 56) one of j else D.2 56 j) ?_ ?_ aFuel 1000000 _ _ (Nat.le_refl _) ⟨⟨by decide, by decide, by decide⟩, rfl, fun j hj => by rw [show (32 : Int32).toInt = 32 by decide, if_neg (by omega)]⟩
  · intro n g hg x D' hI
    obtain ⟨⟨i0, i1, i2⟩, i3, i4⟩ := hI
    have ex := cl_i i0
    unfold lX3_draw_9
    refine Wp.ile (fun h => ?_) (fun h => ?_)
    · rw [ti_0] at h
      have hx : x.toInt = 0 := by omega
      refine Wp.idd (by decide) (Wp.nzl ne (Wp.idd (by decide) (Wp.lets (Wp.ret ⟨i3, fun j hj => ?_⟩))))
      rw [cl_0]
      show (if (56 : Nat) = 56 ∧ j = 0 then (D'.2 56 0 * (of - one).toInt64) / of.toInt64 else D'.2 56 j) = _
      by_cases hj0 : j = 0
      · subst hj0
        rw [if_pos ⟨rfl, rfl⟩, i4 0 (by omega), if_neg (by omega)]
        rfl
      · rw [if_neg (fun q => hj0 q.2), i4 j hj, if_pos (by omega)]
    · rw [ti_0] at h
      have c1 : (x - 1).toInt = x.toInt - 1 := ti_sub rfl ti_1 (by omega) (by omega)
      have c2 : (x + -1).toInt = x.toInt + -1 := ti_add rfl ti_m1 (by omega) (by omega)
      have w1 : (x - 1).toNatClampNeg = x.toNatClampNeg - 1 := cl_of (by omega)
      refine Wp.idx (i_in (by omega) (by omega)) (Wp.idx (i_in (by omega) (by omega)) (Wp.nzl ne (Wp.idx (i_in (by omega) (by omega)) (Wp.lets (Wp.lets (hg _ _ ⟨⟨by omega, by omega, by omega⟩, i3, fun j hj => ?_⟩))))))
      rw [w1]
      show (if (56 : Nat) = 56 ∧ j = x.toNatClampNeg then (D'.2 56 x.toNatClampNeg * (of - one).toInt64 + D'.2 56 (x.toNatClampNeg - 1) * one.toInt64) / of.toInt64 else D'.2 56 j) = _
      by_cases hjx : j = x.toNatClampNeg
      · rw [if_pos ⟨rfl, hjx⟩, i4 x.toNatClampNeg (by omega), i4 (x.toNatClampNeg - 1) (by omega), if_neg (by omega), if_neg (by omega), if_pos (by omega), hjx]
        unfold drF
        rw [if_neg (by omega)]
      · rw [if_neg (fun q => hjx q.2), i4 j hj]
        by_cases hjl : x.toInt < (j : Int)
        · rw [if_pos hjl, if_pos (by omega)]
        · rw [if_neg hjl, if_neg (by omega)]
  · intro x D' hI
    obtain ⟨⟨i0, i1, i2⟩, -⟩ := hI
    omega
theorem tX3_fromT {a : Int32} : Pu (fX3_from a D) D := by
  unfold fX3_from
  have hm : 0 ≤ (aMax 0 a).toInt := by rw [ti_max, ti_0]; omega
  refine Wp.lets (Wp.lets (Wp.lets ?_))
  refine Wp.fix2 (fun n acc x D' => (0 ≤ x.toInt ∧ 34 - x.toInt < (n : Int) ∧ 0 < (n : Int)) ∧ D' = D) ?_ ?_ aFuel 1000000 _ _ _ (Nat.le_refl _) ⟨⟨hm, by omega, by decide⟩, rfl⟩
  · intro n g hg acc x D' hI
    obtain ⟨⟨h0, h1, h2⟩, h3⟩ := hI
    subst h3
    unfold lX3_from_9
    refine Wp.ilt (fun h => Wp.ret rfl) (fun h => ?_)
    simp only [Int32.reduceToInt] at h
    obtain ⟨c1, c2⟩ := cl_add1 (x := x) (by omega) (by omega)
    exact Wp.idx (i_in (by omega) (by omega)) (Wp.lets (Wp.lets (hg _ _ _ ⟨⟨by omega, by omega, by omega⟩, rfl⟩)))
  · intro acc x D' hI
    obtain ⟨⟨h0, h1, h2⟩, -⟩ := hI
    omega
theorem tX3_ofNear {u n : Int32} (hm : (D.1 43 0).toInt ≤ 32) (hu : 1 ≤ u.toInt) : Wp (fX3_ofNear u n D) (fun _ D1 => D1.1 = D.1) := by
  unfold fX3_ofNear
  refine Wp.bind tX3_begin (fun _ D1 q => Wp.lets (Wp.lets ?_))
  refine Wp.fix1 (fun n x D' => (0 ≤ x.toInt ∧ x.toInt ≤ 33 ∧ 33 - x.toInt < (n : Int)) ∧ D'.1 = D.1) ?_ ?_ aFuel 1000000 _ _ (Nat.le_refl _) ⟨⟨by decide, by decide, by decide⟩, q.1⟩
  · intro n g hg x D' hI
    obtain ⟨⟨i0, i1, i2⟩, i3⟩ := hI
    unfold lX3_ofNear_7
    rw [i3]
    refine Wp.ile (fun _ => Wp.bind tX3_fromT (fun r D2 q2 => ?_)) (fun h => Wp.bindE (eX_luckyOf _ _ _) (Wp.bind (tX3_draw hu) (fun _ D2 q2 => Wp.lets (hg _ _ ⟨?_, ?_⟩))))
    · subst q2
      exact Wp.ret i3
    · have c2 : (x + 1).toInt = x.toInt + 1 := ti_add rfl ti_1 (by omega) (by omega)
      omega
    · rw [q2.1, i3]
  · intro x D' hI
    obtain ⟨⟨i0, i1, i2⟩, -⟩ := hI
    omega
theorem tX3_ofShort {m n : Int32} : Wp (fX3_ofShort m n D) (fun _ D1 => D1.1 = D.1) := by
  unfold fX3_ofShort
  refine Wp.bind tX3_begin (fun _ D1 q => Wp.lets (Wp.lets ?_))
  have e32 : (32 : Int32).toInt = 32 := by decide
  refine Wp.fix1 (fun n x D' => (0 ≤ x.toInt ∧ x.toInt ≤ 33 ∧ 33 - x.toInt < (n : Int)) ∧ D'.1 = D.1) ?_ ?_ aFuel 1000000 _ _ (Nat.le_refl _) ⟨⟨by decide, by decide, by decide⟩, q.1⟩
  · intro n g hg x D' hI
    obtain ⟨⟨i0, i1, i2⟩, i3⟩ := hI
    unfold lX3_ofShort_6
    have go : ∀ t, Wp (aBind (fX3_from t D') (fun x1 D3 => some (x1, D3))) (fun _ D1 => D1.1 = D.1) := fun t => Wp.bind tX3_fromT (fun r D2 q2 => by subst q2; exact Wp.ret i3)
    refine Wp.ite (fun _ => go _) (fun _ => Wp.ile (fun _ => go _) (fun h => Wp.bind (tX3_draw (by decide)) (fun _ D2 q2 => Wp.lets (hg _ _ ⟨?_, ?_⟩))))
    · have c2 : (x + 1).toInt = x.toInt + 1 := ti_add rfl ti_1 (by omega) (by omega)
      omega
    · rw [q2.1, i3]
  · intro x D' hI
    obtain ⟨⟨i0, i1, i2⟩, -⟩ := hI
    omega
end XQ
end
