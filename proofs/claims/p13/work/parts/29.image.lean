/-! a State made anew -/
def opStepB (n0 z : Nat) (P : APD) (o : aOp) : APD := if o.1 = 0 then aNC P (o.2.1, o.2.2.1, fun _ => none) else if o.1 = 1 then aPR P (z + o.2.1) o.2.2.1 (n0 + (z + o.2.2.2.1)) else aPI P (z + o.2.1) o.2.2.1 o.2.2.2.2
def opB (n0 z : Nat) (P : APD) : List aOp → APD
  | [] => P
  | o :: r => opStepB n0 z (opB n0 z P r) o
theorem opB_spec (n0 z : Nat) (P : APD) (hz : P.1.1 = z) : ∀ ops : List aOp, (ops.all fun o => o.1 == 0 || decide (o.2.1 < 31)) = true → (opB n0 z P ops).1.1 = z + opCnt ops ∧ (opB n0 z P ops).1.2.1 = P.1.2.1 ++ (List.range (opCnt ops)).map (z + ·) ∧
    (∀ q, q < z → (opB n0 z P ops).1.2.2 q = P.1.2.2 q) ∧ (∀ i, i < opCnt ops → (opB n0 z P ops).1.2.2 (z + i) = ((opSh ops i).1, (opSh ops i).2, fun f => (opRef ops i f).map (fun v => n0 + (z + v)))) ∧
    (∀ q f, q < z → (opB n0 z P ops).2.1 q f = P.2.1 q f) ∧ (∀ q f, q < z → (opB n0 z P ops).2.2 q f = P.2.2 q f) ∧ (∀ i f, i < opCnt ops → (opB n0 z P ops).2.1 (z + i) f = opInt ops i f)
  | [], _ => ⟨by show P.1.1 = _; rw [hz]; rfl, by simp [opB, opCnt], fun _ _ => rfl, fun i hi => absurd hi (Nat.not_lt_zero i), fun _ _ _ => rfl, fun _ _ _ => rfl, fun i _ hi => absurd hi (Nat.not_lt_zero i)⟩
  | o :: r, hall => by
    have hr : (r.all fun o => o.1 == 0 || decide (o.2.1 < 31)) = true := by
      simp only [List.all_cons, Bool.and_eq_true] at hall
      exact hall.2
    obtain ⟨h1, h2, h3, h4, h5, h6, h7⟩ := opB_spec n0 z P hz r hr
    by_cases t0 : o.1 = 0
    · have e : opB n0 z P (o :: r) = aNC (opB n0 z P r) (o.2.1, o.2.2.1, fun _ => none) := by rw [opB, opStepB, if_pos t0]
      have ec : opCnt (o :: r) = opCnt r + 1 := by rw [opCnt, if_pos t0]
      rw [e, ec]
      refine ⟨by show (opB n0 z P r).1.1 + 1 = _; omega, ?_, fun q hq => ?_, fun i hi => ?_, fun q f hq => ?_, fun q f hq => ?_, fun i f hi => ?_⟩
      · show (opB n0 z P r).1.2.1 ++ [(opB n0 z P r).1.1] = _
        rw [h1, h2, List.range_succ, List.map_append, List.append_assoc]
        rfl
      · show (if q = (opB n0 z P r).1.1 then _ else _) = _
        rw [if_neg (by omega)]
        exact h3 q hq
      · show (if z + i = (opB n0 z P r).1.1 then _ else _) = _
        rw [opSh, if_pos t0]
        by_cases hi2 : i = opCnt r
        · rw [if_pos (by omega), if_pos hi2]
          congr 2
          funext f
          rw [opRef, if_pos t0, if_pos hi2]
          rfl
        · rw [if_neg (by omega), if_neg hi2, h4 i (by omega)]
          congr 2
          funext f
          rw [opRef, if_pos t0, if_neg hi2]
      · show (if q = (opB n0 z P r).1.1 then (0 : Int32) else _) = _
        rw [if_neg (by omega)]
        exact h5 q f hq
      · show (if q = (opB n0 z P r).1.1 then (0 : Int64) else _) = _
        rw [if_neg (by omega)]
        exact h6 q f hq
      · show (if z + i = (opB n0 z P r).1.1 then (0 : Int32) else _) = _
        rw [opInt, if_pos t0]
        by_cases hi2 : i = opCnt r
        · rw [if_pos (by omega), if_pos hi2]
        · rw [if_neg (by omega), if_neg hi2]
          exact h7 i f (by omega)
    · have ec : opCnt (o :: r) = opCnt r := by rw [opCnt, if_neg t0]
      by_cases t1 : o.1 = 1
      · have e : opB n0 z P (o :: r) = aPR (opB n0 z P r) (z + o.2.1) o.2.2.1 (n0 + (z + o.2.2.2.1)) := by rw [opB, opStepB, if_neg t0, if_pos t1]
        rw [e, ec]
        refine ⟨h1, h2, fun q hq => ?_, fun i hi => ?_, h5, h6, fun i f hi => ?_⟩
        · show (if q = z + o.2.1 then _ else _) = _
          rw [if_neg (by omega)]
          exact h3 q hq
        · show (if z + i = z + o.2.1 then _ else _) = _
          rw [opSh, if_neg t0]
          by_cases hi2 : i = o.2.1
          · rw [if_pos (by omega), h4 i hi]
            congr 2
            funext f
            rw [opRef, if_neg t0, if_pos t1]
            by_cases hf : f = o.2.2.1
            · rw [if_pos hf, if_pos ⟨hi2, hf⟩]
              rfl
            · rw [if_neg hf, if_neg (fun q => hf q.2)]
          · rw [if_neg (by omega), h4 i hi]
            congr 2
            funext f
            rw [opRef, if_neg t0, if_pos t1, if_neg (fun q => hi2 q.1)]
        · rw [opInt, if_neg t0, if_pos t1]
          exact h7 i f hi
      · have e : opB n0 z P (o :: r) = aPI (opB n0 z P r) (z + o.2.1) o.2.2.1 o.2.2.2.2 := by rw [opB, opStepB, if_neg t0, if_neg t1]
        rw [e, ec]
        refine ⟨h1, h2, h3, fun i hi => ?_, fun q f hq => ?_, h6, fun i f hi => ?_⟩
        · rw [opSh, if_neg t0]
          show (opB n0 z P r).1.2.2 (z + i) = _
          rw [h4 i hi]
          congr 2
          funext f
          rw [opRef, if_neg t0, if_neg t1]
        · show (if q = z + o.2.1 ∧ f = o.2.2.1 then _ else _) = _
          rw [if_neg (by omega)]
          exact h5 q f hq
        · show (if z + i = z + o.2.1 ∧ f = o.2.2.1 then _ else _) = _
          rw [opInt, if_neg t0, if_neg t1]
          by_cases hi2 : i = o.2.1 ∧ f = o.2.2.1
          · rw [if_pos ⟨by omega, hi2.2⟩, if_pos hi2]
          · rw [if_neg (fun q => hi2 ⟨by omega, q.2⟩), if_neg hi2]
            exact h7 i f hi
theorem opB_NA {n0 z kind n : Nat} {P : APD} {r : List aOp} : aNA (opB n0 z P r) kind n = opB n0 z P ((0, kind, n, 0, 0) :: r) := rfl
theorem opB_NO {n0 z ci : Nat} {P : APD} {r : List aOp} : aNO (opB n0 z P r) ci = opB n0 z P ((0, ci, 0, 0, 0) :: r) := rfl
theorem opB_PR {n0 z k f v : Nat} {P : APD} {r : List aOp} : aPR (opB n0 z P r) (z + k) f (n0 + (z + v)) = opB n0 z P ((1, k, f, v, 0) :: r) := rfl
theorem opB_PR0 {n0 z f v : Nat} {P : APD} {r : List aOp} : aPR (opB n0 z P r) z f (n0 + (z + v)) = opB n0 z P ((1, 0, f, v, 0) :: r) := rfl
theorem opB_PI {n0 z k f : Nat} {x : Int32} {P : APD} {r : List aOp} : aPI (opB n0 z P r) (z + k) f x = opB n0 z P ((2, k, f, 0, x) :: r) := rfl
theorem opB_PI0 {n0 z f : Nat} {x : Int32} {P : APD} {r : List aOp} : aPI (opB n0 z P r) z f x = opB n0 z P ((2, 0, f, 0, x) :: r) := rfl
def sOps : List aOp := [(2, 0, 6, 0, -1), (2, 0, 5, 0, 0), (1, 0, 4, 30, 0), (2, 30, 4, 0, 0), (2, 30, 3, 0, 1900), (2, 30, 2, 0, -3000), (2, 30, 1, 0, 31), (2, 30, 0, 0, 63), (0, 1, 0, 0, 0), (1, 0, 3, 21, 0), (1, 21, 8, 29, 0), (0, 14, 64, 0, 0), (1, 21, 7, 28, 0), (0, 11, 64, 0, 0), (1, 21, 6, 27, 0), (0, 11, 64, 0, 0), (1, 21, 5, 26, 0), (0, 11, 64, 0, 0), (1, 21, 4, 25, 0), (0, 11, 16, 0, 0), (1, 21, 3, 24, 0), (0, 11, 16, 0, 0), (1, 21, 2, 23, 0), (0, 11, 16, 0, 0), (1, 21, 1, 22, 0), (0, 11, 16, 0, 0), (2, 21, 0, 0, 0), (0, 5, 0, 0, 0), (1, 0, 2, 12, 0), (1, 12, 8, 20, 0), (0, 14, 64, 0, 0), (1, 12, 7, 19, 0), (0, 11, 64, 0, 0), (1, 12, 6, 18, 0), (0, 11, 64, 0, 0), (1, 12, 5, 17, 0), (0, 11, 64, 0, 0), (1, 12, 4, 16, 0), (0, 11, 16, 0, 0), (1, 12, 3, 15, 0), (0, 11, 16, 0, 0), (1, 12, 2, 14, 0), (0, 11, 16, 0, 0), (1, 12, 1, 13, 0), (0, 11, 16, 0, 0), (2, 12, 0, 0, 0), (0, 5, 0, 0, 0), (1, 0, 1, 10, 0), (2, 10, 1, 0, 0), (1, 10, 0, 11, 0), (0, 13, 500, 0, 0), (0, 8, 0, 0, 0), (1, 0, 0, 1, 0), (2, 1, 12, 0, -1), (2, 1, 11, 0, 0), (2, 1, 10, 0, 0), (2, 1, 9, 0, 0), (2, 1, 8, 0, 0), (1, 1, 7, 9, 0), (0, 11, 400, 0, 0), (1, 1, 6, 8, 0), (0, 11, 400, 0, 0), (1, 1, 5, 7, 0), (0, 11, 400, 0, 0), (1, 1, 4, 6, 0), (0, 11, 400, 0, 0), (1, 1, 3, 5, 0), (0, 11, 32, 0, 0), (1, 1, 2, 4, 0), (0, 11, 32, 0, 0), (1, 1, 1, 3, 0), (0, 11, 352, 0, 0), (1, 1, 0, 2, 0), (0, 11, 352, 0, 0), (0, 0, 0, 0, 0), (0, 7, 0, 0, 0)]
set_option maxRecDepth 100000 in
set_option maxHeartbeats 4000000 in
theorem sOps_run (n0 z : Nat) (P : APD) : fI_X8_init n0 z (aNO P 7) = opB n0 z P sOps := by
  have e : fI_X8_init n0 z (aNO (opB n0 z P []) 7) = opB n0 z P sOps := by
    unfold fI_X8_init fI_X0_init fI_X9_init fI_X6_init fI_X1_init
    simp only [Nat.add_assoc, Nat.reduceAdd]
    simp only [opB_NA, opB_NO, opB_PR, opB_PR0, opB_PI, opB_PI0]
    simp only [sOps]
  exact e
theorem sOps_all : (sOps.all fun o => o.1 == 0 || decide (o.2.1 < 31)) = true := by decide +kernel
theorem sOps_cnt : opCnt sOps = 31 := by decide +kernel
/-- a State's cells -/
def sTab (n0 o : Nat) : List (Nat × ASh) := [(0, (7, 0, rS n0 o)), (1, (0, 0, rB n0 (o + 1))), (2, (11, 352, fun _ => none)), (3, (11, 352, fun _ => none)), (4, (11, 32, fun _ => none)), (5, (11, 32, fun _ => none)), (6, (11, 400, fun _ => none)), (7, (11, 400, fun _ => none)), (8, (11, 400, fun _ => none)), (9, (11, 400, fun _ => none)), (10, (8, 0, rT n0 (o + 10))), (11, (13, 500, fun _ => none)), (12, (5, 0, rR n0 (o + 12))), (13, (11, 16, fun _ => none)), (14, (11, 16, fun _ => none)), (15, (11, 16, fun _ => none)), (16, (11, 16, fun _ => none)), (17, (11, 64, fun _ => none)), (18, (11, 64, fun _ => none)), (19, (11, 64, fun _ => none)), (20, (14, 64, fun _ => none)), (21, (5, 0, rR n0 (o + 21))), (22, (11, 16, fun _ => none)), (23, (11, 16, fun _ => none)), (24, (11, 16, fun _ => none)), (25, (11, 16, fun _ => none)), (26, (11, 64, fun _ => none)), (27, (11, 64, fun _ => none)), (28, (11, 64, fun _ => none)), (29, (14, 64, fun _ => none)), (30, (1, 0, fun _ => none))]
theorem opRef_big {q f m : Nat} : ∀ ops : List aOp, (ops.all fun o => !(o.1 == 1) || decide (o.2.2.1 < m)) = true → m ≤ f → opRef ops q f = none
  | [], _, _ => rfl
  | o :: r, h, hm => by
    simp only [List.all_cons, Bool.and_eq_true] at h
    have ih := opRef_big (q := q) r h.2 hm
    rw [opRef]
    split
    · split
      · rfl
      · exact ih
    · split
      · rename_i t1
        rw [if_neg (fun q => ?_)]
        · exact ih
        · have h1 := h.1
          simp only [t1] at h1
          simp at h1
          omega
      · exact ih
theorem sOps_big : (sOps.all fun o => !(o.1 == 1) || decide (o.2.2.1 < 9)) = true := by decide +kernel

theorem sRef_0 (n0 z : Nat) : (fun f => (opRef sOps 0 f).map (fun v => n0 + (z + v))) = rS n0 z := by
  funext f
  match f with
  | 0 => rfl
  | 1 => rfl
  | 2 => rfl
  | 3 => rfl
  | 4 => rfl
  | 5 => rfl
  | 6 => rfl
  | 7 => rfl
  | 8 => rfl
  | f + 9 => rw [opRef_big sOps sOps_big (by omega)]; rfl
theorem sRef_1 (n0 z : Nat) : (fun f => (opRef sOps 1 f).map (fun v => n0 + (z + v))) = rB n0 (z + 1) := by
  funext f
  match f with
  | 0 => rfl
  | 1 => rfl
  | 2 => rfl
  | 3 => rfl
  | 4 => rfl
  | 5 => rfl
  | 6 => rfl
  | 7 => rfl
  | 8 => rfl
  | f + 9 => rw [opRef_big sOps sOps_big (by omega)]; rfl
theorem sRef_2 (n0 z : Nat) : (fun f => (opRef sOps 2 f).map (fun v => n0 + (z + v))) = fun _ => none := by
  funext f
  match f with
  | 0 => rfl
  | 1 => rfl
  | 2 => rfl
  | 3 => rfl
  | 4 => rfl
  | 5 => rfl
  | 6 => rfl
  | 7 => rfl
  | 8 => rfl
  | f + 9 => rw [opRef_big sOps sOps_big (by omega)]; rfl
theorem sRef_3 (n0 z : Nat) : (fun f => (opRef sOps 3 f).map (fun v => n0 + (z + v))) = fun _ => none := by
  funext f
  match f with
  | 0 => rfl
  | 1 => rfl
  | 2 => rfl
  | 3 => rfl
  | 4 => rfl
  | 5 => rfl
  | 6 => rfl
  | 7 => rfl
  | 8 => rfl
  | f + 9 => rw [opRef_big sOps sOps_big (by omega)]; rfl
theorem sRef_4 (n0 z : Nat) : (fun f => (opRef sOps 4 f).map (fun v => n0 + (z + v))) = fun _ => none := by
  funext f
  match f with
  | 0 => rfl
  | 1 => rfl
  | 2 => rfl
  | 3 => rfl
  | 4 => rfl
  | 5 => rfl
  | 6 => rfl
  | 7 => rfl
  | 8 => rfl
  | f + 9 => rw [opRef_big sOps sOps_big (by omega)]; rfl
theorem sRef_5 (n0 z : Nat) : (fun f => (opRef sOps 5 f).map (fun v => n0 + (z + v))) = fun _ => none := by
  funext f
  match f with
  | 0 => rfl
  | 1 => rfl
  | 2 => rfl
  | 3 => rfl
  | 4 => rfl
  | 5 => rfl
  | 6 => rfl
  | 7 => rfl
  | 8 => rfl
  | f + 9 => rw [opRef_big sOps sOps_big (by omega)]; rfl
theorem sRef_6 (n0 z : Nat) : (fun f => (opRef sOps 6 f).map (fun v => n0 + (z + v))) = fun _ => none := by
  funext f
  match f with
  | 0 => rfl
  | 1 => rfl
  | 2 => rfl
  | 3 => rfl
  | 4 => rfl
  | 5 => rfl
  | 6 => rfl
  | 7 => rfl
  | 8 => rfl
  | f + 9 => rw [opRef_big sOps sOps_big (by omega)]; rfl
theorem sRef_7 (n0 z : Nat) : (fun f => (opRef sOps 7 f).map (fun v => n0 + (z + v))) = fun _ => none := by
  funext f
  match f with
  | 0 => rfl
  | 1 => rfl
  | 2 => rfl
  | 3 => rfl
  | 4 => rfl
  | 5 => rfl
  | 6 => rfl
  | 7 => rfl
  | 8 => rfl
  | f + 9 => rw [opRef_big sOps sOps_big (by omega)]; rfl
theorem sRef_8 (n0 z : Nat) : (fun f => (opRef sOps 8 f).map (fun v => n0 + (z + v))) = fun _ => none := by
  funext f
  match f with
  | 0 => rfl
  | 1 => rfl
  | 2 => rfl
  | 3 => rfl
  | 4 => rfl
  | 5 => rfl
  | 6 => rfl
  | 7 => rfl
  | 8 => rfl
  | f + 9 => rw [opRef_big sOps sOps_big (by omega)]; rfl
theorem sRef_9 (n0 z : Nat) : (fun f => (opRef sOps 9 f).map (fun v => n0 + (z + v))) = fun _ => none := by
  funext f
  match f with
  | 0 => rfl
  | 1 => rfl
  | 2 => rfl
  | 3 => rfl
  | 4 => rfl
  | 5 => rfl
  | 6 => rfl
  | 7 => rfl
  | 8 => rfl
  | f + 9 => rw [opRef_big sOps sOps_big (by omega)]; rfl
theorem sRef_10 (n0 z : Nat) : (fun f => (opRef sOps 10 f).map (fun v => n0 + (z + v))) = rT n0 (z + 10) := by
  funext f
  match f with
  | 0 => rfl
  | 1 => rfl
  | 2 => rfl
  | 3 => rfl
  | 4 => rfl
  | 5 => rfl
  | 6 => rfl
  | 7 => rfl
  | 8 => rfl
  | f + 9 => rw [opRef_big sOps sOps_big (by omega)]; rfl
theorem sRef_11 (n0 z : Nat) : (fun f => (opRef sOps 11 f).map (fun v => n0 + (z + v))) = fun _ => none := by
  funext f
  match f with
  | 0 => rfl
  | 1 => rfl
  | 2 => rfl
  | 3 => rfl
  | 4 => rfl
  | 5 => rfl
  | 6 => rfl
  | 7 => rfl
  | 8 => rfl
  | f + 9 => rw [opRef_big sOps sOps_big (by omega)]; rfl
theorem sRef_12 (n0 z : Nat) : (fun f => (opRef sOps 12 f).map (fun v => n0 + (z + v))) = rR n0 (z + 12) := by
  funext f
  match f with
  | 0 => rfl
  | 1 => rfl
  | 2 => rfl
  | 3 => rfl
  | 4 => rfl
  | 5 => rfl
  | 6 => rfl
  | 7 => rfl
  | 8 => rfl
  | f + 9 => rw [opRef_big sOps sOps_big (by omega)]; rfl
theorem sRef_13 (n0 z : Nat) : (fun f => (opRef sOps 13 f).map (fun v => n0 + (z + v))) = fun _ => none := by
  funext f
  match f with
  | 0 => rfl
  | 1 => rfl
  | 2 => rfl
  | 3 => rfl
  | 4 => rfl
  | 5 => rfl
  | 6 => rfl
  | 7 => rfl
  | 8 => rfl
  | f + 9 => rw [opRef_big sOps sOps_big (by omega)]; rfl
theorem sRef_14 (n0 z : Nat) : (fun f => (opRef sOps 14 f).map (fun v => n0 + (z + v))) = fun _ => none := by
  funext f
  match f with
  | 0 => rfl
  | 1 => rfl
  | 2 => rfl
  | 3 => rfl
  | 4 => rfl
  | 5 => rfl
  | 6 => rfl
  | 7 => rfl
  | 8 => rfl
  | f + 9 => rw [opRef_big sOps sOps_big (by omega)]; rfl
theorem sRef_15 (n0 z : Nat) : (fun f => (opRef sOps 15 f).map (fun v => n0 + (z + v))) = fun _ => none := by
  funext f
  match f with
  | 0 => rfl
  | 1 => rfl
  | 2 => rfl
  | 3 => rfl
  | 4 => rfl
  | 5 => rfl
  | 6 => rfl
  | 7 => rfl
  | 8 => rfl
  | f + 9 => rw [opRef_big sOps sOps_big (by omega)]; rfl
theorem sRef_16 (n0 z : Nat) : (fun f => (opRef sOps 16 f).map (fun v => n0 + (z + v))) = fun _ => none := by
  funext f
  match f with
  | 0 => rfl
  | 1 => rfl
  | 2 => rfl
  | 3 => rfl
  | 4 => rfl
  | 5 => rfl
  | 6 => rfl
  | 7 => rfl
  | 8 => rfl
  | f + 9 => rw [opRef_big sOps sOps_big (by omega)]; rfl
theorem sRef_17 (n0 z : Nat) : (fun f => (opRef sOps 17 f).map (fun v => n0 + (z + v))) = fun _ => none := by
  funext f
  match f with
  | 0 => rfl
  | 1 => rfl
  | 2 => rfl
  | 3 => rfl
  | 4 => rfl
  | 5 => rfl
  | 6 => rfl
  | 7 => rfl
  | 8 => rfl
  | f + 9 => rw [opRef_big sOps sOps_big (by omega)]; rfl
theorem sRef_18 (n0 z : Nat) : (fun f => (opRef sOps 18 f).map (fun v => n0 + (z + v))) = fun _ => none := by
  funext f
  match f with
  | 0 => rfl
  | 1 => rfl
  | 2 => rfl
  | 3 => rfl
  | 4 => rfl
  | 5 => rfl
  | 6 => rfl
  | 7 => rfl
  | 8 => rfl
  | f + 9 => rw [opRef_big sOps sOps_big (by omega)]; rfl
theorem sRef_19 (n0 z : Nat) : (fun f => (opRef sOps 19 f).map (fun v => n0 + (z + v))) = fun _ => none := by
  funext f
  match f with
  | 0 => rfl
  | 1 => rfl
  | 2 => rfl
  | 3 => rfl
  | 4 => rfl
  | 5 => rfl
  | 6 => rfl
  | 7 => rfl
  | 8 => rfl
  | f + 9 => rw [opRef_big sOps sOps_big (by omega)]; rfl
theorem sRef_20 (n0 z : Nat) : (fun f => (opRef sOps 20 f).map (fun v => n0 + (z + v))) = fun _ => none := by
  funext f
  match f with
  | 0 => rfl
  | 1 => rfl
  | 2 => rfl
  | 3 => rfl
  | 4 => rfl
  | 5 => rfl
  | 6 => rfl
  | 7 => rfl
  | 8 => rfl
  | f + 9 => rw [opRef_big sOps sOps_big (by omega)]; rfl
theorem sRef_21 (n0 z : Nat) : (fun f => (opRef sOps 21 f).map (fun v => n0 + (z + v))) = rR n0 (z + 21) := by
  funext f
  match f with
  | 0 => rfl
  | 1 => rfl
  | 2 => rfl
  | 3 => rfl
  | 4 => rfl
  | 5 => rfl
  | 6 => rfl
  | 7 => rfl
  | 8 => rfl
  | f + 9 => rw [opRef_big sOps sOps_big (by omega)]; rfl
theorem sRef_22 (n0 z : Nat) : (fun f => (opRef sOps 22 f).map (fun v => n0 + (z + v))) = fun _ => none := by
  funext f
  match f with
  | 0 => rfl
  | 1 => rfl
  | 2 => rfl
  | 3 => rfl
  | 4 => rfl
  | 5 => rfl
  | 6 => rfl
  | 7 => rfl
  | 8 => rfl
  | f + 9 => rw [opRef_big sOps sOps_big (by omega)]; rfl
theorem sRef_23 (n0 z : Nat) : (fun f => (opRef sOps 23 f).map (fun v => n0 + (z + v))) = fun _ => none := by
  funext f
  match f with
  | 0 => rfl
  | 1 => rfl
  | 2 => rfl
  | 3 => rfl
  | 4 => rfl
  | 5 => rfl
  | 6 => rfl
  | 7 => rfl
  | 8 => rfl
  | f + 9 => rw [opRef_big sOps sOps_big (by omega)]; rfl
theorem sRef_24 (n0 z : Nat) : (fun f => (opRef sOps 24 f).map (fun v => n0 + (z + v))) = fun _ => none := by
  funext f
  match f with
  | 0 => rfl
  | 1 => rfl
  | 2 => rfl
  | 3 => rfl
  | 4 => rfl
  | 5 => rfl
  | 6 => rfl
  | 7 => rfl
  | 8 => rfl
  | f + 9 => rw [opRef_big sOps sOps_big (by omega)]; rfl
theorem sRef_25 (n0 z : Nat) : (fun f => (opRef sOps 25 f).map (fun v => n0 + (z + v))) = fun _ => none := by
  funext f
  match f with
  | 0 => rfl
  | 1 => rfl
  | 2 => rfl
  | 3 => rfl
  | 4 => rfl
  | 5 => rfl
  | 6 => rfl
  | 7 => rfl
  | 8 => rfl
  | f + 9 => rw [opRef_big sOps sOps_big (by omega)]; rfl
theorem sRef_26 (n0 z : Nat) : (fun f => (opRef sOps 26 f).map (fun v => n0 + (z + v))) = fun _ => none := by
  funext f
  match f with
  | 0 => rfl
  | 1 => rfl
  | 2 => rfl
  | 3 => rfl
  | 4 => rfl
  | 5 => rfl
  | 6 => rfl
  | 7 => rfl
  | 8 => rfl
  | f + 9 => rw [opRef_big sOps sOps_big (by omega)]; rfl
theorem sRef_27 (n0 z : Nat) : (fun f => (opRef sOps 27 f).map (fun v => n0 + (z + v))) = fun _ => none := by
  funext f
  match f with
  | 0 => rfl
  | 1 => rfl
  | 2 => rfl
  | 3 => rfl
  | 4 => rfl
  | 5 => rfl
  | 6 => rfl
  | 7 => rfl
  | 8 => rfl
  | f + 9 => rw [opRef_big sOps sOps_big (by omega)]; rfl
theorem sRef_28 (n0 z : Nat) : (fun f => (opRef sOps 28 f).map (fun v => n0 + (z + v))) = fun _ => none := by
  funext f
  match f with
  | 0 => rfl
  | 1 => rfl
  | 2 => rfl
  | 3 => rfl
  | 4 => rfl
  | 5 => rfl
  | 6 => rfl
  | 7 => rfl
  | 8 => rfl
  | f + 9 => rw [opRef_big sOps sOps_big (by omega)]; rfl
theorem sRef_29 (n0 z : Nat) : (fun f => (opRef sOps 29 f).map (fun v => n0 + (z + v))) = fun _ => none := by
  funext f
  match f with
  | 0 => rfl
  | 1 => rfl
  | 2 => rfl
  | 3 => rfl
  | 4 => rfl
  | 5 => rfl
  | 6 => rfl
  | 7 => rfl
  | 8 => rfl
  | f + 9 => rw [opRef_big sOps sOps_big (by omega)]; rfl
theorem sRef_30 (n0 z : Nat) : (fun f => (opRef sOps 30 f).map (fun v => n0 + (z + v))) = fun _ => none := by
  funext f
  match f with
  | 0 => rfl
  | 1 => rfl
  | 2 => rfl
  | 3 => rfl
  | 4 => rfl
  | 5 => rfl
  | 6 => rfl
  | 7 => rfl
  | 8 => rfl
  | f + 9 => rw [opRef_big sOps sOps_big (by omega)]; rfl
theorem sSh : ∀ i, i < 31 → opSh sOps i = ([(7, 0), (0, 0), (11, 352), (11, 352), (11, 32), (11, 32), (11, 400), (11, 400), (11, 400), (11, 400), (8, 0), (13, 500), (5, 0), (11, 16), (11, 16), (11, 16), (11, 16), (11, 64), (11, 64), (11, 64), (14, 64), (5, 0), (11, 16), (11, 16), (11, 16), (11, 16), (11, 64), (11, 64), (11, 64), (14, 64), (1, 0)] : List (Nat × Nat)).getD i (0, 0) := by decide +kernel
theorem sTab_new {n0 z : Nat} {P : APD} (hz : P.1.1 = z) : ∀ q ∈ sTab n0 z, (opB n0 z P sOps).1.2.2 (z + q.1) = q.2 := by
  obtain ⟨-, -, -, h4, -⟩ := opB_spec n0 z P hz sOps sOps_all
  rw [sOps_cnt] at h4
  intro q hq
  rcases List.mem_cons.mp hq with rfl | hq
  · rw [h4 0 (by decide), sRef_0, sSh 0 (by decide)]
    rfl
  rcases List.mem_cons.mp hq with rfl | hq
  · rw [h4 1 (by decide), sRef_1, sSh 1 (by decide)]
    rfl
  rcases List.mem_cons.mp hq with rfl | hq
  · rw [h4 2 (by decide), sRef_2, sSh 2 (by decide)]
    rfl
  rcases List.mem_cons.mp hq with rfl | hq
  · rw [h4 3 (by decide), sRef_3, sSh 3 (by decide)]
    rfl
  rcases List.mem_cons.mp hq with rfl | hq
  · rw [h4 4 (by decide), sRef_4, sSh 4 (by decide)]
    rfl
  rcases List.mem_cons.mp hq with rfl | hq
  · rw [h4 5 (by decide), sRef_5, sSh 5 (by decide)]
    rfl
  rcases List.mem_cons.mp hq with rfl | hq
  · rw [h4 6 (by decide), sRef_6, sSh 6 (by decide)]
    rfl
  rcases List.mem_cons.mp hq with rfl | hq
  · rw [h4 7 (by decide), sRef_7, sSh 7 (by decide)]
    rfl
  rcases List.mem_cons.mp hq with rfl | hq
  · rw [h4 8 (by decide), sRef_8, sSh 8 (by decide)]
    rfl
  rcases List.mem_cons.mp hq with rfl | hq
  · rw [h4 9 (by decide), sRef_9, sSh 9 (by decide)]
    rfl
  rcases List.mem_cons.mp hq with rfl | hq
  · rw [h4 10 (by decide), sRef_10, sSh 10 (by decide)]
    rfl
  rcases List.mem_cons.mp hq with rfl | hq
  · rw [h4 11 (by decide), sRef_11, sSh 11 (by decide)]
    rfl
  rcases List.mem_cons.mp hq with rfl | hq
  · rw [h4 12 (by decide), sRef_12, sSh 12 (by decide)]
    rfl
  rcases List.mem_cons.mp hq with rfl | hq
  · rw [h4 13 (by decide), sRef_13, sSh 13 (by decide)]
    rfl
  rcases List.mem_cons.mp hq with rfl | hq
  · rw [h4 14 (by decide), sRef_14, sSh 14 (by decide)]
    rfl
  rcases List.mem_cons.mp hq with rfl | hq
  · rw [h4 15 (by decide), sRef_15, sSh 15 (by decide)]
    rfl
  rcases List.mem_cons.mp hq with rfl | hq
  · rw [h4 16 (by decide), sRef_16, sSh 16 (by decide)]
    rfl
  rcases List.mem_cons.mp hq with rfl | hq
  · rw [h4 17 (by decide), sRef_17, sSh 17 (by decide)]
    rfl
  rcases List.mem_cons.mp hq with rfl | hq
  · rw [h4 18 (by decide), sRef_18, sSh 18 (by decide)]
    rfl
  rcases List.mem_cons.mp hq with rfl | hq
  · rw [h4 19 (by decide), sRef_19, sSh 19 (by decide)]
    rfl
  rcases List.mem_cons.mp hq with rfl | hq
  · rw [h4 20 (by decide), sRef_20, sSh 20 (by decide)]
    rfl
  rcases List.mem_cons.mp hq with rfl | hq
  · rw [h4 21 (by decide), sRef_21, sSh 21 (by decide)]
    rfl
  rcases List.mem_cons.mp hq with rfl | hq
  · rw [h4 22 (by decide), sRef_22, sSh 22 (by decide)]
    rfl
  rcases List.mem_cons.mp hq with rfl | hq
  · rw [h4 23 (by decide), sRef_23, sSh 23 (by decide)]
    rfl
  rcases List.mem_cons.mp hq with rfl | hq
  · rw [h4 24 (by decide), sRef_24, sSh 24 (by decide)]
    rfl
  rcases List.mem_cons.mp hq with rfl | hq
  · rw [h4 25 (by decide), sRef_25, sSh 25 (by decide)]
    rfl
  rcases List.mem_cons.mp hq with rfl | hq
  · rw [h4 26 (by decide), sRef_26, sSh 26 (by decide)]
    rfl
  rcases List.mem_cons.mp hq with rfl | hq
  · rw [h4 27 (by decide), sRef_27, sSh 27 (by decide)]
    rfl
  rcases List.mem_cons.mp hq with rfl | hq
  · rw [h4 28 (by decide), sRef_28, sSh 28 (by decide)]
    rfl
  rcases List.mem_cons.mp hq with rfl | hq
  · rw [h4 29 (by decide), sRef_29, sSh 29 (by decide)]
    rfl
  rcases List.mem_cons.mp hq with rfl | hq
  · rw [h4 30 (by decide), sRef_30, sSh 30 (by decide)]
    rfl
  cases hq
theorem aLS_tab {g : AGl} {o : Nat} : aLS g o ↔ ∀ q ∈ sTab g.1 o, aAt g (o + q.1) q.2 := by
  simp only [sTab, List.forall_mem_cons, List.not_mem_nil, false_implies, implies_true, and_true, aLS, aLB, aLT, aLR, aLC, Nat.add_assoc, Nat.reduceAdd, Nat.add_zero, and_assoc]
theorem aLSw_tab {n0 o : Nat} {w : AWS} : aLSw n0 w o ↔ ∀ q ∈ sTab n0 o, o + q.1 ∈ w.2.1 ∧ w.2.2 (o + q.1) = q.2 := by
  unfold aLSw
  constructor
  · intro h
    have h2 := aLS_tab.mp (h (fun _ => 0) (fun _ _ => 0) (fun _ => 0) (0, 0, fun _ => 0, fun _ => 0))
    exact h2
  · intro h dC dI cy ex
    exact aLS_tab.mpr h
theorem sTab_lt {n0 o : Nat} : ∀ q ∈ sTab n0 o, q.1 < 31 := by
  intro q hq
  simp only [sTab, List.mem_cons, List.not_mem_nil, or_false] at hq
  rcases hq with rfl | rfl | rfl | rfl | rfl | rfl | rfl | rfl | rfl | rfl | rfl | rfl | rfl | rfl | rfl | rfl | rfl | rfl | rfl | rfl | rfl | rfl | rfl | rfl | rfl | rfl | rfl | rfl | rfl | rfl | rfl <;> simp
theorem xTab_lt {n0 : Nat} : ∀ q ∈ xTab n0, q.1 < 58 ∧ q.1 ≠ 32 := by
  intro q hq
  simp only [xTab, List.mem_cons, List.not_mem_nil, or_false] at hq
  rcases hq with rfl | rfl | rfl | rfl | rfl | rfl | rfl | rfl | rfl | rfl | rfl | rfl | rfl | rfl | rfl | rfl | rfl | rfl | rfl | rfl | rfl | rfl | rfl | rfl | rfl | rfl | rfl | rfl | rfl | rfl | rfl | rfl | rfl | rfl | rfl | rfl | rfl | rfl | rfl | rfl | rfl | rfl | rfl | rfl | rfl | rfl | rfl | rfl | rfl | rfl | rfl | rfl | rfl | rfl | rfl | rfl | rfl <;> simp
/-- the cells of x: its own, the State of now, the images -/
def Lay (n0 : Nat) (P : APD) : Prop := LLay P ∧ aLXw n0 P.1 ∧ aLSw n0 P.1 1 ∧ ∃ im, imOK n0 P.1 im ∧ (∀ j z, j < 3 → im j = some z → 98 ≤ z ∧ z + 31 ≤ P.1.1) ∧ ∀ i j z y, i < 3 → j < 3 → i ≠ j → im i = some z → im j = some y → z + 31 ≤ y ∨ y + 31 ≤ z
theorem im_uniq {n0 : Nat} {w : AWS} {im im2 : Nat → Option Nat} (h : imOK n0 w im) (h2 : imOK n0 w im2) : im = im2 := by
  have e : ((15, 3, fun j => (im j).map (n0 + ·)) : ASh) = (15, 3, fun j => (im2 j).map (n0 + ·)) := h.1.2.symm.trans h2.1.2
  have e2 : (fun j => (im j).map (n0 + ·)) = (fun j => (im2 j).map (n0 + ·)) := congrArg (fun q : ASh => q.2.2) e
  funext j
  have e3 : (im j).map (n0 + ·) = (im2 j).map (n0 + ·) := congrFun e2 j
  cases h1 : im j with
  | none =>
    rw [h1] at e3
    cases h2 : im2 j with
    | none => rfl
    | some b => rw [h2] at e3; cases e3
  | some a =>
    rw [h1] at e3
    cases h2 : im2 j with
    | none => rw [h2] at e3; cases e3
    | some b =>
      rw [h2] at e3
      have e4 : n0 + a = n0 + b := Option.some.inj e3
      rw [show a = b by omega]
/-- the cells behind a new image -/
theorem Lay.img {n0 k : Nat} {P : APD} {im : Nat → Option Nat} (hL : Lay n0 P) (him : imOK n0 P.1 im) :
    (∀ D, Lay n0 ((aPR (opB n0 P.1.1 P sOps) 32 k (n0 + P.1.1)).1, D)) ∧ imOK n0 (aPR (opB n0 P.1.1 P sOps) 32 k (n0 + P.1.1)).1 (fun j => if j = k then some P.1.1 else im j) ∧ aLSw n0 (aPR (opB n0 P.1.1 P sOps) 32 k (n0 + P.1.1)).1 P.1.1 ∧ aLSw n0 (aPR (opB n0 P.1.1 P sOps) 32 k (n0 + P.1.1)).1 1 ∧
    (32 ∈ (opB n0 P.1.1 P sOps).1.2.1 ∧ (opB n0 P.1.1 P sOps).1.2.2 32 = (15, 3, fun j => (im j).map (n0 + ·))) ∧ ((opB n0 P.1.1 P sOps).1.2.2 0).2.2 1 = some (n0 + 32) ∧ ((opB n0 P.1.1 P sOps).1.2.2 0).2.2 0 = some (n0 + 1) ∧ (opB n0 P.1.1 P sOps).1.1 = P.1.1 + 31 := by
  obtain ⟨hLL, hX, hS1, im2, him2, hz, hdis⟩ := hL
  have eim := im_uniq him2 him
  subst eim
  obtain ⟨h1, h2, h3, h4, -⟩ := opB_spec n0 P.1.1 P rfl sOps sOps_all
  rw [sOps_cnt] at h1 h2 h4
  have hnew := sTab_new (n0 := n0) (P := P) rfl
  generalize opB n0 P.1.1 P sOps = E at *
  obtain ⟨l98, lcell⟩ := hLL
  have old : ∀ q, q ∈ P.1.2.1 → q ∈ (aPR E 32 k (n0 + P.1.1)).1.2.1 := by
    intro q hq
    show q ∈ E.1.2.1
    rw [h2]
    exact List.mem_append_left _ hq
  have osh : ∀ q, q ∈ P.1.2.1 → q ≠ 32 → (aPR E 32 k (n0 + P.1.1)).1.2.2 q = P.1.2.2 q := by
    intro q hq hne
    show (if q = 32 then _ else _) = _
    rw [if_neg hne]
    exact h3 q (lcell q hq).2
  have nsh : ∀ i, i < 31 → P.1.1 + i ∈ (aPR E 32 k (n0 + P.1.1)).1.2.1 := by
    intro i hi
    show P.1.1 + i ∈ E.1.2.1
    rw [h2]
    exact List.mem_append_right _ (List.mem_map.mpr ⟨i, List.mem_range.mpr hi, rfl⟩)
  have sh32 : E.1.2.2 32 = P.1.2.2 32 := h3 32 (by omega)
  have e32 : (aPR E 32 k (n0 + P.1.1)).1.2.2 32 = (15, 3, fun j => ((fun j => if j = k then some P.1.1 else im2 j) j).map (n0 + ·)) := by
    have e0 : (aPR E 32 k (n0 + P.1.1)).1.2.2 32 = ((E.1.2.2 32).1, (E.1.2.2 32).2.1, fun j => if j = k then some (n0 + P.1.1) else (E.1.2.2 32).2.2 j) := by simp [aPR]
    rw [e0, sh32, him.1.2]
    congr 2
    funext j
    by_cases hj : j = k
    · simp only [if_pos hj]
      rfl
    · simp only [if_neg hj]
  have keepS : ∀ o, (∀ i, i < 31 → o + i ≠ 32) → aLSw n0 P.1 o → aLSw n0 (aPR E 32 k (n0 + P.1.1)).1 o := by
    intro o ho h
    refine aLSw_tab.mpr (fun q hq => ?_)
    obtain ⟨m1, m2⟩ := aLSw_tab.mp h q hq
    exact ⟨old _ m1, (osh _ m1 (ho _ (sTab_lt q hq))).trans m2⟩
  have newS : aLSw n0 (aPR E 32 k (n0 + P.1.1)).1 P.1.1 := by
    refine aLSw_tab.mpr (fun q hq => ⟨nsh _ (sTab_lt q hq), ?_⟩)
    show (if P.1.1 + q.1 = 32 then _ else _) = _
    rw [if_neg (by omega)]
    exact hnew q hq
  have S1 := keepS 1 (fun i hi => by omega) hS1
  have im9 : imOK n0 (aPR E 32 k (n0 + P.1.1)).1 (fun j => if j = k then some P.1.1 else im2 j) := by
    refine ⟨⟨old 32 him.1.1, e32⟩, fun j z hj hzj => ?_⟩
    by_cases hjk : j = k
    · simp only [if_pos hjk] at hzj
      cases hzj
      exact newS
    · simp only [if_neg hjk] at hzj
      have := hz j z hj hzj
      exact keepS z (fun i hi => by omega) (him.2 j z hj hzj)
  have r0 := (hX 0 _ (List.mem_of_getElem? (i := 0) rfl)).2
  refine ⟨fun D => ⟨⟨?_, fun q hq => ?_⟩, fun q S hq => ?_, S1, _, im9, fun j z hj hzj => ?_, fun i j z y hi hj hij hi2 hj2 => ?_⟩, im9, newS, S1, ⟨?_, by rw [sh32]; exact him.1.2⟩, ?_, ?_, h1⟩
  · show 98 ≤ E.1.1
    omega
  · have hq : q ∈ E.1.2.1 := hq
    show _ ∧ q < E.1.1
    rw [h2] at hq
    rcases List.mem_append.mp hq with hq | hq
    · have := lcell q hq
      omega
    · obtain ⟨i, hi, rfl⟩ := List.mem_map.mp hq
      have := List.mem_range.mp hi
      omega
  · obtain ⟨m1, m2⟩ := hX q S hq
    exact ⟨old q m1, (osh q m1 (xTab_lt _ hq).2).trans m2⟩
  · show _ ∧ z + 31 ≤ E.1.1
    by_cases hjk : j = k
    · simp only [if_pos hjk] at hzj
      cases hzj
      omega
    · simp only [if_neg hjk] at hzj
      have := hz j z hj hzj
      omega
  · by_cases hik : i = k
    · simp only [if_pos hik] at hi2
      cases hi2
      rw [if_neg (by omega)] at hj2
      have := hz j y hj hj2
      omega
    · simp only [if_neg hik] at hi2
      have := hz i z hi hi2
      by_cases hjk : j = k
      · simp only [if_pos hjk] at hj2
        cases hj2
        omega
      · simp only [if_neg hjk] at hj2
        exact hdis i j z y hi hj hij hi2 hj2
  · rw [h2]
    exact List.mem_append_left _ him.1.1
  · rw [h3 0 (by omega), r0]
    rfl
  · rw [h3 0 (by omega), r0]
    rfl
theorem tX8_copyFrom {o p : Nat} {D : ADD} : Wp (fX8_copyFrom o p D) (fun _ _ => True) := by
  unfold fX8_copyFrom fX0_copyFrom fX9_copyFrom fX6_copyFrom fX1_copyFrom
  exact ⟨_, _, rfl, trivial⟩
theorem Lay.lays {n0 : Nat} {P : APD} (h : Lay n0 P) : LLay P ∧ aLXw n0 P.1 ∧ aLSw n0 P.1 1 ∧ ∃ im, imOK n0 P.1 im := ⟨h.1, h.2.1, h.2.2.1, h.2.2.2.choose, h.2.2.2.choose_spec.1⟩
