theorem w_21 : Cond.classLink RL (7) RX10 ∈ aT := aT_m (tm_1_1 mq_5) gw_classLink
theorem w_997 : Cond.classLink RL (10) RX11 ∈ aT := aT_m (tm_5_2 mq_5) gw_classLink
theorem w_22 : Cond.instantiable RX10 (7) ∈ aT := aT_m (tm_1_1 mq_6) gw_instantiable
theorem w_998 : Cond.instantiable RX11 (51) ∈ aT := aT_m (tm_5_2 mq_6) gw_instantiable
theorem w_23 : Cond.methodLink RL (9) yX10_init ∈ aT := aT_m (tm_1_1 mq_7) gw_methodLink
theorem w_999 : Cond.methodLink RL (12) yX11_init ∈ aT := aT_m (tm_5_2 mq_7) gw_methodLink
theorem w_24 : Cond.instanceMethod yX10_init ∈ aT := aT_m (tm_1_1 mq_8) gw_instanceMethod
theorem w_1000 : Cond.instanceMethod yX11_init ∈ aT := aT_m (tm_5_2 mq_8) gw_instanceMethod
theorem w_25 : Cond.code yX10_init cX10_init 1 none ∈ aT := aT_m (tm_1_1 mq_9) gw_code
theorem w_1001 : Cond.code yX11_init cX11_init 1 none ∈ aT := aT_m (tm_5_2 mq_9) gw_code
theorem aPic_eqv {cy : Nat → ClassId} {S S2 : ASh} {D : ADD} {a : Nat} (h1 : S.1 = S2.1) (h2 : S.2.1 = S2.2.1) (h15 : S.1 ≠ 15) (hr : ∀ f, f < aNF S.1 → S.2.2 f = S2.2.2 f) : aPic cy S D a = aPic cy S2 D a := by
  have hm : (List.range (aNF S.1)).map (aFv S D a) = (List.range (aNF S2.1)).map (aFv S2 D a) := by
    rw [← h1]
    apply List.map_congr_left
    intro f hf
    unfold aFv
    rw [← h1, hr f (List.mem_range.mp hf)]
  unfold aPic
  rw [hm, ← h1, ← h2, if_neg h15, if_neg h15]
theorem aPic_q {cy : Nat → ClassId} {n : Nat} {f f2 : Nat → Option Nat} {D : ADD} {a : Nat} (h : f = f2) : aPic cy (15, n, f) D a = aPic cy (15, n, f2) D a := by rw [h]
theorem aW_eqv {n0 : Nat} {cy : Nat → ClassId} {w w2 : AWS} {D : ADD} (hL : w.2.1 = w2.2.1) (h : ∀ k ∈ w.2.1, aPic cy (w.2.2 k) D k = aPic cy (w2.2.2 k) D k) : aW n0 cy w D = aW n0 cy w2 D := by
  unfold aW
  rw [← hL]
  apply List.map_congr_left
  intro k hk
  rw [h k hk]
theorem opRef_none {q f : Nat} : ∀ (ops : List aOp), (ops.all fun o => !(o.1 == 1 && o.2.1 == q)) = true → opRef ops q f = none
  | [], _ => rfl
  | o :: r, h => by
    simp only [List.all_cons, Bool.and_eq_true] at h
    have ih := opRef_none (q := q) (f := f) r h.2
    rw [opRef]
    split
    · split
      · rfl
      · exact ih
    · split
      · rename_i h1
        split
        · rename_i h2
          have h3 := h.1
          simp [h1, h2.1] at h3
        · exact ih
      · exact ih
/-- the shapes of x's cells, by number -/
def xSh (n0 k : Nat) : ASh := ([(9, 0, xTab_r0 n0), (7, 0, xTab_r1 n0), (0, 0, xTab_r2 n0), (11, 352, fun _ => none), (11, 352, fun _ => none), (11, 32, fun _ => none), (11, 32, fun _ => none), (11, 400, fun _ => none), (11, 400, fun _ => none), (11, 400, fun _ => none), (11, 400, fun _ => none), (8, 0, xTab_r11 n0), (13, 500, fun _ => none), (5, 0, xTab_r13 n0), (11, 16, fun _ => none), (11, 16, fun _ => none), (11, 16, fun _ => none), (11, 16, fun _ => none), (11, 64, fun _ => none), (11, 64, fun _ => none), (11, 64, fun _ => none), (14, 64, fun _ => none), (5, 0, xTab_r22 n0), (11, 16, fun _ => none), (11, 16, fun _ => none), (11, 16, fun _ => none), (11, 16, fun _ => none), (11, 64, fun _ => none), (11, 64, fun _ => none), (11, 64, fun _ => none), (14, 64, fun _ => none), (1, 0, xTab_r31 n0), (15, 3, fun _ => none), (4, 0, xTab_r33 n0), (5, 0, xTab_r34 n0), (11, 16, fun _ => none), (11, 16, fun _ => none), (11, 16, fun _ => none), (11, 16, fun _ => none), (11, 64, fun _ => none), (11, 64, fun _ => none), (11, 64, fun _ => none), (14, 64, fun _ => none), (3, 0, xTab_r43 n0), (11, 32, fun _ => none), (11, 32, fun _ => none), (11, 32, fun _ => none), (11, 32, fun _ => none), (11, 32, fun _ => none), (11, 8, fun _ => none), (6, 0, xTab_r50 n0), (11, 301, fun _ => none), (11, 301, fun _ => none), (11, 301, fun _ => none), (11, 1312, fun _ => none), (2, 0, xTab_r55 n0), (12, 33, fun _ => none), (11, 8, fun _ => none)] : List ASh).getD k (0, 0, fun _ => none)
theorem xr_0 (n0 : Nat) : ∀ f, f < 7 → (opRef xOps 0 f).map (n0 + ·) = xTab_r0 n0 f
  | 0, _ => by rw [show opRef xOps 0 0 = some 1 by decide +kernel]; rfl
  | 1, _ => by rw [show opRef xOps 0 1 = some 32 by decide +kernel]; rfl
  | 2, _ => by rw [show opRef xOps 0 2 = some 33 by decide +kernel]; rfl
  | 3, _ => by rw [show opRef xOps 0 3 = some 43 by decide +kernel]; rfl
  | 4, _ => by rw [show opRef xOps 0 4 = some 50 by decide +kernel]; rfl
  | 5, _ => by rw [show opRef xOps 0 5 = some 55 by decide +kernel]; rfl
  | 6, _ => by rw [show opRef xOps 0 6 = some 57 by decide +kernel]; rfl
  | n + 7, h => absurd h (by omega)
theorem xr_1 (n0 : Nat) : ∀ f, f < 7 → (opRef xOps 1 f).map (n0 + ·) = xTab_r1 n0 f
  | 0, _ => by rw [show opRef xOps 1 0 = some 2 by decide +kernel]; rfl
  | 1, _ => by rw [show opRef xOps 1 1 = some 11 by decide +kernel]; rfl
  | 2, _ => by rw [show opRef xOps 1 2 = some 13 by decide +kernel]; rfl
  | 3, _ => by rw [show opRef xOps 1 3 = some 22 by decide +kernel]; rfl
  | 4, _ => by rw [show opRef xOps 1 4 = some 31 by decide +kernel]; rfl
  | 5, _ => by rw [show opRef xOps 1 5 = none by decide +kernel]; rfl
  | 6, _ => by rw [show opRef xOps 1 6 = none by decide +kernel]; rfl
  | n + 7, h => absurd h (by omega)
theorem xr_2 (n0 : Nat) : ∀ f, f < 13 → (opRef xOps 2 f).map (n0 + ·) = xTab_r2 n0 f
  | 0, _ => by rw [show opRef xOps 2 0 = some 3 by decide +kernel]; rfl
  | 1, _ => by rw [show opRef xOps 2 1 = some 4 by decide +kernel]; rfl
  | 2, _ => by rw [show opRef xOps 2 2 = some 5 by decide +kernel]; rfl
  | 3, _ => by rw [show opRef xOps 2 3 = some 6 by decide +kernel]; rfl
  | 4, _ => by rw [show opRef xOps 2 4 = some 7 by decide +kernel]; rfl
  | 5, _ => by rw [show opRef xOps 2 5 = some 8 by decide +kernel]; rfl
  | 6, _ => by rw [show opRef xOps 2 6 = some 9 by decide +kernel]; rfl
  | 7, _ => by rw [show opRef xOps 2 7 = some 10 by decide +kernel]; rfl
  | 8, _ => by rw [show opRef xOps 2 8 = none by decide +kernel]; rfl
  | 9, _ => by rw [show opRef xOps 2 9 = none by decide +kernel]; rfl
  | 10, _ => by rw [show opRef xOps 2 10 = none by decide +kernel]; rfl
  | 11, _ => by rw [show opRef xOps 2 11 = none by decide +kernel]; rfl
  | 12, _ => by rw [show opRef xOps 2 12 = none by decide +kernel]; rfl
  | n + 13, h => absurd h (by omega)
theorem xr_11 (n0 : Nat) : ∀ f, f < 2 → (opRef xOps 11 f).map (n0 + ·) = xTab_r11 n0 f
  | 0, _ => by rw [show opRef xOps 11 0 = some 12 by decide +kernel]; rfl
  | 1, _ => by rw [show opRef xOps 11 1 = none by decide +kernel]; rfl
  | n + 2, h => absurd h (by omega)
theorem xr_13 (n0 : Nat) : ∀ f, f < 9 → (opRef xOps 13 f).map (n0 + ·) = xTab_r13 n0 f
  | 0, _ => by rw [show opRef xOps 13 0 = none by decide +kernel]; rfl
  | 1, _ => by rw [show opRef xOps 13 1 = some 14 by decide +kernel]; rfl
  | 2, _ => by rw [show opRef xOps 13 2 = some 15 by decide +kernel]; rfl
  | 3, _ => by rw [show opRef xOps 13 3 = some 16 by decide +kernel]; rfl
  | 4, _ => by rw [show opRef xOps 13 4 = some 17 by decide +kernel]; rfl
  | 5, _ => by rw [show opRef xOps 13 5 = some 18 by decide +kernel]; rfl
  | 6, _ => by rw [show opRef xOps 13 6 = some 19 by decide +kernel]; rfl
  | 7, _ => by rw [show opRef xOps 13 7 = some 20 by decide +kernel]; rfl
  | 8, _ => by rw [show opRef xOps 13 8 = some 21 by decide +kernel]; rfl
  | n + 9, h => absurd h (by omega)
theorem xr_22 (n0 : Nat) : ∀ f, f < 9 → (opRef xOps 22 f).map (n0 + ·) = xTab_r22 n0 f
  | 0, _ => by rw [show opRef xOps 22 0 = none by decide +kernel]; rfl
  | 1, _ => by rw [show opRef xOps 22 1 = some 23 by decide +kernel]; rfl
  | 2, _ => by rw [show opRef xOps 22 2 = some 24 by decide +kernel]; rfl
  | 3, _ => by rw [show opRef xOps 22 3 = some 25 by decide +kernel]; rfl
  | 4, _ => by rw [show opRef xOps 22 4 = some 26 by decide +kernel]; rfl
  | 5, _ => by rw [show opRef xOps 22 5 = some 27 by decide +kernel]; rfl
  | 6, _ => by rw [show opRef xOps 22 6 = some 28 by decide +kernel]; rfl
  | 7, _ => by rw [show opRef xOps 22 7 = some 29 by decide +kernel]; rfl
  | 8, _ => by rw [show opRef xOps 22 8 = some 30 by decide +kernel]; rfl
  | n + 9, h => absurd h (by omega)
theorem xr_31 (n0 : Nat) : ∀ f, f < 5 → (opRef xOps 31 f).map (n0 + ·) = xTab_r31 n0 f
  | 0, _ => by rw [show opRef xOps 31 0 = none by decide +kernel]; rfl
  | 1, _ => by rw [show opRef xOps 31 1 = none by decide +kernel]; rfl
  | 2, _ => by rw [show opRef xOps 31 2 = none by decide +kernel]; rfl
  | 3, _ => by rw [show opRef xOps 31 3 = none by decide +kernel]; rfl
  | 4, _ => by rw [show opRef xOps 31 4 = none by decide +kernel]; rfl
  | n + 5, h => absurd h (by omega)
theorem xr_33 (n0 : Nat) : ∀ f, f < 8 → (opRef xOps 33 f).map (n0 + ·) = xTab_r33 n0 f
  | 0, _ => by rw [show opRef xOps 33 0 = some 34 by decide +kernel]; rfl
  | 1, _ => by rw [show opRef xOps 33 1 = none by decide +kernel]; rfl
  | 2, _ => by rw [show opRef xOps 33 2 = none by decide +kernel]; rfl
  | 3, _ => by rw [show opRef xOps 33 3 = some 11 by decide +kernel]; rfl
  | 4, _ => by rw [show opRef xOps 33 4 = none by decide +kernel]; rfl
  | 5, _ => by rw [show opRef xOps 33 5 = none by decide +kernel]; rfl
  | 6, _ => by rw [show opRef xOps 33 6 = none by decide +kernel]; rfl
  | 7, _ => by rw [show opRef xOps 33 7 = none by decide +kernel]; rfl
  | n + 8, h => absurd h (by omega)
theorem xr_34 (n0 : Nat) : ∀ f, f < 9 → (opRef xOps 34 f).map (n0 + ·) = xTab_r34 n0 f
  | 0, _ => by rw [show opRef xOps 34 0 = none by decide +kernel]; rfl
  | 1, _ => by rw [show opRef xOps 34 1 = some 35 by decide +kernel]; rfl
  | 2, _ => by rw [show opRef xOps 34 2 = some 36 by decide +kernel]; rfl
  | 3, _ => by rw [show opRef xOps 34 3 = some 37 by decide +kernel]; rfl
  | 4, _ => by rw [show opRef xOps 34 4 = some 38 by decide +kernel]; rfl
  | 5, _ => by rw [show opRef xOps 34 5 = some 39 by decide +kernel]; rfl
  | 6, _ => by rw [show opRef xOps 34 6 = some 40 by decide +kernel]; rfl
  | 7, _ => by rw [show opRef xOps 34 7 = some 41 by decide +kernel]; rfl
  | 8, _ => by rw [show opRef xOps 34 8 = some 42 by decide +kernel]; rfl
  | n + 9, h => absurd h (by omega)
theorem xr_43 (n0 : Nat) : ∀ f, f < 7 → (opRef xOps 43 f).map (n0 + ·) = xTab_r43 n0 f
  | 0, _ => by rw [show opRef xOps 43 0 = none by decide +kernel]; rfl
  | 1, _ => by rw [show opRef xOps 43 1 = some 44 by decide +kernel]; rfl
  | 2, _ => by rw [show opRef xOps 43 2 = some 45 by decide +kernel]; rfl
  | 3, _ => by rw [show opRef xOps 43 3 = some 46 by decide +kernel]; rfl
  | 4, _ => by rw [show opRef xOps 43 4 = some 47 by decide +kernel]; rfl
  | 5, _ => by rw [show opRef xOps 43 5 = some 48 by decide +kernel]; rfl
  | 6, _ => by rw [show opRef xOps 43 6 = some 49 by decide +kernel]; rfl
  | n + 7, h => absurd h (by omega)
theorem xr_50 (n0 : Nat) : ∀ f, f < 7 → (opRef xOps 50 f).map (n0 + ·) = xTab_r50 n0 f
  | 0, _ => by rw [show opRef xOps 50 0 = none by decide +kernel]; rfl
  | 1, _ => by rw [show opRef xOps 50 1 = none by decide +kernel]; rfl
  | 2, _ => by rw [show opRef xOps 50 2 = some 51 by decide +kernel]; rfl
  | 3, _ => by rw [show opRef xOps 50 3 = some 52 by decide +kernel]; rfl
  | 4, _ => by rw [show opRef xOps 50 4 = some 53 by decide +kernel]; rfl
  | 5, _ => by rw [show opRef xOps 50 5 = none by decide +kernel]; rfl
  | 6, _ => by rw [show opRef xOps 50 6 = some 54 by decide +kernel]; rfl
  | n + 7, h => absurd h (by omega)
theorem xr_55 (n0 : Nat) : ∀ f, f < 1 → (opRef xOps 55 f).map (n0 + ·) = xTab_r55 n0 f
  | 0, _ => by rw [show opRef xOps 55 0 = some 56 by decide +kernel]; rfl
  | n + 1, h => absurd h (by omega)
theorem x_cnt : opCnt xOps = 58 := by decide +kernel
theorem x_sh : ∀ k, k < 58 → opSh xOps k = ([(9, 0), (7, 0), (0, 0), (11, 352), (11, 352), (11, 32), (11, 32), (11, 400), (11, 400), (11, 400), (11, 400), (8, 0), (13, 500), (5, 0), (11, 16), (11, 16), (11, 16), (11, 16), (11, 64), (11, 64), (11, 64), (14, 64), (5, 0), (11, 16), (11, 16), (11, 16), (11, 16), (11, 64), (11, 64), (11, 64), (14, 64), (1, 0), (15, 3), (4, 0), (5, 0), (11, 16), (11, 16), (11, 16), (11, 16), (11, 64), (11, 64), (11, 64), (14, 64), (3, 0), (11, 32), (11, 32), (11, 32), (11, 32), (11, 32), (11, 8), (6, 0), (11, 301), (11, 301), (11, 301), (11, 1312), (2, 0), (12, 33), (11, 8)] : List (Nat × Nat)).getD k (0, 0) := by decide +kernel
set_option maxHeartbeats 4000000 in
set_option maxRecDepth 100000 in
theorem x_pic (n0 : Nat) {cy : Nat → ClassId} {D : ADD} : ∀ k, k < 58 → aPic cy ((opRun n0 xOps).1.2.2 k) D k = aPic cy (xSh n0 k) D k
  | 0, h => by rw [(opRun_spec n0 xOps).2.2.1 0, x_sh 0 (by decide)]; exact aPic_eqv rfl rfl (show (9 : Nat) ≠ 15 by decide) (fun f hf => xr_0 n0 f hf)
  | 1, h => by rw [(opRun_spec n0 xOps).2.2.1 1, x_sh 1 (by decide)]; exact aPic_eqv rfl rfl (show (7 : Nat) ≠ 15 by decide) (fun f hf => xr_1 n0 f hf)
  | 2, h => by rw [(opRun_spec n0 xOps).2.2.1 2, x_sh 2 (by decide)]; exact aPic_eqv rfl rfl (show (0 : Nat) ≠ 15 by decide) (fun f hf => xr_2 n0 f hf)
  | 3, h => by rw [(opRun_spec n0 xOps).2.2.1 3, x_sh 3 (by decide)]; rfl
  | 4, h => by rw [(opRun_spec n0 xOps).2.2.1 4, x_sh 4 (by decide)]; rfl
  | 5, h => by rw [(opRun_spec n0 xOps).2.2.1 5, x_sh 5 (by decide)]; rfl
  | 6, h => by rw [(opRun_spec n0 xOps).2.2.1 6, x_sh 6 (by decide)]; rfl
  | 7, h => by rw [(opRun_spec n0 xOps).2.2.1 7, x_sh 7 (by decide)]; rfl
  | 8, h => by rw [(opRun_spec n0 xOps).2.2.1 8, x_sh 8 (by decide)]; rfl
  | 9, h => by rw [(opRun_spec n0 xOps).2.2.1 9, x_sh 9 (by decide)]; rfl
  | 10, h => by rw [(opRun_spec n0 xOps).2.2.1 10, x_sh 10 (by decide)]; rfl
  | 11, h => by rw [(opRun_spec n0 xOps).2.2.1 11, x_sh 11 (by decide)]; exact aPic_eqv rfl rfl (show (8 : Nat) ≠ 15 by decide) (fun f hf => xr_11 n0 f hf)
  | 12, h => by rw [(opRun_spec n0 xOps).2.2.1 12, x_sh 12 (by decide)]; rfl
  | 13, h => by rw [(opRun_spec n0 xOps).2.2.1 13, x_sh 13 (by decide)]; exact aPic_eqv rfl rfl (show (5 : Nat) ≠ 15 by decide) (fun f hf => xr_13 n0 f hf)
  | 14, h => by rw [(opRun_spec n0 xOps).2.2.1 14, x_sh 14 (by decide)]; rfl
  | 15, h => by rw [(opRun_spec n0 xOps).2.2.1 15, x_sh 15 (by decide)]; rfl
  | 16, h => by rw [(opRun_spec n0 xOps).2.2.1 16, x_sh 16 (by decide)]; rfl
  | 17, h => by rw [(opRun_spec n0 xOps).2.2.1 17, x_sh 17 (by decide)]; rfl
  | 18, h => by rw [(opRun_spec n0 xOps).2.2.1 18, x_sh 18 (by decide)]; rfl
  | 19, h => by rw [(opRun_spec n0 xOps).2.2.1 19, x_sh 19 (by decide)]; rfl
  | 20, h => by rw [(opRun_spec n0 xOps).2.2.1 20, x_sh 20 (by decide)]; rfl
  | 21, h => by rw [(opRun_spec n0 xOps).2.2.1 21, x_sh 21 (by decide)]; rfl
  | 22, h => by rw [(opRun_spec n0 xOps).2.2.1 22, x_sh 22 (by decide)]; exact aPic_eqv rfl rfl (show (5 : Nat) ≠ 15 by decide) (fun f hf => xr_22 n0 f hf)
  | 23, h => by rw [(opRun_spec n0 xOps).2.2.1 23, x_sh 23 (by decide)]; rfl
  | 24, h => by rw [(opRun_spec n0 xOps).2.2.1 24, x_sh 24 (by decide)]; rfl
  | 25, h => by rw [(opRun_spec n0 xOps).2.2.1 25, x_sh 25 (by decide)]; rfl
  | 26, h => by rw [(opRun_spec n0 xOps).2.2.1 26, x_sh 26 (by decide)]; rfl
  | 27, h => by rw [(opRun_spec n0 xOps).2.2.1 27, x_sh 27 (by decide)]; rfl
  | 28, h => by rw [(opRun_spec n0 xOps).2.2.1 28, x_sh 28 (by decide)]; rfl
  | 29, h => by rw [(opRun_spec n0 xOps).2.2.1 29, x_sh 29 (by decide)]; rfl
  | 30, h => by rw [(opRun_spec n0 xOps).2.2.1 30, x_sh 30 (by decide)]; rfl
  | 31, h => by rw [(opRun_spec n0 xOps).2.2.1 31, x_sh 31 (by decide)]; exact aPic_eqv rfl rfl (show (1 : Nat) ≠ 15 by decide) (fun f hf => xr_31 n0 f hf)
  | 32, h => by rw [(opRun_spec n0 xOps).2.2.1 32, x_sh 32 (by decide)]; exact aPic_q (by funext f; rw [opRef_none xOps (by decide +kernel)]; rfl)
  | 33, h => by rw [(opRun_spec n0 xOps).2.2.1 33, x_sh 33 (by decide)]; exact aPic_eqv rfl rfl (show (4 : Nat) ≠ 15 by decide) (fun f hf => xr_33 n0 f hf)
  | 34, h => by rw [(opRun_spec n0 xOps).2.2.1 34, x_sh 34 (by decide)]; exact aPic_eqv rfl rfl (show (5 : Nat) ≠ 15 by decide) (fun f hf => xr_34 n0 f hf)
  | 35, h => by rw [(opRun_spec n0 xOps).2.2.1 35, x_sh 35 (by decide)]; rfl
  | 36, h => by rw [(opRun_spec n0 xOps).2.2.1 36, x_sh 36 (by decide)]; rfl
  | 37, h => by rw [(opRun_spec n0 xOps).2.2.1 37, x_sh 37 (by decide)]; rfl
  | 38, h => by rw [(opRun_spec n0 xOps).2.2.1 38, x_sh 38 (by decide)]; rfl
  | 39, h => by rw [(opRun_spec n0 xOps).2.2.1 39, x_sh 39 (by decide)]; rfl
  | 40, h => by rw [(opRun_spec n0 xOps).2.2.1 40, x_sh 40 (by decide)]; rfl
  | 41, h => by rw [(opRun_spec n0 xOps).2.2.1 41, x_sh 41 (by decide)]; rfl
  | 42, h => by rw [(opRun_spec n0 xOps).2.2.1 42, x_sh 42 (by decide)]; rfl
  | 43, h => by rw [(opRun_spec n0 xOps).2.2.1 43, x_sh 43 (by decide)]; exact aPic_eqv rfl rfl (show (3 : Nat) ≠ 15 by decide) (fun f hf => xr_43 n0 f hf)
  | 44, h => by rw [(opRun_spec n0 xOps).2.2.1 44, x_sh 44 (by decide)]; rfl
  | 45, h => by rw [(opRun_spec n0 xOps).2.2.1 45, x_sh 45 (by decide)]; rfl
  | 46, h => by rw [(opRun_spec n0 xOps).2.2.1 46, x_sh 46 (by decide)]; rfl
  | 47, h => by rw [(opRun_spec n0 xOps).2.2.1 47, x_sh 47 (by decide)]; rfl
  | 48, h => by rw [(opRun_spec n0 xOps).2.2.1 48, x_sh 48 (by decide)]; rfl
  | 49, h => by rw [(opRun_spec n0 xOps).2.2.1 49, x_sh 49 (by decide)]; rfl
  | 50, h => by rw [(opRun_spec n0 xOps).2.2.1 50, x_sh 50 (by decide)]; exact aPic_eqv rfl rfl (show (6 : Nat) ≠ 15 by decide) (fun f hf => xr_50 n0 f hf)
  | 51, h => by rw [(opRun_spec n0 xOps).2.2.1 51, x_sh 51 (by decide)]; rfl
  | 52, h => by rw [(opRun_spec n0 xOps).2.2.1 52, x_sh 52 (by decide)]; rfl
  | 53, h => by rw [(opRun_spec n0 xOps).2.2.1 53, x_sh 53 (by decide)]; rfl
  | 54, h => by rw [(opRun_spec n0 xOps).2.2.1 54, x_sh 54 (by decide)]; rfl
  | 55, h => by rw [(opRun_spec n0 xOps).2.2.1 55, x_sh 55 (by decide)]; exact aPic_eqv rfl rfl (show (2 : Nat) ≠ 15 by decide) (fun f hf => xr_55 n0 f hf)
  | 56, h => by rw [(opRun_spec n0 xOps).2.2.1 56, x_sh 56 (by decide)]; rfl
  | 57, h => by rw [(opRun_spec n0 xOps).2.2.1 57, x_sh 57 (by decide)]; rfl
  | n + 58, h => absurd h (by omega)
theorem mr_0 (n0 : Nat) : ∀ f, f < 51 → (opRef mOps 0 f).map (n0 + ·) = mTab_r0 n0 f
  | 0, _ => by rw [show opRef mOps 0 0 = none by decide +kernel]; rfl
  | 1, _ => by rw [show opRef mOps 0 1 = some 1 by decide +kernel]; rfl
  | 2, _ => by rw [show opRef mOps 0 2 = some 2 by decide +kernel]; rfl
  | 3, _ => by rw [show opRef mOps 0 3 = some 3 by decide +kernel]; rfl
  | 4, _ => by rw [show opRef mOps 0 4 = some 4 by decide +kernel]; rfl
  | 5, _ => by rw [show opRef mOps 0 5 = some 5 by decide +kernel]; rfl
  | 6, _ => by rw [show opRef mOps 0 6 = some 6 by decide +kernel]; rfl
  | 7, _ => by rw [show opRef mOps 0 7 = some 7 by decide +kernel]; rfl
  | 8, _ => by rw [show opRef mOps 0 8 = some 8 by decide +kernel]; rfl
  | 9, _ => by rw [show opRef mOps 0 9 = some 9 by decide +kernel]; rfl
  | 10, _ => by rw [show opRef mOps 0 10 = some 10 by decide +kernel]; rfl
  | 11, _ => by rw [show opRef mOps 0 11 = some 11 by decide +kernel]; rfl
  | 12, _ => by rw [show opRef mOps 0 12 = some 12 by decide +kernel]; rfl
  | 13, _ => by rw [show opRef mOps 0 13 = some 13 by decide +kernel]; rfl
  | 14, _ => by rw [show opRef mOps 0 14 = some 14 by decide +kernel]; rfl
  | 15, _ => by rw [show opRef mOps 0 15 = some 15 by decide +kernel]; rfl
  | 16, _ => by rw [show opRef mOps 0 16 = some 16 by decide +kernel]; rfl
  | 17, _ => by rw [show opRef mOps 0 17 = some 17 by decide +kernel]; rfl
  | 18, _ => by rw [show opRef mOps 0 18 = some 18 by decide +kernel]; rfl
  | 19, _ => by rw [show opRef mOps 0 19 = some 19 by decide +kernel]; rfl
  | 20, _ => by rw [show opRef mOps 0 20 = some 20 by decide +kernel]; rfl
  | 21, _ => by rw [show opRef mOps 0 21 = some 21 by decide +kernel]; rfl
  | 22, _ => by rw [show opRef mOps 0 22 = some 22 by decide +kernel]; rfl
  | 23, _ => by rw [show opRef mOps 0 23 = none by decide +kernel]; rfl
  | 24, _ => by rw [show opRef mOps 0 24 = none by decide +kernel]; rfl
  | 25, _ => by rw [show opRef mOps 0 25 = none by decide +kernel]; rfl
  | 26, _ => by rw [show opRef mOps 0 26 = none by decide +kernel]; rfl
  | 27, _ => by rw [show opRef mOps 0 27 = none by decide +kernel]; rfl
  | 28, _ => by rw [show opRef mOps 0 28 = none by decide +kernel]; rfl
  | 29, _ => by rw [show opRef mOps 0 29 = none by decide +kernel]; rfl
  | 30, _ => by rw [show opRef mOps 0 30 = none by decide +kernel]; rfl
  | 31, _ => by rw [show opRef mOps 0 31 = none by decide +kernel]; rfl
  | 32, _ => by rw [show opRef mOps 0 32 = none by decide +kernel]; rfl
  | 33, _ => by rw [show opRef mOps 0 33 = some 23 by decide +kernel]; rfl
  | 34, _ => by rw [show opRef mOps 0 34 = some 24 by decide +kernel]; rfl
  | 35, _ => by rw [show opRef mOps 0 35 = some 25 by decide +kernel]; rfl
  | 36, _ => by rw [show opRef mOps 0 36 = some 26 by decide +kernel]; rfl
  | 37, _ => by rw [show opRef mOps 0 37 = some 27 by decide +kernel]; rfl
  | 38, _ => by rw [show opRef mOps 0 38 = some 28 by decide +kernel]; rfl
  | 39, _ => by rw [show opRef mOps 0 39 = some 29 by decide +kernel]; rfl
  | 40, _ => by rw [show opRef mOps 0 40 = some 30 by decide +kernel]; rfl
  | 41, _ => by rw [show opRef mOps 0 41 = none by decide +kernel]; rfl
  | 42, _ => by rw [show opRef mOps 0 42 = some 31 by decide +kernel]; rfl
  | 43, _ => by rw [show opRef mOps 0 43 = some 32 by decide +kernel]; rfl
  | 44, _ => by rw [show opRef mOps 0 44 = some 33 by decide +kernel]; rfl
  | 45, _ => by rw [show opRef mOps 0 45 = some 34 by decide +kernel]; rfl
  | 46, _ => by rw [show opRef mOps 0 46 = some 35 by decide +kernel]; rfl
  | 47, _ => by rw [show opRef mOps 0 47 = some 36 by decide +kernel]; rfl
  | 48, _ => by rw [show opRef mOps 0 48 = some 37 by decide +kernel]; rfl
  | 49, _ => by rw [show opRef mOps 0 49 = some 38 by decide +kernel]; rfl
  | 50, _ => by rw [show opRef mOps 0 50 = some 39 by decide +kernel]; rfl
  | n + 51, h => absurd h (by omega)
theorem m_cnt : opCnt mOps = 40 := by decide +kernel
theorem m_sh : ∀ k, k < 40 → opSh mOps k = ([(10, 0), (13, 2000), (11, 4), (11, 4), (11, 4), (11, 4), (11, 4), (11, 4), (11, 4), (11, 6400), (11, 384), (11, 4), (11, 4), (11, 8), (11, 4), (11, 8), (11, 128), (11, 512), (11, 512), (11, 512), (11, 128), (11, 128), (11, 128), (11, 17), (11, 64), (11, 64), (11, 64), (11, 17), (11, 17), (11, 17), (11, 8), (14, 32), (11, 352), (11, 32), (11, 32), (14, 32), (11, 301), (12, 33), (14, 32), (14, 3)] : List (Nat × Nat)).getD k (0, 0) := by decide +kernel
set_option maxHeartbeats 4000000 in
set_option maxRecDepth 100000 in
theorem m_pic (n0 : Nat) {cy : Nat → ClassId} {D : ADD} : ∀ k, k < 40 → aPic cy ((opRun n0 mOps).1.2.2 k) D k = aPic cy (mSh n0 k) D k
  | 0, h => by rw [(opRun_spec n0 mOps).2.2.1 0, m_sh 0 (by decide)]; exact aPic_eqv rfl rfl (show (10 : Nat) ≠ 15 by decide) (fun f hf => mr_0 n0 f hf)
  | 1, h => by rw [(opRun_spec n0 mOps).2.2.1 1, m_sh 1 (by decide)]; rfl
  | 2, h => by rw [(opRun_spec n0 mOps).2.2.1 2, m_sh 2 (by decide)]; rfl
  | 3, h => by rw [(opRun_spec n0 mOps).2.2.1 3, m_sh 3 (by decide)]; rfl
  | 4, h => by rw [(opRun_spec n0 mOps).2.2.1 4, m_sh 4 (by decide)]; rfl
  | 5, h => by rw [(opRun_spec n0 mOps).2.2.1 5, m_sh 5 (by decide)]; rfl
  | 6, h => by rw [(opRun_spec n0 mOps).2.2.1 6, m_sh 6 (by decide)]; rfl
  | 7, h => by rw [(opRun_spec n0 mOps).2.2.1 7, m_sh 7 (by decide)]; rfl
  | 8, h => by rw [(opRun_spec n0 mOps).2.2.1 8, m_sh 8 (by decide)]; rfl
  | 9, h => by rw [(opRun_spec n0 mOps).2.2.1 9, m_sh 9 (by decide)]; rfl
  | 10, h => by rw [(opRun_spec n0 mOps).2.2.1 10, m_sh 10 (by decide)]; rfl
  | 11, h => by rw [(opRun_spec n0 mOps).2.2.1 11, m_sh 11 (by decide)]; rfl
  | 12, h => by rw [(opRun_spec n0 mOps).2.2.1 12, m_sh 12 (by decide)]; rfl
  | 13, h => by rw [(opRun_spec n0 mOps).2.2.1 13, m_sh 13 (by decide)]; rfl
  | 14, h => by rw [(opRun_spec n0 mOps).2.2.1 14, m_sh 14 (by decide)]; rfl
  | 15, h => by rw [(opRun_spec n0 mOps).2.2.1 15, m_sh 15 (by decide)]; rfl
  | 16, h => by rw [(opRun_spec n0 mOps).2.2.1 16, m_sh 16 (by decide)]; rfl
  | 17, h => by rw [(opRun_spec n0 mOps).2.2.1 17, m_sh 17 (by decide)]; rfl
  | 18, h => by rw [(opRun_spec n0 mOps).2.2.1 18, m_sh 18 (by decide)]; rfl
  | 19, h => by rw [(opRun_spec n0 mOps).2.2.1 19, m_sh 19 (by decide)]; rfl
  | 20, h => by rw [(opRun_spec n0 mOps).2.2.1 20, m_sh 20 (by decide)]; rfl
  | 21, h => by rw [(opRun_spec n0 mOps).2.2.1 21, m_sh 21 (by decide)]; rfl
  | 22, h => by rw [(opRun_spec n0 mOps).2.2.1 22, m_sh 22 (by decide)]; rfl
  | 23, h => by rw [(opRun_spec n0 mOps).2.2.1 23, m_sh 23 (by decide)]; rfl
  | 24, h => by rw [(opRun_spec n0 mOps).2.2.1 24, m_sh 24 (by decide)]; rfl
  | 25, h => by rw [(opRun_spec n0 mOps).2.2.1 25, m_sh 25 (by decide)]; rfl
  | 26, h => by rw [(opRun_spec n0 mOps).2.2.1 26, m_sh 26 (by decide)]; rfl
  | 27, h => by rw [(opRun_spec n0 mOps).2.2.1 27, m_sh 27 (by decide)]; rfl
  | 28, h => by rw [(opRun_spec n0 mOps).2.2.1 28, m_sh 28 (by decide)]; rfl
  | 29, h => by rw [(opRun_spec n0 mOps).2.2.1 29, m_sh 29 (by decide)]; rfl
  | 30, h => by rw [(opRun_spec n0 mOps).2.2.1 30, m_sh 30 (by decide)]; rfl
  | 31, h => by rw [(opRun_spec n0 mOps).2.2.1 31, m_sh 31 (by decide)]; rfl
  | 32, h => by rw [(opRun_spec n0 mOps).2.2.1 32, m_sh 32 (by decide)]; rfl
  | 33, h => by rw [(opRun_spec n0 mOps).2.2.1 33, m_sh 33 (by decide)]; rfl
  | 34, h => by rw [(opRun_spec n0 mOps).2.2.1 34, m_sh 34 (by decide)]; rfl
  | 35, h => by rw [(opRun_spec n0 mOps).2.2.1 35, m_sh 35 (by decide)]; rfl
  | 36, h => by rw [(opRun_spec n0 mOps).2.2.1 36, m_sh 36 (by decide)]; rfl
  | 37, h => by rw [(opRun_spec n0 mOps).2.2.1 37, m_sh 37 (by decide)]; rfl
  | 38, h => by rw [(opRun_spec n0 mOps).2.2.1 38, m_sh 38 (by decide)]; rfl
  | 39, h => by rw [(opRun_spec n0 mOps).2.2.1 39, m_sh 39 (by decide)]; rfl
  | n + 40, h => absurd h (by omega)
/-- x and m at the loop's beginning -/
def xB (n0 : Nat) : APD := ((98, List.range 58, xSh n0), (x0 n0).2)
theorem xB_W (n0 : Nat) {cy : Nat → ClassId} : aW n0 cy (x0 n0).1 (x0 n0).2 = aW n0 cy (xB n0).1 (xB n0).2 := by
  refine aW_eqv ?_ (fun k hk => ?_)
  · rw [x0_run, (opRun_spec n0 xOps).2.1, x_cnt]; rfl
  · rw [x0_run, (opRun_spec n0 xOps).2.1, x_cnt] at hk
    show aPic cy ((x0 n0).1.2.2 k) (x0 n0).2 k = aPic cy (xSh n0 k) (x0 n0).2 k
    generalize (x0 n0).2 = D9
    rw [x0_run]
    exact x_pic n0 k (List.mem_range.mp hk)
theorem mB_W (n0 : Nat) {cy : Nat → ClassId} : aW (n0 + 58) cy (m0 (n0 + 58)).1 (m0 (n0 + 58)).2 = aW (n0 + 58) cy (lM n0 98) (m0 (n0 + 58)).2 := by
  refine aW_eqv ?_ (fun k hk => ?_)
  · rw [m0_run, (opRun_spec _ mOps).2.1, m_cnt]; rfl
  · rw [m0_run, (opRun_spec _ mOps).2.1, m_cnt] at hk
    show aPic cy ((m0 (n0 + 58)).1.2.2 k) (m0 (n0 + 58)).2 k = aPic cy (mSh (n0 + 58) k) (m0 (n0 + 58)).2 k
    generalize (m0 (n0 + 58)).2 = D9
    rw [m0_run]
    exact m_pic _ k (List.mem_range.mp hk)
theorem x0_N (n0 : Nat) : (x0 n0).1.1 = 58 := by rw [x0_run, (opRun_spec n0 xOps).1, x_cnt]
theorem m0_N (n1 : Nat) : (m0 n1).1.1 = 40 := by rw [m0_run, (opRun_spec n1 mOps).1, m_cnt]
set_option maxHeartbeats 4000000 in
set_option maxRecDepth 100000 in
/-- from the law's entry to its loop, for any invariant that holds at the beginning -/
theorem law_start {p : Program} {l : Launch} {e : Env} {s : State} {m : MethodId} {below : List Frame} {meth : Method} {c : Code} {b L : Nat} {xs : Nat → Int32} {G : LG} {I : Nat → APD → ADD → Prop} (hL : L ≤ 3072) (hC : LC (p, l, e, s, m, below, meth, c) b L xs G) (hA : ∀ k, 6 * k + 6 ≤ L → LAll s.heap.size (I k) (I (k + 1))) (h0 : I 0 (xB s.heap.size) (m0 (s.heap.size + 58)).2) : W p l e room_1 s m #[Value.ref b] below meth c s.heap [] 0 0 (lw_Z below #[Value.ref b] s) (entryFrame m ([Value.ref b] : List Value).toArray 4) := by
  have hC0 := hC
  obtain ⟨dC, dI, cy, ex⟩ := G
  obtain ⟨C0, hK, hE⟩ := hC0
  have hlv := aLoc_lv (nL := 4) (av := [Value.ref b]) (Nat.le_of_ble_eq_true rfl)
  rw [lg_entry_eq]
  generalize (lg_sl ([.ref b]) ++ List.replicate (4 - (lg_sl ([.ref b])).length) Slot.unset).toArray = ls at hlv ⊢
  have hlv : aLv ls [some (.ref b), none, none, none] := hlv
  obtain ⟨hx, hb, hr, hml, hown, hts, hX, hbl, hlocks, hgv⟩ := id C0
  have hE0 : ∀ base : Nat, va_P (dC, dI) vwCl (aW base cy aE0.1 aE0.2) s.heap := fun base k q h => by simp [aW, aE0] at h
  refine S_new (P := aE0) (base := s.heap.size) C0 hK kX10 (by decide) dfX10 w_21 w_22 w_1 ⟨by decide, by decide⟩ rfl (hE0 _) dL_law_0 (fun H1 z1 q1 o1 => ?_)
  refine lv_dup hx hb dL_law_3 rfl ?_
  have hS1 : va_S (fun q => s.heap.size ≤ q) s.heap H1 [] := ⟨by have : H1.size = s.heap.size + (0 + 1) := z1; omega, fun q g1 _ => o1 q g1, fun q hq => by cases hq⟩
  have hD1 : va_D (aA s.heap.size (aNO aE0 9).1) (aW s.heap.size cy (aNO aE0 9).1 (aNO aE0 9).2) := by
    refine ⟨fun i j x y hi hj _ => ?_, fun k q hk => ?_⟩
    · have h1 := (List.getElem?_eq_some_iff.mp hi).1
      have h2 := (List.getElem?_eq_some_iff.mp hj).1
      have h3 : (aW s.heap.size cy (aNO aE0 9).1 (aNO aE0 9).2).length = 1 := rfl
      omega
    · have h1 := (List.getElem?_eq_some_iff.mp hk).1
      have h3 : (aW s.heap.size cy (aNO aE0 9).1 (aNO aE0 9).2).length = 1 := rfl
      have hk0 : k = 0 := by omega
      subst hk0
      cases hk
      exact Or.inl ⟨0, List.mem_singleton.mpr rfl, rfl⟩
  have hh1 : aHas (aNO aE0 9) 0 9 := aHas_new (P := aE0) (S := (9, 0, fun _ => none))
  refine S_init (P := aNO aE0 9) (base := s.heap.size) (o := 0) (E2 := x0 s.heap.size) (mc2 := 57) (ms2 := 6332) C0 hK hE (Nat.le_refl _) (mk_X10_init l (s.heap.size, dC, dI, cy, ex, (aNO aE0 9).1) 0 (aNO aE0 9).2 hh1 rfl) rfl w_23 w_24 w_1 w_25 (by decide +kernel) hlv.1 ⟨by decide, by decide⟩ (Nat.le_of_ble_eq_true rfl) ⟨by decide, by decide⟩ z1 q1 hD1 hS1 dL_law_4 (fun H2 locs2 z2 q2 o2 d2 hS2 => ?_)
  refine lv_astore_n hx hb dL_law_7 rfl (aLv_has hlv) (Nat.le_of_ble_eq_true rfl) rfl (fun ls2 h6 => ?_)
  have hlv2 : aLv ls2 [some (.ref b), some (.ref (s.heap.size + 0)), none, none] := aLv_1 (Nat.le_of_ble_eq_true rfl) rfl h6
  have zx := x0_N s.heap.size
  rw [zx] at z2
  refine S_new (P := aE0) (base := s.heap.size + 58) C0 hK kX11 (by decide) dfX11 w_997 w_998 w_11 ⟨by decide, by decide⟩ z2 (fun k q h => by simp [aW, aE0] at h) dL_law_8 (fun H3 z3 q3 o3 => ?_)
  refine lv_dup hx hb dL_law_11 rfl ?_
  have hS3 : va_S (fun q => s.heap.size ≤ q) s.heap H3 locs2 := ⟨by have : H3.size = s.heap.size + 58 + (0 + 1) := z3; omega, fun q g1 g2 => (o3 q (by omega)).trans (hS2.2.1 q g1 g2), hS2.2.2⟩
  have hD3 : va_D (aA (s.heap.size + 58) (aNO aE0 10).1) (aW (s.heap.size + 58) cy (aNO aE0 10).1 (aNO aE0 10).2) := by
    refine ⟨fun i j x y hi hj _ => ?_, fun k q hk => ?_⟩
    · have h1 := (List.getElem?_eq_some_iff.mp hi).1
      have h2 := (List.getElem?_eq_some_iff.mp hj).1
      have h3 : (aW (s.heap.size + 58) cy (aNO aE0 10).1 (aNO aE0 10).2).length = 1 := rfl
      omega
    · have h1 := (List.getElem?_eq_some_iff.mp hk).1
      have h3 : (aW (s.heap.size + 58) cy (aNO aE0 10).1 (aNO aE0 10).2).length = 1 := rfl
      have hk0 : k = 0 := by omega
      subst hk0
      cases hk
      exact Or.inl ⟨0, List.mem_singleton.mpr rfl, rfl⟩
  have hh3 : aHas (aNO aE0 10) 0 10 := aHas_new (P := aE0) (S := (10, 0, fun _ => none))
  refine S_init (P := aNO aE0 10) (base := s.heap.size + 58) (o := 0) (E2 := m0 (s.heap.size + 58)) (mc2 := 39) (ms2 := 12005) C0 hK hE (Nat.le_add_right _ _) (mk_X11_init l (s.heap.size + 58, dC, dI, cy, ex, (aNO aE0 10).1) 0 (aNO aE0 10).2 hh3 rfl) rfl w_999 w_1000 w_11 w_1001 (by decide +kernel) hlv2.1 ⟨by decide, by decide⟩ (Nat.le_of_ble_eq_true rfl) ⟨by decide, by decide⟩ z3 q3 hD3 hS3 dL_law_12 (fun H4 locs4 z4 q4 o4 d4 hS4 => ?_)
  refine lv_astore_n hx hb dL_law_15 rfl (aLv_has hlv2) (Nat.le_of_ble_eq_true rfl) rfl (fun ls4 h6 => ?_)
  have hlv4 : aLv ls4 [some (.ref b), some (.ref (s.heap.size + 0)), some (.ref (s.heap.size + 58 + 0)), none] := aLv_1 (Nat.le_of_ble_eq_true rfl) rfl h6
  refine lv_iconst (v := 0) hx hb dL_law_16 (by decide) ?_
  refine lv_istore_n hx hb dL_law_17 rfl (aLv_has hlv4) (Nat.le_of_ble_eq_true rfl) rfl (fun ls5 h7 => ?_)
  have hlv5 : aLv ls5 [some (.ref b), some (.ref (s.heap.size + 0)), some (.ref (s.heap.size + 58 + 0)), some (.int 0)] := aLv_1 (Nat.le_of_ble_eq_true rfl) rfl h7
  have zm := m0_N (s.heap.size + 58)
  have hz4 : H4.size = s.heap.size + 98 := by rw [z4, zm]
  have hx4 : va_P (dC, dI) vwCl (aW s.heap.size cy (xB s.heap.size).1 (xB s.heap.size).2) H4 := by
    rw [← xB_W]
    refine q2.kept (fun k q hk => ?_)
    have hl := (q2 k q hk).lt
    have h9 := o3 q.1 hl
    rw [← h9]
    refine o4 q.1 (by have : H3.size = s.heap.size + 58 + (0 + 1) := z3; omega) (fun hA => ?_)
    have := aA_ge q.1 hA
    omega
  have hm4 : va_P (dC, dI) vwCl (aW (s.heap.size + 58) cy (lM s.heap.size (xB s.heap.size).1.1) (m0 (s.heap.size + 58)).2) H4 := by
    have h9 := mB_W s.heap.size (cy := cy)
    show va_P (dC, dI) vwCl (aW (s.heap.size + 58) cy (lM s.heap.size 98) (m0 (s.heap.size + 58)).2) H4
    rw [← h9]
    exact q4
  have hd4 : va_D (fun q => s.heap.size ≤ q) (aW s.heap.size cy (xB s.heap.size).1 (xB s.heap.size).2) := by
    rw [← xB_W]
    exact d2.weaken (fun k q _ h => aA_ge _ h)
  exact law_loop hL hC hA (L + 7) 0 0 _ _ (by omega) (by omega) rfl ⟨by decide, by decide⟩ (xB s.heap.size) _ h0 H4 ls5 locs4 hz4 hx4 hm4 hd4 hS4 hlv5
