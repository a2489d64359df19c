theorem op_NA {n0 kind n : Nat} {r : List aOp} : aNA (opRun n0 r) kind n = opRun n0 ((0, kind, n, 0, 0) :: r) := rfl
theorem op_NO {n0 ci : Nat} {r : List aOp} : aNO (opRun n0 r) ci = opRun n0 ((0, ci, 0, 0, 0) :: r) := rfl
theorem op_PR {n0 k f v : Nat} {r : List aOp} : aPR (opRun n0 r) k f (n0 + v) = opRun n0 ((1, k, f, v, 0) :: r) := rfl
theorem op_PI {n0 k f : Nat} {x : Int32} {r : List aOp} : aPI (opRun n0 r) k f x = opRun n0 ((2, k, f, 0, x) :: r) := rfl
set_option maxHeartbeats 4000000 in
set_option maxRecDepth 100000 in
theorem fI_X0_init_run (n0 k : Nat) (r : List aOp) : fI_X0_init n0 k (opRun n0 r) = opRun n0 ((2, k, 12, 0, -1) :: (2, k, 11, 0, 0) :: (2, k, 10, 0, 0) :: (2, k, 9, 0, 0) :: (2, k, 8, 0, 0) :: (1, k, 7, (k + 8), 0) :: (0, 11, 400, 0, 0) :: (1, k, 6, (k + 7), 0) :: (0, 11, 400, 0, 0) :: (1, k, 5, (k + 6), 0) :: (0, 11, 400, 0, 0) :: (1, k, 4, (k + 5), 0) :: (0, 11, 400, 0, 0) :: (1, k, 3, (k + 4), 0) :: (0, 11, 32, 0, 0) :: (1, k, 2, (k + 3), 0) :: (0, 11, 32, 0, 0) :: (1, k, 1, (k + 2), 0) :: (0, 11, 352, 0, 0) :: (1, k, 0, (k + 1), 0) :: (0, 11, 352, 0, 0) :: r) := by
  unfold fI_X0_init
  simp only [op_NA, op_NO, op_PR, op_PI]
set_option maxHeartbeats 4000000 in
set_option maxRecDepth 100000 in
theorem fI_X9_init_run (n0 k : Nat) (r : List aOp) : fI_X9_init n0 k (opRun n0 r) = opRun n0 ((2, k, 1, 0, 0) :: (1, k, 0, (k + 1), 0) :: (0, 13, 500, 0, 0) :: r) := by
  unfold fI_X9_init
  simp only [op_NA, op_NO, op_PR, op_PI]
set_option maxHeartbeats 4000000 in
set_option maxRecDepth 100000 in
theorem fI_X6_init_run (n0 k : Nat) (r : List aOp) : fI_X6_init n0 k (opRun n0 r) = opRun n0 ((1, k, 8, (k + 8), 0) :: (0, 14, 64, 0, 0) :: (1, k, 7, (k + 7), 0) :: (0, 11, 64, 0, 0) :: (1, k, 6, (k + 6), 0) :: (0, 11, 64, 0, 0) :: (1, k, 5, (k + 5), 0) :: (0, 11, 64, 0, 0) :: (1, k, 4, (k + 4), 0) :: (0, 11, 16, 0, 0) :: (1, k, 3, (k + 3), 0) :: (0, 11, 16, 0, 0) :: (1, k, 2, (k + 2), 0) :: (0, 11, 16, 0, 0) :: (1, k, 1, (k + 1), 0) :: (0, 11, 16, 0, 0) :: (2, k, 0, 0, 0) :: r) := by
  unfold fI_X6_init
  simp only [op_NA, op_NO, op_PR, op_PI]
set_option maxHeartbeats 4000000 in
set_option maxRecDepth 100000 in
theorem fI_X1_init_run (n0 k : Nat) (r : List aOp) : fI_X1_init n0 k (opRun n0 r) = opRun n0 ((2, k, 4, 0, 0) :: (2, k, 3, 0, 1900) :: (2, k, 2, 0, -3000) :: (2, k, 1, 0, 31) :: (2, k, 0, 0, 63) :: r) := by
  unfold fI_X1_init
  simp only [op_NA, op_NO, op_PR, op_PI]
set_option maxHeartbeats 4000000 in
set_option maxRecDepth 100000 in
theorem fI_X8_init_run (n0 k : Nat) (r : List aOp) : fI_X8_init n0 k (opRun n0 r) = opRun n0 ((2, k, 6, 0, -1) :: (2, k, 5, 0, 0) :: (1, k, 4, (k + 30), 0) :: (2, (k + 30), 4, 0, 0) :: (2, (k + 30), 3, 0, 1900) :: (2, (k + 30), 2, 0, -3000) :: (2, (k + 30), 1, 0, 31) :: (2, (k + 30), 0, 0, 63) :: (0, 1, 0, 0, 0) :: (1, k, 3, (k + 21), 0) :: (1, (k + 21), 8, ((k + 21) + 8), 0) :: (0, 14, 64, 0, 0) :: (1, (k + 21), 7, ((k + 21) + 7), 0) :: (0, 11, 64, 0, 0) :: (1, (k + 21), 6, ((k + 21) + 6), 0) :: (0, 11, 64, 0, 0) :: (1, (k + 21), 5, ((k + 21) + 5), 0) :: (0, 11, 64, 0, 0) :: (1, (k + 21), 4, ((k + 21) + 4), 0) :: (0, 11, 16, 0, 0) :: (1, (k + 21), 3, ((k + 21) + 3), 0) :: (0, 11, 16, 0, 0) :: (1, (k + 21), 2, ((k + 21) + 2), 0) :: (0, 11, 16, 0, 0) :: (1, (k + 21), 1, ((k + 21) + 1), 0) :: (0, 11, 16, 0, 0) :: (2, (k + 21), 0, 0, 0) :: (0, 5, 0, 0, 0) :: (1, k, 2, (k + 12), 0) :: (1, (k + 12), 8, ((k + 12) + 8), 0) :: (0, 14, 64, 0, 0) :: (1, (k + 12), 7, ((k + 12) + 7), 0) :: (0, 11, 64, 0, 0) :: (1, (k + 12), 6, ((k + 12) + 6), 0) :: (0, 11, 64, 0, 0) :: (1, (k + 12), 5, ((k + 12) + 5), 0) :: (0, 11, 64, 0, 0) :: (1, (k + 12), 4, ((k + 12) + 4), 0) :: (0, 11, 16, 0, 0) :: (1, (k + 12), 3, ((k + 12) + 3), 0) :: (0, 11, 16, 0, 0) :: (1, (k + 12), 2, ((k + 12) + 2), 0) :: (0, 11, 16, 0, 0) :: (1, (k + 12), 1, ((k + 12) + 1), 0) :: (0, 11, 16, 0, 0) :: (2, (k + 12), 0, 0, 0) :: (0, 5, 0, 0, 0) :: (1, k, 1, (k + 10), 0) :: (2, (k + 10), 1, 0, 0) :: (1, (k + 10), 0, ((k + 10) + 1), 0) :: (0, 13, 500, 0, 0) :: (0, 8, 0, 0, 0) :: (1, k, 0, (k + 1), 0) :: (2, (k + 1), 12, 0, -1) :: (2, (k + 1), 11, 0, 0) :: (2, (k + 1), 10, 0, 0) :: (2, (k + 1), 9, 0, 0) :: (2, (k + 1), 8, 0, 0) :: (1, (k + 1), 7, ((k + 1) + 8), 0) :: (0, 11, 400, 0, 0) :: (1, (k + 1), 6, ((k + 1) + 7), 0) :: (0, 11, 400, 0, 0) :: (1, (k + 1), 5, ((k + 1) + 6), 0) :: (0, 11, 400, 0, 0) :: (1, (k + 1), 4, ((k + 1) + 5), 0) :: (0, 11, 400, 0, 0) :: (1, (k + 1), 3, ((k + 1) + 4), 0) :: (0, 11, 32, 0, 0) :: (1, (k + 1), 2, ((k + 1) + 3), 0) :: (0, 11, 32, 0, 0) :: (1, (k + 1), 1, ((k + 1) + 2), 0) :: (0, 11, 352, 0, 0) :: (1, (k + 1), 0, ((k + 1) + 1), 0) :: (0, 11, 352, 0, 0) :: (0, 0, 0, 0, 0) :: r) := by
  unfold fI_X8_init
  simp only [op_NA, op_NO, op_PR, op_PI, fI_X0_init_run, fI_X9_init_run, fI_X6_init_run, fI_X1_init_run]
set_option maxHeartbeats 4000000 in
set_option maxRecDepth 100000 in
theorem fI_X5_init_run (n0 k c : Nat) (r : List aOp) : fI_X5_init n0 k (n0 + c) (opRun n0 r) = opRun n0 ((1, k, 3, c, 0) :: (2, k, 7, 0, 0) :: (2, k, 6, 0, 0) :: (2, k, 5, 0, 0) :: (2, k, 4, 0, 0) :: (2, k, 2, 0, -1) :: (2, k, 1, 0, 0) :: (1, k, 0, (k + 1), 0) :: (1, (k + 1), 8, ((k + 1) + 8), 0) :: (0, 14, 64, 0, 0) :: (1, (k + 1), 7, ((k + 1) + 7), 0) :: (0, 11, 64, 0, 0) :: (1, (k + 1), 6, ((k + 1) + 6), 0) :: (0, 11, 64, 0, 0) :: (1, (k + 1), 5, ((k + 1) + 5), 0) :: (0, 11, 64, 0, 0) :: (1, (k + 1), 4, ((k + 1) + 4), 0) :: (0, 11, 16, 0, 0) :: (1, (k + 1), 3, ((k + 1) + 3), 0) :: (0, 11, 16, 0, 0) :: (1, (k + 1), 2, ((k + 1) + 2), 0) :: (0, 11, 16, 0, 0) :: (1, (k + 1), 1, ((k + 1) + 1), 0) :: (0, 11, 16, 0, 0) :: (2, (k + 1), 0, 0, 0) :: (0, 5, 0, 0, 0) :: r) := by
  unfold fI_X5_init
  simp only [op_NA, op_NO, op_PR, op_PI, fI_X6_init_run]
set_option maxHeartbeats 4000000 in
set_option maxRecDepth 100000 in
theorem fI_X4_init_run (n0 k : Nat) (r : List aOp) : fI_X4_init n0 k (opRun n0 r) = opRun n0 ((1, k, 6, (k + 6), 0) :: (0, 11, 8, 0, 0) :: (1, k, 5, (k + 5), 0) :: (0, 11, 32, 0, 0) :: (1, k, 4, (k + 4), 0) :: (0, 11, 32, 0, 0) :: (1, k, 3, (k + 3), 0) :: (0, 11, 32, 0, 0) :: (1, k, 2, (k + 2), 0) :: (0, 11, 32, 0, 0) :: (1, k, 1, (k + 1), 0) :: (0, 11, 32, 0, 0) :: (2, k, 0, 0, 0) :: r) := by
  unfold fI_X4_init
  simp only [op_NA, op_NO, op_PR, op_PI]
set_option maxHeartbeats 4000000 in
set_option maxRecDepth 100000 in
theorem fI_X7_init_run (n0 k : Nat) (r : List aOp) : fI_X7_init n0 k (opRun n0 r) = opRun n0 ((1, k, 6, (k + 4), 0) :: (0, 11, 1312, 0, 0) :: (2, k, 5, 0, 0) :: (1, k, 4, (k + 3), 0) :: (0, 11, 301, 0, 0) :: (1, k, 3, (k + 2), 0) :: (0, 11, 301, 0, 0) :: (1, k, 2, (k + 1), 0) :: (0, 11, 301, 0, 0) :: (2, k, 1, 0, 10) :: (2, k, 0, 0, 10) :: r) := by
  unfold fI_X7_init
  simp only [op_NA, op_NO, op_PR, op_PI]
set_option maxHeartbeats 4000000 in
set_option maxRecDepth 100000 in
theorem fI_X3_init_run (n0 k : Nat) (r : List aOp) : fI_X3_init n0 k (opRun n0 r) = opRun n0 ((1, k, 0, (k + 1), 0) :: (0, 12, 33, 0, 0) :: r) := by
  unfold fI_X3_init
  simp only [op_NA, op_NO, op_PR, op_PI]
set_option maxHeartbeats 4000000 in
set_option maxRecDepth 100000 in
theorem fI_X11_init_run (n0 k : Nat) (r : List aOp) : fI_X11_init n0 k (opRun n0 r) = opRun n0 ((2, (k + 13), 1, 0, 1900) :: (2, (k + 13), 0, 0, -3000) :: (2, (k + 12), 0, 0, 31) :: (2, (k + 11), 0, 0, 63) :: (2, (k + 7), 0, 0, -1) :: (2, (k + 4), 0, 0, -1) :: (1, k, 50, (k + 39), 0) :: (0, 14, 3, 0, 0) :: (1, k, 49, (k + 38), 0) :: (0, 14, 32, 0, 0) :: (1, k, 48, (k + 37), 0) :: (0, 12, 33, 0, 0) :: (1, k, 47, (k + 36), 0) :: (0, 11, 301, 0, 0) :: (1, k, 46, (k + 35), 0) :: (0, 14, 32, 0, 0) :: (1, k, 45, (k + 34), 0) :: (0, 11, 32, 0, 0) :: (1, k, 44, (k + 33), 0) :: (0, 11, 32, 0, 0) :: (1, k, 43, (k + 32), 0) :: (0, 11, 352, 0, 0) :: (1, k, 42, (k + 31), 0) :: (0, 14, 32, 0, 0) :: (1, k, 40, (k + 30), 0) :: (0, 11, 8, 0, 0) :: (1, k, 39, (k + 29), 0) :: (0, 11, 17, 0, 0) :: (1, k, 38, (k + 28), 0) :: (0, 11, 17, 0, 0) :: (1, k, 37, (k + 27), 0) :: (0, 11, 17, 0, 0) :: (1, k, 36, (k + 26), 0) :: (0, 11, 64, 0, 0) :: (1, k, 35, (k + 25), 0) :: (0, 11, 64, 0, 0) :: (1, k, 34, (k + 24), 0) :: (0, 11, 64, 0, 0) :: (1, k, 33, (k + 23), 0) :: (0, 11, 17, 0, 0) :: (1, k, 22, (k + 22), 0) :: (0, 11, 128, 0, 0) :: (1, k, 21, (k + 21), 0) :: (0, 11, 128, 0, 0) :: (1, k, 20, (k + 20), 0) :: (0, 11, 128, 0, 0) :: (1, k, 19, (k + 19), 0) :: (0, 11, 512, 0, 0) :: (1, k, 18, (k + 18), 0) :: (0, 11, 512, 0, 0) :: (1, k, 17, (k + 17), 0) :: (0, 11, 512, 0, 0) :: (1, k, 16, (k + 16), 0) :: (0, 11, 128, 0, 0) :: (1, k, 15, (k + 15), 0) :: (0, 11, 8, 0, 0) :: (1, k, 14, (k + 14), 0) :: (0, 11, 4, 0, 0) :: (1, k, 13, (k + 13), 0) :: (0, 11, 8, 0, 0) :: (1, k, 12, (k + 12), 0) :: (0, 11, 4, 0, 0) :: (1, k, 11, (k + 11), 0) :: (0, 11, 4, 0, 0) :: (1, k, 10, (k + 10), 0) :: (0, 11, 384, 0, 0) :: (1, k, 9, (k + 9), 0) :: (0, 11, 6400, 0, 0) :: (1, k, 8, (k + 8), 0) :: (0, 11, 4, 0, 0) :: (1, k, 7, (k + 7), 0) :: (0, 11, 4, 0, 0) :: (1, k, 6, (k + 6), 0) :: (0, 11, 4, 0, 0) :: (1, k, 5, (k + 5), 0) :: (0, 11, 4, 0, 0) :: (1, k, 4, (k + 4), 0) :: (0, 11, 4, 0, 0) :: (1, k, 3, (k + 3), 0) :: (0, 11, 4, 0, 0) :: (1, k, 2, (k + 2), 0) :: (0, 11, 4, 0, 0) :: (1, k, 1, (k + 1), 0) :: (0, 13, 2000, 0, 0) :: r) := by
  unfold fI_X11_init
  simp only [op_NA, op_NO, op_PR, op_PI]
set_option maxHeartbeats 4000000 in
set_option maxRecDepth 100000 in
theorem x0_run (n0 : Nat) : x0 n0 = opRun n0 xOps := by
  unfold x0 fI_X10_init
  rw [show aE0 = opRun n0 [] from rfl]
  simp only [op_NA, op_NO, op_PR, op_PI, fI_X8_init_run, fI_X5_init_run, fI_X4_init_run, fI_X7_init_run, fI_X3_init_run]
  rfl
set_option maxHeartbeats 4000000 in
set_option maxRecDepth 100000 in
theorem m0_run (n1 : Nat) : m0 n1 = opRun n1 mOps := by
  unfold m0
  rw [show aE0 = opRun n1 [] from rfl, op_NO, fI_X11_init_run]
  rfl
